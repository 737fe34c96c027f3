/-! the two shares: of each of the few numbers of fits and of opened locks -/
theorem tb_mf : ∀ a : Nat, a < 101 → ∀ b : Nat, b < 10 → (FP.ddiv (FP.i2d (nI a)) (FP.i2d (nI (b + 1))) &&& 0x7fffffffffffffff ≤ 0x7ff0000000000000) ∧ Op.cmpValue (FP.dcmp (FP.ddiv (FP.i2d (nI a)) (FP.i2d (nI (b + 1)))) (FP.ddiv (FP.i2d (nI a)) (FP.i2d (nI (b + 1))))) .l = 0 := by decide +kernel
theorem tb_os : ∀ a : Nat, a < 11 → ∀ b : Nat, b < 10 → (FP.fdiv (FP.i2f (nI a)) (FP.i2f (nI (b + 1))) &&& 0x7fffffff ≤ 0x7f800000) ∧ (FP.f2d (FP.fdiv (FP.i2f (nI a)) (FP.i2f (nI (b + 1)))) &&& 0x7fffffffffffffff ≤ 0x7ff0000000000000) ∧ Op.cmpValue (FP.dcmp (FP.f2d (FP.fdiv (FP.i2f (nI a)) (FP.i2f (nI (b + 1))))) (FP.f2d (FP.fdiv (FP.i2f (nI a)) (FP.i2f (nI (b + 1)))))) .l = 0 := by decide +kernel
theorem sFits_le {A : AL} (hI : Inv A) : sFits A < 101 := by
  have h : sFits A ≤ 10 * 10 := sm10 hI.1 fun i _ => by
    have t : sFor A i ≤ 10 * 1 := sm10 hI.2.1 fun j _ => b01_le
    omega
  omega
abbrev mfX (A : AL) (b : Nat) : UInt64 := FP.ddiv (FP.i2d (nI (sFits A))) (FP.i2d (nI (b + 1)))
abbrev osX (A : AL) (b : Nat) : UInt32 := FP.fdiv (FP.i2f (nI (sOpen A))) (FP.i2f (nI (b + 1)))
section FLO
variable {A : AL} {vKW vLg vLg2 vLg3 vLg4 vWv vPr vRf vTx vLn : OV} {vHs : HV} {vDa : Nat → UInt64}
theorem L_meanFits {Q : Int32 → (Nat → UInt64) → Prop} (h : CR vLg A) (hI : Inv A) (bad : aNk A = 0 → Q 1 vDa) (ok : ∀ b, aNk A = b + 1 → Q 0 (va_up vDa (0 : Int32).toNatClampNeg (mfX A b))) : wp_L_meanFits Q vKW vLg vLg2 vLg3 vLg4 vWv vPr vRf vTx vLn vHs vDa := by
  have n1 := hI.1
  unfold wp_L_meanFits wp_L_meanFits_0 wp_X7_meanFits wp_X7_meanFits_0
  rw [h.1]
  by_cases c : aNk A = 0
  · rw [c]
    exact ⟨fun z => absurd z (by decide), fun _ => ⟨rfl, bad c⟩⟩
  · obtain ⟨b, hb⟩ : ∃ b, aNk A = b + 1 := ⟨aNk A - 1, by omega⟩
    refine ⟨fun _ => c_countFits h hI ?_, fun z => absurd (show nI 0 < nI (aNk A) from nI_lt (by omega) (by omega)) z⟩
    have t := tb_mf _ (sFits_le hI) b (by omega)
    rw [hb]
    refine ⟨t.1, ?_⟩
    rintro _ rfl
    exact ok b hb
theorem L_openShare {Q : Int32 → (Nat → UInt64) → Prop} (h : CR vLg A) (hI : Inv A) (bad : aNl A = 0 → Q 1 vDa) (ok : ∀ b, aNl A = b + 1 → Q 0 (va_up vDa (0 : Int32).toNatClampNeg (FP.f2d (osX A b)))) : wp_L_openShare Q vKW vLg vLg2 vLg3 vLg4 vWv vPr vRf vTx vLn vHs vDa := by
  have n1 := hI.2.1
  unfold wp_L_openShare wp_L_openShare_0 wp_X7_openShare wp_X7_openShare_0
  rw [h.2.1]
  by_cases c : aNl A = 0
  · rw [c]
    exact ⟨fun z => absurd z (by decide), fun _ => ⟨rfl, bad c⟩⟩
  · obtain ⟨b, hb⟩ : ∃ b, aNl A = b + 1 := ⟨aNl A - 1, by omega⟩
    refine ⟨fun _ => c_countOpen h hI ?_, fun z => absurd (show nI 0 < nI (aNl A) from nI_lt (by omega) (by omega)) z⟩
    have t := tb_os _ (show sOpen A < 11 by have := sOpen_le hI; omega) b (by omega)
    rw [hb]
    refine ⟨t.1, t.2.1, ?_⟩
    rintro _ rfl
    exact ok b hb
theorem m_meanFits {m : OV} {Q : UInt64 → OV → Prop} (h : RR (m.1 0) A) (hI : Inv A) (bad : aNk A = 0 → ∀ r, Q r (sI m 9 1)) (ok : ∀ b, aNk A = b + 1 → Q (mfX A b) (sI m 9 0)) : wp_X8_meanFits Q m := by
  have n1 := hI.1
  unfold wp_X8_meanFits wp_X8_meanFits_0
  refine ⟨v0i, ?_⟩
  rw [cn0, h.1]
  by_cases c : aNk A = 0
  · rw [c]
    exact ⟨fun z => absurd nI_0 z, fun _ => m_fails1 ⟨fun z => absurd z (by decide), fun _ => bad c _⟩⟩
  · obtain ⟨b, hb⟩ : ∃ b, aNk A = b + 1 := ⟨aNk A - 1, by omega⟩
    refine ⟨fun _ => m_fails0 ⟨fun _ => m_pairs (m := sI m 9 0) h hI ⟨v0i, ?_⟩, fun z => absurd rfl z⟩, fun z => absurd ((nI_eq (a := aNk A) (b := 0) (by omega) (by omega)).mp (by rw [nI_0]; exact z)) c⟩
    have t := tb_mf _ (sFits_le hI) b (by omega)
    have e : (sI m 9 0).1 0 (0 : Int32).toNatClampNeg = nI (b + 1) := by rw [cn0, ← hb]; exact h.1
    rw [e]
    exact ⟨t.1, ok b hb⟩
theorem m_openShare {m : OV} {Q : UInt32 → OV → Prop} (h : RR (m.1 0) A) (hI : Inv A) (bad : aNl A = 0 → ∀ r, Q r (sI m 9 1)) (ok : ∀ b, aNl A = b + 1 → Q (osX A b) (sI m 9 0)) : wp_X8_openShare Q m := by
  have n1 := hI.2.1
  unfold wp_X8_openShare wp_X8_openShare_0
  refine ⟨v1i, ?_⟩
  rw [cn1, h.2.1]
  by_cases c : aNl A = 0
  · rw [c]
    exact ⟨fun z => absurd nI_0 z, fun _ => m_fails1 ⟨fun z => absurd z (by decide), fun _ => bad c _⟩⟩
  · obtain ⟨b, hb⟩ : ∃ b, aNl A = b + 1 := ⟨aNl A - 1, by omega⟩
    refine ⟨fun _ => m_fails0 ⟨fun _ => m_openMany (m := sI m 9 0) h hI ⟨v1i, ?_⟩, fun z => absurd rfl z⟩, fun z => absurd ((nI_eq (a := aNl A) (b := 0) (by omega) (by omega)).mp (by rw [nI_0]; exact z)) c⟩
    have t := tb_os _ (show sOpen A < 11 by have := sOpen_le hI; omega) b (by omega)
    have e : (sI m 9 0).1 0 (1 : Int32).toNatClampNeg = nI (b + 1) := by rw [cn1, ← hb]; exact h.2.1
    rw [e]
    exact ⟨t.1, ok b hb⟩
end FLO
