theorem ix_k0 (k : Nat) : (((7 : Int32) + ((4 : Int32) * nI k)) + (0 : Int32)) = nI (7 + 4 * k) := by
  rw [show (7 : Int32) = nI 7 by decide, show (4 : Int32) = nI 4 by decide, show (0 : Int32) = nI 0 by decide, pk_mul, nI_add, nI_add]
  congr 1 <;> omega
theorem ix_k1 (k : Nat) : (((7 : Int32) + ((4 : Int32) * nI k)) + (1 : Int32)) = nI (8 + 4 * k) := by
  rw [show (7 : Int32) = nI 7 by decide, show (4 : Int32) = nI 4 by decide, show (1 : Int32) = nI 1 by decide, pk_mul, nI_add, nI_add]
  congr 1 <;> omega
theorem ix_k2 (k : Nat) : (((7 : Int32) + ((4 : Int32) * nI k)) + (2 : Int32)) = nI (9 + 4 * k) := by
  rw [show (7 : Int32) = nI 7 by decide, show (4 : Int32) = nI 4 by decide, show (2 : Int32) = nI 2 by decide, pk_mul, nI_add, nI_add]
  congr 1 <;> omega
theorem ix_k3 (k : Nat) : (((7 : Int32) + ((4 : Int32) * nI k)) + (3 : Int32)) = nI (10 + 4 * k) := by
  rw [show (7 : Int32) = nI 7 by decide, show (4 : Int32) = nI 4 by decide, show (3 : Int32) = nI 3 by decide, pk_mul, nI_add, nI_add]
  congr 1 <;> omega
theorem ix_l0 (l : Nat) : (((47 : Int32) + ((3 : Int32) * nI l)) + (0 : Int32)) = nI (47 + 3 * l) := by
  rw [show (47 : Int32) = nI 47 by decide, show (3 : Int32) = nI 3 by decide, show (0 : Int32) = nI 0 by decide, pk_mul, nI_add, nI_add]
  congr 1 <;> omega
theorem ix_l1 (l : Nat) : (((47 : Int32) + ((3 : Int32) * nI l)) + (1 : Int32)) = nI (48 + 3 * l) := by
  rw [show (47 : Int32) = nI 47 by decide, show (3 : Int32) = nI 3 by decide, show (1 : Int32) = nI 1 by decide, pk_mul, nI_add, nI_add]
  congr 1 <;> omega
theorem ix_l2 (l : Nat) : (((47 : Int32) + ((3 : Int32) * nI l)) + (2 : Int32)) = nI (49 + 3 * l) := by
  rw [show (47 : Int32) = nI 47 by decide, show (3 : Int32) = nI 3 by decide, show (2 : Int32) = nI 2 by decide, pk_mul, nI_add, nI_add]
  congr 1 <;> omega
theorem ix_b (k l : Nat) : (((77 : Int32) + ((10 : Int32) * nI k)) + nI l) = nI (77 + 10 * k + l) := by
  rw [show (77 : Int32) = nI 77 by decide, show (10 : Int32) = nI 10 by decide, pk_mul, nI_add, nI_add]
theorem tb_sh : ∀ i : Nat, i < 6 → ∀ n : Nat, n < 64 → ((nI n >>> (nI i &&& 31)) &&& (1 : Int32)) = nI (n / 2 ^ i % 2) := by decide +kernel
theorem tb_p6 : ∀ n : Nat, n < 64 → sm (fun i => n / 2 ^ i % 2) 6 = pop n := by decide +kernel
theorem cn0 : (0 : Int32).toNatClampNeg = 0 := by decide
theorem cn1 : (1 : Int32).toNatClampNeg = 1 := by decide
theorem cn2 : (2 : Int32).toNatClampNeg = 2 := by decide
theorem vi (n : Nat) (h : n < 177) : vp_in (nI n) 177 := vp_in_nI h (by omega)
theorem v0i : vp_in (0 : Int32) 177 := vi 0 (by omega)
theorem v1i : vp_in (1 : Int32) 177 := vi 1 (by omega)
theorem v2i : vp_in (2 : Int32) 177 := vi 2 (by omega)
theorem le_pred {x : Int32} {n : Nat} (hn : n ≤ 10) (h0 : 0 ≤ x) : x ≤ nI n - 1 ↔ x < nI n := by
  have hx : ¬ x < 0 := Int32.not_lt.mpr h0
  cases n with
  | zero =>
    refine ⟨fun h => absurd (Int32.lt_of_le_of_lt h (by decide)) hx, fun h => absurd h hx⟩
  | succ n =>
    rw [nI_pred]
    rcases pk_ix x (n := n + 1) (by omega) with c | c | ⟨j, hj, rfl⟩
    · exact absurd c hx
    · exact ⟨fun h => absurd (Int32.le_trans c h) (nI_ge (by omega) (by omega)), fun h => absurd h (Int32.not_lt.mpr c)⟩
    · rw [nI_leI (by omega) (by omega), nI_ltI (by omega) (by omega)]; omega
section MOD
variable {m : OV} {A : AL} {Q : Int32 → Prop}
theorem m_many {n : Nat} (hn : n < 64) (hq : Q (nI (pop n))) : wp_X8_many Q (nI n) := by
  refine cntloop (fun k a b => wp_X8_many_4_loop Q k (nI n) a b) (N := 6) (fun i => n / 2 ^ i % 2) (fun k => br_t (by decide) (by rw [tb_p6 n hn]; exact hq)) (fun k i hi K => br_f ?_ ?_)
  · rw [show (6 : Int32) = nI 6 by decide]; exact nI_ge hi (by omega)
  · rw [sm] at K
    rintro _ rfl _ rfl
    rw [tb_sh i hi n hn, nI_add, nI_1]; exact K
theorem m_in {x a b : Int32} (h1 : a ≤ x ∧ x ≤ b → Q 1) (h0 : ¬ (a ≤ x ∧ x ≤ b) → Q 0) : wp_X8_in Q x a b :=
  br_c (fun c => ⟨rfl, h0 fun z => absurd c (Int32.not_lt.mpr z.1)⟩) (fun c => br_c (fun c2 => ⟨rfl, h0 fun z => absurd c2 (Int32.not_lt.mpr z.2)⟩) (fun c2 => ⟨rfl, h1 ⟨Int32.not_lt.mp c, Int32.not_lt.mp c2⟩⟩))
theorem m_isKey (h : RR (m.1 0) A) (hI : Inv A) {x : Int32} (h1 : isK A x → Q 1) (h0 : ¬ isK A x → Q 0) : wp_X8_isKey Q x m := by
  refine ⟨v0i, ?_⟩
  rw [cn0, h.1]
  exact m_in (fun z => ⟨rfl, h1 ⟨z.1, (le_pred hI.1 z.1).mp z.2⟩⟩) (fun z => ⟨rfl, h0 fun y => z ⟨y.1, (le_pred hI.1 y.1).mpr y.2⟩⟩)
theorem m_isLock (h : RR (m.1 0) A) (hI : Inv A) {x : Int32} (h1 : isL A x → Q 1) (h0 : ¬ isL A x → Q 0) : wp_X8_isLock Q x m := by
  refine ⟨v1i, ?_⟩
  rw [cn1, h.2.1]
  exact m_in (fun z => ⟨rfl, h1 ⟨z.1, (le_pred hI.2.1 z.1).mp z.2⟩⟩) (fun z => ⟨rfl, h0 fun y => z ⟨y.1, (le_pred hI.2.1 y.1).mpr y.2⟩⟩)
theorem m_Wd (h : RR (m.1 0) A) (hI : Inv A) {k : Nat} (hk : k < aNk A) (hq : Q (nI (aWd A k))) : wp_X8_ofKey Q (nI k) (0 : Int32) m := by
  have n1 := hI.1
  show vp_in (((7 : Int32) + ((4 : Int32) * nI k)) + (0 : Int32)) 177 ∧ Q (m.1 0 (((7 : Int32) + ((4 : Int32) * nI k)) + (0 : Int32)).toNatClampNeg)
  rw [ix_k0]
  refine ⟨vi _ (by omega), ?_⟩
  rw [nI_clamp (by omega), (h.2.2.2.2.2.2.2.1 k hk).1]; exact hq
theorem m_Po (h : RR (m.1 0) A) (hI : Inv A) {k : Nat} (hk : k < aNk A) (hq : Q (nI (aPo A k))) : wp_X8_ofKey Q (nI k) (1 : Int32) m := by
  have n1 := hI.1
  show vp_in (((7 : Int32) + ((4 : Int32) * nI k)) + (1 : Int32)) 177 ∧ Q (m.1 0 (((7 : Int32) + ((4 : Int32) * nI k)) + (1 : Int32)).toNatClampNeg)
  rw [ix_k1]
  refine ⟨vi _ (by omega), ?_⟩
  rw [nI_clamp (by omega), (h.2.2.2.2.2.2.2.1 k hk).2.1]; exact hq
theorem m_Ik (h : RR (m.1 0) A) (hI : Inv A) {k : Nat} (hk : k < aNk A) (hq : Q (nI (aIk A k) - 1)) : wp_X8_ofKey Q (nI k) (2 : Int32) m := by
  have n1 := hI.1
  show vp_in (((7 : Int32) + ((4 : Int32) * nI k)) + (2 : Int32)) 177 ∧ Q (m.1 0 (((7 : Int32) + ((4 : Int32) * nI k)) + (2 : Int32)).toNatClampNeg)
  rw [ix_k2]
  refine ⟨vi _ (by omega), ?_⟩
  rw [nI_clamp (by omega), (h.2.2.2.2.2.2.2.1 k hk).2.2.1]; exact hq
theorem m_Co (h : RR (m.1 0) A) (hI : Inv A) {k : Nat} (hk : k < aNk A) (hq : Q (nI (aCo A k))) : wp_X8_ofKey Q (nI k) (3 : Int32) m := by
  have n1 := hI.1
  show vp_in (((7 : Int32) + ((4 : Int32) * nI k)) + (3 : Int32)) 177 ∧ Q (m.1 0 (((7 : Int32) + ((4 : Int32) * nI k)) + (3 : Int32)).toNatClampNeg)
  rw [ix_k3]
  refine ⟨vi _ (by omega), ?_⟩
  rw [nI_clamp (by omega), (h.2.2.2.2.2.2.2.1 k hk).2.2.2]; exact hq
theorem m_Pn (h : RR (m.1 0) A) (hI : Inv A) {l : Nat} (hl : l < aNl A) (hq : Q (nI (aPn A l))) : wp_X8_ofLock Q (nI l) (0 : Int32) m := by
  have n1 := hI.2.1
  show vp_in (((47 : Int32) + ((3 : Int32) * nI l)) + (0 : Int32)) 177 ∧ Q (m.1 0 (((47 : Int32) + ((3 : Int32) * nI l)) + (0 : Int32)).toNatClampNeg)
  rw [ix_l0]
  refine ⟨vi _ (by omega), ?_⟩
  rw [nI_clamp (by omega), (h.2.2.2.2.2.2.2.2.1 l hl).1]; exact hq
theorem m_Hk (h : RR (m.1 0) A) (hI : Inv A) {l : Nat} (hl : l < aNl A) (hq : Q (nI (aHk A l) - 1)) : wp_X8_ofLock Q (nI l) (1 : Int32) m := by
  have n1 := hI.2.1
  show vp_in (((47 : Int32) + ((3 : Int32) * nI l)) + (1 : Int32)) 177 ∧ Q (m.1 0 (((47 : Int32) + ((3 : Int32) * nI l)) + (1 : Int32)).toNatClampNeg)
  rw [ix_l1]
  refine ⟨vi _ (by omega), ?_⟩
  rw [nI_clamp (by omega), (h.2.2.2.2.2.2.2.2.1 l hl).2.1]; exact hq
theorem m_Tm (h : RR (m.1 0) A) (hI : Inv A) {l : Nat} (hl : l < aNl A) (hq : Q (nI (aTm A l))) : wp_X8_ofLock Q (nI l) (2 : Int32) m := by
  have n1 := hI.2.1
  show vp_in (((47 : Int32) + ((3 : Int32) * nI l)) + (2 : Int32)) 177 ∧ Q (m.1 0 (((47 : Int32) + ((3 : Int32) * nI l)) + (2 : Int32)).toNatClampNeg)
  rw [ix_l2]
  refine ⟨vi _ (by omega), ?_⟩
  rw [nI_clamp (by omega), (h.2.2.2.2.2.2.2.2.1 l hl).2.2]; exact hq
theorem m_lacks (h : RR (m.1 0) A) (hI : Inv A) {k l : Nat} (hk : k < aNk A) (hl : l < aNl A) (hq : Q (nI (pop (lk (aPn A l) (aWd A k))))) : wp_X8_lacks Q (nI k) (nI l) m := by
  obtain ⟨e, he⟩ := tb_lk _ (hI.2.2.2.2.1 l hl).1 _ (hI.2.2.2.1 k hk).1
  unfold wp_X8_lacks wp_X8_lacks_0
  refine m_Pn h hI hl (m_Wd h hI hk ?_)
  rw [e]
  exact m_many he hq
theorem m_isFit (h : RR (m.1 0) A) (hI : Inv A) {k l : Nat} (hk : k < aNk A) (hl : l < aNl A) (hq : Q (nI (b01 (fit A k l)))) : wp_X8_isFit Q (nI k) (nI l) m := by
  have n1 := hI.1; have n2 := hI.2.1
  have hw := (hI.2.2.2.1 k hk).1
  have hp := (hI.2.2.2.2.1 l hl).1
  have hb := hI.2.2.2.2.2.1 k l
  obtain ⟨e, he⟩ := tb_lk _ hp _ hw
  have p1 := pop_le (aWd A k); have p2 := pop_le (aPn A l); have hs := hI.2.2.1; have p3 := pop_le (lk (aPn A l) (aWd A k))
  have no : ¬ fit A k l → wp_X8_isFit_58 Q m := fun hn => by
    rw [b01_f hn] at hq; exact ⟨rfl, hq⟩
  unfold wp_X8_isFit wp_X8_isFit_0
  refine m_lacks h hI hk hl ⟨fun c => no fun z => c ?_, fun c => m_Wd h hI hk (m_many hw (m_Pn h hI hl (m_many hp ⟨v2i, ?_⟩)))⟩
  · rw [(tb_pop0 _ he).mpr z.1]; rfl
  have c' : lk (aPn A l) (aWd A k) = 0 := (tb_pop0 _ he).mp ((nI_eq (by omega) (by omega)).mp (by rw [nI_0]; exact c))
  rw [cn2, h.2.2.1, nI_add]
  refine ⟨fun d => no fun z => ?_, fun d => ?_⟩
  · have d' := (nI_ltI (by omega) (by omega)).mp d
    exact absurd z.2.1 (by omega)
  · have d' : ¬ _ < _ := fun z => d ((nI_ltI (by omega) (by omega)).mpr z)
    rw [ix_b]
    refine ⟨vi _ (by omega), ?_⟩
    rw [nI_clamp (by omega), h.2.2.2.2.2.2.2.2.2 k (by omega) l (by omega)]
    refine ⟨fun f => no fun z => f ?_, fun f => ?_⟩
    · rw [z.2.2]; rfl
    · have f' : aBr A k l = 0 := (nI_eq (by omega) (by omega)).mp (by rw [nI_0]; exact f)
      rw [b01_t (show fit A k l from ⟨c', by omega, f'⟩)] at hq; exact ⟨rfl, hq⟩
theorem m_openMany (h : RR (m.1 0) A) (hI : Inv A) (hq : Q (nI (sOpen A))) : wp_X8_openMany Q m := by
  have n2 := hI.2.1
  refine cntloop (wp_X8_openMany_4_loop Q m) (N := aNl A) (fun l => b01 (¬ aHk A l = 0)) (fun n => ⟨v1i, br_t ?_ hq⟩) (fun n i hi K => ⟨v1i, br_f ?_ (m_Hk h hI hi ⟨fun c => ?_, fun c => ?_⟩)⟩)
  · rw [cn1, h.2.1]; exact nI_le (Nat.le_refl _) (by omega)
  · rw [cn1, h.2.1]; exact nI_ge hi (by omega)
  · have e := (nI_m1 (hk_lt hI hi)).2.mp c
    rw [sm, b01_f (fun z => z e), Nat.add_zero] at K
    rintro _ rfl _ rfl
    rw [← nI_0, nI_add, nI_1, Nat.add_zero]; exact K
  · have e : ¬ aHk A i = 0 := fun z => c ((nI_m1 (hk_lt hI hi)).2.mpr z)
    rw [sm, b01_t e] at K
    rintro _ rfl _ rfl
    rw [nI_1, nI_1]; exact K
theorem m_fitsOf (h : RR (m.1 0) A) (hI : Inv A) {k : Nat} (hk : k < aNk A) (hq : Q (nI (sFor A k))) : wp_X8_fitsOf Q (nI k) m := by
  have n2 := hI.2.1
  refine cntloop (fun n a b => wp_X8_fitsOf_4_loop Q m n (nI k) a b) (N := aNl A) (fun l => b01 (fit A k l)) (fun n => ⟨v1i, br_t ?_ hq⟩) (fun n i hi K => ⟨v1i, br_f ?_ (m_isFit h hI hk hi ⟨fun c => ?_, fun c => ?_⟩)⟩)
  · rw [cn1, h.2.1]; exact nI_le (Nat.le_refl _) (by omega)
  · rw [cn1, h.2.1]; exact nI_ge hi (by omega)
  · rw [sm, b01_f (b01_0.mp c), Nat.add_zero] at K
    rintro _ rfl _ rfl
    rw [← nI_0, nI_add, nI_1, Nat.add_zero]; exact K
  · rw [sm, b01_t (Classical.not_not.mp fun z => c (b01_0.mpr z))] at K
    rintro _ rfl _ rfl
    rw [nI_1, nI_1]; exact K
end MOD
