/-! the class's calls that always answer; undo, save, restore, append on both sides -/
theorem nar_ch {q : Nat} (h : q < 65536) : vp_nar .char (nI q) = nI q := by
  unfold vp_nar
  rw [(pk_charN h).1]
section RESTC
variable {A : AL} {c : Nat} {K : Nat → AL} {vKW vLg vLg2 vLg3 vLg4 vWv vPr vRf vTx vLn : OV} {vHs : HV} {x : Int32} {vLa : Nat → Int64}
theorem x_adds {Q : Int32 → OV → OV → Prop} (h : CR vLg A) (hI : Inv A) (hF : InvF A) (hq : ∀ a w, Q (nI (wv (gA A) (aNk A) (aNl A) (mO A)).1) a w) : wp_X7_adds Q vKW vLg vLg2 vLg3 vLg4 vWv vPr vRf vTx vLn vHs := by
  unfold wp_X7_adds wp_X7_adds_0
  refine wpi_copyFrom ?_
  refine c_run (CR_copy h hI) hI hF (fun z w' => ?_) (fun z w' v' hv => hq _ _)
  have e : (wv (gA A) (aNk A) (aNl A) (mO A)).1 = 0 := by
    unfold wv
    rw [if_pos z]
  have t := hq (cpLg vLg4 vLg) w'
  rw [e] at t
  exact t
theorem cS_of {v : OV} (h : CR v A) : CR v (cS A (mO A) (aWv A) (aWs A)) := by rw [cS_self]; exact h
theorem x_waves {Q : Int32 → OV → OV → Prop} (h : CR vLg A) (hI : Inv A) (hF : InvF A) (hq : ∀ a w, Q (nI (wvE (gA A) (aNk A) (aNl A) 11 (mO A)).1) a w) : wp_X7_waves Q vKW vLg vLg2 vLg3 vLg4 vWv vPr vRf vTx vLn vHs := by
  unfold wp_X7_waves wp_X7_waves_0
  refine wpi_copyFrom ?_
  exact c_runToEnd (cS_of (CR_copy h hI)) hI (MI_of hI hF) (fun w' v' _ _ _ => hq v' w')
theorem mu_end (hI : Inv A) (hF : InvF A) : sz (aNl A) (MEnd A) = mu A 0 0 := by
  have gx : ∀ a b, a < aNk A → b < aNl A → (gA A a b = true ↔ gX A 0 0 a b = true) := fun a b _ _ => by
    rw [gA_t, gX_t]
    exact ⟨fun z => ⟨z, Nat.succ_ne_zero _, Nat.succ_ne_zero _⟩, fun z => z.1⟩
  exact mu_of ((wvE_MX hI.1 hI.2.1 (MI_of hI hF)).congr gx)
theorem x_most {Q : Int32 → OV → OV → Prop} (h : CR vLg A) (hI : Inv A) (hF : InvF A) (hq : ∀ a w, Q (nI (mu A 0 0)) a w) : wp_X7_most Q vKW vLg vLg2 vLg3 vLg4 vWv vPr vRf vTx vLn vHs := by
  unfold wp_X7_most wp_X7_most_0
  refine wpi_copyFrom ?_
  obtain ⟨w1, _, _⟩ := wvE_ok hI.1 11 _ (MI_of hI hF) (by have := hI.2.1; omega)
  refine c_runToEnd (cS_of (CR_copy h hI)) hI (MI_of hI hF) (fun w' v' x' y' hv => c_countOpen hv (Inv_cS hI w1).1 ?_)
  have e : sOpen (cS A (wvE (gA A) (aNk A) (aNl A) 11 (mO A)).2 x' y') = mu A 0 0 := by
    rw [sOpen_sz, mO_cS, cS_nl]
    exact mu_end hI hF
  rw [e]
  exact hq _ _
theorem x_mostAgain {Q : Int32 → OV → Prop} (h : CR vLg A) (hI : Inv A) (hq : ∀ w, Q (nI (mu A 0 0)) w) : wp_X7_mostAgain Q vKW vLg vLg2 vLg3 vLg4 vWv vPr vRf vTx vLn vHs := by
  unfold wp_X7_mostAgain wp_X7_mostAgain_0
  rw [m1_nI]
  refine c_countMostWithout h hI (by omega) (fun s w' mx => ?_)
  rw [mu_of mx]
  exact hq w'
theorem x_cover {Q : Int32 → OV → OV → Prop} (h : CR vLg A) (hI : Inv A) (hF : InvF A) (hq : ∀ a w, Q (covS A (¬ x = 0)) a w) : wp_X7_cover Q x vKW vLg vLg2 vLg3 vLg4 vWv vPr vRf vTx vLn vHs := by
  unfold wp_X7_cover wp_X7_cover_0
  refine wpi_copyFrom ?_
  obtain ⟨w1, _, _⟩ := wvE_ok hI.1 11 _ (MI_of hI hF) (by have := hI.2.1; omega)
  refine c_runToEnd (cS_of (CR_copy h hI)) hI (MI_of hI hF) (fun w' v' x' y' hv => ⟨fun z => ?_, fun z => ?_⟩)
  · refine c_findUnreached hv hI w1 (fun w2 => ?_)
    have t := hq v' w2
    rw [covS_f (fun y => y z)] at t
    exact t
  · refine c_findReached hv hI w1 (fun w2 => ?_)
    have t := hq v' w2
    rw [covS_t z] at t
    exact t
theorem x_save {Q : Int32 → OV → OV → Prop} (h : CR vLg A) (hI : Inv A) (hq : ∀ a, CR a A → Q (nI (sOpen A)) (sI vKW 10 1) a) : wp_X7_save Q vKW vLg vLg2 vLg3 vLg4 vWv vPr vRf vTx vLn vHs := by
  unfold wp_X7_save wp_X7_save_0
  refine wpi_copyFrom ?_
  rintro _ rfl
  exact c_countOpen h hI (hq _ (CR_copy h hI))
theorem L_undo {Q : Int32 → OV → HV → (Nat → Int64) → Prop} (hH : HR vHs c K) (hK : ∀ i, i < c → Inv (K i)) (bad : c = 0 → Q 1 vLg vHs vLa) (ok : ∀ c', c = c' + 1 → ∀ a e, CR a (K c') → HR e c' K → Q 0 a e (vp_updL vLa (0 : Int32).toNatClampNeg (nI c').toInt64)) : wp_L_undo Q vKW vLg vLg2 vLg3 vLg4 vWv vPr vRf vTx vLn vHs vLa := by
  obtain ⟨⟨h1, h2, h3⟩, h4, h5, h6, h7⟩ := hH
  unfold wp_L_undo wp_L_undo_0 wp_X7_undo wp_X7_undo_0
  refine ⟨h1, ?_⟩
  rintro _ rfl
  cases c with
  | zero =>
    have e : hgive vHs vLg = (0, vHs, vLg) := by
      unfold hgive
      rw [if_neg]
      rw [h6]
      exact fun z => absurd z.1 (by decide)
    rw [e]
    exact ⟨fun z => absurd rfl z, fun _ => ⟨rfl, bad rfl⟩⟩
  | succ c' =>
    have e1 : vHs.1 - 1 = nI c' := by rw [h6, nI_pred]
    have e : hgive vHs vLg = (1, (nI c', vHs.2.1, vHs.2.2), cpLg vLg (vHs.2.2 (vHs.2.1 c'))) := by
      unfold hgive
      rw [e1, if_pos ⟨nI_pos' (by omega), show nI c' < nI 8 from nI_lt (by omega) (by omega)⟩, nI_clamp (by omega)]
    rw [e]
    refine ⟨fun _ => ?_, fun z => absurd (show (1 : Int32) = 0 from z) (by decide)⟩
    rintro _ rfl
    refine ok c' rfl _ _ (CR_copy (h7 c' (by omega)) (hK c' (by omega))) ⟨⟨h1, nI_pos' (by omega), show nI c' ≤ nI 8 from nI_le (by omega) (by omega)⟩, h4, by omega, rfl, fun i hi => h7 i (by omega)⟩
theorem L_restore {Q : Int32 → OV → HV → (Nat → Int64) → Prop} {S : AL} (hH : HR vHs c K) (hS : ¬ vKW.2 10 = 0 → CR vLg3 S ∧ Inv S) (bad : vKW.2 10 = 0 → Q 1 vLg vHs vLa) (ok : ¬ vKW.2 10 = 0 → ∀ a e, CR a S → HR e 0 K → Q 0 a e (vp_updL vLa (0 : Int32).toNatClampNeg (nI (sOpen S)).toInt64)) : wp_L_restore Q vKW vLg vLg2 vLg3 vLg4 vWv vPr vRf vTx vLn vHs vLa := by
  obtain ⟨⟨h1, h2, h3⟩, h4, h5, h6, h7⟩ := hH
  unfold wp_L_restore wp_L_restore_0 wp_X7_restore wp_X7_restore_0
  refine ⟨fun z => ?_, fun z => ⟨rfl, bad z⟩⟩
  obtain ⟨s1, s2⟩ := hS z
  refine wpi_copyFrom ?_
  rintro _ rfl
  refine c_countOpen (CR_copy s1 s2) s2 ?_
  rintro _ rfl
  exact ok z _ _ (CR_copy s1 s2) ⟨⟨h1, show (0 : Int32) ≤ 0 by decide, show (0 : Int32) ≤ 8 by decide⟩, h4, Nat.zero_le _, show (0 : Int32) = nI 0 by decide, fun i hi => absurd hi (Nat.not_lt_zero i)⟩
theorem L_append {Q : Int32 → OV → (Nat → Int64) → Prop} {n q : Nat} (hq16 : q < 65536) (hn : n ≤ 60) (e1 : vTx.2 1 = nI n) (bad : n = 60 → ∀ w, w = vTx → Q 1 w vLa) (ok : n < 60 → ∀ w : OV, w.2 1 = nI (n + 1) → w.1 0 = upd (vTx.1 0) n (nI q) → Q 0 w (vp_updL vLa (0 : Int32).toNatClampNeg (nI (n + 1)).toInt64)) : wp_L_append Q (nI q) vKW vLg vLg2 vLg3 vLg4 vWv vPr vRf vTx vLn vHs vLa := by
  unfold wp_L_append wp_L_append_0 wp_X7_append wp_X7_append_0 wp_X0_add wp_X0_add_0
  rw [e1]
  refine br_f (nI_pos (by omega)) ?_
  by_cases c : n = 60
  · refine ⟨fun z => absurd z (by rw [c]; decide), fun _ => ?_⟩
    exact ⟨fun z => absurd rfl z, fun _ => ⟨rfl, bad c _ rfl⟩⟩
  · refine ⟨fun _ => ⟨vp_in_nI (by omega) (by omega), ?_⟩, fun z => absurd (show nI n < nI 60 from nI_lt (by omega) (by omega)) z⟩
    rintro _ rfl
    rintro _ rfl
    rw [nI_clamp (by omega), nar_ch hq16]
    refine ⟨fun _ => ?_, fun z => absurd z (by decide)⟩
    have e2 : (sI (sA vTx 0 n (nI q)) 1 ((sA vTx 0 n (nI q)).2 1 + 1)).2 1 = nI (n + 1) := by
      rw [sI_at]
      show vTx.2 1 + 1 = _
      rw [e1, nI_1]
    rw [e2]
    rintro _ rfl
    refine ok (by omega) _ e2 ?_
    show (sA vTx 0 n (nI q)).1 0 = _
    rw [sA_row]
end RESTC
section RESTM
variable {m : OV} {A : AL} {Q : Int32 → OV → Prop} {c : Nat} {K : Nat → AL} {x : Int32}
theorem m_undo (hc8 : c ≤ 8) (hK : KRR m c K) (bad : c = 0 → ∀ r, Q r (sI m 9 1)) (ok : ∀ c', c = c' + 1 → ∀ m' : OV, RR (m'.1 0) (K c') → m'.2 6 = nI c' → m'.2 9 = 0 → (∀ j, j ≠ 0 → m'.1 j = m.1 j) → (∀ j, j ≠ 6 → j ≠ 9 → m'.2 j = m.2 j) → Q (nI c') m') : wp_X8_undo Q m := by
  obtain ⟨h6, hr⟩ := hK
  unfold wp_X8_undo wp_X8_undo_0
  rw [h6]
  cases c with
  | zero => exact ⟨fun z => absurd nI_0 z, fun _ => m_fails1 ⟨fun z => absurd z (by decide), fun _ => bad rfl _⟩⟩
  | succ c' =>
    refine ⟨fun _ => m_fails0 ⟨fun _ => ?_, fun z => absurd rfl z⟩, fun z => absurd ((nI_eq (a := c' + 1) (b := 0) (by omega) (by omega)).mp (by rw [nI_0]; exact z)) (by omega)⟩
    rintro _ rfl
    have e6 : (sI m 9 0).2 6 - 1 = nI c' := by
      rw [sI_oth (by decide), h6, nI_pred]
    rw [e6, sI_at, show (177 : Int32) = nI 177 by decide, pk_mul]
    refine m_copies (a := 177 * c') (b := 0) (by omega) (by omega) (by omega) (by omega) ?_
    rintro _ rfl
    obtain ⟨k1, k2, _⟩ := hr c' (by omega)
    have e62 : (sF (sI (sI m 9 0) 6 (nI c')) 0 (va_cpy ((sI (sI m 9 0) 6 (nI c')).1 1) ((sI (sI m 9 0) 6 (nI c')).1 0) (177 * c') 0 177)).2 6 = nI c' := by
      show (sI (sI m 9 0) 6 (nI c')).2 6 = _
      rw [sI_at]
    rw [e62]
    refine ok c' rfl _ ?_ e62 ?_ (fun j hj => ?_) (fun j a b => ?_)
    · rw [sF_row]
      refine RR_eq k1 k2.1 k2.2.1 (fun i hi => ?_)
      rw [pk_cpy_in (by omega) (by omega), show 177 * c' + (i - 0) = 177 * c' + i by omega]
      rfl
    · show (sI (sI m 9 0) 6 (nI c')).2 9 = 0
      rw [sI_oth (by decide), sI_at]
    · rw [sF_oth hj]; rfl
    · show (sI (sI m 9 0) 6 (nI c')).2 j = m.2 j
      rw [sI_oth a, sI_oth b]
theorem m_save (h : RR (m.1 0) A) (hI : Inv A) (hq : ∀ m' : OV, RR (m'.1 2) A → (∀ j, j ≠ 2 → m'.1 j = m.1 j) → m'.2 5 = 1 → (∀ j, j ≠ 5 → j ≠ 9 → m'.2 j = m.2 j) → Q (nI (sOpen A)) m') : wp_X8_save Q m := by
  have n1 := hI.1; have n2 := hI.2.1
  unfold wp_X8_save wp_X8_save_0
  rintro _ rfl
  rintro _ rfl
  refine m_copies (a := 0) (b := 0) (by omega) (by omega) (by omega) (by omega) ?_
  rintro _ rfl
  refine m_openMany (A := A) (by rw [sF_oth (by decide)]; exact h) hI ?_
  refine hq _ ?_ (fun j hj => ?_) ?_ (fun j a b => ?_)
  · rw [sF_row]
    refine RR_eq h n1 n2 (fun i hi => ?_)
    rw [pk_cpy_in (by omega) (by omega), show 0 + (i - 0) = i by omega]
    rfl
  · rw [sF_oth hj]; rfl
  · show (sI (sI m 9 0) 5 1).2 5 = 1
    rw [sI_at]
  · show (sI (sI m 9 0) 5 1).2 j = m.2 j
    rw [sI_oth a, sI_oth b]
theorem m_restore {S : AL} (hS : ¬ m.2 5 = 0 → RR (m.1 2) S ∧ Inv S) (bad : m.2 5 = 0 → ∀ r, Q r (sI m 9 1)) (ok : ¬ m.2 5 = 0 → ∀ m' : OV, RR (m'.1 0) S → m'.2 6 = nI 0 → m'.2 9 = 0 → (∀ j, j ≠ 0 → m'.1 j = m.1 j) → (∀ j, j ≠ 6 → j ≠ 9 → m'.2 j = m.2 j) → Q (nI (sOpen S)) m') : wp_X8_restore Q m := by
  unfold wp_X8_restore wp_X8_restore_0
  refine ⟨fun z => m_fails1 ⟨fun z => absurd z (by decide), fun _ => bad z _⟩, fun z => m_fails0 ⟨fun _ => ?_, fun z => absurd rfl z⟩⟩
  obtain ⟨s1, s2⟩ := hS z
  have n1 := s2.1; have n2 := s2.2.1
  refine m_copies (a := 0) (b := 0) (by omega) (by omega) (by omega) (by omega) ?_
  rintro _ rfl
  rintro _ rfl
  have r0 : RR ((sI (sF (sI m 9 0) 0 (va_cpy ((sI m 9 0).1 2) ((sI m 9 0).1 0) 0 0 177)) 6 0).1 0) S := by
    show RR ((sF (sI m 9 0) 0 (va_cpy ((sI m 9 0).1 2) ((sI m 9 0).1 0) 0 0 177)).1 0) S
    rw [sF_row]
    refine RR_eq s1 n1 n2 (fun i hi => ?_)
    rw [pk_cpy_in (by omega) (by omega), show 0 + (i - 0) = i by omega]
    rfl
  refine m_openMany (A := S) r0 s2 ?_
  refine ok z _ r0 ?_ ?_ (fun j hj => ?_) (fun j a b => ?_)
  · rw [sI_at]; decide
  · rw [sI_oth (by decide)]
    show (sI m 9 0).2 9 = 0
    rw [sI_at]
  · show (sF (sI m 9 0) 0 _).1 j = m.1 j
    rw [sF_oth hj]; rfl
  · rw [sI_oth a]
    show (sI m 9 0).2 j = m.2 j
    rw [sI_oth b]
theorem m_append {n : Nat} (hn : n ≤ 60) (e1 : m.2 14 = nI n) (bad : n = 60 → ∀ r, Q r (sI m 9 1)) (ok : n < 60 → ∀ m' : OV, m'.2 14 = nI (n + 1) → m'.2 9 = 0 → m'.1 13 = upd (m.1 13) n x → (∀ j, j ≠ 13 → m'.1 j = m.1 j) → (∀ j, j ≠ 9 → j ≠ 14 → m'.2 j = m.2 j) → Q (nI (n + 1)) m') : wp_X8_append Q x m := by
  unfold wp_X8_append wp_X8_append_0
  rw [e1]
  by_cases c : n = 60
  · exact ⟨fun z => absurd (show nI n = (60 : Int32) by rw [c]; decide) z, fun _ => m_fails1 ⟨fun z => absurd z (by decide), fun _ => bad c _⟩⟩
  · refine ⟨fun _ => m_fails0 ⟨fun _ => ?_, fun z => absurd rfl z⟩, fun z => absurd ((nI_eq (a := n) (b := 60) (by omega) (by omega)).mp z) c⟩
    have e14 : (sI m 9 0).2 14 = nI n := by rw [sI_oth (by decide)]; exact e1
    rw [e14]
    refine ⟨vp_in_nI (by omega) (by omega), ?_⟩
    rintro _ rfl
    rintro _ rfl
    rw [nI_clamp (by omega)]
    have e2 : (sI (sA (sI m 9 0) 13 n x) 14 ((sA (sI m 9 0) 13 n x).2 14 + 1)).2 14 = nI (n + 1) := by
      rw [sI_at]
      show (sI m 9 0).2 14 + 1 = _
      rw [e14, nI_1]
    rw [e2]
    refine ok (by omega) _ e2 ?_ ?_ (fun j hj => ?_) (fun j a b => ?_)
    · rw [sI_oth (by decide)]
      show (sI m 9 0).2 9 = 0
      rw [sI_at]
    · show (sA (sI m 9 0) 13 n x).1 13 = _
      rw [sA_row]; rfl
    · show (sA (sI m 9 0) 13 n x).1 j = m.1 j
      rw [sA_oth hj]; rfl
    · rw [sI_oth b]
      show (sI m 9 0).2 j = m.2 j
      rw [sI_oth a]
end RESTM
