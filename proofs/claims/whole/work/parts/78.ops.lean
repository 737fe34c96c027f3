/-! the class's changes with what is kept, the law's helpers of them, and a wave (made by gen_p78.py) -/
abbrev uoE : String := "java/lang/UnsupportedOperationException"
abbrev rf3 (v : OV) (r d i : Int32) : OV := sI (sI (sI v 0 r) 1 d) 2 i
theorem nI_ne {k : Nat} (h : k < 2 ^ 31) : ¬ nI k = (-1 : Int32) := fun e => absurd (show nI k < 0 by rw [e]; decide) (nI_pos h)
def oWave (A : AL) : OR := if (LVA A).2 = 0 then .inl (10, nI (sOpen A)) else .inr (nI (wv (gA A) (aNk A) (aNl A) (mO A)).1, aRun A)
theorem sm10 {f : Nat → Nat} {n c : Nat} (hn : n ≤ 10) (h : ∀ i, i < n → f i ≤ c) : sm f n ≤ 10 * c := Nat.le_trans (sm_bound h) (Nat.mul_le_mul_right c hn)
section ANS
variable {A B : AL} {x y n : Int32}
theorem oKey_ans (hI : Inv A) (h : oKey A x y = .inr (n, B)) : ∃ k, k < 2 ^ 30 ∧ n = nI k := by
  have n1 := hI.1
  unfold oKey at h
  split at h
  · split at h
    · cases h
    · cases h; exact ⟨aNk A, by omega, rfl⟩
  · cases h
theorem oLock_ans (hI : Inv A) (h : oLock A x = .inr (n, B)) : ∃ k, k < 2 ^ 30 ∧ n = nI k := by
  have n1 := hI.2.1
  unfold oLock at h
  split at h
  · split at h
    · cases h
    · cases h; exact ⟨aNl A, by omega, rfl⟩
  · cases h
theorem oCut_ans (hI : Inv A) (h : oCut A x y = .inr (n, B)) : ∃ k, k < 2 ^ 30 ∧ n = nI k := by
  unfold oCut at h
  split at h
  · split at h
    · split at h
      · cases h
      · cases h
        have := pop_le (aWd A x.toNatClampNeg ^^^ y.toNatClampNeg)
        exact ⟨_, by omega, rfl⟩
    · cases h
  · cases h
theorem oBar_ans {b : Nat} (hI : Inv A) (hb : b ≤ 1) (h : oBar A x y b = .inr (n, B)) : ∃ k, k < 2 ^ 30 ∧ n = nI k := by
  have hB := (oBar_inv hI hb h).1
  unfold oBar at h
  split at h
  · split at h
    · split at h
      · cases h
      · cases h
        have : sBars (aBar A x.toNatClampNeg y.toNatClampNeg b) ≤ 10 * 10 := sm10 hB.1 fun i _ => pop_le _
        exact ⟨_, by omega, rfl⟩
    · cases h
  · cases h
theorem oSlack_ans (hI : Inv A) (h : oSlack A x = .inr (n, B)) : ∃ k, k < 2 ^ 30 ∧ n = nI k := by
  have n1 := hI.1
  unfold oSlack at h
  split at h
  · split at h
    · cases h
    · cases h
      have := drN_le (A := aS A 0 2 x.toNatClampNeg) (aNk A)
      exact ⟨_, by omega, rfl⟩
  · cases h
theorem sOpen_le {A : AL} (hI : Inv A) : sOpen A ≤ 10 := by
  have : sOpen A ≤ 10 * 1 := sm10 hI.2.1 fun i _ => b01_le
  omega
theorem oPut_ans (hI : Inv A) (hF : InvF A) (h : oPut A x y = .inr (n, B)) : ∃ k, k < 2 ^ 30 ∧ n = nI k := by
  have hB := (oPut_inv hI hF h).1
  unfold oPut at h
  split at h
  · split at h
    · split at h
      · split at h
        · split at h
          · cases h
            have := sOpen_le hB
            exact ⟨_, by omega, rfl⟩
          · cases h
        · cases h
      · cases h
    · cases h
  · cases h
theorem oTake_ans (hI : Inv A) (h : oTake A x = .inr (n, B)) : ∃ k, k < 2 ^ 30 ∧ n = nI k := by
  unfold oTake at h
  split at h
  · rename_i ck
    split at h
    · cases h
    · rename_i c
      cases h
      obtain ⟨k, hk, _, e2⟩ := isR_nI hI.1 ck
      rw [e2] at c ⊢
      have := ik_lt hI hk
      refine ⟨aIk A k - 1, by omega, ?_⟩
      obtain ⟨l, hl⟩ : ∃ l, aIk A k = l + 1 := ⟨aIk A k - 1, by omega⟩
      rw [hl, nI_pred, Nat.add_sub_cancel]
  · cases h
theorem aRun_cS : aRun A = cS A (wv (gA A) (aNk A) (aNl A) (mO A)).2 (aWv A + 1) (aWs A + (wv (gA A) (aNk A) (aNl A) (mO A)).1) := rfl
theorem wv_le (hI : Inv A) (hF : InvF A) : (wv (gA A) (aNk A) (aNl A) (mO A)).1 ≤ 10 := by
  obtain ⟨g1, g2, g3⟩ := wv_ok (MI_of hI hF) hI.1
  have : sz (aNl A) (wv (gA A) (aNk A) (aNl A) (mO A)).2 ≤ aNl A := ct_n
  have := hI.2.1
  omega
theorem oWave_ans (hI : Inv A) (hF : InvF A) (h : oWave A = .inr (n, B)) : ∃ k, k < 2 ^ 30 ∧ n = nI k := by
  unfold oWave at h
  split at h
  · cases h
  · cases h
    have := wv_le hI hF
    exact ⟨_, by omega, rfl⟩
theorem oWave_inv (hI : Inv A) (hF : InvF A) (h : oWave A = .inr (n, B)) : Inv B ∧ InvF B := by
  unfold oWave at h
  split at h
  · cases h
  · cases h
    rw [aRun_cS]
    exact Inv_cS hI (wv_ok (MI_of hI hF) hI.1).1
end ANS
section XOP
variable {A : AL} {c : Nat} {K : Nat → AL} {vKW vLg vLg2 vLg3 vLg4 vWv vPr vRf vTx vLn : OV} {vHs : HV}
theorem x_settle_ok {Q : Int32 → OV → OV → HV → Prop} {QX : String → OV → OV → HV → Prop} {x1 x2 : Int32} (hH : HR vHs c K) (h2 : CR vLg2 A) (hI : Inv A) (hn : ¬ x1 = (-1 : Int32)) (hq : ∀ e, HR e (kc c) (kK c K A) → Q x1 vLg vRf e) : wp_X7_settle Q QX x1 x2 vKW vLg vLg2 vLg3 vLg4 vWv vPr vRf vTx vLn vHs := by
  refine ⟨fun _ => ⟨hH.1, ?_⟩, fun z => absurd z hn⟩
  rintro _ rfl
  exact hq _ (HR_keep hH h2 hI)
theorem x_settle_bad {Q : Int32 → OV → OV → HV → Prop} {QX : String → OV → OV → HV → Prop} {x2 : Int32} (h2 : CR vLg2 A) (hI : Inv A) (hq : ∀ a, CR a A → QX uoE a (sI vRf 2 x2) vHs) : wp_X7_settle Q QX (-1 : Int32) x2 vKW vLg vLg2 vLg3 vLg4 vWv vPr vRf vTx vLn vHs := by
  refine ⟨fun z => absurd rfl z, fun _ => ?_⟩
  rintro _ rfl
  exact wpi_copyFrom (hq _ (CR_copy h2 hI))
theorem x_key {Q : Int32 → OV → OV → OV → HV → Prop} {QX : String → OV → OV → OV → HV → Prop} {x y : Int32} (h : CR vLg A) (hI : Inv A) (hH : HR vHs c K) (hr : ∀ r d, oKey A x y = .inl (r, d) → ∀ a b, CR a A → QX uoE a b (rf3 vRf r d 0) vHs) (hk : ∀ n B, oKey A x y = .inr (n, B) → ∀ a b e, CR a B → HR e (kc c) (kK c K A) → Q n a b vRf e) : wp_X7_key Q QX x y vKW vLg vLg2 vLg3 vLg4 vWv vPr vRf vTx vLn vHs := by
  unfold wp_X7_key wp_X7_key_0
  refine wpi_copyFrom ?_
  refine c_addKey h hI (fun r d e => x_settle_bad (CR_copy h hI) hI (fun a ha => hr r d e a _ ha)) (fun n B e v' hv => ?_)
  obtain ⟨k, hk1, hk2⟩ := oKey_ans hI e
  exact x_settle_ok hH (CR_copy h hI) hI (by rw [hk2]; exact nI_ne (by omega)) (fun f hf => hk n B e v' _ f hv hf)
theorem L_key {Q : Int32 → OV → OV → OV → HV → (Nat → Int64) → Prop} {x y : Int32} {vLa : Nat → Int64} (h : CR vLg A) (hI : Inv A) (hH : HR vHs c K) (hr : ∀ r d, oKey A x y = .inl (r, d) → ∀ a b, CR a A → Q 1 a b (rf3 vRf r d 0) vHs vLa) (hk : ∀ n B, oKey A x y = .inr (n, B) → ∀ a b e, CR a B → HR e (kc c) (kK c K A) → Q 0 a b vRf e (vp_updL vLa (0 : Int32).toNatClampNeg n.toInt64)) : wp_L_key Q x y vKW vLg vLg2 vLg3 vLg4 vWv vPr vRf vTx vLn vHs vLa := by
  unfold wp_L_key wp_L_key_0
  refine x_key h hI hH (fun r d e a b ha => ⟨rfl, hr r d e a b ha⟩) (fun n B e a b f ha hf => ?_)
  rintro _ rfl
  exact hk n B e a b f ha hf
theorem x_lock {Q : Int32 → OV → OV → OV → HV → Prop} {QX : String → OV → OV → OV → HV → Prop} {x : Int32} (h : CR vLg A) (hI : Inv A) (hH : HR vHs c K) (hr : ∀ r d, oLock A x = .inl (r, d) → ∀ a b, CR a A → QX uoE a b (rf3 vRf r d 0) vHs) (hk : ∀ n B, oLock A x = .inr (n, B) → ∀ a b e, CR a B → HR e (kc c) (kK c K A) → Q n a b vRf e) : wp_X7_lock Q QX x vKW vLg vLg2 vLg3 vLg4 vWv vPr vRf vTx vLn vHs := by
  unfold wp_X7_lock wp_X7_lock_0
  refine wpi_copyFrom ?_
  refine c_addLock h hI (fun r d e => x_settle_bad (CR_copy h hI) hI (fun a ha => hr r d e a _ ha)) (fun n B e v' hv => ?_)
  obtain ⟨k, hk1, hk2⟩ := oLock_ans hI e
  exact x_settle_ok hH (CR_copy h hI) hI (by rw [hk2]; exact nI_ne (by omega)) (fun f hf => hk n B e v' _ f hv hf)
theorem L_lock {Q : Int32 → OV → OV → OV → HV → (Nat → Int64) → Prop} {x : Int32} {vLa : Nat → Int64} (h : CR vLg A) (hI : Inv A) (hH : HR vHs c K) (hr : ∀ r d, oLock A x = .inl (r, d) → ∀ a b, CR a A → Q 1 a b (rf3 vRf r d 0) vHs vLa) (hk : ∀ n B, oLock A x = .inr (n, B) → ∀ a b e, CR a B → HR e (kc c) (kK c K A) → Q 0 a b vRf e (vp_updL vLa (0 : Int32).toNatClampNeg n.toInt64)) : wp_L_lock Q x vKW vLg vLg2 vLg3 vLg4 vWv vPr vRf vTx vLn vHs vLa := by
  unfold wp_L_lock wp_L_lock_0
  refine x_lock h hI hH (fun r d e a b ha => ⟨rfl, hr r d e a b ha⟩) (fun n B e a b f ha hf => ?_)
  rintro _ rfl
  exact hk n B e a b f ha hf
theorem x_cut {Q : Int32 → OV → OV → OV → HV → Prop} {QX : String → OV → OV → OV → HV → Prop} {x y : Int32} (h : CR vLg A) (hI : Inv A) (hH : HR vHs c K) (hr : ∀ r d, oCut A x y = .inl (r, d) → ∀ a b, CR a A → QX uoE a b (rf3 vRf r d 0) vHs) (hk : ∀ n B, oCut A x y = .inr (n, B) → ∀ a b e, CR a B → HR e (kc c) (kK c K A) → Q n a b vRf e) : wp_X7_cut Q QX x y vKW vLg vLg2 vLg3 vLg4 vWv vPr vRf vTx vLn vHs := by
  unfold wp_X7_cut wp_X7_cut_0
  refine wpi_copyFrom ?_
  refine c_cutKey h hI (fun r d e => x_settle_bad (CR_copy h hI) hI (fun a ha => hr r d e a _ ha)) (fun n B e v' hv => ?_)
  obtain ⟨k, hk1, hk2⟩ := oCut_ans hI e
  exact x_settle_ok hH (CR_copy h hI) hI (by rw [hk2]; exact nI_ne (by omega)) (fun f hf => hk n B e v' _ f hv hf)
theorem L_cut {Q : Int32 → OV → OV → OV → HV → (Nat → Int64) → Prop} {x y : Int32} {vLa : Nat → Int64} (h : CR vLg A) (hI : Inv A) (hH : HR vHs c K) (hr : ∀ r d, oCut A x y = .inl (r, d) → ∀ a b, CR a A → Q 1 a b (rf3 vRf r d 0) vHs vLa) (hk : ∀ n B, oCut A x y = .inr (n, B) → ∀ a b e, CR a B → HR e (kc c) (kK c K A) → Q 0 a b vRf e (vp_updL vLa (0 : Int32).toNatClampNeg n.toInt64)) : wp_L_cut Q x y vKW vLg vLg2 vLg3 vLg4 vWv vPr vRf vTx vLn vHs vLa := by
  unfold wp_L_cut wp_L_cut_0
  refine x_cut h hI hH (fun r d e a b ha => ⟨rfl, hr r d e a b ha⟩) (fun n B e a b f ha hf => ?_)
  rintro _ rfl
  exact hk n B e a b f ha hf
theorem x_bar {Q : Int32 → OV → OV → OV → HV → Prop} {QX : String → OV → OV → OV → HV → Prop} {x y : Int32} (h : CR vLg A) (hI : Inv A) {b : Nat} (hb : b ≤ 1) (hH : HR vHs c K) (hr : ∀ r d, oBar A x y b = .inl (r, d) → ∀ a b, CR a A → QX uoE a b (rf3 vRf r d 0) vHs) (hk : ∀ n B, oBar A x y b = .inr (n, B) → ∀ a b e, CR a B → HR e (kc c) (kK c K A) → Q n a b vRf e) : wp_X7_bar Q QX x y (nI b) vKW vLg vLg2 vLg3 vLg4 vWv vPr vRf vTx vLn vHs := by
  unfold wp_X7_bar wp_X7_bar_0
  refine wpi_copyFrom ?_
  refine c_setBar h hI hb (fun r d e => x_settle_bad (CR_copy h hI) hI (fun a ha => hr r d e a _ ha)) (fun n B e v' hv => ?_)
  obtain ⟨k, hk1, hk2⟩ := oBar_ans hI hb e
  exact x_settle_ok hH (CR_copy h hI) hI (by rw [hk2]; exact nI_ne (by omega)) (fun f hf => hk n B e v' _ f hv hf)
theorem L_bar {Q : Int32 → OV → OV → OV → HV → (Nat → Int64) → Prop} {x y : Int32} {vLa : Nat → Int64} (h : CR vLg A) (hI : Inv A) {b : Nat} (hb : b ≤ 1) (hH : HR vHs c K) (hr : ∀ r d, oBar A x y b = .inl (r, d) → ∀ a b, CR a A → Q 1 a b (rf3 vRf r d 0) vHs vLa) (hk : ∀ n B, oBar A x y b = .inr (n, B) → ∀ a b e, CR a B → HR e (kc c) (kK c K A) → Q 0 a b vRf e (vp_updL vLa (0 : Int32).toNatClampNeg n.toInt64)) : wp_L_bar Q x y (nI b) vKW vLg vLg2 vLg3 vLg4 vWv vPr vRf vTx vLn vHs vLa := by
  unfold wp_L_bar wp_L_bar_0
  refine x_bar h hI hb hH (fun r d e a b ha => ⟨rfl, hr r d e a b ha⟩) (fun n B e a b f ha hf => ?_)
  rintro _ rfl
  exact hk n B e a b f ha hf
theorem x_slack {Q : Int32 → OV → OV → OV → HV → Prop} {QX : String → OV → OV → OV → HV → Prop} {x : Int32} (h : CR vLg A) (hI : Inv A) (hH : HR vHs c K) (hr : ∀ r d, oSlack A x = .inl (r, d) → ∀ a b, CR a A → QX uoE a b (rf3 vRf r d 0) vHs) (hk : ∀ n B, oSlack A x = .inr (n, B) → ∀ a b e, CR a B → HR e (kc c) (kK c K A) → Q n a b vRf e) : wp_X7_slack Q QX x vKW vLg vLg2 vLg3 vLg4 vWv vPr vRf vTx vLn vHs := by
  unfold wp_X7_slack wp_X7_slack_0
  refine wpi_copyFrom ?_
  refine c_setSlack h hI (fun r d e => x_settle_bad (CR_copy h hI) hI (fun a ha => hr r d e a _ ha)) (fun n B e v' hv => ?_)
  obtain ⟨k, hk1, hk2⟩ := oSlack_ans hI e
  exact x_settle_ok hH (CR_copy h hI) hI (by rw [hk2]; exact nI_ne (by omega)) (fun f hf => hk n B e v' _ f hv hf)
theorem L_slack {Q : Int32 → OV → OV → OV → HV → (Nat → Int64) → Prop} {x : Int32} {vLa : Nat → Int64} (h : CR vLg A) (hI : Inv A) (hH : HR vHs c K) (hr : ∀ r d, oSlack A x = .inl (r, d) → ∀ a b, CR a A → Q 1 a b (rf3 vRf r d 0) vHs vLa) (hk : ∀ n B, oSlack A x = .inr (n, B) → ∀ a b e, CR a B → HR e (kc c) (kK c K A) → Q 0 a b vRf e (vp_updL vLa (0 : Int32).toNatClampNeg n.toInt64)) : wp_L_slack Q x vKW vLg vLg2 vLg3 vLg4 vWv vPr vRf vTx vLn vHs vLa := by
  unfold wp_L_slack wp_L_slack_0
  refine x_slack h hI hH (fun r d e a b ha => ⟨rfl, hr r d e a b ha⟩) (fun n B e a b f ha hf => ?_)
  rintro _ rfl
  exact hk n B e a b f ha hf
theorem x_put {Q : Int32 → OV → OV → OV → HV → Prop} {QX : String → OV → OV → OV → HV → Prop} {x y : Int32} (h : CR vLg A) (hI : Inv A) (hF : InvF A) (hH : HR vHs c K) (hr : ∀ r d, oPut A x y = .inl (r, d) → ∀ a b, CR a A → QX uoE a b (rf3 vRf r d 0) vHs) (hk : ∀ n B, oPut A x y = .inr (n, B) → ∀ a b e, CR a B → HR e (kc c) (kK c K A) → Q n a b vRf e) : wp_X7_put Q QX x y vKW vLg vLg2 vLg3 vLg4 vWv vPr vRf vTx vLn vHs := by
  unfold wp_X7_put wp_X7_put_0
  refine wpi_copyFrom ?_
  refine c_putIn h hI (fun k l a b c d => Inv_put hI a b c d) (fun r d e => x_settle_bad (CR_copy h hI) hI (fun a ha => hr r d e a _ ha)) (fun n B e v' hv => ?_)
  obtain ⟨k, hk1, hk2⟩ := oPut_ans hI hF e
  exact x_settle_ok hH (CR_copy h hI) hI (by rw [hk2]; exact nI_ne (by omega)) (fun f hf => hk n B e v' _ f hv hf)
theorem L_put {Q : Int32 → OV → OV → OV → HV → (Nat → Int64) → Prop} {x y : Int32} {vLa : Nat → Int64} (h : CR vLg A) (hI : Inv A) (hF : InvF A) (hH : HR vHs c K) (hr : ∀ r d, oPut A x y = .inl (r, d) → ∀ a b, CR a A → Q 1 a b (rf3 vRf r d 0) vHs vLa) (hk : ∀ n B, oPut A x y = .inr (n, B) → ∀ a b e, CR a B → HR e (kc c) (kK c K A) → Q 0 a b vRf e (vp_updL vLa (0 : Int32).toNatClampNeg n.toInt64)) : wp_L_put Q x y vKW vLg vLg2 vLg3 vLg4 vWv vPr vRf vTx vLn vHs vLa := by
  unfold wp_L_put wp_L_put_0
  refine x_put h hI hF hH (fun r d e a b ha => ⟨rfl, hr r d e a b ha⟩) (fun n B e a b f ha hf => ?_)
  rintro _ rfl
  exact hk n B e a b f ha hf
theorem x_take {Q : Int32 → OV → OV → OV → HV → Prop} {QX : String → OV → OV → OV → HV → Prop} {x : Int32} (h : CR vLg A) (hI : Inv A) (hH : HR vHs c K) (hr : ∀ r d, oTake A x = .inl (r, d) → ∀ a b, CR a A → QX uoE a b (rf3 vRf r d 0) vHs) (hk : ∀ n B, oTake A x = .inr (n, B) → ∀ a b e, CR a B → HR e (kc c) (kK c K A) → Q n a b vRf e) : wp_X7_take Q QX x vKW vLg vLg2 vLg3 vLg4 vWv vPr vRf vTx vLn vHs := by
  unfold wp_X7_take wp_X7_take_0
  refine wpi_copyFrom ?_
  refine c_takeOut h hI (fun r d e => x_settle_bad (CR_copy h hI) hI (fun a ha => hr r d e a _ ha)) (fun n B e v' hv => ?_)
  obtain ⟨k, hk1, hk2⟩ := oTake_ans hI e
  exact x_settle_ok hH (CR_copy h hI) hI (by rw [hk2]; exact nI_ne (by omega)) (fun f hf => hk n B e v' _ f hv hf)
theorem L_take {Q : Int32 → OV → OV → OV → HV → (Nat → Int64) → Prop} {x : Int32} {vLa : Nat → Int64} (h : CR vLg A) (hI : Inv A) (hH : HR vHs c K) (hr : ∀ r d, oTake A x = .inl (r, d) → ∀ a b, CR a A → Q 1 a b (rf3 vRf r d 0) vHs vLa) (hk : ∀ n B, oTake A x = .inr (n, B) → ∀ a b e, CR a B → HR e (kc c) (kK c K A) → Q 0 a b vRf e (vp_updL vLa (0 : Int32).toNatClampNeg n.toInt64)) : wp_L_take Q x vKW vLg vLg2 vLg3 vLg4 vWv vPr vRf vTx vLn vHs vLa := by
  unfold wp_L_take wp_L_take_0
  refine x_take h hI hH (fun r d e a b ha => ⟨rfl, hr r d e a b ha⟩) (fun n B e a b f ha hf => ?_)
  rintro _ rfl
  exact hk n B e a b f ha hf
theorem c_wave207 {Q : Int32 → OV → OV → OV → Prop} (h : CR vLg A) (hI : Inv A) (hF : InvF A) (hr : ∀ r d, oWave A = .inl (r, d) → ∀ w, Q (-1) vLg w (sI (sI vRf 0 r) 1 d)) (hk : ∀ n B, oWave A = .inr (n, B) → ∀ a w, CR a B → Q n a w vRf) : wp_X7_carryOut_207 Q vKW vLg2 vLg3 vLg4 vPr vTx vLn vHs vLg vWv vRf := by
  have hM := MI_of hI hF
  obtain ⟨g1, g2, g3⟩ := wv_ok hM hI.1
  have le := wv_le hI hF
  refine c_run h hI hF (fun z w' => ⟨fun _ => c_countOpen h hI (c_refuse (hr 10 (nI (sOpen A)) (by rw [oWave, if_pos z]) w')), fun y => absurd (show (0 : Int32) ≤ 0 by decide) y⟩) (fun z w' v' hv => ⟨fun y => ?_, fun _ => hk _ _ (by rw [oWave, if_neg z]) v' w' hv⟩)
  have y' := (nI_leI (a := (wv (gA A) (aNk A) (aNl A) (mO A)).1) (b := 0) (by omega) (by omega)).mp (by rw [nI_0]; exact y)
  exact absurd (g3 (by omega)).1 z
theorem x_wave {Q : Int32 → OV → OV → OV → OV → HV → Prop} {QX : String → OV → OV → OV → OV → HV → Prop} (h : CR vLg A) (hI : Inv A) (hF : InvF A) (hH : HR vHs c K) (hr : ∀ r d, oWave A = .inl (r, d) → ∀ a b w, CR a A → QX uoE a b w (rf3 vRf r d 0) vHs) (hk : ∀ n B, oWave A = .inr (n, B) → ∀ a b w e, CR a B → HR e (kc c) (kK c K A) → Q n a b w vRf e) : wp_X7_wave Q QX vKW vLg vLg2 vLg3 vLg4 vWv vPr vRf vTx vLn vHs := by
  unfold wp_X7_wave wp_X7_wave_0
  refine wpi_copyFrom ?_
  have no : ∀ {P : Prop} {a b : Int}, a ≠ b → (a = b → P) := fun h z => absurd z h
  refine ⟨fun _ => c_wave207 h hI hF (fun r d e w => x_settle_bad (CR_copy h hI) hI (fun a ha => hr r d e a _ w ha)) (fun n B e a w ha => ?_), no (by decide), no (by decide), no (by decide), no (by decide), no (by decide), no (by decide), no (by decide), no (by decide), no (by decide), no (by decide), no (by decide), no (by decide), no (by decide), no (by decide), no (by decide), no (by decide), no (by decide), no (by decide), no (by decide), no (by decide)⟩
  obtain ⟨k, hk1, hk2⟩ := oWave_ans hI hF e
  exact x_settle_ok hH (CR_copy h hI) hI (by rw [hk2]; exact nI_ne (by omega)) (fun f hf => hk n B e a _ w f ha hf)
theorem L_wave {Q : Int32 → OV → OV → OV → OV → HV → (Nat → Int64) → Prop} {vLa : Nat → Int64} (h : CR vLg A) (hI : Inv A) (hF : InvF A) (hH : HR vHs c K) (hr : ∀ r d, oWave A = .inl (r, d) → ∀ a b w, CR a A → Q 1 a b w (rf3 vRf r d 0) vHs vLa) (hk : ∀ n B, oWave A = .inr (n, B) → ∀ a b w e, CR a B → HR e (kc c) (kK c K A) → Q 0 a b w vRf e (vp_updL vLa (0 : Int32).toNatClampNeg n.toInt64)) : wp_L_wave Q vKW vLg vLg2 vLg3 vLg4 vWv vPr vRf vTx vLn vHs vLa := by
  unfold wp_L_wave wp_L_wave_0
  refine x_wave h hI hF hH (fun r d e a b w ha => ⟨rfl, hr r d e a b w ha⟩) (fun n B e a b w f ha hf => ?_)
  rintro _ rfl
  exact hk n B e a b w f ha hf
end XOP
section MWAVE
variable {m : OV} {A : AL} {Q : Int32 → OV → Prop} {c : Nat}
theorem m_wave (h : RR (m.1 0) A) (hI : Inv A) (hF : InvF A) (hc : m.2 6 = nI c) (hc8 : c ≤ 8) (hr : ∀ r d, oWave A = .inl (r, d) → ∀ m', RFw m m' r d → Q 0 m') (hk : ∀ n B, oWave A = .inr (n, B) → ∀ m', RR (m'.1 0) B → KOw m m' c → Q n m') : wp_X8_wave Q m := by
  unfold wp_X8_wave wp_X8_wave_0
  refine m_levels h hI (fun m1 r1 _ g1 => ⟨fun z => ?_, fun z => ?_⟩)
  · have z' : ¬ (LVA A).2 = 0 := Classical.not_not.mp fun y => z (b01_0.mpr y)
    refine m_keepsK (c := c) (by rw [g1.2 6 (by decide)]; exact hc) hc8 (fun m2 e0 ko => ?_)
    refine m_adds0 (by rw [e0]; exact r1) hI hF (fun m3 r3 g3 => ?_)
    have v3 : vp_in (3 : Int32) 177 := vi 3 (by omega)
    have v4 : vp_in (4 : Int32) 177 := vi 4 (by omega)
    have t3 : (3 : Int32).toNatClampNeg = 3 := by decide
    have t4 : (4 : Int32).toNatClampNeg = 4 := by decide
    refine ⟨v3, v3, ?_⟩
    rintro _ rfl
    refine ⟨v4, v4, ?_⟩
    rintro _ rfl
    rw [t3, t4]
    have q3 : m3.1 0 3 = nI (aWv A) := r3.2.2.2.1
    have q4 : m3.1 0 4 = nI (aWs A) := r3.2.2.2.2.1
    have q4' : (sA m3 0 3 (nI (aWv A + 1))).1 0 4 = nI (aWs A) := by rw [sA00, pk_un (by decide)]; exact q4
    rw [q3, nI_1, q4', nI_add]
    refine hk _ _ (by rw [oWave, if_neg z']) _ ?_ ?_
    · rw [sA00, sA00]
      exact RR_g4 (RR_g3 r3 (aWv A + 1)) _
    · obtain ⟨k1, k2, k3, k4, k5⟩ := ko
      have b7 : m1.2 7 = m.2 7 := g1.2 7 (by decide)
      have w1 : ∀ j, j ≠ 0 → j ≠ 18 → j ≠ 19 → (sA (sA m3 0 3 (nI (aWv A + 1))) 0 4 (nI (aWs A + (wv (gA A) (aNk A) (aNl A) (mO A)).1))).1 j = m2.1 j := fun j a b d => by
        rw [sA_oth a, sA_oth a, g3.1 j a b d]
      refine ⟨fun y => ?_, fun y => ?_, ?_, fun j a b d e => ?_, fun j a b d => ?_⟩
      · obtain ⟨u1, u2⟩ := k1 (b7.trans y)
        refine ⟨?_, (g3.2 6 (by decide)).trans u2⟩
        rw [w1 1 (by decide) (by decide) (by decide), u1, g1.1 1 (by decide), g1.1 0 (by decide)]
      · obtain ⟨u1, u2⟩ := k2 (fun t => y (b7.symm.trans t))
        refine ⟨?_, ((g3.2 6 (by decide)).trans u2).trans (g1.2 6 (by decide))⟩
        rw [w1 1 (by decide) (by decide) (by decide), u1, g1.1 1 (by decide)]
      · exact (g3.2 9 (by decide)).trans k3
      · rw [w1 j a d e, k4 j a b, g1.1 j d]
      · exact ((g3.2 j d).trans (k5 j a b)).trans (g1.2 j d)
  · have z' : (LVA A).2 = 0 := Classical.not_not.mp (b01_0.mp z)
    refine m_openMany r1 hI (m_refuses (fun m2 hf => hr _ _ (by rw [oWave, if_pos z']) m2 ?_))
    obtain ⟨f1, f2, f3, f4, f5, f6⟩ := hf
    refine ⟨fun j a b => by rw [f1]; exact g1.1 j a, f2, f3, f4, ?_, fun j a b d e g => (f6 j a b d e).trans (g1.2 j g)⟩
    rw [f5, g1.2 7 (by decide), g1.2 8 (by decide)]
end MWAVE
