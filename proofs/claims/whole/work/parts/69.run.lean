/-! a wave, and waves to the end: the class's rows -/
/-- the lodge A with another matching and other counts of waves and ways -/
def cS (A : AL) (M : MT) (x y : Nat) : AL := aS (aS (mS A M) 0 3 x) 0 4 y
theorem cS_o {A : AL} {M : MT} {x y i j : Nat} (h : i ≠ 0) : cS A M x y i j = mS A M i j := by
  unfold cS aS
  rw [if_neg (fun z => h z.1), if_neg (fun z => h z.1)]
theorem cS_0 {A : AL} {M : MT} {x y j : Nat} (h3 : j ≠ 3) (h4 : j ≠ 4) : cS A M x y 0 j = A 0 j := by
  unfold cS aS
  rw [if_neg (fun z => h4 z.2), if_neg (fun z => h3 z.2)]
  exact mS_o (by decide) (by decide) (by decide)
theorem cS_nk {A : AL} {M : MT} {x y : Nat} : aNk (cS A M x y) = aNk A := cS_0 (by decide) (by decide)
theorem cS_nl {A : AL} {M : MT} {x y : Nat} : aNl (cS A M x y) = aNl A := cS_0 (by decide) (by decide)
theorem cS_sl {A : AL} {M : MT} {x y : Nat} : aSl (cS A M x y) = aSl A := cS_0 (by decide) (by decide)
theorem cS_br {A : AL} {M : MT} {x y k l : Nat} : aBr (cS A M x y) k l = aBr A k l := by
  show cS A M x y (8 + k) l = A (8 + k) l
  rw [cS_o (by omega), mS_o (by omega) (by omega) (by omega)]
theorem cS_st {A : AL} {M : MT} {x y i j : Nat} (h0 : i ≠ 0) (h3 : i ≠ 3) (h6 : i ≠ 6) (h7 : i ≠ 7) : cS A M x y i j = A i j := by
  rw [cS_o h0, mS_o h3 h6 h7]
theorem cS_ik {A : AL} {M : MT} {x y k : Nat} : aIk (cS A M x y) k = M.1 k := by
  show cS A M x y 3 k = M.1 k
  rw [cS_o (by decide)]; rfl
theorem cS_hk {A : AL} {M : MT} {x y l : Nat} : aHk (cS A M x y) l = M.2.1 l := by
  show cS A M x y 6 l = M.2.1 l
  rw [cS_o (by decide)]; rfl
theorem fit_cS {A : AL} {M : MT} {x y k l : Nat} : fit (cS A M x y) k l ↔ fit A k l := by
  show (lk (cS A M x y 5 l) (cS A M x y 1 k) = 0 ∧ pop (cS A M x y 1 k) ≤ pop (cS A M x y 5 l) + cS A M x y 0 2 ∧ cS A M x y (8 + k) l = 0) ↔ _
  rw [cS_st (by decide) (by decide) (by decide) (by decide), cS_st (by decide) (by decide) (by decide) (by decide), cS_0 (by decide) (by decide), cS_st (by omega) (by omega) (by omega) (by omega)]
theorem gA_cS {A : AL} {M : MT} {x y : Nat} : gA (cS A M x y) = gA A := by
  funext k l
  exact decide_eq_decide.mpr fit_cS
theorem mO_cS {A : AL} {M : MT} {x y : Nat} : mO (cS A M x y) = M := by
  refine Prod.ext ?_ (Prod.ext ?_ ?_)
  · funext k; exact @cS_ik A M x y k
  · funext l; exact @cS_hk A M x y l
  · funext l
    show cS A M x y 7 l = M.2.2 l
    rw [cS_o (by decide)]; rfl
theorem cS_mS {A : AL} {M N : MT} {x y : Nat} {a b : Nat} : aS (aS (mS (cS A M x y) N) 0 3 a) 0 4 b = cS A N a b := by
  funext i j
  unfold cS aS
  by_cases c4 : i = 0 ∧ j = 4
  · rw [if_pos c4, if_pos c4]
  · rw [if_neg c4, if_neg c4]
    by_cases c3 : i = 0 ∧ j = 3
    · rw [if_pos c3, if_pos c3]
    · rw [if_neg c3, if_neg c3]
      unfold mS
      by_cases d3 : i = 3
      · rw [if_pos d3, if_pos d3]
      · rw [if_neg d3, if_neg d3]
        by_cases d6 : i = 6
        · rw [if_pos d6, if_pos d6]
        · rw [if_neg d6, if_neg d6]
          by_cases d7 : i = 7
          · rw [if_pos d7, if_pos d7]
          · rw [if_neg d7, if_neg d7]
            show (if i = 0 ∧ j = 4 then y else if i = 0 ∧ j = 3 then x else mS A M i j) = A i j
            rw [if_neg c4, if_neg c3, mS_o d3 d6 d7]
theorem cS_self {A : AL} : cS A (mO A) (aWv A) (aWs A) = A := by
  funext i j
  unfold cS aS
  rw [mS_mO]
  by_cases c4 : i = 0 ∧ j = 4
  · rw [if_pos c4, c4.1, c4.2]
  · rw [if_neg c4]
    by_cases c3 : i = 0 ∧ j = 3
    · rw [if_pos c3, c3.1, c3.2]
    · rw [if_neg c3]
theorem Inv_cS {A : AL} {M : MT} {x y : Nat} (hI : Inv A) (h : MI (gA A) (aNk A) (aNl A) M) : Inv (cS A M x y) ∧ InvF (cS A M x y) := by
  obtain ⟨⟨h1, h2, h3, h4, h5, h6, h7⟩, hF⟩ := Inv_mS hI h
  have w : ∀ k, aWd (cS A M x y) k = aWd (mS A M) k := fun k => cS_o (by decide)
  have p : ∀ k, aPo (cS A M x y) k = aPo (mS A M) k := fun k => cS_o (by decide)
  have ik : ∀ k, aIk (cS A M x y) k = aIk (mS A M) k := fun k => cS_o (by decide)
  have hk : ∀ k, aHk (cS A M x y) k = aHk (mS A M) k := fun k => cS_o (by decide)
  have pn : ∀ k, aPn (cS A M x y) k = aPn (mS A M) k := fun k => cS_o (by decide)
  have br : ∀ k l, aBr (cS A M x y) k l = aBr (mS A M) k l := fun k l => cS_o (by omega)
  refine ⟨⟨by rw [cS_nk]; exact h1, by rw [cS_nl]; exact h2, by rw [cS_sl]; exact h3, fun k hk' => ?_, fun l hl => ?_, fun k l => by rw [br]; exact h6 k l, fun k l hkl => by rw [br]; exact h7 k l (by rw [cS_nk, cS_nl] at hkl; exact hkl)⟩, fun k hk' l e => ?_⟩
  · rw [cS_nk] at hk'
    obtain ⟨g1, g2, g3, g4⟩ := h4 k hk'
    rw [w, p, ik, cS_nl]
    exact ⟨g1, g2, g3, fun l e => by rw [hk]; exact g4 l e⟩
  · rw [cS_nl] at hl
    obtain ⟨g1, g2, g3⟩ := h5 l hl
    rw [pn, hk, cS_nk]
    exact ⟨g1, g2, fun k e => by rw [ik]; exact g3 k e⟩
  · rw [cS_nk] at hk'
    rw [ik] at e
    exact fit_cS.mpr (fit_mS.mp (hF k hk' l e))
def aRun (A : AL) : AL := aS (aS (mS A (wv (gA A) (aNk A) (aNl A) (mO A)).2) 0 3 (aWv A + 1)) 0 4 (aWs A + (wv (gA A) (aNk A) (aNl A) (mO A)).1)
section RUNC
variable {v : OV} {A : AL} {Q : Int32 → OV → OV → Prop}
theorem c_run (h : CR v A) (hI : Inv A) (hF : InvF A) {w : OV} (h0 : (LV (gA A) (aNk A) (aNl A) (mO A)).2 = 0 → ∀ w', Q 0 w' v) (h1 : ¬ (LV (gA A) (aNk A) (aNl A) (mO A)).2 = 0 → ∀ w' v', CR v' (aRun A) → Q (nI (wv (gA A) (aNk A) (aNl A) (mO A)).1) w' v') : wp_X6_run Q w v := by
  have n1 := hI.1; have n2 := hI.2.1
  have hM := MI_of hI hF
  obtain ⟨v1, v2, v3, v4⟩ := LV_ok hM n1
  unfold aRun at h1
  unfold wv at h1
  unfold wp_X6_run wp_X6_run_0
  refine c_findLevels h hI (fun w hw => ?_)
  generalize LV (gA A) (aNk A) (aNl A) (mO A) = s at h0 h1 v1 v2 v3 v4 hw
  have e3 := (lv_0 hw.2.2).1
  rw [← hw.2.1] at e3
  refine ⟨fun z => ?_, fun z => h0 (e3.mp z) w⟩
  have s0 : ¬ s.2 = 0 := fun y => z (e3.mpr y)
  replace h1 := h1 s0
  rw [if_neg s0] at h1
  obtain ⟨W, hW⟩ : ∃ W : Nat → RT, ∀ i, W i = wvl (gA A) (aNl A) s.1 s.2 i (mO A) := ⟨_, fun _ => rfl⟩
  have W0 : W 0 = (0, fun _ => 0, mO A) := by rw [hW]; rfl
  have Ws : ∀ i, W (i + 1) = wvs (gA A) (aNl A) s.1 s.2 i (W i) := fun i => by rw [hW, hW]; rfl
  have Wok : ∀ i, i ≤ aNk A → MI (gA A) (aNk A) (aNl A) (W i).2.2 := fun i hi => by
    rw [hW]
    exact (wvl_ok hM v3 (fun k hk e => ((v1.1 k).mp e).2) i hi).1
  rw [← hW] at h1
  have key : ∀ d i w v, i + d = aNk A → CR v (mS A (W i).2.2) → WRr (w.1 0) (w.2 2) s → WU (w.1 1) (W i).2.1 → wp_X6_run_40_loop Q (d + 1) (nI (W i).1) (nI i) w v := fun d => by
    induction d with
    | zero =>
      intro i w v hi hv hw hu
      have hi : i = aNk A := by omega
      subst hi
      have e8 : v.2 8 = nI (aNk A) := hv.1
      have e11 : v.2 11 = nI (aWv A) := hv.2.2.2.1
      have e12 : v.2 12 = nI (aWs A) := hv.2.2.2.2.1
      refine br_t (by rw [e8]; exact nI_le (Nat.le_refl _) (by omega)) ?_
      rintro _ rfl
      rintro _ rfl
      refine h1 w _ ?_
      rw [e11, nI_1, sI_oth (by decide), e12, nI_add]
      exact CR_i12 (CR_i11 hv (aWv A + 1)) (aWs A + (W (aNk A)).1)
    | succ d ih =>
      intro i w v hi hv hw hu
      have hik : i < aNk A := by omega
      have e8 : v.2 8 = nI (aNk A) := hv.1
      have ei := hw.1 i (by omega)
      have eq : w.1 0 i = 0 ↔ s.1 i = 1 := by
        rw [ei.1, ← nI_0]
        exact lv_eq ei.2 (by omega)
      have next : ∀ w v, CR v (mS A (W (i + 1)).2.2) → WRr (w.1 0) (w.2 2) s → WU (w.1 1) (W (i + 1)).2.1 → wp_X6_run_69 Q (wp_X6_run_40_loop Q (d + 1)) (nI (W (i + 1)).1) (nI i) w v := fun w v a b c => by
        rintro _ rfl
        rw [nI_1]
        exact ih (i + 1) w v (by omega) a b c
      rw [Ws i] at next
      refine br_f (by rw [e8]; exact nI_ge hik (by omega)) (c_levelAt (by omega) ⟨fun z => ?_, fun z => ?_⟩)
      · unfold wvs at next
        rw [if_neg fun y => z (eq.mpr y)] at next
        exact next w v hv hw hu
      · have l1 := eq.mp z
        unfold wvs at next
        rw [if_pos l1] at next
        have tr := tk_ok (L := s.1) (Wok i (by omega)) v3 12 i (W i).2.1 hik (by omega) (by omega)
        refine c_takeWay hI v3 12 i 0 (W i).2.1 (W i).2.2 w v _ (Wok i (by omega)) hik l1 (by omega) (by omega) hv hw hu (fun w' v' a b c => ?_)
        generalize tk (gA A) (aNl A) s.1 s.2 12 i (W i).2.1 (W i).2.2 = q at next tr a c ⊢
        have e1 : (wva (W i) q).1 = (W i).1 + q.1 := rfl
        rw [e1] at next
        rcases tr with ⟨r1, _⟩ | ⟨r1, _⟩
        · rw [r1] at next ⊢
          exact ⟨fun _ => next w' v' a b c, fun y => absurd rfl y⟩
        · rw [r1] at next ⊢
          refine ⟨fun y => absurd y (by decide), fun _ => ?_⟩
          rintro _ rfl
          rw [nI_1]
          exact next w' v' a b c
  have beg : ∀ d i w, i + d = 10 → WRr (w.1 0) (w.2 2) s → (∀ k, k < i → w.1 1 k = nI 0) → wp_X6_run_17_loop Q (d + 1) (nI i) w v := fun d => by
    induction d with
    | zero =>
      intro i w hi hw hu
      have hi : i = 10 := by omega
      subst hi
      refine br_t (by decide) ⟨aNk A + 1, ?_⟩
      have k0 := key (aNk A) 0 w v (by omega)
      rw [W0] at k0
      exact k0 (by show CR v (mS A (mO A)); rw [mS_mO]; exact h) hw (fun k hk => ⟨hu k hk, Nat.zero_le _⟩)
    | succ d ih =>
      intro i w hi hw hu
      refine br_f (by rw [ten]; exact nI_ge (by omega) (by omega)) ⟨vp_in_nI (by omega) (by omega), ?_⟩
      rintro _ rfl
      rintro _ rfl
      rw [nI_1, nI_clamp (by omega), nar0]
      refine ih (i + 1) _ (by omega) (by rw [sA_oth (by decide)]; exact hw) (fun k hk => ?_)
      rw [sA_row]
      by_cases c : k = i
      · rw [c, pk_us]
      · rw [pk_un c]; exact hu k (by omega)
  exact ⟨11, beg 10 0 w (by omega) hw (fun k hk => absurd hk (Nat.not_lt_zero k))⟩
theorem c_runs {M : MT} {x y : Nat} (h : CR v (cS A M x y)) (hI : Inv A) (hM : MI (gA A) (aNk A) (aNl A) M) {w : OV} (h0 : (LV (gA A) (aNk A) (aNl A) M).2 = 0 → ∀ w', Q 0 w' v) (h1 : ¬ (LV (gA A) (aNk A) (aNl A) M).2 = 0 → ∀ w' v', CR v' (cS A (wv (gA A) (aNk A) (aNl A) M).2 (x + 1) (y + (wv (gA A) (aNk A) (aNl A) M).1)) → Q (nI (wv (gA A) (aNk A) (aNl A) M).1) w' v') : wp_X6_run Q w v := by
  obtain ⟨i1, i2⟩ := Inv_cS (x := x) (y := y) hI hM
  have e : aRun (cS A M x y) = cS A (wv (gA A) (aNk A) (aNl A) M).2 (x + 1) (y + (wv (gA A) (aNk A) (aNl A) M).1) := by
    unfold aRun
    rw [gA_cS, mO_cS, cS_nk, cS_nl, cS_mS]
    have e3 : aWv (cS A M x y) = x := by simp [cS, aS]
    have e4 : aWs (cS A M x y) = y := by simp [cS, aS]
    rw [e3, e4]
  refine c_run h i1 i2 (fun z => ?_) (fun z w' v' hv => ?_)
  · rw [gA_cS, mO_cS, cS_nk, cS_nl] at z
    exact h0 z
  · rw [gA_cS, mO_cS, cS_nk, cS_nl] at z ⊢
    rw [e] at hv
    exact h1 z w' v' hv
theorem c_runToEnd {M : MT} {x y : Nat} (h : CR v (cS A M x y)) (hI : Inv A) (hM : MI (gA A) (aNk A) (aNl A) M) {w : OV} (hq : ∀ w' v' x' y', CR v' (cS A (wvE (gA A) (aNk A) (aNl A) 11 M).2 x' y') → Q (nI (wvE (gA A) (aNk A) (aNl A) 11 M).1) w' v') : wp_X6_runToEnd Q w v := by
  have n1 := hI.1; have n2 := hI.2.1
  have key : ∀ f i M x y w v, i + f = 10 → i ≤ sz (aNl A) M → CR v (cS A M x y) → MI (gA A) (aNk A) (aNl A) M → (∀ w' v' x' y', CR v' (cS A (wvE (gA A) (aNk A) (aNl A) (f + 1) M).2 x' y') → Q (nI (i + (wvE (gA A) (aNk A) (aNl A) (f + 1) M).1)) w' v') → wp_X6_runToEnd_2_loop Q (f + 1) (nI i) w v := fun f => by
    induction f with
    | zero =>
      intro i M x y w v hi hs hv hM hq
      have hi : i = 10 := by omega
      subst hi
      refine br_t (by decide) ?_
      obtain ⟨g1, g2, g3⟩ := wv_ok hM n1
      have : sz (aNl A) (wv (gA A) (aNk A) (aNl A) M).2 ≤ aNl A := ct_n
      have c : (wv (gA A) (aNk A) (aNl A) M).1 = 0 := by omega
      have e : wvE (gA A) (aNk A) (aNl A) (0 + 1) M = (0, M) := by
        rw [wvE, if_pos c, (g3 c).2]
      rw [e] at hq
      exact hq w v x y hv
    | succ f ih =>
      intro i M x y w v hi hs hv hM hq
      obtain ⟨g1, g2, g3⟩ := wv_ok hM n1
      refine br_f (by rw [ten]; exact nI_ge (by omega) (by omega)) (c_runs hv hI hM (fun z w' => ⟨fun _ => ?_, fun z => absurd (show (0 : Int32) ≤ 0 by decide) z⟩) (fun z w' v' hv' => ?_))
      · have c : (wv (gA A) (aNk A) (aNl A) M).1 = 0 := by
          unfold wv
          rw [if_pos z]
        have e : wvE (gA A) (aNk A) (aNl A) (f + 1 + 1) M = (0, M) := by
          rw [wvE, if_pos c, (g3 c).2]
        rw [e] at hq
        exact hq w' v x y hv
      · have c : ¬ (wv (gA A) (aNk A) (aNl A) M).1 = 0 := fun y => z (g3 y).1
        have le : sz (aNl A) (wv (gA A) (aNk A) (aNl A) M).2 ≤ aNl A := ct_n
        refine ⟨fun y => ?_, fun _ => ?_⟩
        · exact absurd ((nI_leI (a := (wv (gA A) (aNk A) (aNl A) M).1) (b := 0) (by omega) (by omega)).mp (by rw [nI_0]; exact y)) (by omega)
        · rintro _ rfl
          rw [nI_1]
          rw [wvE, if_neg c] at hq
          refine ih (i + 1) _ _ _ w' v' (by omega) (by omega) hv' g1 (fun w'' v'' x' y' b => ?_)
          have t := hq w'' v'' x' y' b
          have e : i + 1 + (wvE (gA A) (aNk A) (aNl A) (f + 1) (wv (gA A) (aNk A) (aNl A) M).2).1 = i + ((wvE (gA A) (aNk A) (aNl A) (f + 1) (wv (gA A) (aNk A) (aNl A) M).2).1 + 1) := by omega
          rw [e]
          exact t
  refine ⟨11, key 10 0 M x y w v (by omega) (Nat.zero_le _) h hM (fun w' v' x' y' a => ?_)⟩
  rw [Nat.zero_add]
  exact hq w' v' x' y' a
end RUNC
