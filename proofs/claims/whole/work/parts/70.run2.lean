/-! a wave, and waves to the end: the reference's rows -/
def MGA (m m' : OV) : Prop := (∀ j, j ≠ 0 → j ≠ 18 → j ≠ 19 → m'.1 j = m.1 j) ∧ ∀ j, j ≠ 20 → m'.2 j = m.2 j
theorem MGA.rfl' {m : OV} : MGA m m := ⟨fun _ _ _ _ => rfl, fun _ _ => rfl⟩
theorem MGA.tr {m m' m'' : OV} (h : MGA m m') (h' : MGA m' m'') : MGA m m'' := ⟨fun j h0 h1 h2 => (h'.1 j h0 h1 h2).trans (h.1 j h0 h1 h2), fun j hj => (h'.2 j hj).trans (h.2 j hj)⟩
theorem MGL.a {m m' : OV} (h : MGL m m') : MGA m m' := ⟨fun j _ h1 _ => h.1 j h1, h.2⟩
theorem MGT.a {m m' : OV} (h : MGT m m') : MGA m m' := ⟨fun j h0 _ h2 => h.1 j h0 h2, fun j _ => by rw [h.2]⟩
theorem MG.a {m m' : OV} (h : MG m m') : MGA m m' := ⟨fun j h0 _ _ => h.1 j h0, fun j _ => by rw [h.2]⟩
section RUNM
variable {A : AL} {Q : Int32 → OV → Prop}
theorem m_adds0 {m : OV} (h : RR (m.1 0) A) (hI : Inv A) (hF : InvF A) (hq : ∀ m', RR (m'.1 0) (mS A (wv (gA A) (aNk A) (aNl A) (mO A)).2) → MGA m m' → Q (nI (wv (gA A) (aNk A) (aNl A) (mO A)).1) m') : wp_X8_adds0 Q m := by
  have n1 := hI.1; have n2 := hI.2.1
  have hM := MI_of hI hF
  obtain ⟨v1, v2, v3, v4⟩ := LV_ok hM n1
  unfold wv at hq
  unfold wp_X8_adds0 wp_X8_adds0_0
  refine m_levels h hI (fun m1 hr hw hg => ?_)
  generalize LV (gA A) (aNk A) (aNl A) (mO A) = s at hq v1 v2 v3 v4 hw ⊢
  refine ⟨fun z => ?_, fun z => ?_⟩
  · have s0 : ¬ s.2 = 0 := Classical.not_not.mp fun y => z (b01_0.mpr y)
    rw [if_neg s0] at hq
    obtain ⟨W, hW⟩ : ∃ W : Nat → RT, ∀ i, W i = wvl (gA A) (aNl A) s.1 s.2 i (mO A) := ⟨_, fun _ => rfl⟩
    have W0 : W 0 = (0, fun _ => 0, mO A) := by rw [hW]; rfl
    have Ws : ∀ i, W (i + 1) = wvs (gA A) (aNl A) s.1 s.2 i (W i) := fun i => by rw [hW, hW]; rfl
    have Wok : ∀ i, i ≤ aNk A → MI (gA A) (aNk A) (aNl A) (W i).2.2 := fun i hi => by
      rw [hW]
      exact (wvl_ok hM v3 (fun k hk e => ((v1.1 k).mp e).2) i hi).1
    rw [← hW] at hq
    have key : ∀ d i m', i + d = aNk A → RR (m'.1 0) (mS A (W i).2.2) → MGA m m' → WRr (m'.1 18) (m'.2 20) s → WU (m'.1 19) (W i).2.1 → wp_X8_adds0_34_loop Q (d + 1) (nI (W i).1) (nI i) m' := fun d => by
      induction d with
      | zero =>
        intro i m' hi hv hg hw hu
        have hi : i = aNk A := by omega
        subst hi
        have e8 : m'.1 0 0 = nI (aNk A) := hv.1
        exact ⟨v0i, br_t (by rw [cn0, e8]; exact nI_le (Nat.le_refl _) (by omega)) (hq m' hv hg)⟩
      | succ d ih =>
        intro i m' hi hv hg hw hu
        have hik : i < aNk A := by omega
        have e8 : m'.1 0 0 = nI (aNk A) := hv.1
        have ei := hw.1 i (by omega)
        have eq : m'.1 18 i = 0 ↔ s.1 i = 1 := by
          rw [ei.1, ← nI_0]
          exact lv_eq ei.2 (by omega)
        have next : ∀ m'' x, x = nI (W (i + 1)).1 → RR (m''.1 0) (mS A (W (i + 1)).2.2) → MGA m m'' → WRr (m''.1 18) (m''.2 20) s → WU (m''.1 19) (W (i + 1)).2.1 → ∀ i10 : Int32, i10 = nI i + 1 → wp_X8_adds0_34_loop Q (d + 1) x i10 m'' := fun m'' x hx a b c e => by
          rintro _ rfl
          rw [nI_1, hx]
          exact ih (i + 1) m'' (by omega) a b c e
        rw [Ws i] at next
        refine ⟨v0i, br_f (by rw [cn0, e8]; exact nI_ge hik (by omega)) ⟨vp_in_nI (by omega) (by omega), ?_⟩⟩
        rw [nI_clamp (by omega)]
        refine ⟨fun z => ?_, fun z => ?_⟩
        · unfold wvs at next
          rw [if_neg fun y => z (eq.mpr y)] at next
          rintro _ rfl
          exact next m' _ (by rw [← nI_0, nI_add, Nat.add_zero]) hv hg hw hu
        · have l1 := eq.mp z
          unfold wvs at next
          rw [if_pos l1] at next
          have tr := tk_ok (L := s.1) (Wok i (by omega)) v3 12 i (W i).2.1 hik (by omega) (by omega)
          refine m_takes hI v3 12 i 0 (W i).2.1 (W i).2.2 m' _ (Wok i (by omega)) hik l1 (by omega) (by omega) hv hw hu (fun m'' a b c => ?_)
          generalize tk (gA A) (aNl A) s.1 s.2 12 i (W i).2.1 (W i).2.2 = q at next tr a b ⊢
          have e1 : (wva (W i) q).1 = (W i).1 + q.1 := rfl
          rw [e1] at next
          rcases tr with ⟨r1, _⟩ | ⟨r1, _⟩
          · rw [r1] at next ⊢
            refine ⟨fun _ => ?_, fun y => absurd rfl y⟩
            rintro _ rfl
            exact next m'' _ (by rw [← nI_0, nI_add]) a (hg.tr c.a) (hw.mgt c) b
          · rw [r1] at next ⊢
            refine ⟨fun y => absurd y (by decide), fun _ => ?_⟩
            rintro _ rfl
            exact next m'' _ (by rw [nI_1]) a (hg.tr c.a) (hw.mgt c) b
    have beg : ∀ d i m', i + d = 10 → RR (m'.1 0) A → MGA m m' → WRr (m'.1 18) (m'.2 20) s → (∀ k, k < i → m'.1 19 k = nI 0) → wp_X8_adds0_13_loop Q (d + 1) 0 (nI i) m' := fun d => by
      induction d with
      | zero =>
        intro i m' hi hr hg hw hu
        have hi : i = 10 := by omega
        subst hi
        refine br_t (by decide) ⟨aNk A + 1, ?_⟩
        have k0 := key (aNk A) 0 m' (by omega)
        rw [W0] at k0
        exact k0 (by show RR (m'.1 0) (mS A (mO A)); rw [mS_mO]; exact hr) hg hw (fun k hk => ⟨hu k hk, Nat.zero_le _⟩)
      | succ d ih =>
        intro i m' hi hr hg hw hu
        refine br_f (by rw [ten]; exact nI_ge (by omega) (by omega)) ⟨vp_in_nI (by omega) (by omega), ?_⟩
        rintro _ rfl
        rintro _ rfl
        rw [nI_1, nI_clamp (by omega), nar0]
        refine ih (i + 1) _ (by omega) (by rw [sA_oth (by decide)]; exact hr) (hg.tr (MGT.sA19 _ _).a) (hw.mgt (MGT.sA19 _ _)) (fun k hk => ?_)
        rw [sA_row]
        by_cases c : k = i
        · rw [c, pk_us]
        · rw [pk_un c]; exact hu k (by omega)
    exact ⟨11, beg 10 0 m1 (by omega) hr hg.a hw (fun k hk => absurd hk (Nat.not_lt_zero k))⟩
  · have s0 : s.2 = 0 := Classical.not_not.mp (b01_0.mp z)
    rw [if_pos s0] at hq
    exact hq m1 (by show RR (m1.1 0) (mS A (mO A)); rw [mS_mO]; exact hr) hg.a
theorem m_addsS {M : MT} {m : OV} (h : RR (m.1 0) (mS A M)) (hI : Inv A) (hM : MI (gA A) (aNk A) (aNl A) M) (hq : ∀ m', RR (m'.1 0) (mS A (wv (gA A) (aNk A) (aNl A) M).2) → MGA m m' → Q (nI (wv (gA A) (aNk A) (aNl A) M).1) m') : wp_X8_adds0 Q m := by
  obtain ⟨i1, i2⟩ := Inv_mS hI hM
  refine m_adds0 h i1 i2 (fun m' a b => ?_)
  have e : gA (mS A M) = gA A := gA_mS
  have e2 : ∀ N, mS (mS A M) N = mS A N := fun N => by
    funext i j
    show (if i = 3 then N.1 j else if i = 6 then N.2.1 j else if i = 7 then N.2.2 j else mS A M i j) = (if i = 3 then N.1 j else if i = 6 then N.2.1 j else if i = 7 then N.2.2 j else A i j)
    by_cases d3 : i = 3
    · rw [if_pos d3, if_pos d3]
    · rw [if_neg d3, if_neg d3]
      by_cases d6 : i = 6
      · rw [if_pos d6, if_pos d6]
      · rw [if_neg d6, if_neg d6]
        by_cases d7 : i = 7
        · rw [if_pos d7, if_pos d7]
        · rw [if_neg d7, if_neg d7]
          exact mS_o d3 d6 d7
  rw [e, e2] at a
  rw [e]
  exact hq m' a b
theorem m_comesToEnd {M : MT} {m : OV} (h : RR (m.1 0) (mS A M)) (hI : Inv A) (hM : MI (gA A) (aNk A) (aNl A) M) (hq : ∀ m', RR (m'.1 0) (mS A (wvE (gA A) (aNk A) (aNl A) 11 M).2) → MGA m m' → Q (nI (wvE (gA A) (aNk A) (aNl A) 11 M).1) m') : wp_X8_comesToEnd Q m := by
  have n1 := hI.1; have n2 := hI.2.1
  have key : ∀ f i M m', i + f = 10 → i ≤ sz (aNl A) M → RR (m'.1 0) (mS A M) → MI (gA A) (aNk A) (aNl A) M → MGA m m' → (∀ m', RR (m'.1 0) (mS A (wvE (gA A) (aNk A) (aNl A) (f + 1) M).2) → MGA m m' → Q (nI (i + (wvE (gA A) (aNk A) (aNl A) (f + 1) M).1)) m') → wp_X8_comesToEnd_2_loop Q (f + 1) (nI i) m' := fun f => by
    induction f with
    | zero =>
      intro i M m' hi hs hv hM hg hq
      have hi : i = 10 := by omega
      subst hi
      obtain ⟨g1, g2, g3⟩ := wv_ok hM n1
      have : sz (aNl A) (wv (gA A) (aNk A) (aNl A) M).2 ≤ aNl A := ct_n
      have c : (wv (gA A) (aNk A) (aNl A) M).1 = 0 := by omega
      have e : wvE (gA A) (aNk A) (aNl A) (0 + 1) M = (0, (wv (gA A) (aNk A) (aNl A) M).2) := by
        rw [wvE, if_pos c]
      rw [e] at hq
      refine m_addsS hv hI hM (fun m'' a b => ?_)
      rw [c]
      exact ⟨fun _ => hq m'' a (hg.tr b), fun y => absurd (show nI 0 ≤ (0 : Int32) by decide) y⟩
    | succ f ih =>
      intro i M m' hi hs hv hM hg hq
      obtain ⟨g1, g2, g3⟩ := wv_ok hM n1
      refine m_addsS hv hI hM (fun m'' a b => ?_)
      by_cases c : (wv (gA A) (aNk A) (aNl A) M).1 = 0
      · have e : wvE (gA A) (aNk A) (aNl A) (f + 1 + 1) M = (0, (wv (gA A) (aNk A) (aNl A) M).2) := by
          rw [wvE, if_pos c]
        rw [e] at hq
        rw [c]
        exact ⟨fun _ => hq m'' a (hg.tr b), fun y => absurd (show nI 0 ≤ (0 : Int32) by decide) y⟩
      · have le : sz (aNl A) (wv (gA A) (aNk A) (aNl A) M).2 ≤ aNl A := ct_n
        refine ⟨fun y => ?_, fun _ => ?_⟩
        · exact absurd ((nI_leI (a := (wv (gA A) (aNk A) (aNl A) M).1) (b := 0) (by omega) (by omega)).mp (by rw [nI_0]; exact y)) (by omega)
        · rintro _ rfl
          rw [nI_1]
          rw [wvE, if_neg c] at hq
          refine ih (i + 1) _ m'' (by omega) (by omega) a g1 (hg.tr b) (fun m3 a3 b3 => ?_)
          have t := hq m3 a3 b3
          have e : i + 1 + (wvE (gA A) (aNk A) (aNl A) (f + 1) (wv (gA A) (aNk A) (aNl A) M).2).1 = i + ((wvE (gA A) (aNk A) (aNl A) (f + 1) (wv (gA A) (aNk A) (aNl A) M).2).1 + 1) := by omega
          rw [e]
          exact t
  refine ⟨11, key 10 0 M m (by omega) (Nat.zero_le _) h hM MGA.rfl' (fun m' a b => ?_)⟩
  rw [Nat.zero_add]
  exact hq m' a b
end RUNM
