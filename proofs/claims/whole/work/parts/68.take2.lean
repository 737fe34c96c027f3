/-- only the row g and the marks are others -/
def MGT (m m' : OV) : Prop := (∀ j, j ≠ 0 → j ≠ 19 → m'.1 j = m.1 j) ∧ m'.2 = m.2
theorem MGT.rfl' {m : OV} : MGT m m := ⟨fun _ _ _ => rfl, rfl⟩
theorem MGT.tr {m m' m'' : OV} (h : MGT m m') (h' : MGT m' m'') : MGT m m'' := ⟨fun j h0 h1 => (h'.1 j h0 h1).trans (h.1 j h0 h1), h'.2.trans h.2⟩
theorem MGT.mg {m m' : OV} (h : MG m m') : MGT m m' := ⟨fun j h0 _ => h.1 j h0, h.2⟩
theorem MGT.sA19 {m : OV} (i : Nat) (x : Int32) : MGT m (sA m 19 i x) := ⟨fun j _ h1 => sA_oth h1, rfl⟩
theorem WRr.mgt {m m' : OV} {s : LVS} (h : WRr (m.1 18) (m.2 20) s) (hg : MGT m m') : WRr (m'.1 18) (m'.2 20) s := by
  rw [hg.1 18 (by decide) (by decide), hg.2]; exact h
theorem m_takes {A : AL} (hI : Inv A) {L : Nat → Nat} {last : Nat} (hb : last ≤ 10) : ∀ n k t U M m (Q : Int32 → OV → Prop), MI (gA A) (aNk A) (aNl A) M → k < aNk A → L k = t + 1 → t ≤ 9 → 13 ≤ n + L k → RR (m.1 0) (mS A M) → WRr (m.1 18) (m.2 20) (L, last) → WU (m.1 19) U → (∀ m', RR (m'.1 0) (mS A (tk (gA A) (aNl A) L last n k U M).2.2) → WU (m'.1 19) (tk (gA A) (aNl A) L last n k U M).2.1 → MGT m m' → Q (nI (tk (gA A) (aNl A) L last n k U M).1) m') → wp_X8_takes n Q (nI k) m := by
  intro n
  induction n with
  | zero => intro k t U M m Q _ _ h1 h2 h3; exact absurd h3 (by omega)
  | succ n ih =>
    intro k t U M m0 Q hM hk hL ht hn hv hw0 hu hq
    have n1 := hI.1; have n2 := hI.2.1
    have inner : ∀ d l U m, l + d = aNl A → RR (m.1 0) (mS A M) → MGT m0 m → WU (m.1 19) U → (∀ m', RR (m'.1 0) (mS A (tkl (gA A) L last (tk (gA A) (aNl A) L last n) k d l U M).2.2) → WU (m'.1 19) (tkl (gA A) L last (tk (gA A) (aNl A) L last n) k d l U M).2.1 → MGT m0 m' → Q (nI (tkl (gA A) L last (tk (gA A) (aNl A) L last n) k d l U M).1) m') → wp_X8_takes_2_loop Q (wp_X8_takes n) (d + 1) (nI k) (nI l) m := fun d => by
      induction d with
      | zero =>
        intro l U m hl hv hg hu hq
        have hl : l = aNl A := by omega
        subst hl
        have e9 : m.1 0 1 = nI (aNl A) := hv.2.1
        refine ⟨v1i, br_t (by rw [cn1, e9]; exact nI_le (Nat.le_refl _) (by omega)) ⟨vp_in_nI (by omega) (by omega), ?_⟩⟩
        rintro _ rfl
        rw [nI_clamp (by omega), nar1]
        refine hq _ (by rw [sA_oth (by decide)]; exact hv) ?_ (hg.tr (MGT.sA19 _ _))
        rw [sA_row]
        exact WU_set hu k
      | succ d ihd =>
        intro l U m hl hv hg hu hq
        have hll : l < aNl A := by omega
        have hw := hw0.mgt hg
        have e9 : m.1 0 1 = nI (aNl A) := hv.2.1
        have hIW := InvW_mS hI hM.w
        have cont : ∀ U' m', RR (m'.1 0) (mS A M) → MGT m0 m' → WU (m'.1 19) U' → (∀ m'', RR (m''.1 0) (mS A (tkl (gA A) L last (tk (gA A) (aNl A) L last n) k d (l + 1) U' M).2.2) → WU (m''.1 19) (tkl (gA A) L last (tk (gA A) (aNl A) L last n) k d (l + 1) U' M).2.1 → MGT m0 m'' → Q (nI (tkl (gA A) L last (tk (gA A) (aNl A) L last n) k d (l + 1) U' M).1) m'') → wp_X8_takes_105 Q (wp_X8_takes n) (wp_X8_takes_2_loop Q (wp_X8_takes n) (d + 1)) (nI k) (nI l) m' := fun U' m' a b c e => by
          rintro _ rfl
          rw [nI_1]
          exact ihd (l + 1) U' m' (by omega) a b c e
        have no : ∀ U' m', RR (m'.1 0) (mS A M) → MGT m0 m' → WU (m'.1 19) U' → (∀ m'', RR (m''.1 0) (mS A (tkl (gA A) L last (tk (gA A) (aNl A) L last n) k d (l + 1) U' M).2.2) → WU (m''.1 19) (tkl (gA A) L last (tk (gA A) (aNl A) L last n) k d (l + 1) U' M).2.1 → MGT m0 m'' → Q (nI (tkl (gA A) L last (tk (gA A) (aNl A) L last n) k d (l + 1) U' M).1) m'') → wp_X8_takes_86 Q (wp_X8_takes n) (wp_X8_takes_2_loop Q (wp_X8_takes n) (d + 1)) (nI k) (nI l) m' := fun U' m' a b c e =>
          ⟨fun z => absurd rfl z, fun _ => cont U' m' a b c e⟩
        have pl : ∀ M' m', MW (aNk A) (aNl A) M' → RR (m'.1 0) (mS A M') → (∀ m'', RR (m''.1 0) (mS A (put M' k l)) → MG m' m'' → Q 1 m'') → wp_X8_takes_82 Q (wp_X8_takes n) (wp_X8_takes_2_loop Q (wp_X8_takes n) (d + 1)) (nI k) (nI l) m' := fun M' m' a b e =>
          ⟨fun _ => mw_puts b (InvW_mS hI a) hk hll (fun m'' z y => e m'' (by rw [← mS_put]; exact z) y), fun z => absurd z (by decide)⟩
        refine ⟨v1i, br_f (by rw [cn1, e9]; exact nI_ge hll (by omega)) (mw_isFit hv hIW hk hll ⟨fun c => ?_, fun c => ?_⟩)⟩
        · have g : gA A k l = true := gA_t.mpr (fit_mS.mp (Classical.not_not.mp fun z => c (b01_0.mpr z)))
          refine mw_Hk hv hIW hll ?_
          by_cases e0 : M.2.1 l = 0
          · have ek : aHk (mS A M) l = 0 := e0
            rw [ek]
            refine ⟨fun _ => pl M m hM.w hv (fun m'' z y => ?_), fun z => absurd (show nI 0 - 1 < (0 : Int32) by decide) z⟩
            rw [tkl_0 g e0] at hq
            exact hq m'' z (by rw [y.1 19 (by decide)]; exact hu) (hg.tr (MGT.mg y))
          · obtain ⟨j, hm⟩ : ∃ j, M.2.1 l = j + 1 := ⟨M.2.1 l - 1, by omega⟩
            have hmk := (hM.2 l j hll hm).1
            have ek : aHk (mS A M) l = j + 1 := hm
            rw [ek, nI_pred]
            have hj10 : j < 10 := by omega
            have vj : vp_in (nI j) 10 := vp_in_nI hj10 (by omega)
            have ej := hw.1 j hj10
            have ekk := hw.1 k (by omega)
            have ek2 : m.1 18 k = nI t := by
              rw [ekk.1]
              show nI (L k) - 1 = nI t
              rw [hL, nI_pred]
            have e1 : m.1 18 j = nI (t + 1) ↔ L j = t + 1 + 1 := by
              rw [ej.1]
              exact lv_eq ej.2 (by omega)
            have e2 : m.2 20 < nI (t + 1) ↔ last ≤ t + 1 := by
              rw [hw.2.1]
              exact lvl_lt hw.2.2 (by omega)
            have e3 := WU_0 hu hj10
            have miss : ¬ (L j = L k + 1 ∧ L j ≤ last ∧ U j = 0) → wp_X8_takes_86 Q (wp_X8_takes n) (wp_X8_takes_2_loop Q (wp_X8_takes n) (d + 1)) (nI k) (nI l) m := fun e => by
              rw [tkl_x g hm e] at hq
              exact no U m hv hg hu hq
            refine ⟨fun z => absurd z (nI_pos (by omega)), fun _ => ⟨vj, vp_in_nI (by omega) (by omega), ?_⟩⟩
            rw [nI_clamp (show j < 2 ^ 31 by omega), nI_clamp (show k < 2 ^ 31 by omega), ek2, nI_1]
            refine ⟨fun z => miss fun y => z (e1.mpr (by omega)), fun z => ⟨vj, ?_⟩⟩
            rw [z]
            refine ⟨fun y => miss fun x => ?_, fun y => ⟨vj, fun x => miss fun u => x (e3.mpr u.2.2), fun x => ?_⟩⟩
            · have := e2.mp y
              omega
            · have a1 := e1.mp z
              have a2 : ¬ last ≤ t + 1 := fun u => y (e2.mpr u)
              have e' : L j = L k + 1 ∧ L j ≤ last ∧ U j = 0 := ⟨by omega, by omega, e3.mp x⟩
              rw [tkl_r g hm e'] at hq
              have tr := tk_ok (L := L) hM hb n j U hmk (by omega) (by omega)
              refine ih j (t + 1) U M m _ hM hmk a1 (by omega) (by omega) hv hw hu (fun m' a b c => ?_)
              generalize tk (gA A) (aNl A) L last n j U M = r at hq tr a b c ⊢
              rcases tr with ⟨r1, r2, r3, r4, r5⟩ | ⟨r1, r2⟩
              · rw [r1]
                unfold tke at hq
                rw [if_pos r1, r2] at hq
                rw [r2] at a
                exact ⟨fun _ => no r.2.1 m' a (hg.tr c) b hq, fun z => absurd rfl z⟩
              · rw [r1]
                unfold tke at hq
                rw [if_neg (by omega)] at hq
                exact ⟨fun z => absurd z (by decide), fun _ => pl r.2.2 m' r2.w a (fun m'' z y => hq m'' z (by rw [y.1 19 (by decide)]; exact b) ((hg.tr c).tr (MGT.mg y)))⟩
        · have g : ¬ gA A k l = true := fun z => (b01_0.mp c) (fit_mS.mpr (gA_t.mp z))
          rw [tkl_n g] at hq
          exact cont U m hv hg hu hq
    exact ⟨aNl A + 1, inner (aNl A) 0 U m0 (by omega) hv MGT.rfl' hu hq⟩
