/-- only the levels are others -/
def MGL (m m' : OV) : Prop := (∀ j, j ≠ 18 → m'.1 j = m.1 j) ∧ ∀ j, j ≠ 20 → m'.2 j = m.2 j
theorem MGL.rfl' {m : OV} : MGL m m := ⟨fun _ _ => rfl, fun _ _ => rfl⟩
theorem MGL.tr {m m' m'' : OV} (h : MGL m m') (h' : MGL m' m'') : MGL m m'' := ⟨fun j hj => (h'.1 j hj).trans (h.1 j hj), fun j hj => (h'.2 j hj).trans (h.2 j hj)⟩
theorem MGL.sA18 {m : OV} (i : Nat) (x : Int32) : MGL m (sA m 18 i x) := ⟨fun j hj => sA_oth hj, fun _ _ => rfl⟩
theorem MGL.sI20 {m : OV} (x : Int32) : MGL m (sI m 20 x) := ⟨fun _ _ => rfl, fun j hj => sI_oth hj⟩
section LEVM
variable {A : AL} {Q : Int32 → OV → Prop}
theorem m_levels {m : OV} (h : RR (m.1 0) A) (hI : Inv A) (hq : ∀ m', RR (m'.1 0) A → WRr (m'.1 18) (m'.2 20) (LV (gA A) (aNk A) (aNl A) (mO A)) → MGL m m' → Q (nI (b01 (¬ (LV (gA A) (aNk A) (aNl A) (mO A)).2 = 0))) m') : wp_X8_levels Q m := by
  have n1 := hI.1; have n2 := hI.2.1
  have kOn : ∀ {m' : OV} {i : Nat}, RR (m'.1 0) A → i < aNk A → ¬ m'.1 0 (0 : Int32).toNatClampNeg ≤ nI i := fun h' hi => by rw [cn0, h'.1]; exact nI_ge hi (by omega)
  have kEnd : ∀ {m' : OV}, RR (m'.1 0) A → m'.1 0 (0 : Int32).toNatClampNeg ≤ nI (aNk A) := fun h' => by rw [cn0, h'.1]; exact nI_le (Nat.le_refl _) (by omega)
  have lOn : ∀ {m' : OV} {i : Nat}, RR (m'.1 0) A → i < aNl A → ¬ m'.1 0 (1 : Int32).toNatClampNeg ≤ nI i := fun h' hi => by rw [cn1, h'.2.1]; exact nI_ge hi (by omega)
  have lEnd : ∀ {m' : OV}, RR (m'.1 0) A → m'.1 0 (1 : Int32).toNatClampNeg ≤ nI (aNl A) := fun h' => by rw [cn1, h'.2.1]; exact nI_le (Nat.le_refl _) (by omega)
  have key : ∀ d t m', t + d = 10 → RR (m'.1 0) A → MGL m m' → WRr (m'.1 18) (m'.2 20) (lvt (gA A) (aNk A) (aNl A) (mO A) t) → wp_X8_levels_51_loop Q (d + 1) (nI t) m' := fun d => by
    induction d with
    | zero =>
      intro t m' ht hr hg hw
      have ht : t = 10 := by omega
      subst ht
      have hq' := hq m' hr hw hg
      have e3 := (nI_m1 (show (LV (gA A) (aNk A) (aNl A) (mO A)).2 < 2 ^ 30 by
        have : (LV (gA A) (aNk A) (aNl A) (mO A)).2 ≤ 12 := hw.2.2
        omega)).2
      have e4 : m'.2 20 = nI (LV (gA A) (aNk A) (aNl A) (mO A)).2 - 1 := hw.2.1
      refine br_t (by decide) ⟨fun z => ?_, fun z => ?_⟩
      · rw [e4] at z
        rw [b01_f (fun y => y (e3.mp z))] at hq'
        exact ⟨rfl, hq'⟩
      · rw [e4] at z
        rw [b01_t (show ¬ (LV (gA A) (aNk A) (aNl A) (mO A)).2 = 0 from fun y => z (e3.mpr y))] at hq'
        exact ⟨rfl, hq'⟩
    | succ d ih =>
      intro t m' ht hr hg hw
      have inner : ∀ d' i m', i + d' = aNk A → RR (m'.1 0) A → MGL m m' → WRr (m'.1 18) (m'.2 20) (lvk (gA A) (mO A) (aNl A) t i (lvt (gA A) (aNk A) (aNl A) (mO A) t)) → wp_X8_levels_59_loop Q (wp_X8_levels_51_loop Q (d + 1)) (d' + 1) (nI t) (nI i) m' := fun d' => by
        induction d' with
        | zero =>
          intro i m' hi hr hg hw
          have hi : i = aNk A := by omega
          subst hi
          refine ⟨v0i, br_t (kEnd hr) ?_⟩
          rintro _ rfl
          rw [nI_1]
          exact ih (t + 1) m' (by omega) hr hg hw
        | succ d' ih' =>
          intro k m' hi hr hg hw
          have hik : k < aNk A := by omega
          have next : ∀ m', RR (m'.1 0) A → MGL m m' → WRr (m'.1 18) (m'.2 20) (lvs (gA A) (mO A) (aNl A) t k (lvk (gA A) (mO A) (aNl A) t k (lvt (gA A) (aNk A) (aNl A) (mO A) t))) → wp_X8_levels_167 Q (wp_X8_levels_51_loop Q (d + 1)) (wp_X8_levels_59_loop Q (wp_X8_levels_51_loop Q (d + 1)) (d' + 1)) (nI t) (nI k) m' := fun m' hr' hg' hw' => by
            rintro _ rfl
            rw [nI_1]
            exact ih' (k + 1) m' (by omega) hr' hg' hw'
          generalize lvk (gA A) (mO A) (aNl A) t k (lvt (gA A) (aNk A) (aNl A) (mO A) t) = s0 at hw next
          have ei := hw.1 k (by omega)
          have eq := lv_eq ei.2 (show t ≤ 12 by omega)
          refine ⟨v0i, br_f (kOn hr hik) ⟨vp_in_nI (by omega) (by omega), ?_⟩⟩
          rw [nI_clamp (show k < 2 ^ 31 by omega), ei.1]
          refine ⟨fun z => ?_, fun z => ?_⟩
          · -- the locks that the key fits
            have nx : ∀ m', RR (m'.1 0) A → MGL m m' → WRr (m'.1 18) (m'.2 20) (lvl (gA A) (mO A) t k (aNl A) s0) → wp_X8_levels_167 Q (wp_X8_levels_51_loop Q (d + 1)) (wp_X8_levels_59_loop Q (wp_X8_levels_51_loop Q (d + 1)) (d' + 1)) (nI t) (nI k) m' := fun m' a b c => next m' a b (by
              unfold lvs
              rw [if_pos (eq.mp z)]; exact c)
            have lock : ∀ e i m', i + e = aNl A → RR (m'.1 0) A → MGL m m' → WRr (m'.1 18) (m'.2 20) (lvl (gA A) (mO A) t k i s0) → wp_X8_levels_84_loop Q (wp_X8_levels_51_loop Q (d + 1)) (wp_X8_levels_59_loop Q (wp_X8_levels_51_loop Q (d + 1)) (d' + 1)) (e + 1) (nI t) (nI k) (nI i) m' := fun e => by
              induction e with
              | zero =>
                intro i m' hi hr hg hw
                have hi : i = aNl A := by omega
                subst hi
                exact ⟨v1i, br_t (lEnd hr) (nx m' hr hg hw)⟩
              | succ e ih'' =>
                intro i m' hi hr hg hw
                have hil : i < aNl A := by omega
                have nxt : ∀ m', RR (m'.1 0) A → MGL m m' → WRr (m'.1 18) (m'.2 20) (lstp (gA A) (mO A) t k i (lvl (gA A) (mO A) t k i s0)) → wp_X8_levels_161 Q (wp_X8_levels_51_loop Q (d + 1)) (wp_X8_levels_59_loop Q (wp_X8_levels_51_loop Q (d + 1)) (d' + 1)) (wp_X8_levels_84_loop Q (wp_X8_levels_51_loop Q (d + 1)) (wp_X8_levels_59_loop Q (wp_X8_levels_51_loop Q (d + 1)) (d' + 1)) (e + 1)) (nI t) (nI k) (nI i) m' := fun m' hr' hg' hw' => by
                  rintro _ rfl
                  rw [nI_1]
                  exact ih'' (i + 1) m' (by omega) hr' hg' hw'
                generalize lvl (gA A) (mO A) t k i s0 = s1 at hw nxt
                refine ⟨v1i, br_f (lOn hr hil) (m_isFit hr hI hik hil ⟨fun c => ?_, fun c => ?_⟩)⟩
                · have g : gA A k i = true := gA_t.mpr (Classical.not_not.mp fun z => c (b01_0.mpr z))
                  refine m_Hk hr hI hil ?_
                  by_cases e0 : aHk A i = 0
                  · rw [e0]
                    refine ⟨fun z => absurd z (by decide), fun _ => ?_⟩
                    rw [lstp_0 (M := mO A) g e0] at nxt
                    have fin : ∀ x, WRr (m'.1 18) x (s1.1, if s1.2 = 0 then t + 1 else s1.2) → wp_X8_levels_135 Q (wp_X8_levels_51_loop Q (d + 1)) (wp_X8_levels_59_loop Q (wp_X8_levels_51_loop Q (d + 1)) (d' + 1)) (wp_X8_levels_84_loop Q (wp_X8_levels_51_loop Q (d + 1)) (wp_X8_levels_59_loop Q (wp_X8_levels_51_loop Q (d + 1)) (d' + 1)) (e + 1)) (nI t) (nI k) (nI i) x m' := fun x hx => by
                      rintro _ rfl
                      exact nxt _ hr (hg.tr (MGL.sI20 x)) (by rw [sI_at]; exact hx)
                    have e3 := (lv_0 hw.2.2).2
                    rw [← hw.2.1] at e3
                    refine ⟨fun z => fin _ ?_, fun z => fin _ ?_⟩
                    · rw [if_neg (e3.mp z)]; exact hw
                    · rw [if_pos (Classical.not_not.mp fun y => z (e3.mpr y))]; exact WRr_l hw (by omega)
                  · obtain ⟨j, hm⟩ : ∃ j, aHk A i = j + 1 := ⟨aHk A i - 1, by omega⟩
                    have hmk : j < aNk A := by have := (hI.2.2.2.2.1 i hil).2.1; omega
                    rw [hm, nI_pred]
                    have hm10 : j < 10 := by omega
                    have vm : vp_in (nI j) 10 := vp_in_nI hm10 (by omega)
                    have em := hw.1 j hm10
                    refine ⟨fun _ => ⟨vm, ?_⟩, fun z => absurd (nI_pos' (by omega)) z⟩
                    rw [nI_clamp (by omega), em.1]
                    refine ⟨fun z => ?_, fun z => ⟨vm, ?_⟩⟩
                    · rw [lstp_b (M := mO A) g hm ((lv_0 em.2).2.mp z)] at nxt
                      exact nxt m' hr hg hw
                    · rw [lstp_a (M := mO A) g hm (Classical.not_not.mp fun y => z ((lv_0 em.2).2.mpr y))] at nxt
                      rintro _ rfl
                      refine nxt _ (by rw [sA_oth (by decide)]; exact hr) (hg.tr (MGL.sA18 _ _)) ?_
                      rw [sA_row]
                      exact WRr_a hw (by omega) j
                · have g : ¬ gA A k i = true := fun z => (b01_0.mp c) (gA_t.mp z)
                  rw [lstp_n g] at nxt
                  exact nxt m' hr hg hw
            exact ⟨aNl A + 1, lock (aNl A) 0 m' (by omega) hr hg hw⟩
          · refine next m' hr hg ?_
            unfold lvs
            rw [if_neg fun y => z (eq.mpr y)]; exact hw
      exact br_f (by rw [ten]; exact nI_ge (by omega) (by omega)) ⟨aNk A + 1, inner (aNk A) 0 m' (by omega) hr hg hw⟩
  have beg : ∀ d i m', i + d = 10 → RR (m'.1 0) A → MGL m m' → (∀ k, k < i → m'.1 18 k = nI ((lv0 (aNk A) (mO A)).1 k) - 1) → wp_X8_levels_2_loop Q (d + 1) (nI i) m' := fun d => by
    induction d with
    | zero =>
      intro i m' hi hr hg hw
      have hi : i = 10 := by omega
      subst hi
      refine br_t (by decide) ?_
      rintro _ rfl
      refine ⟨11, key 10 0 _ (by omega) hr (hg.tr (MGL.sI20 _)) ⟨fun k hk => ⟨hw k hk, ?_⟩, ?_, Nat.zero_le _⟩⟩
      · show (if k < aNk A ∧ (mO A).1 k = 0 then 1 else 0) ≤ 12
        split <;> omega
      · show (sI m' 20 (-1 : Int32)).2 20 = nI 0 - 1
        rw [sI_at]; decide
    | succ d ih =>
      intro i m' hi hr hg hw
      have next : ∀ x, x = nI ((lv0 (aNk A) (mO A)).1 i) - 1 → wp_X8_levels_37 Q (wp_X8_levels_2_loop Q (d + 1)) (nI i) (nI i) x m' := fun x hx => by
        refine ⟨vp_in_nI (by omega) (by omega), ?_⟩
        rintro _ rfl
        rintro _ rfl
        rw [nI_1, nI_clamp (by omega)]
        refine ih (i + 1) _ (by omega) (by rw [sA_oth (by decide)]; exact hr) (hg.tr (MGL.sA18 _ _)) (fun k hk => ?_)
        rw [sA_row]
        by_cases c : k = i
        · rw [c, pk_us]; exact hx
        · rw [pk_un c]; exact hw k (by omega)
      have no : ¬ (i < aNk A ∧ (mO A).1 i = 0) → wp_X8_levels_36 Q (wp_X8_levels_2_loop Q (d + 1)) (nI i) (nI i) m' := fun hn => by
        refine next _ ?_
        show (-1 : Int32) = nI (if i < aNk A ∧ (mO A).1 i = 0 then 1 else 0) - 1
        rw [if_neg hn]; decide
      refine br_f (by rw [ten]; exact nI_ge (by omega) (by omega)) ⟨v0i, ?_⟩
      by_cases c : i < aNk A
      · have e3 := nI_m1 (ik_lt hI c)
        refine br_f (kOn hr c) (m_Ik hr hI c ⟨fun z => no fun y => absurd (e3.2.mpr y.2) (Int32.not_lt.mpr z), fun z => next _ ?_⟩)
        show (0 : Int32) = nI (if i < aNk A ∧ (mO A).1 i = 0 then 1 else 0) - 1
        rw [if_pos ⟨c, e3.2.mp (Int32.not_le.mp z)⟩]; decide
      · exact br_t (by rw [cn0, hr.1]; exact nI_le (by omega) (by omega)) (no fun y => c y.1)
  exact ⟨11, beg 10 0 m (by omega) h MGL.rfl' (fun k hk => absurd hk (Nat.not_lt_zero k))⟩
end LEVM
