/-- only the row g is another -/
def MG (m m' : OV) : Prop := (∀ j, j ≠ 0 → m'.1 j = m.1 j) ∧ m'.2 = m.2
theorem MG.rfl' {m : OV} : MG m m := ⟨fun _ _ => rfl, rfl⟩
theorem MG.tr {m m' m'' : OV} (h : MG m m') (h' : MG m' m'') : MG m m'' := ⟨fun j hj => (h'.1 j hj).trans (h.1 j hj), h'.2.trans h.2⟩
theorem MG.sA0 {m : OV} (i : Nat) (x : Int32) : MG m (sA m 0 i x) := ⟨fun j hj => by simp [sA, hj], rfl⟩
theorem co_aS {A : AL} {i j n : Nat} (h : i ≠ 4) : aCo (aS A i j n) = aCo A := by
  funext k
  have t : ¬ (4 = i ∧ k = j) := fun z => h z.1.symm
  simp [aCo, aS, t]
theorem sA00 {m : OV} {i : Nat} {x : Int32} : (sA m 0 i x).1 0 = upd (m.1 0) i x := by simp [sA]
theorem RR_3 {g : Nat → Int32} {A : AL} (h : RR g A) (n1 : aNk A ≤ 10) (n2 : aNl A ≤ 10) {k : Nat} (hv : k < 10) (n : Nat) : RR (upd g (9 + 4 * k) (nI n - 1)) (aS A 3 k n) := by
  obtain ⟨g0, g1, g2, g3, g4, g5, g6, hk, hl, hb⟩ := h
  have u : ∀ j, j ≠ 9 + 4 * k → upd g (9 + 4 * k) (nI n - 1) j = g j := fun j hj => pk_un hj
  refine ⟨by rw [u _ (by omega)]; simpa [aS] using g0, by rw [u _ (by omega)]; simpa [aS] using g1, by rw [u _ (by omega)]; simpa [aS] using g2, by rw [u _ (by omega)]; simpa [aS] using g3, by rw [u _ (by omega)]; simpa [aS] using g4, by rw [u _ (by omega)]; simpa [aS] using g5, by rw [u _ (by omega), co_aS (by decide)]; simpa [aS] using g6, fun j hj => ?_, fun j hj => ?_, fun a ha c hc => ?_⟩
  · have hj : j < aNk A := by simpa [aS] using hj
    obtain ⟨e0, e1, e2, e3⟩ := hk j hj
    refine ⟨by rw [u _ (by omega)]; simpa [aS] using e0, by rw [u _ (by omega)]; simpa [aS] using e1, ?_, by rw [u _ (by omega)]; simpa [aS] using e3⟩
    by_cases c : j = k
    · subst c; rw [pk_us]; simp [aIk, aS]
    · rw [u _ (by omega), e2]; simp [aIk, aS, c]
  · have hj : j < aNl A := by simpa [aS] using hj
    obtain ⟨e0, e1, e2⟩ := hl j hj
    refine ⟨by rw [u _ (by omega)]; simpa [aS] using e0, by rw [u _ (by omega)]; simpa [aS] using e1, by rw [u _ (by omega)]; simpa [aS] using e2⟩
  · rw [u _ (by omega), hb a ha c hc]
    have t : ¬ (8 + a = 3 ∧ c = k) := by omega
    simp [aBr, aS, t]
theorem RR_6 {g : Nat → Int32} {A : AL} (h : RR g A) (n1 : aNk A ≤ 10) (n2 : aNl A ≤ 10) {l : Nat} (hv : l < 10) (n : Nat) : RR (upd g (48 + 3 * l) (nI n - 1)) (aS A 6 l n) := by
  obtain ⟨g0, g1, g2, g3, g4, g5, g6, hk, hl, hb⟩ := h
  have u : ∀ j, j ≠ 48 + 3 * l → upd g (48 + 3 * l) (nI n - 1) j = g j := fun j hj => pk_un hj
  refine ⟨by rw [u _ (by omega)]; simpa [aS] using g0, by rw [u _ (by omega)]; simpa [aS] using g1, by rw [u _ (by omega)]; simpa [aS] using g2, by rw [u _ (by omega)]; simpa [aS] using g3, by rw [u _ (by omega)]; simpa [aS] using g4, by rw [u _ (by omega)]; simpa [aS] using g5, by rw [u _ (by omega), co_aS (by decide)]; simpa [aS] using g6, fun j hj => ?_, fun j hj => ?_, fun a ha c hc => ?_⟩
  · have hj : j < aNk A := by simpa [aS] using hj
    obtain ⟨e0, e1, e2, e3⟩ := hk j hj
    refine ⟨by rw [u _ (by omega)]; simpa [aS] using e0, by rw [u _ (by omega)]; simpa [aS] using e1, by rw [u _ (by omega)]; simpa [aS] using e2, by rw [u _ (by omega)]; simpa [aS] using e3⟩
  · have hj : j < aNl A := by simpa [aS] using hj
    obtain ⟨e0, e1, e2⟩ := hl j hj
    refine ⟨by rw [u _ (by omega)]; simpa [aS] using e0, ?_, by rw [u _ (by omega)]; simpa [aS] using e2⟩
    by_cases c : j = l
    · subst c; rw [pk_us]; simp [aHk, aS]
    · rw [u _ (by omega), e1]; simp [aHk, aS, c]
  · rw [u _ (by omega), hb a ha c hc]
    have t : ¬ (8 + a = 6 ∧ c = l) := by omega
    simp [aBr, aS, t]
theorem RR_7 {g : Nat → Int32} {A : AL} (h : RR g A) (n1 : aNk A ≤ 10) (n2 : aNl A ≤ 10) {l : Nat} (hv : l < 10) (n : Nat) : RR (upd g (49 + 3 * l) (nI n)) (aS A 7 l n) := by
  obtain ⟨g0, g1, g2, g3, g4, g5, g6, hk, hl, hb⟩ := h
  have u : ∀ j, j ≠ 49 + 3 * l → upd g (49 + 3 * l) (nI n) j = g j := fun j hj => pk_un hj
  refine ⟨by rw [u _ (by omega)]; simpa [aS] using g0, by rw [u _ (by omega)]; simpa [aS] using g1, by rw [u _ (by omega)]; simpa [aS] using g2, by rw [u _ (by omega)]; simpa [aS] using g3, by rw [u _ (by omega)]; simpa [aS] using g4, by rw [u _ (by omega)]; simpa [aS] using g5, by rw [u _ (by omega), co_aS (by decide)]; simpa [aS] using g6, fun j hj => ?_, fun j hj => ?_, fun a ha c hc => ?_⟩
  · have hj : j < aNk A := by simpa [aS] using hj
    obtain ⟨e0, e1, e2, e3⟩ := hk j hj
    refine ⟨by rw [u _ (by omega)]; simpa [aS] using e0, by rw [u _ (by omega)]; simpa [aS] using e1, by rw [u _ (by omega)]; simpa [aS] using e2, by rw [u _ (by omega)]; simpa [aS] using e3⟩
  · have hj : j < aNl A := by simpa [aS] using hj
    obtain ⟨e0, e1, e2⟩ := hl j hj
    refine ⟨by rw [u _ (by omega)]; simpa [aS] using e0, by rw [u _ (by omega)]; simpa [aS] using e1, ?_⟩
    by_cases c : j = l
    · subst c; rw [pk_us]; simp [aTm, aS]
    · rw [u _ (by omega), e2]; simp [aTm, aS, c]
  · rw [u _ (by omega), hb a ha c hc]
    have t : ¬ (8 + a = 7 ∧ c = l) := by omega
    simp [aBr, aS, t]
theorem RR_g2 {g : Nat → Int32} {A : AL} (h : RR g A) (n : Nat) : RR (upd g 2 (nI n)) (aS A 0 2 n) := by
  obtain ⟨g0, g1, g2, g3, g4, g5, g6, hk, hl, hb⟩ := h
  have u : ∀ j, j ≠ 2 → upd g 2 (nI n) j = g j := fun j hj => pk_un hj
  refine ⟨by rw [u _ (by omega)]; simpa [aS] using g0, by rw [u _ (by omega)]; simpa [aS] using g1, by rw [pk_us]; simp [aS], by rw [u _ (by omega)]; simpa [aS] using g3, by rw [u _ (by omega)]; simpa [aS] using g4, by rw [u _ (by omega)]; simpa [aS] using g5, by rw [u _ (by omega), co_aS (by decide)]; simpa [aS] using g6, fun j hj => ?_, fun j hj => ?_, fun a ha c hc => ?_⟩
  · have hj : j < aNk A := by simpa [aS] using hj
    obtain ⟨e0, e1, e2, e3⟩ := hk j hj
    refine ⟨by rw [u _ (by omega)]; simpa [aS] using e0, by rw [u _ (by omega)]; simpa [aS] using e1, by rw [u _ (by omega)]; simpa [aS] using e2, by rw [u _ (by omega)]; simpa [aS] using e3⟩
  · have hj : j < aNl A := by simpa [aS] using hj
    obtain ⟨e0, e1, e2⟩ := hl j hj
    refine ⟨by rw [u _ (by omega)]; simpa [aS] using e0, by rw [u _ (by omega)]; simpa [aS] using e1, by rw [u _ (by omega)]; simpa [aS] using e2⟩
  · rw [u _ (by omega), hb a ha c hc]
    have t : ¬ (8 + a = 0 ∧ c = 2) := by omega
    simp [aBr, aS, t]
theorem RR_g3 {g : Nat → Int32} {A : AL} (h : RR g A) (n : Nat) : RR (upd g 3 (nI n)) (aS A 0 3 n) := by
  obtain ⟨g0, g1, g2, g3, g4, g5, g6, hk, hl, hb⟩ := h
  have u : ∀ j, j ≠ 3 → upd g 3 (nI n) j = g j := fun j hj => pk_un hj
  refine ⟨by rw [u _ (by omega)]; simpa [aS] using g0, by rw [u _ (by omega)]; simpa [aS] using g1, by rw [u _ (by omega)]; simpa [aS] using g2, by rw [pk_us]; simp [aS], by rw [u _ (by omega)]; simpa [aS] using g4, by rw [u _ (by omega)]; simpa [aS] using g5, by rw [u _ (by omega), co_aS (by decide)]; simpa [aS] using g6, fun j hj => ?_, fun j hj => ?_, fun a ha c hc => ?_⟩
  · have hj : j < aNk A := by simpa [aS] using hj
    obtain ⟨e0, e1, e2, e3⟩ := hk j hj
    refine ⟨by rw [u _ (by omega)]; simpa [aS] using e0, by rw [u _ (by omega)]; simpa [aS] using e1, by rw [u _ (by omega)]; simpa [aS] using e2, by rw [u _ (by omega)]; simpa [aS] using e3⟩
  · have hj : j < aNl A := by simpa [aS] using hj
    obtain ⟨e0, e1, e2⟩ := hl j hj
    refine ⟨by rw [u _ (by omega)]; simpa [aS] using e0, by rw [u _ (by omega)]; simpa [aS] using e1, by rw [u _ (by omega)]; simpa [aS] using e2⟩
  · rw [u _ (by omega), hb a ha c hc]
    have t : ¬ (8 + a = 0 ∧ c = 3) := by omega
    simp [aBr, aS, t]
theorem RR_g4 {g : Nat → Int32} {A : AL} (h : RR g A) (n : Nat) : RR (upd g 4 (nI n)) (aS A 0 4 n) := by
  obtain ⟨g0, g1, g2, g3, g4, g5, g6, hk, hl, hb⟩ := h
  have u : ∀ j, j ≠ 4 → upd g 4 (nI n) j = g j := fun j hj => pk_un hj
  refine ⟨by rw [u _ (by omega)]; simpa [aS] using g0, by rw [u _ (by omega)]; simpa [aS] using g1, by rw [u _ (by omega)]; simpa [aS] using g2, by rw [u _ (by omega)]; simpa [aS] using g3, by rw [pk_us]; simp [aS], by rw [u _ (by omega)]; simpa [aS] using g5, by rw [u _ (by omega), co_aS (by decide)]; simpa [aS] using g6, fun j hj => ?_, fun j hj => ?_, fun a ha c hc => ?_⟩
  · have hj : j < aNk A := by simpa [aS] using hj
    obtain ⟨e0, e1, e2, e3⟩ := hk j hj
    refine ⟨by rw [u _ (by omega)]; simpa [aS] using e0, by rw [u _ (by omega)]; simpa [aS] using e1, by rw [u _ (by omega)]; simpa [aS] using e2, by rw [u _ (by omega)]; simpa [aS] using e3⟩
  · have hj : j < aNl A := by simpa [aS] using hj
    obtain ⟨e0, e1, e2⟩ := hl j hj
    refine ⟨by rw [u _ (by omega)]; simpa [aS] using e0, by rw [u _ (by omega)]; simpa [aS] using e1, by rw [u _ (by omega)]; simpa [aS] using e2⟩
  · rw [u _ (by omega), hb a ha c hc]
    have t : ¬ (8 + a = 0 ∧ c = 4) := by omega
    simp [aBr, aS, t]
theorem RR_g5 {g : Nat → Int32} {A : AL} (h : RR g A) (n : Nat) : RR (upd g 5 (nI n)) (aS A 0 5 n) := by
  obtain ⟨g0, g1, g2, g3, g4, g5, g6, hk, hl, hb⟩ := h
  have u : ∀ j, j ≠ 5 → upd g 5 (nI n) j = g j := fun j hj => pk_un hj
  refine ⟨by rw [u _ (by omega)]; simpa [aS] using g0, by rw [u _ (by omega)]; simpa [aS] using g1, by rw [u _ (by omega)]; simpa [aS] using g2, by rw [u _ (by omega)]; simpa [aS] using g3, by rw [u _ (by omega)]; simpa [aS] using g4, by rw [pk_us]; simp [aS], by rw [u _ (by omega), co_aS (by decide)]; simpa [aS] using g6, fun j hj => ?_, fun j hj => ?_, fun a ha c hc => ?_⟩
  · have hj : j < aNk A := by simpa [aS] using hj
    obtain ⟨e0, e1, e2, e3⟩ := hk j hj
    refine ⟨by rw [u _ (by omega)]; simpa [aS] using e0, by rw [u _ (by omega)]; simpa [aS] using e1, by rw [u _ (by omega)]; simpa [aS] using e2, by rw [u _ (by omega)]; simpa [aS] using e3⟩
  · have hj : j < aNl A := by simpa [aS] using hj
    obtain ⟨e0, e1, e2⟩ := hl j hj
    refine ⟨by rw [u _ (by omega)]; simpa [aS] using e0, by rw [u _ (by omega)]; simpa [aS] using e1, by rw [u _ (by omega)]; simpa [aS] using e2⟩
  · rw [u _ (by omega), hb a ha c hc]
    have t : ¬ (8 + a = 0 ∧ c = 5) := by omega
    simp [aBr, aS, t]
theorem cn5 : (5 : Int32).toNatClampNeg = 5 := by decide
theorem v5i : vp_in (5 : Int32) 177 := vi 5 (by omega)
theorem m_lets {m : OV} {A : AL} {Q : OV → Prop} (h : RR (m.1 0) A) (hI : Inv A) {k l : Nat} (hk : k < aNk A) (hl : l < aNl A) (hq : ∀ m', RR (m'.1 0) (aLet A k l) → MG m m' → Q m') : wp_X8_lets Q (nI k) (nI l) m := by
  have n1 := hI.1; have n2 := hI.2.1
  unfold wp_X8_lets wp_X8_lets_0
  rw [ix_k2, ix_l1]
  refine ⟨vi _ (by omega), ?_⟩
  rintro _ rfl
  refine ⟨vi _ (by omega), ?_⟩
  rintro _ rfl
  rw [nI_clamp (show 9 + 4 * k < 2 ^ 31 by omega), nI_clamp (show 48 + 3 * l < 2 ^ 31 by omega)]
  refine hq _ ?_ ((MG.sA0 _ _).tr (MG.sA0 _ _))
  rw [sA00, sA00]
  have r1 := RR_3 h n1 n2 (show k < 10 by omega) 0
  exact RR_6 r1 (by simpa [aS] using n1) (by simpa [aS] using n2) (show l < 10 by omega) 0
theorem m_puts {m : OV} {A : AL} {Q : OV → Prop} (h : RR (m.1 0) A) (hI : Inv A) {k l : Nat} (hk : k < aNk A) (hl : l < aNl A) (hq : ∀ m', RR (m'.1 0) (aPut A k l) → MG m m' → Q m') : wp_X8_puts Q (nI k) (nI l) m := by
  have n1 := hI.1; have n2 := hI.2.1
  unfold wp_X8_puts wp_X8_puts_0
  rw [ix_k2, ix_l1, ix_l2]
  refine ⟨vi _ (by omega), ?_⟩
  rintro _ rfl
  refine ⟨vi _ (by omega), ?_⟩
  rintro _ rfl
  refine ⟨vi _ (by omega), vi _ (by omega), ?_⟩
  rintro _ rfl
  rw [nI_clamp (show 9 + 4 * k < 2 ^ 31 by omega), nI_clamp (show 48 + 3 * l < 2 ^ 31 by omega), nI_clamp (show 49 + 3 * l < 2 ^ 31 by omega)]
  refine hq _ ?_ (((MG.sA0 _ _).tr (MG.sA0 _ _)).tr (MG.sA0 _ _))
  rw [sA00, sA00, sA00]
  have r1 := RR_3 h n1 n2 (show k < 10 by omega) (l + 1)
  have r2 := RR_6 r1 (by simpa [aS] using n1) (by simpa [aS] using n2) (show l < 10 by omega) (k + 1)
  rw [nI_pred] at r1 r2
  have e : upd (upd (m.1 0) (9 + 4 * k) (nI l)) (48 + 3 * l) (nI k) (49 + 3 * l) + 1 = nI (aTm A l + 1) := by
    rw [pk_un (by omega), pk_un (by omega), (h.2.2.2.2.2.2.2.2.1 l hl).2.2, nI_1]
  rw [nI_pred] at r2
  rw [e]
  exact RR_7 r2 (by simpa [aS] using n1) (by simpa [aS] using n2) (show l < 10 by omega) _
theorem m_falls {m : OV} {A : AL} {Q : Int32 → OV → Prop} (h : RR (m.1 0) A) (hI : Inv A) (hq : ∀ m', RR (m'.1 0) (aDrop A) → MG m m' → Q (nI (drN A (aNk A))) m') : wp_X8_falls Q m := by
  have n1 := hI.1; have n2 := hI.2.1
  have key : ∀ d i m', i + d = aNk A → RR (m'.1 0) (drA A i) → MG m m' → wp_X8_falls_4_loop Q (d + 1) (nI (drN A i)) (nI i) m' := fun d => by
    induction d with
    | zero =>
      intro i m' hi hv hg
      have hi : i = aNk A := by omega
      subst hi
      refine ⟨v0i, br_t (by rw [cn0, hv.1, show aNk (drA A (aNk A)) = aNk A from drA_o (by decide) (by decide)]; exact nI_le (Nat.le_refl _) (by omega)) ⟨v5i, v5i, ?_⟩⟩
      rintro _ rfl
      rw [cn5]
      refine hq _ ?_ (hg.tr (MG.sA0 _ _))
      rw [sA00, hv.2.2.2.2.2.1, nI_add, show aFl (drA A (aNk A)) = aFl A from drA_o (by decide) (by decide)]
      exact RR_g5 hv _
    | succ d ih =>
      intro i m' hi hv hg
      have e1 : aNk (drA A i) = aNk A := drA_o (by decide) (by decide)
      have hB := Inv_dr hI i (by omega)
      have hiB : i < aNk (drA A i) := by omega
      have next : ∀ m'', RR (m''.1 0) (drA A (i + 1)) → MG m m'' → ∀ x1, x1 = nI (drN A (i + 1)) → wp_X8_falls_46 Q (wp_X8_falls_4_loop Q (d + 1)) x1 (nI i) m'' := fun m'' hc hg' x1 hx => by
        subst hx
        rintro _ rfl
        rw [nI_1]
        exact ih (i + 1) m'' (by omega) hc hg'
      have stay : ¬ drP (drA A i) i → wp_X8_falls_46 Q (wp_X8_falls_4_loop Q (d + 1)) (nI (drN A i)) (nI i) m' := fun hn => next m' (by rw [drA, if_neg hn]; exact hv) hg _ (by rw [drN, b01_f hn, Nat.add_zero])
      refine ⟨v0i, br_f (by rw [cn0, hv.1, e1]; exact nI_ge (by omega) (by omega)) (m_Ik hv hB hiB ?_)⟩
      refine ⟨fun c => stay fun z => z.1 ((nI_m1 (ik_lt hB hiB)).2.mp c), fun c => ?_⟩
      have c' : ¬ aIk (drA A i) i = 0 := fun z => c ((nI_m1 (ik_lt hB hiB)).2.mpr z)
      obtain ⟨l, hl⟩ : ∃ l, aIk (drA A i) i = l + 1 := ⟨aIk (drA A i) i - 1, by omega⟩
      have hll : l < aNl (drA A i) := by have := (hB.2.2.2.1 i hiB).2.2.1; omega
      rw [hl, nI_pred]
      refine m_isFit hv hB hiB hll ⟨fun z => ?_, fun z => stay fun y => ?_⟩
      · have hn : ¬ fit (drA A i) i l := b01_0.mp z
        have hp : drP (drA A i) i := ⟨c', by rw [hl, Nat.add_sub_cancel]; exact hn⟩
        refine m_lets hv hB hiB hll (fun m'' hr hg'' => ?_)
        rintro _ rfl
        exact next m'' (by rw [drA, if_pos hp, hl, Nat.add_sub_cancel]; exact hr) (hg.tr hg'') _ (by rw [drN, b01_t hp, nI_1])
      · have y2 := y.2
        rw [hl, Nat.add_sub_cancel] at y2
        exact z (b01_0.mpr y2)
  exact ⟨aNk A + 1, key (aNk A) 0 m (by omega) h MG.rfl'⟩
