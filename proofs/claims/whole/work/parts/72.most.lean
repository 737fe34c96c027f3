/-! the reference's most locks without a key and a lock -/
theorem RR_eq {g g' : Nat → Int32} {A : AL} (h : RR g A) (n1 : aNk A ≤ 10) (n2 : aNl A ≤ 10) (e : ∀ i, i < 177 → g' i = g i) : RR g' A := by
  obtain ⟨g0, g1, g2, g3, g4, g5, g6, hk, hl, hb⟩ := h
  refine ⟨by rw [e _ (by omega)]; exact g0, by rw [e _ (by omega)]; exact g1, by rw [e _ (by omega)]; exact g2, by rw [e _ (by omega)]; exact g3, by rw [e _ (by omega)]; exact g4, by rw [e _ (by omega)]; exact g5, by rw [e _ (by omega)]; exact g6, fun k hk' => ?_, fun l hl' => ?_, fun k hk' l hl' => ?_⟩
  · obtain ⟨a, b, c, d⟩ := hk k hk'
    exact ⟨by rw [e _ (by omega)]; exact a, by rw [e _ (by omega)]; exact b, by rw [e _ (by omega)]; exact c, by rw [e _ (by omega)]; exact d⟩
  · obtain ⟨a, b, c⟩ := hl l hl'
    exact ⟨by rw [e _ (by omega)]; exact a, by rw [e _ (by omega)]; exact b, by rw [e _ (by omega)]; exact c⟩
  · rw [e _ (by omega)]; exact hb k hk' l hl'
theorem sF_row {v : OV} {j : Nat} {f : Nat → Int32} : (sF v j f).1 j = f := by simp [sF]
theorem sF_oth {v : OV} {j a : Nat} {f : Nat → Int32} (h : a ≠ j) : (sF v j f).1 a = v.1 a := by simp [sF, h]
def MGS (m m' : OV) : Prop := (∀ j, j ≠ 0 → j ≠ 4 → j ≠ 18 → j ≠ 19 → m'.1 j = m.1 j) ∧ ∀ j, j ≠ 20 → m'.2 j = m.2 j
theorem MGS.rfl' {m : OV} : MGS m m := ⟨fun _ _ _ _ _ => rfl, fun _ _ => rfl⟩
theorem MGS.tr {m m' m'' : OV} (h : MGS m m') (h' : MGS m' m'') : MGS m m'' := ⟨fun j h0 h1 h2 h3 => (h'.1 j h0 h1 h2 h3).trans (h.1 j h0 h1 h2 h3), fun j hj => (h'.2 j hj).trans (h.2 j hj)⟩
theorem MGA.s {m m' : OV} (h : MGA m m') : MGS m m' := ⟨fun j h0 _ h2 h3 => h.1 j h0 h2 h3, h.2⟩
section MOST
variable {A : AL} {Q : Int32 → OV → Prop}
theorem m_mostWithout {m : OV} (h : RR (m.1 0) A) (hI : Inv A) {o1 o2 : Nat} (h1 : o1 ≤ 10) (h2 : o2 ≤ 10) (hq : ∀ s m', s ≤ 10 → MX (gX A o1 o2) (aNk A) (aNl A) s → RR (m'.1 0) A → MGS m m' → Q (nI s) m') : wp_X8_mostWithout Q (nI o1 - 1) (nI o2 - 1) m := by
  have n1 := hI.1; have n2 := hI.2.1
  refine m_copies (a := 0) (b := 0) (by omega) (by omega) (by omega) (by omega) ?_
  rintro _ rfl
  generalize hm1 : sF m 4 (va_cpy (m.1 0) (m.1 4) 0 0 177) = m1
  have e10 : m1.1 0 = m.1 0 := by rw [← hm1]; exact sF_oth (by decide)
  have e14 : m1.1 4 = va_cpy (m.1 0) (m.1 4) 0 0 177 := by rw [← hm1]; exact sF_row
  have eo : ∀ j, j ≠ 4 → m1.1 j = m.1 j := fun j hj => by rw [← hm1]; exact sF_oth hj
  have ei : m1.2 = m.2 := by rw [← hm1]; rfl
  -- at the end
  have fin : ∀ m' B, RR (m'.1 0) B → MG m1 m' → Inv B → (∀ i j, i < 8 → i ≠ 3 → i ≠ 6 → B i j = A i j) → (∀ a, a < aNk A → aIk B a = 0) → (∀ a b, a < aNk A → b < aNl A → aBr B a b = if a + 1 = o1 ∨ b + 1 = o2 then 1 else aBr A a b) → wp_X8_comesToEnd (fun (r_7 : Int32) (v_8 : OV) => ((0 ≤ r_7 → (wp_X8_openMany (fun (r_10 : Int32) => (wp_X8_mostWithout_133 Q r_10 v_8)) v_8)) ∧ (¬ (0 ≤ r_7) → (wp_X8_mostWithout_133 Q (0 : Int32) v_8)))) m' := fun m' B hr hg hB st hz hb => by
    have bk : aNk B = aNk A := st 0 0 (by omega) (by omega) (by omega)
    have bl : aNl B = aNl A := st 0 1 (by omega) (by omega) (by omega)
    have hF : InvF B := fun k hk l e => by
      have := hz k (by omega)
      omega
    have hM := MI_of hB hF
    have gx : ∀ a b, a < aNk A → b < aNl A → (gA B a b = true ↔ gX A o1 o2 a b = true) := fun a b ha hb' => by
      have e1 : fit B a b ↔ fit A a b ∧ a + 1 ≠ o1 ∧ b + 1 ≠ o2 := by
        show (lk (B 5 b) (B 1 a) = 0 ∧ pop (B 1 a) ≤ pop (B 5 b) + B 0 2 ∧ aBr B a b = 0) ↔ (lk (A 5 b) (A 1 a) = 0 ∧ pop (A 1 a) ≤ pop (A 5 b) + A 0 2 ∧ aBr A a b = 0) ∧ a + 1 ≠ o1 ∧ b + 1 ≠ o2
        rw [st 5 b (by omega) (by omega) (by omega), st 1 a (by omega) (by omega) (by omega), st 0 2 (by omega) (by omega) (by omega), hb a b ha hb']
        by_cases c : a + 1 = o1 ∨ b + 1 = o2
        · rw [if_pos c]
          refine ⟨fun z => absurd z.2.2 (by omega), fun z => ?_⟩
          rcases c with c | c
          · exact absurd c z.2.1
          · exact absurd c z.2.2
        · rw [if_neg c]
          exact ⟨fun z => ⟨z, fun y => c (Or.inl y), fun y => c (Or.inr y)⟩, fun z => z.1⟩
      rw [gA_t, gX_t]; exact e1
    have mx := wvE_MX (by omega) (by omega) hM
    obtain ⟨w1, w2, w3⟩ := wvE_ok (by omega) 11 _ hM (by omega)
    have le : sz (aNl B) (wvE (gA B) (aNk B) (aNl B) 11 (mO B)).2 ≤ aNl B := ct_n
    obtain ⟨j1, j2⟩ := Inv_mS hB w1
    refine m_comesToEnd (A := B) (M := mO B) (by rw [mS_mO]; exact hr) hB hM (fun m'' hr2 hg2 => ⟨fun _ => ?_, fun z => absurd (nI_pos' (by omega)) z⟩)
    refine m_openMany hr2 j1 ?_
    have es : sOpen (mS B (wvE (gA B) (aNk B) (aNl B) 11 (mO B)).2) = sz (aNl B) (wvE (gA B) (aNk B) (aNl B) 11 (mO B)).2 := sOpen_sz
    rw [es]
    refine m_copies (a := 0) (b := 0) (by omega) (by omega) (by omega) (by omega) ?_
    rintro _ rfl
    refine hq _ _ (by omega) ?_ ?_ ?_
    · rw [bk, bl] at mx ⊢
      exact mx.congr gx
    · rw [sF_row]
      refine RR_eq h n1 n2 (fun i hi => ?_)
      rw [pk_cpy_in (by omega) (by omega), hg2.1 4 (by decide) (by decide) (by decide), hg.1 4 (by decide), e14, pk_cpy_in (by omega) (by omega), show 0 + (0 + (i - 0) - 0) = i by omega]
    · refine ⟨fun j a b c d => ?_, fun j a => ?_⟩
      · rw [sF_oth a, hg2.1 j a c d, hg.1 j a, eo j b]
      · show m''.2 j = m.2 j
        rw [hg2.2 j a, hg.2, ei]
  -- the pairs that are barred
  have pair : ∀ d k m' B, k + d = aNk A → RR (m'.1 0) B → MG m1 m' → Inv B → (∀ i j, i < 8 → i ≠ 3 → i ≠ 6 → B i j = A i j) → (∀ a, a < aNk A → aIk B a = 0) → (∀ a b, a < aNk A → b < aNl A → aBr B a b = if a < k ∧ (a + 1 = o1 ∨ b + 1 = o2) then 1 else aBr A a b) → wp_X8_mostWithout_53_loop Q (d + 1) (nI o1 - 1) (nI o2 - 1) (nI k) m' := fun d => by
    induction d with
    | zero =>
      intro k m' B hk hr hg hB st hz hb
      have hk : k = aNk A := by omega
      subst hk
      have bk : aNk B = aNk A := st 0 0 (by omega) (by omega) (by omega)
      have e8 : m'.1 0 0 = nI (aNk A) := by rw [hr.1, bk]
      refine ⟨v0i, br_t (by rw [cn0, e8]; exact nI_le (Nat.le_refl _) (by omega)) (fin m' B hr hg hB st hz (fun a b ha hb' => ?_))⟩
      rw [hb a b ha hb']
      by_cases c : a + 1 = o1 ∨ b + 1 = o2
      · rw [if_pos ⟨ha, c⟩, if_pos c]
      · rw [if_neg (fun z => c z.2), if_neg c]
    | succ d ih =>
      intro k m' B hk hr hg hB st hz hb
      have hkk : k < aNk A := by omega
      have bk : aNk B = aNk A := st 0 0 (by omega) (by omega) (by omega)
      have e8 : m'.1 0 0 = nI (aNk A) := by rw [hr.1, bk]
      have row : ∀ e l m' B, l + e = aNl A → RR (m'.1 0) B → MG m1 m' → Inv B → (∀ i j, i < 8 → i ≠ 3 → i ≠ 6 → B i j = A i j) → (∀ a, a < aNk A → aIk B a = 0) → (∀ a b, a < aNk A → b < aNl A → aBr B a b = if (a < k ∨ (a = k ∧ b < l)) ∧ (a + 1 = o1 ∨ b + 1 = o2) then 1 else aBr A a b) → wp_X8_mostWithout_66_loop Q (wp_X8_mostWithout_53_loop Q (d + 1)) (e + 1) (nI o1 - 1) (nI o2 - 1) (nI k) (nI l) m' := fun e => by
        induction e with
        | zero =>
          intro l m' B hl hr hg hB st hz hb
          have hl : l = aNl A := by omega
          subst hl
          have bl : aNl B = aNl A := st 0 1 (by omega) (by omega) (by omega)
          have e9 : m'.1 0 1 = nI (aNl A) := by rw [hr.2.1, bl]
          refine ⟨v1i, br_t (by rw [cn1, e9]; exact nI_le (Nat.le_refl _) (by omega)) ?_⟩
          rintro _ rfl
          rw [nI_1]
          refine ih (k + 1) m' B (by omega) hr hg hB st hz (fun a b ha hb' => ?_)
          rw [hb a b ha hb']
          by_cases c : (a < k ∨ (a = k ∧ b < aNl A)) ∧ (a + 1 = o1 ∨ b + 1 = o2)
          · rw [if_pos c, if_pos ⟨by omega, c.2⟩]
          · rw [if_neg c, if_neg (fun z => c ⟨by omega, z.2⟩)]
        | succ e ih' =>
          intro l m' B hl hr hg hB st hz hb
          have hll : l < aNl A := by omega
          have bk : aNk B = aNk A := st 0 0 (by omega) (by omega) (by omega)
          have bl : aNl B = aNl A := st 0 1 (by omega) (by omega) (by omega)
          have e9 : m'.1 0 1 = nI (aNl A) := by rw [hr.2.1, bl]
          have q1 := lv_eq (show o1 ≤ 12 by omega) (show k ≤ 12 by omega)
          have q2 := lv_eq (show o2 ≤ 12 by omega) (show l ≤ 12 by omega)
          have yes : (k + 1 = o1 ∨ l + 1 = o2) → wp_X8_mostWithout_88 Q (wp_X8_mostWithout_53_loop Q (d + 1)) (wp_X8_mostWithout_66_loop Q (wp_X8_mostWithout_53_loop Q (d + 1)) (e + 1)) (nI o1 - 1) (nI o2 - 1) (nI k) (nI l) m' := fun c => by
            unfold wp_X8_mostWithout_88
            rw [ix_b]
            refine ⟨vi _ (by omega), ?_⟩
            rintro _ rfl
            rintro _ rfl
            rw [nI_1, nI_clamp (by omega)]
            have no : ∀ i j, i < 8 → aS B (8 + k) l 1 i j = B i j := fun i j hi => by
              have : ¬ (i = 8 + k ∧ j = l) := by omega
              simp only [aS, if_neg this]
            refine ih' (l + 1) _ (aS B (8 + k) l 1) (by omega) ?_ (hg.tr (MG.sA0 _ _)) (Inv_br hB (by omega) (by omega) (Nat.le_refl _)) (fun i j a b c => by rw [no i j a]; exact st i j a b c) (fun a ha => by
              show aS B (8 + k) l 1 3 a = 0
              rw [no 3 a (by omega)]; exact hz a ha) (fun a b ha hb' => ?_)
            · rw [sA00]
              have t := RR_bar hr hB (k := k) (l := l) (by omega) (by omega) 1
              exact t
            · show aS B (8 + k) l 1 (8 + a) b = _
              by_cases t : a = k ∧ b = l
              · have t1 : 8 + a = 8 + k ∧ b = l := ⟨by omega, t.2⟩
                simp only [aS, if_pos t1]
                rw [if_pos ⟨by omega, by rw [t.1, t.2]; exact c⟩]
              · have t1 : ¬ (8 + a = 8 + k ∧ b = l) := by omega
                simp only [aS, if_neg t1]
                have t2 : B (8 + a) b = _ := hb a b ha hb'
                rw [t2]
                by_cases y : (a < k ∨ (a = k ∧ b < l)) ∧ (a + 1 = o1 ∨ b + 1 = o2)
                · rw [if_pos y, if_pos ⟨by omega, y.2⟩]
                · rw [if_neg y, if_neg (fun z => y ⟨by omega, z.2⟩)]
          have no : ¬ (k + 1 = o1 ∨ l + 1 = o2) → wp_X8_mostWithout_104 Q (wp_X8_mostWithout_53_loop Q (d + 1)) (wp_X8_mostWithout_66_loop Q (wp_X8_mostWithout_53_loop Q (d + 1)) (e + 1)) (nI o1 - 1) (nI o2 - 1) (nI k) (nI l) m' := fun c => by
            rintro _ rfl
            rw [nI_1]
            refine ih' (l + 1) m' B (by omega) hr hg hB st hz (fun a b ha hb' => ?_)
            rw [hb a b ha hb']
            by_cases y : (a < k ∨ (a = k ∧ b < l)) ∧ (a + 1 = o1 ∨ b + 1 = o2)
            · rw [if_pos y, if_pos ⟨by omega, y.2⟩]
            · rw [if_neg y, if_neg]
              intro z
              refine y ⟨?_, z.2⟩
              by_cases t : a = k ∧ b = l
              · exact absurd (by rw [← t.1, ← t.2]; exact z.2) c
              · omega
          refine ⟨v1i, br_f (by rw [cn1, e9]; exact nI_ge hll (by omega)) ⟨fun z => yes (Or.inl ?_), fun z => ⟨fun y => no ?_, fun y => yes (Or.inr ?_)⟩⟩⟩
          · exact (q1.mp z.symm).symm
          · intro x
            rcases x with x | x
            · exact z (q1.mpr x.symm).symm
            · exact y (q2.mpr x.symm).symm
          · exact (q2.mp y.symm).symm
      refine ⟨v0i, br_f (by rw [cn0, e8]; exact nI_ge hkk (by omega)) ⟨aNl A + 1, row (aNl A) 0 m' B (by omega) hr hg hB st hz (fun a b ha hb' => ?_)⟩⟩
      rw [hb a b ha hb']
      by_cases c : a < k ∧ (a + 1 = o1 ∨ b + 1 = o2)
      · rw [if_pos c, if_pos ⟨Or.inl c.1, c.2⟩]
      · rw [if_neg c, if_neg (fun z => c ⟨by omega, z.2⟩)]
  -- the keys that are let out
  have out : ∀ d k m' B, k + d = aNk A → RR (m'.1 0) B → MG m1 m' → Inv B → (∀ i j, i ≠ 3 → i ≠ 6 → B i j = A i j) → (∀ a, a < k → aIk B a = 0) → wp_X8_mostWithout_15_loop Q (d + 1) (nI o1 - 1) (nI o2 - 1) (nI k) m' := fun d => by
    induction d with
    | zero =>
      intro k m' B hk hr hg hB st hz
      have hk : k = aNk A := by omega
      subst hk
      have bk : aNk B = aNk A := st 0 0 (by omega) (by omega)
      have e8 : m'.1 0 0 = nI (aNk A) := by rw [hr.1, bk]
      refine ⟨v0i, br_t (by rw [cn0, e8]; exact nI_le (Nat.le_refl _) (by omega)) ⟨aNk A + 1, pair (aNk A) 0 m' B (by omega) hr hg hB (fun i j _ a b => st i j a b) hz (fun a b ha hb' => ?_)⟩⟩
      rw [if_neg (by omega)]
      exact st (8 + a) b (by omega) (by omega)
    | succ d ih =>
      intro k m' B hk hr hg hB st hz
      have hkk : k < aNk A := by omega
      have bk : aNk B = aNk A := st 0 0 (by omega) (by omega)
      have bl : aNl B = aNl A := st 0 1 (by omega) (by omega)
      have e8 : m'.1 0 0 = nI (aNk A) := by rw [hr.1, bk]
      have hkB : k < aNk B := by omega
      refine ⟨v0i, br_f (by rw [cn0, e8]; exact nI_ge hkk (by omega)) (m_Ik hr hB hkB ⟨fun z => ?_, fun z => ?_⟩)⟩
      · have c := (nI_m1 (ik_lt hB hkB)).2.mp z
        rintro _ rfl
        rw [nI_1]
        refine ih (k + 1) m' B (by omega) hr hg hB st (fun a ha => ?_)
        by_cases y : a = k
        · rw [y]; exact c
        · exact hz a (by omega)
      · have c : ¬ aIk B k = 0 := fun y => z ((nI_m1 (ik_lt hB hkB)).2.mpr y)
        obtain ⟨l, hl⟩ : ∃ l, aIk B k = l + 1 := ⟨aIk B k - 1, by omega⟩
        have hll : l < aNl B := by have := (hB.2.2.2.1 k hkB).2.2.1; omega
        refine m_Ik hr hB hkB ?_
        rw [hl, nI_pred]
        refine m_lets hr hB hkB hll (fun m'' hr2 hg2 => ?_)
        rintro _ rfl
        rw [nI_1]
        refine ih (k + 1) m'' (aLet B k l) (by omega) hr2 (hg.tr hg2) (Inv_let hB hkB hl) (fun i j a b => by rw [aLet_o a b]; exact st i j a b) (fun a ha => ?_)
        rw [aLet_ik]
        by_cases y : a = k
        · rw [if_pos y]
        · rw [if_neg y]; exact hz a (by omega)
  exact ⟨aNk A + 1, out (aNk A) 0 m1 A (by omega) (by rw [e10]; exact h) MG.rfl' hI (fun _ _ _ _ => rfl) (fun a ha => absurd ha (Nat.not_lt_zero a))⟩
end MOST
