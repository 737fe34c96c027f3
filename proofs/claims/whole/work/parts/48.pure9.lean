theorem cpy_step {f g : Nat → Int32} {a b i : Nat} : upd (va_cpy f g a b i) (b + i) (f (a + i)) = va_cpy f g a b (i + 1) := by
  funext j
  by_cases c : j = b + i
  · subst c
    rw [pk_us, pk_cpy_in (by omega) (by omega)]
    congr 1; omega
  · rw [pk_un c]
    by_cases c2 : b ≤ j ∧ j < b + i
    · rw [pk_cpy_in c2.1 c2.2, pk_cpy_in c2.1 (by omega)]
    · rw [pk_cpy_out (by omega), pk_cpy_out (by omega)]
theorem m_copies {Q : (Nat → Int32) → Prop} {z1 z2 a b : Nat} {f g : Nat → Int32} (h1 : a + 177 ≤ z1) (h2 : b + 177 ≤ z2) (hz1 : z1 < 2 ^ 30) (hz2 : z2 < 2 ^ 30) (hq : Q (va_cpy f g a b 177)) : wp_X8_copies Q z1 z2 (nI a) (nI b) f g := by
  have key : ∀ d i, i + d = 177 → wp_X8_copies_3_loop Q z1 z2 f (d + 1) (nI a) (nI b) (nI i) (va_cpy f g a b i) := fun d => by
    induction d with
    | zero =>
      intro i hi
      have hi : i = 177 := by omega
      subst hi
      exact br_t (by decide) hq
    | succ d ih =>
      intro i hi
      refine br_f (by rw [show (177 : Int32) = nI 177 by decide]; exact nI_ge (by omega) (by omega)) ?_
      rw [nI_add, nI_add]
      refine ⟨vp_in_nI (by omega) (by omega), vp_in_nI (by omega) (by omega), ?_⟩
      rintro _ rfl _ rfl
      rw [nI_clamp (by omega), nI_clamp (by omega), cpy_step, nI_1]
      exact ih (i + 1) (by omega)
  refine ⟨178, ?_⟩
  have h := key 177 0 (by omega)
  have e : va_cpy f g a b 0 = g := by
    funext j
    exact pk_cpy_out (by omega)
  rw [e] at h
  exact h
def shf (f : Nat → Int32) (i : Nat) : Nat → Int32 := fun j => if j < i then f (j + 177) else f j
theorem shf_step {f : Nat → Int32} {i : Nat} : upd (shf f i) i (shf f i (i + 177)) = shf f (i + 1) := by
  funext j
  by_cases c : j = i
  · subst c
    rw [pk_us]
    simp [shf, show ¬ j + 177 < j by omega]
  · rw [pk_un c]
    by_cases c2 : j < i
    · simp [shf, c2, show j < i + 1 by omega]
    · simp [shf, c2, show ¬ j < i + 1 by omega]
/-- the kept rows behind one more -/
def kp (kept row : Nat → Int32) (c : Nat) : Nat → Int32 := if c = 8 then va_cpy row (shf kept 1239) 0 1239 177 else va_cpy row kept 0 (177 * c) 177
def kc (c : Nat) : Nat := if c = 8 then 8 else c + 1
theorem m_keeps0 {m : OV} {Q : OV → Prop} {c : Nat} (hw : m.2 7 = 0) (hc : m.2 6 = nI c) (hc8 : c ≤ 8) (hq : ∀ m' : OV, m'.1 1 = kp (m.1 1) (m.1 0) c → m'.2 6 = nI (kc c) → m'.2 9 = 0 → (∀ j, j ≠ 1 → m'.1 j = m.1 j) → (∀ j, j ≠ 6 → j ≠ 9 → m'.2 j = m.2 j) → Q m') : wp_X8_keeps0 Q m := by
  rintro _ rfl
  refine ⟨fun _ => ⟨fun c1 => ?_, fun c1 => ?_⟩, fun c1 => absurd (show m.2 7 = 0 from hw) c1⟩
  · have c1' : ¬ c = 8 := fun z => c1 (show m.2 6 = 8 by rw [hc, z]; decide)
    have e6 : (177 : Int32) * (sI m 9 0).2 6 = nI (177 * c) := by
      show (177 : Int32) * m.2 6 = _
      rw [hc, show (177 : Int32) = nI 177 by decide, pk_mul]
    unfold wp_X8_keeps0_63
    rw [e6, ← nI_0]
    refine m_copies (by omega) (by omega) (by omega) (by omega) ?_
    rintro _ rfl _ rfl
    refine hq _ ?_ ?_ ?_ ?_ ?_
    · simp [sI, sF, kp, c1', nI_0]
    · simp [sI, sF, upd, hc, kc, c1', nI_1]
    · simp [sI, sF, upd, nI_0]
    · intro j hj; simp [sI, sF, hj]
    · intro j h6 h9; simp [sI, sF, upd, h6, h9]
  · have c1' : c = 8 := (nI_eq (a := c) (b := 8) (by omega) (by omega)).mp (by rw [← hc]; exact c1)
    have key : ∀ d i, i + d = 1239 → wp_X8_keeps0_24_loop Q (d + 1) (nI i) (sF (sI m 9 0) 1 (shf (m.1 1) i)) := fun d => by
      induction d with
      | zero =>
        intro i hi
        have hi : i = 1239 := by omega
        subst hi
        refine br_t (by decide) ?_
        rintro _ rfl
        have e6 : (177 : Int32) * (sI (sF (sI m 9 0) 1 (shf (m.1 1) 1239)) 6 ((sF (sI m 9 0) 1 (shf (m.1 1) 1239)).2 6 - 1)).2 6 = nI 1239 := by
          have : (sI (sF (sI m 9 0) 1 (shf (m.1 1) 1239)) 6 ((sF (sI m 9 0) 1 (shf (m.1 1) 1239)).2 6 - 1)).2 6 = 7 := by
            simp [sI, sF, upd, hc, c1'] <;> decide
          rw [this]; decide
        unfold wp_X8_keeps0_63
        rw [e6, ← nI_0]
        refine m_copies (by omega) (by omega) (by omega) (by omega) ?_
        rintro _ rfl _ rfl
        refine hq _ ?_ ?_ ?_ ?_ ?_
        · simp [sI, sF, kp, c1', nI_0]
        · simp [sI, sF, upd, hc, kc, c1'] <;> decide
        · simp [sI, sF, upd, nI_0]
        · intro j hj; simp [sI, sF, hj]
        · intro j h6 h9; simp [sI, sF, upd, h6, h9]
      | succ d ih =>
        intro i hi
        refine br_f (by rw [show (1239 : Int32) = nI 1239 by decide]; exact nI_ge (by omega) (by omega)) ?_
        rw [show (177 : Int32) = nI 177 by decide, nI_add]
        refine ⟨vp_in_nI (by omega) (by omega), vp_in_nI (by omega) (by omega), ?_⟩
        rintro _ rfl _ rfl
        rw [nI_clamp (by omega), nI_clamp (by omega), nI_1]
        have e : sA (sF (sI m 9 0) 1 (shf (m.1 1) i)) 1 i ((sF (sI m 9 0) 1 (shf (m.1 1) i)).1 1 (i + 177)) = sF (sI m 9 0) 1 (shf (m.1 1) (i + 1)) := by
          unfold sA
          refine Prod.ext ?_ rfl
          funext j
          by_cases cj : j = 1
          · subst cj
            simp [sF, sI]
            exact shf_step
          · simp [sF, sI, cj]
        rw [e]
        exact ih (i + 1) (by omega)
    refine ⟨1240, ?_⟩
    have h := key 1239 0 (by omega)
    have e : sF (sI m 9 0) 1 (shf (m.1 1) 0) = sI m 9 0 := by
      refine Prod.ext ?_ rfl
      funext j
      by_cases cj : j = 1
      · subst cj; simp [sF, sI]; funext i; simp [shf]
      · simp [sF, sI, cj]
    rw [e] at h
    exact h
theorem m_keeps3 {m : OV} {Q : OV → Prop} {c : Nat} (hw : m.2 7 = 0) (hc : m.2 6 = nI c) (hc8 : c ≤ 8) (hq : ∀ m' : OV, m'.1 1 = kp (m.1 1) (m.1 3) c → m'.2 6 = nI (kc c) → m'.2 9 = 0 → (∀ j, j ≠ 1 → m'.1 j = m.1 j) → (∀ j, j ≠ 6 → j ≠ 9 → m'.2 j = m.2 j) → Q m') : wp_X8_keeps3 Q m := by
  rintro _ rfl
  refine ⟨fun _ => ⟨fun c1 => ?_, fun c1 => ?_⟩, fun c1 => absurd (show m.2 7 = 0 from hw) c1⟩
  · have c1' : ¬ c = 8 := fun z => c1 (show m.2 6 = 8 by rw [hc, z]; decide)
    have e6 : (177 : Int32) * (sI m 9 0).2 6 = nI (177 * c) := by
      show (177 : Int32) * m.2 6 = _
      rw [hc, show (177 : Int32) = nI 177 by decide, pk_mul]
    unfold wp_X8_keeps3_63
    rw [e6, ← nI_0]
    refine m_copies (by omega) (by omega) (by omega) (by omega) ?_
    rintro _ rfl _ rfl
    refine hq _ ?_ ?_ ?_ ?_ ?_
    · simp [sI, sF, kp, c1', nI_0]
    · simp [sI, sF, upd, hc, kc, c1', nI_1]
    · simp [sI, sF, upd, nI_0]
    · intro j hj; simp [sI, sF, hj]
    · intro j h6 h9; simp [sI, sF, upd, h6, h9]
  · have c1' : c = 8 := (nI_eq (a := c) (b := 8) (by omega) (by omega)).mp (by rw [← hc]; exact c1)
    have key : ∀ d i, i + d = 1239 → wp_X8_keeps3_24_loop Q (d + 1) (nI i) (sF (sI m 9 0) 1 (shf (m.1 1) i)) := fun d => by
      induction d with
      | zero =>
        intro i hi
        have hi : i = 1239 := by omega
        subst hi
        refine br_t (by decide) ?_
        rintro _ rfl
        have e6 : (177 : Int32) * (sI (sF (sI m 9 0) 1 (shf (m.1 1) 1239)) 6 ((sF (sI m 9 0) 1 (shf (m.1 1) 1239)).2 6 - 1)).2 6 = nI 1239 := by
          have : (sI (sF (sI m 9 0) 1 (shf (m.1 1) 1239)) 6 ((sF (sI m 9 0) 1 (shf (m.1 1) 1239)).2 6 - 1)).2 6 = 7 := by
            simp [sI, sF, upd, hc, c1'] <;> decide
          rw [this]; decide
        unfold wp_X8_keeps3_63
        rw [e6, ← nI_0]
        refine m_copies (by omega) (by omega) (by omega) (by omega) ?_
        rintro _ rfl _ rfl
        refine hq _ ?_ ?_ ?_ ?_ ?_
        · simp [sI, sF, kp, c1', nI_0]
        · simp [sI, sF, upd, hc, kc, c1'] <;> decide
        · simp [sI, sF, upd, nI_0]
        · intro j hj; simp [sI, sF, hj]
        · intro j h6 h9; simp [sI, sF, upd, h6, h9]
      | succ d ih =>
        intro i hi
        refine br_f (by rw [show (1239 : Int32) = nI 1239 by decide]; exact nI_ge (by omega) (by omega)) ?_
        rw [show (177 : Int32) = nI 177 by decide, nI_add]
        refine ⟨vp_in_nI (by omega) (by omega), vp_in_nI (by omega) (by omega), ?_⟩
        rintro _ rfl _ rfl
        rw [nI_clamp (by omega), nI_clamp (by omega), nI_1]
        have e : sA (sF (sI m 9 0) 1 (shf (m.1 1) i)) 1 i ((sF (sI m 9 0) 1 (shf (m.1 1) i)).1 1 (i + 177)) = sF (sI m 9 0) 1 (shf (m.1 1) (i + 1)) := by
          unfold sA
          refine Prod.ext ?_ rfl
          funext j
          by_cases cj : j = 1
          · subst cj
            simp [sF, sI]
            exact shf_step
          · simp [sF, sI, cj]
        rw [e]
        exact ih (i + 1) (by omega)
    refine ⟨1240, ?_⟩
    have h := key 1239 0 (by omega)
    have e : sF (sI m 9 0) 1 (shf (m.1 1) 0) = sI m 9 0 := by
      refine Prod.ext ?_ rfl
      funext j
      by_cases cj : j = 1
      · subst cj; simp [sF, sI]; funext i; simp [shf]
      · simp [sF, sI, cj]
    rw [e] at h
    exact h
