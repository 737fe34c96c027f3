/-! the call commands on both sides -/
theorem stp_ge {T : TT0} : ∀ j, (∀ i, i < j → (cmd T (stp T i)).1 = 1 ∧ stp T i ≤ T.1) → 2 * j ≤ stp T j := by
  intro j
  induction j with
  | zero => intro _; exact Nat.le_refl _
  | succ j ih =>
    intro h
    have a := ih (fun i hi => h i (by omega))
    obtain ⟨b1, b2⟩ := h j (by omega)
    have t := (cmd_p (T := T) b2).2.2.2 b1
    show 2 * (j + 1) ≤ (cmd T (stp T j)).2.2.2.2 + 1
    omega
theorem fnd_le {T : TT0} : ∀ f p k, p ≤ T.1 → (fnd T f p k).2.2 ≤ T.1 := by
  intro f
  induction f with
  | zero => intro p k h; exact h
  | succ f ih =>
    intro p k h
    obtain ⟨g1, g2, g3, g4⟩ := cmd_p (T := T) h
    rw [fnd]
    by_cases c : (cmd T p).1 = 0
    · rw [if_pos c]; exact g2
    · rw [if_neg c]
      by_cases d : (cmd T p).2.2.2.2 = T.1
      · rw [if_pos d]; exact Nat.zero_le _
      · rw [if_neg d]
        by_cases y : qv T (cmd T p).2.2.2.2 = 59
        · rw [if_pos y]
          have hl := qv_lt (T := T) (p := (cmd T p).2.2.2.2) (by omega)
          exact ih _ _ (by omega)
        · rw [if_neg y]; exact g2
abbrev FN (T : TT0) : Nat × Nat × Nat := fnd T 32 0 0
theorem fn_all {T : TT0} (hT : T.1 ≤ 60) (h : (FN T).1 = 1) : (FN T).2.1 ≤ 31 ∧ (∀ j, j < (FN T).2.1 → (cmd T (stp T j)).1 = 1 ∧ stp T j ≤ T.1) ∧ ∀ j, j + 1 < (FN T).2.1 → qv T (cmd T (stp T j)).2.2.2.2 = 59 := by
  obtain ⟨a1, a2, a3⟩ := fnd_ok (T := T) 32 0 (Nat.zero_le _) h
  have b2 : ∀ j, j < (FN T).2.1 → (cmd T (stp T j)).1 = 1 ∧ stp T j ≤ T.1 := fun j hj => a2 j (Nat.zero_le j) hj
  refine ⟨?_, b2, fun j hj => a3 j (Nat.zero_le j) hj⟩
  have a1' : 0 < (FN T).2.1 := a1
  obtain ⟨c, hc⟩ : ∃ c, (FN T).2.1 = c + 1 := ⟨(FN T).2.1 - 1, by omega⟩
  have t := stp_ge (T := T) c (fun i hi => b2 i (by omega))
  have u := (b2 c (by omega)).2
  omega
section CMC
variable {A : AL} {c0 : Nat} {K : Nat → AL} {vKW vLg vLg2 vLg3 vLg4 vWv vPr vRf vTx vLn : OV} {vHs : HV} {vLa : Nat → Int64} {T : TT0}
theorem L_commands {Q : Int32 → OV → OV → OV → OV → OV → OV → HV → (Nat → Int64) → Prop} (h : CR vLg A) (hI : Inv A) (hF : InvF A) (hH : HR vHs c0 K) (hT : T.1 ≤ 60) (h1 : vTx.2 1 = nI T.1) (hc : ∀ i, i < T.1 → vTx.1 0 i = nI (T.2 i) ∧ T.2 i < 65536)
    (qa : (FN T).1 = 0 → ∀ t, t.2 1 = 0 → Q 1 (sI vKW 11 (nI (FN T).2.2)) vLg vLg2 vWv vRf t vHs vLa)
    (qb : (FN T).1 = 1 → ∀ r d i, crn T (FN T).2.1 0 A = .inl (r, d, i) → ∀ a b w t, CR a A → t.2 1 = 0 → Q 2 (sI vKW 11 (-1)) a b w (rf3 vRf r d (nI i)) t vHs vLa)
    (qc : (FN T).1 = 1 → ∀ B, crn T (FN T).2.1 0 A = .inr B → ∀ a b w t e, CR a B → HR e (kc c0) (kK c0 K A) → t.2 1 = 0 → Q 0 (sI vKW 11 (-1)) a b w vRf t e (vp_updL vLa (0 : Int32).toNatClampNeg (nI (FN T).2.1).toInt64)) : wp_L_commands Q vKW vLg vLg2 vLg3 vLg4 vWv vPr vRf vTx vLn vHs vLa := by
  unfold wp_L_commands wp_L_commands_0 wp_X7_commands wp_X7_commands_0
  refine c_findFault hT h1 hc (fun w e1 e2 e3 e4 => ?_)
  have le : (FN T).2.2 ≤ T.1 := fnd_le 32 0 0 (Nat.zero_le _)
  rintro _ rfl
  rw [sI_at]
  rcases e4 with e4 | e4
  · rw [if_pos e4]
    refine ⟨fun z => absurd z (nI_ne (by have : (fnd T 32 0 0).2.2 ≤ T.1 := le; omega)), fun _ => ?_⟩
    rintro _ rfl
    exact Or.inl ⟨rfl, qa e4 _ sI_at⟩
  · rw [if_neg (by omega)]
    obtain ⟨f1, f2, f3⟩ := fn_all hT e4
    refine ⟨fun _ => wpi_copyFrom ?_, fun z => absurd rfl z⟩
    rw [e3 e4]
    rintro _ rfl
    rintro _ rfl
    have h2 : CR (cpLg vLg2 vLg) A := CR_copy h hI
    have t0 : TXp (sI w 2 0) T (stp T 0) := by
      refine ⟨hT, Nat.zero_le _, ?_, ?_, fun i hi => ?_⟩
      · rw [sI_oth (by decide), e2]; exact h1
      · rw [sI_at]
        show (0 : Int32) = nI 0
        decide
      · show w.1 0 i = _ ∧ _
        rw [e1]; exact hc i hi
    refine ⟨(FN T).2.1 + 1, c_cmdLoop (c := (FN T).2.1) hT h2 hI hH f1 f2 f3 (FN T).2.1 0 A vLg vWv (sI w 2 0) (by omega) h hI hF (fun _ => t0) (fun rr dd i e a w' t ha ht => Or.inr ⟨rfl, qb e4 rr dd i e a _ w' t ha ht⟩) (fun B e a w' t f ha hf ht => ?_)⟩
    rintro _ rfl
    exact qc e4 B e a _ w' t f ha hf ht
/-- what the call commands leaves as it was, of the reference -/
def MCm (m m' : OV) : Prop := (∀ j, j ≠ 0 → j ≠ 1 → j ≠ 3 → j ≠ 18 → j ≠ 19 → j ≠ 22 → m'.1 j = m.1 j) ∧ m'.2 14 = 0 ∧ m'.2 7 = 0 ∧ m'.2 5 = m.2 5 ∧ m'.2 17 = m.2 17
theorem m_commands {m : OV} {Q : Int32 → OV → Prop} (h : RR (m.1 0) A) (hI : Inv A) (hF : InvF A) (hK : KRR m c0 K) (hc8 : c0 ≤ 8) (h7 : m.2 7 = 0) (hT : T.1 ≤ 60) (h14 : m.2 14 = nI T.1) (hc : ∀ i, i < T.1 → m.1 13 i = nI (T.2 i) ∧ T.2 i < 65536)
    (qa : (FN T).1 = 0 → ∀ r m', MCm m m' → RR (m'.1 0) A → KRR m' c0 K → m'.2 10 = m.2 10 → m'.2 11 = m.2 11 → m'.2 12 = m.2 12 → m'.2 15 = nI (FN T).2.2 → m'.2 9 = 1 → Q r m')
    (qb : (FN T).1 = 1 → ∀ r d i, crn T (FN T).2.1 0 A = .inl (r, d, i) → ∀ x m', MCm m m' → RR (m'.1 0) A → KRR m' c0 K → m'.2 10 = r → m'.2 11 = d → m'.2 12 = nI i → m'.2 15 = -1 → m'.2 9 = 2 → Q x m')
    (qc : (FN T).1 = 1 → ∀ B, crn T (FN T).2.1 0 A = .inr B → ∀ m', MCm m m' → RR (m'.1 0) B → Inv B → InvF B → KRR m' (kc c0) (kK c0 K A) → m'.2 10 = m.2 10 → m'.2 11 = m.2 11 → m'.2 12 = m.2 12 → m'.2 15 = -1 → m'.2 9 = 0 → Q (nI (FN T).2.1) m') : wp_X8_commands Q m := by
  have n1 := hI.1; have n2 := hI.2.1
  unfold wp_X8_commands wp_X8_commands_0
  refine m_isText hT h14 hc (fun m1 f e1 e0 e4 => ?_)
  have g0 : m1.1 0 = m.1 0 := f.1 0 (by decide)
  rcases e4 with e4 | e4
  · rw [e4]
    refine ⟨fun _ => ?_, fun z => absurd nI_0 z⟩
    rw [e0 e4]
    rintro _ rfl
    rintro _ rfl
    refine ⟨fun _ => m_fails1 ⟨fun z => absurd z (by decide), fun _ => ?_⟩, fun z => absurd nI_0 z⟩
    refine qa e4 _ _ ⟨fun j a b c d e g => f.1 j g, ?_, ?_, ?_, ?_⟩ (by show RR (m1.1 0) A; rw [g0]; exact h) (hK.same (f.1 1 (by decide)) ?_) ?_ ?_ ?_ ?_ ?_
    · rw [sI_oth (by decide), sI_at]
    · rw [sI_oth (by decide), sI_oth (by decide), sI_oth (by decide), f.2 7 (by decide) (by decide)]; exact h7
    · rw [sI_oth (by decide), sI_oth (by decide), sI_oth (by decide)]; exact f.2 5 (by decide) (by decide)
    · rw [sI_oth (by decide), sI_oth (by decide), sI_oth (by decide)]; exact f.2 17 (by decide) (by decide)
    · rw [sI_oth (by decide), sI_oth (by decide), sI_oth (by decide)]; exact f.2 6 (by decide) (by decide)
    · rw [sI_oth (by decide), sI_oth (by decide), sI_oth (by decide)]; exact f.2 10 (by decide) (by decide)
    · rw [sI_oth (by decide), sI_oth (by decide), sI_oth (by decide)]; exact f.2 11 (by decide) (by decide)
    · rw [sI_oth (by decide), sI_oth (by decide), sI_oth (by decide)]; exact f.2 12 (by decide) (by decide)
    · rw [sI_oth (by decide), sI_oth (by decide), sI_at]
    · rw [sI_at]
  · obtain ⟨f1, f2, f3⟩ := fn_all hT e4
    obtain ⟨u1, u2⟩ := e1 e4
    rw [e4]
    refine ⟨fun z => absurd z (by decide), fun _ => ?_⟩
    rintro _ rfl
    rintro _ rfl
    refine ⟨fun z => absurd z (by decide), fun _ => m_fails0 ⟨fun _ => ?_, fun z => absurd rfl z⟩⟩
    refine m_copies (a := 0) (b := 0) (by omega) (by omega) (by omega) (by omega) ?_
    rintro _ rfl
    rintro _ rfl
    rintro _ rfl
    -- the row before
    have s3 : ∀ v : OV, ∀ j, j ≠ 3 → (sI (sI (sF v 3 (va_cpy (v.1 0) (v.1 3) 0 0 177)) 7 1) 8 0).1 j = v.1 j := fun v j hj => sF_oth hj
    have r3 : RR ((sI (sI (sF (sI (sI (sI m1 15 (-1)) 14 0) 9 0) 3 (va_cpy ((sI (sI (sI m1 15 (-1)) 14 0) 9 0).1 0) ((sI (sI (sI m1 15 (-1)) 14 0) 9 0).1 3) 0 0 177)) 7 1) 8 0).1 3) A := by
      show RR ((sF (sI (sI (sI m1 15 (-1)) 14 0) 9 0) 3 (va_cpy (m1.1 0) (m1.1 3) 0 0 177)).1 3) A
      rw [sF_row]
      refine RR_eq h n1 n2 (fun i hi => ?_)
      rw [pk_cpy_in (by omega) (by omega), show 0 + (i - 0) = i by omega, g0]
    have w1 : ∀ j, j ≠ 3 → (sI (sI (sF (sI (sI (sI m1 15 (-1)) 14 0) 9 0) 3 (va_cpy ((sI (sI (sI m1 15 (-1)) 14 0) 9 0).1 0) ((sI (sI (sI m1 15 (-1)) 14 0) 9 0).1 3) 0 0 177)) 7 1) 8 0).1 j = m1.1 j := fun j hj => s3 _ j hj
    have w2 : ∀ j, j ≠ 7 → j ≠ 8 → j ≠ 9 → j ≠ 14 → j ≠ 15 → (sI (sI (sF (sI (sI (sI m1 15 (-1)) 14 0) 9 0) 3 (va_cpy ((sI (sI (sI m1 15 (-1)) 14 0) 9 0).1 0) ((sI (sI (sI m1 15 (-1)) 14 0) 9 0).1 3) 0 0 177)) 7 1) 8 0).2 j = m1.2 j := fun j a b c d e => by
      rw [sI_oth b, sI_oth a]
      show (sI (sI (sI m1 15 (-1)) 14 0) 9 0).2 j = _
      rw [sI_oth c, sI_oth d, sI_oth e]
    have w7 : (sI (sI (sF (sI (sI (sI m1 15 (-1)) 14 0) 9 0) 3 (va_cpy ((sI (sI (sI m1 15 (-1)) 14 0) 9 0).1 0) ((sI (sI (sI m1 15 (-1)) 14 0) 9 0).1 3) 0 0 177)) 7 1) 8 0).2 7 = 1 := by rw [sI_oth (by decide), sI_at]
    have w8 : (sI (sI (sF (sI (sI (sI m1 15 (-1)) 14 0) 9 0) 3 (va_cpy ((sI (sI (sI m1 15 (-1)) 14 0) 9 0).1 0) ((sI (sI (sI m1 15 (-1)) 14 0) 9 0).1 3) 0 0 177)) 7 1) 8 0).2 8 = nI 0 := by rw [sI_at]; decide
    have w9 : (sI (sI (sF (sI (sI (sI m1 15 (-1)) 14 0) 9 0) 3 (va_cpy ((sI (sI (sI m1 15 (-1)) 14 0) 9 0).1 0) ((sI (sI (sI m1 15 (-1)) 14 0) 9 0).1 3) 0 0 177)) 7 1) 8 0).2 9 = 0 := by
      rw [sI_oth (by decide), sI_oth (by decide)]
      show (sI (sI (sI m1 15 (-1)) 14 0) 9 0).2 9 = _
      rw [sI_at]
    have w14 : (sI (sI (sF (sI (sI (sI m1 15 (-1)) 14 0) 9 0) 3 (va_cpy ((sI (sI (sI m1 15 (-1)) 14 0) 9 0).1 0) ((sI (sI (sI m1 15 (-1)) 14 0) 9 0).1 3) 0 0 177)) 7 1) 8 0).2 14 = 0 := by
      rw [sI_oth (by decide), sI_oth (by decide)]
      show (sI (sI (sI m1 15 (-1)) 14 0) 9 0).2 14 = _
      rw [sI_oth (by decide), sI_at]
    have w15 : (sI (sI (sF (sI (sI (sI m1 15 (-1)) 14 0) 9 0) 3 (va_cpy ((sI (sI (sI m1 15 (-1)) 14 0) 9 0).1 0) ((sI (sI (sI m1 15 (-1)) 14 0) 9 0).1 3) 0 0 177)) 7 1) 8 0).2 15 = -1 := by
      rw [sI_oth (by decide), sI_oth (by decide)]
      show (sI (sI (sI m1 15 (-1)) 14 0) 9 0).2 15 = _
      rw [sI_oth (by decide), sI_oth (by decide), sI_at]
    generalize sI (sI (sF (sI (sI (sI m1 15 (-1)) 14 0) 9 0) 3 (va_cpy ((sI (sI (sI m1 15 (-1)) 14 0) 9 0).1 0) ((sI (sI (sI m1 15 (-1)) 14 0) 9 0).1 3) 0 0 177)) 7 1) 8 0 = m2 at r3 w1 w2 w7 w8 w9 w14 w15
    have v6 : m2.2 6 = nI c0 := by rw [w2 6 (by decide) (by decide) (by decide) (by decide) (by decide), f.2 6 (by decide) (by decide)]; exact hK.1
    have td2 : TDs m2 T (FN T).2.1 := fun j hj => by
      have t := u2 j hj
      unfold TDc at t ⊢
      rw [w1 22 (by decide)]
      exact t
    have v23 : m2.2 23 = nI (FN T).2.1 := by rw [w2 23 (by decide) (by decide) (by decide) (by decide) (by decide)]; exact u1
    have i10 : m2.2 10 = m.2 10 := by rw [w2 10 (by decide) (by decide) (by decide) (by decide) (by decide)]; exact f.2 10 (by decide) (by decide)
    have i11 : m2.2 11 = m.2 11 := by rw [w2 11 (by decide) (by decide) (by decide) (by decide) (by decide)]; exact f.2 11 (by decide) (by decide)
    have i12 : m2.2 12 = m.2 12 := by rw [w2 12 (by decide) (by decide) (by decide) (by decide) (by decide)]; exact f.2 12 (by decide) (by decide)
    have i5 : m2.2 5 = m.2 5 := by rw [w2 5 (by decide) (by decide) (by decide) (by decide) (by decide)]; exact f.2 5 (by decide) (by decide)
    have i17 : m2.2 17 = m.2 17 := by rw [w2 17 (by decide) (by decide) (by decide) (by decide) (by decide)]; exact f.2 17 (by decide) (by decide)
    refine ⟨(FN T).2.1 + 2, m_cmdLoop v6 hc8 w7 v23 f1 td2 f2 (FN T).2.1 0 A 0 m2 (by omega) (by rw [w1 0 (by decide), g0]; exact h) hI hF w8 w9 FCm.rfl' rfl rfl rfl (fun rr dd i e g m3 fc c9 c10 c11 c12 => ?_) (fun B e g m3 hr fc c9 c10 c11 c12 hB hB2 => ?_)⟩
    · have x15 : m3.2 15 = -1 := by rw [fc.2 15 (by decide) (by decide) (by decide) (by decide) (by decide) (by decide)]; exact w15
      have x14 : m3.2 14 = 0 := by rw [fc.2 14 (by decide) (by decide) (by decide) (by decide) (by decide) (by decide)]; exact w14
      have x5 : m3.2 5 = m.2 5 := by rw [fc.2 5 (by decide) (by decide) (by decide) (by decide) (by decide) (by decide)]; exact i5
      have x17 : m3.2 17 = m.2 17 := by rw [fc.2 17 (by decide) (by decide) (by decide) (by decide) (by decide) (by decide)]; exact i17
      have x6 : m3.2 6 = m.2 6 := by rw [fc.2 6 (by decide) (by decide) (by decide) (by decide) (by decide) (by decide), w2 6 (by decide) (by decide) (by decide) (by decide) (by decide)]; exact f.2 6 (by decide) (by decide)
      rintro _ rfl
      have y9 : (sI m3 7 0).2 9 = 1 := by rw [sI_oth (by decide)]; exact c9
      rw [y9]
      refine ⟨fun z => absurd z (by decide), fun _ => ?_⟩
      refine m_copies (a := 0) (b := 0) (by omega) (by omega) (by omega) (by omega) ?_
      rintro _ rfl
      rintro _ rfl
      have last : ∀ x, Q x (sI (sF (sI m3 7 0) 0 (va_cpy ((sI m3 7 0).1 3) ((sI m3 7 0).1 0) 0 0 177)) 9 2) := fun x => by
        refine qb e4 rr dd i e x _ ⟨fun j a b c d e' g' => ?_, ?_, ?_, ?_, ?_⟩ ?_ (hK.same ?_ ?_) ?_ ?_ ?_ ?_ sI_at
        · show (sF (sI m3 7 0) 0 (va_cpy (m3.1 3) (m3.1 0) 0 0 177)).1 j = _
          rw [sF_oth a]
          show m3.1 j = _
          rw [fc.1 j a d e', w1 j c, f.1 j g']
        · rw [sI_oth (by decide)]
          show (sI m3 7 0).2 14 = _
          rw [sI_oth (by decide)]; exact x14
        · rw [sI_oth (by decide)]
          show (sI m3 7 0).2 7 = _
          rw [sI_at]
        · rw [sI_oth (by decide)]
          show (sI m3 7 0).2 5 = _
          rw [sI_oth (by decide)]; exact x5
        · rw [sI_oth (by decide)]
          show (sI m3 7 0).2 17 = _
          rw [sI_oth (by decide)]; exact x17
        · have e0 : (sI (sF (sI m3 7 0) 0 (va_cpy ((sI m3 7 0).1 3) ((sI m3 7 0).1 0) 0 0 177)) 9 2).1 0 = va_cpy (m3.1 3) (m3.1 0) 0 0 177 := by
            show (sF (sI m3 7 0) 0 (va_cpy (m3.1 3) (m3.1 0) 0 0 177)).1 0 = _
            exact sF_row
          rw [e0]
          refine RR_eq r3 n1 n2 (fun i hi => ?_)
          rw [pk_cpy_in (by omega) (by omega), show 0 + (i - 0) = i by omega]
          rw [fc.1 3 (by decide) (by decide) (by decide)]
        · show (sF (sI m3 7 0) 0 (va_cpy (m3.1 3) (m3.1 0) 0 0 177)).1 1 = _
          rw [sF_oth (by decide)]
          show m3.1 1 = _
          rw [fc.1 1 (by decide) (by decide) (by decide), w1 1 (by decide), f.1 1 (by decide)]
        · rw [sI_oth (by decide)]
          show (sI m3 7 0).2 6 = _
          rw [sI_oth (by decide)]; exact x6
        · rw [sI_oth (by decide)]
          show (sI m3 7 0).2 10 = _
          rw [sI_oth (by decide)]; exact c10
        · rw [sI_oth (by decide)]
          show (sI m3 7 0).2 11 = _
          rw [sI_oth (by decide)]; exact c11
        · rw [sI_oth (by decide)]
          show (sI m3 7 0).2 12 = _
          rw [sI_oth (by decide)]; exact c12
        · rw [sI_oth (by decide)]
          show (sI m3 7 0).2 15 = _
          rw [sI_oth (by decide)]; exact x15
      exact ⟨fun _ => last _, fun _ => last _⟩
    · have x15 : m3.2 15 = -1 := by rw [fc.2 15 (by decide) (by decide) (by decide) (by decide) (by decide) (by decide)]; exact w15
      have x14 : m3.2 14 = 0 := by rw [fc.2 14 (by decide) (by decide) (by decide) (by decide) (by decide) (by decide)]; exact w14
      have x5 : m3.2 5 = m.2 5 := by rw [fc.2 5 (by decide) (by decide) (by decide) (by decide) (by decide) (by decide)]; exact i5
      have x17 : m3.2 17 = m.2 17 := by rw [fc.2 17 (by decide) (by decide) (by decide) (by decide) (by decide) (by decide)]; exact i17
      have x6 : m3.2 6 = nI c0 := by rw [fc.2 6 (by decide) (by decide) (by decide) (by decide) (by decide) (by decide)]; exact v6
      have x23 : m3.2 23 = nI (FN T).2.1 := by rw [fc.2 23 (by decide) (by decide) (by decide) (by decide) (by decide) (by decide)]; exact v23
      rintro _ rfl
      have y9 : (sI m3 7 0).2 9 = 0 := by rw [sI_oth (by decide)]; exact c9
      rw [y9]
      refine ⟨fun _ => ?_, fun z => absurd (show (0 : Int32) ≤ 0 by decide) z⟩
      refine m_keeps3 (c := c0) sI_at (by rw [sI_oth (by decide)]; exact x6) hc8 (fun m4 k1 k6 k9 kA kI => ?_)
      have y23 : m4.2 23 = nI (FN T).2.1 := by rw [kI 23 (by decide) (by decide), sI_oth (by decide)]; exact x23
      rw [y23]
      have m3r : RR (m3.1 3) A := by rw [fc.1 3 (by decide) (by decide) (by decide)]; exact r3
      have kr : KRR m3 c0 K := hK.same (by rw [fc.1 1 (by decide) (by decide) (by decide), w1 1 (by decide), f.1 1 (by decide)]) (x6.trans hK.1.symm)
      refine qc e4 B e m4 ⟨fun j a b c d e' g' => ?_, ?_, ?_, ?_, ?_⟩ ?_ hB hB2 (KRR_keep (m := m3) kr hc8 m3r hI hF k1 k6) ?_ ?_ ?_ ?_ k9
      · rw [kA j b]
        show m3.1 j = _
        rw [fc.1 j a d e', w1 j c, f.1 j g']
      · rw [kI 14 (by decide) (by decide), sI_oth (by decide)]; exact x14
      · rw [kI 7 (by decide) (by decide), sI_at]
      · rw [kI 5 (by decide) (by decide), sI_oth (by decide)]; exact x5
      · rw [kI 17 (by decide) (by decide), sI_oth (by decide)]; exact x17
      · rw [kA 0 (by decide)]; exact hr
      · rw [kI 10 (by decide) (by decide), sI_oth (by decide), c10]; exact i10
      · rw [kI 11 (by decide) (by decide), sI_oth (by decide), c11]; exact i11
      · rw [kI 12 (by decide) (by decide), sI_oth (by decide), c12]; exact i12
      · rw [kI 15 (by decide) (by decide), sI_oth (by decide)]; exact x15
end CMC
