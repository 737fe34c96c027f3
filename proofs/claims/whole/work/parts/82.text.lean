/-! the line's rows; the text: what is read, and the class's reading -/
theorem x_line {A : AL} {vKW vLg vLg2 vLg3 vLg4 vWv vPr vRf vTx vLn : OV} {vHs : HV} {x : Int32} {Q : Int32 → OV → Prop} (h : CR vLg A) (hI : Inv A) (hq : ∀ w W, W = (if x = 0 then pln (aWd A) (aIk A) (aNk A) else pln (aPn A) (aHk A) (aNl A)) → LNw (w.1 0) (w.2 1) W → Q (nI W.1) w) : wp_X7_line Q x vKW vLg vLg2 vLg3 vLg4 vWv vPr vRf vTx vLn vHs := by
  unfold wp_X7_line wp_X7_line_0
  rintro _ rfl
  refine ⟨fun z => ?_, fun z => ?_⟩
  · refine c_writeKeys h hI (by rw [sI_at]) (fun w hw => ?_)
    show Q (w.2 1) w
    rw [hw.1]
    exact hq w _ (by rw [if_pos z]) hw
  · refine c_writeLocks h hI (by rw [sI_at]) (fun w hw => ?_)
    show Q (w.2 1) w
    rw [hw.1]
    exact hq w _ (by rw [if_neg z]) hw
theorem le_pred2 {x : Int32} {n : Nat} (hn : n < 2 ^ 30) (h0 : 0 ≤ x) : x ≤ nI n - 1 ↔ x < nI n := by
  have hx : ¬ x < 0 := Int32.not_lt.mpr h0
  cases n with
  | zero => exact ⟨fun h => absurd (Int32.lt_of_le_of_lt h (by decide)) hx, fun h => absurd h hx⟩
  | succ n =>
    rw [nI_pred]
    rcases pk_ix x (n := n + 1) (by omega) with c | c | ⟨j, hj, rfl⟩
    · exact absurd c hx
    · exact ⟨fun h => absurd (Int32.le_trans c h) (nI_ge (by omega) (by omega)), fun h => absurd h (Int32.not_lt.mpr c)⟩
    · rw [nI_leI (by omega) (by omega), nI_ltI (by omega) (by omega)]; omega
def qChr (row : Nat → Int32) (n : Nat) (x : Int32) : QT := if 0 ≤ x ∧ x < nI n then (0, row x.toNatClampNeg) else (1, 0)
theorem ix_of {x : Int32} {n : Nat} (hn : n < 2 ^ 31) (h : 0 ≤ x ∧ x < nI n) : ∃ w : Nat, w < n ∧ x = nI w ∧ x.toNatClampNeg = w := by
  rcases pk_ix x (n := n) (by omega) with c | c | ⟨j, hj, e⟩
  · exact absurd c (Int32.not_lt.mpr h.1)
  · exact absurd h.2 (Int32.not_lt.mpr c)
  · exact ⟨j, hj, e, by rw [e]; exact nI_clamp (by omega)⟩
theorem L_character {vKW vLg vLg2 vLg3 vLg4 vWv vPr vRf vTx vLn : OV} {vHs : HV} {vLa : Nat → Int64} {x : Int32} {n : Nat} {Q : Int32 → (Nat → Int64) → Prop} (hn : n ≤ 80) (e1 : vLn.2 1 = nI n) (hc : ∀ i, i < n → ∃ q, q < 65536 ∧ vLn.1 0 i = nI q) (hq : LQ Q (qChr (vLn.1 0) n x)) : wp_L_character Q x vKW vLg vLg2 vLg3 vLg4 vWv vPr vRf vTx vLn vHs vLa := by
  unfold wp_L_character wp_L_character_0 wp_X7_character wp_X7_character_0
  have hasv : ∀ P : Int32 → Prop, (0 ≤ x ∧ x < nI n → P 1) → (¬ (0 ≤ x ∧ x < nI n) → P 0) → wp_X2_has P x vLn := fun P h1 h0 => by
    unfold wp_X2_has wp_X2_has_0
    rw [e1]
    refine ⟨fun z => ⟨rfl, h0 fun y => absurd z (Int32.not_lt.mpr y.1)⟩, fun z => ⟨fun z2 => ⟨rfl, h0 fun y => absurd y.2 (Int32.not_lt.mpr z2)⟩, fun z2 => ?_⟩⟩
    have c : 0 ≤ x ∧ x < nI n := ⟨Int32.not_lt.mp z, Int32.not_le.mp z2⟩
    refine br_f (fun z3 => ?_) ⟨rfl, h1 c⟩
    have l80 : nI n ≤ nI 80 := nI_le (by omega) (by omega)
    exact (Int32.lt_irrefl (Int32.lt_of_lt_of_le c.2 (Int32.le_trans l80 z3))).elim
  by_cases c : 0 ≤ x ∧ x < nI n
  · rw [qChr, if_pos c] at hq
    obtain ⟨i, hi, e, e2⟩ := ix_of (by omega) c
    obtain ⟨q, q1, q2⟩ := hc i hi
    have nc : narrow .char (.int (vLn.1 0 x.toNatClampNeg)) = .int (vLn.1 0 x.toNatClampNeg) := by
      rw [e2, q2]; exact (pk_charN q1).1
    refine hasv _ (fun _ => ⟨fun _ => ?_, fun z => absurd z (by decide)⟩) (fun z => absurd c z)
    exact hasv _ (fun _ => ⟨fun z => absurd z (by decide), fun _ => ⟨by rw [e]; exact vp_in_nI (by omega) (by omega), nc, nc, LQ.ok hq⟩⟩) (fun z => absurd c z)
  · rw [qChr, if_neg c] at hq
    exact hasv _ (fun z => absurd z c) (fun _ => ⟨fun z => absurd rfl z, fun _ => ⟨rfl, LQ.bad hq _⟩⟩)
theorem m_character {m : OV} {A : AL} {Q : Int32 → OV → Prop} {x : Int32} {n : Nat} (h : RR (m.1 0) A) (hn : n ≤ 80) (e1 : m.2 17 = nI n) (hc : ∀ i, i < n → ∃ q, q < 65536 ∧ m.1 16 i = nI q) (hq : QR Q A m (qChr (m.1 16) n x)) : wp_X8_character Q x m := by
  unfold wp_X8_character wp_X8_character_0
  rw [e1]
  refine m_in (fun z => ⟨fun z => absurd z (by decide), fun _ => ?_⟩) (fun z => ⟨fun _ => ?_, fun z => absurd rfl z⟩)
  · have c : 0 ≤ x ∧ x < nI n := ⟨z.1, (le_pred2 (by omega) z.1).mp z.2⟩
    rw [qChr, if_pos c] at hq
    obtain ⟨i, hi, e, e2⟩ := ix_of (by omega) c
    obtain ⟨q, q1, q2⟩ := hc i hi
    refine m_fails0 ⟨fun _ => ⟨by rw [e]; exact vp_in_nI (by omega) (by omega), ?_⟩, fun z => absurd rfl z⟩
    have er : (sI m 9 0).1 16 x.toNatClampNeg = m.1 16 x.toNatClampNeg := rfl
    rw [er]
    exact ⟨by rw [e2, q2]; exact (pk_charN q1).1, hq.ok (m' := sI m 9 0) h (MQn.s9 0) (by rw [sI_at]; rfl)⟩
  · rw [qChr, if_neg fun y => z ⟨y.1, (le_pred2 (by omega) y.1).mpr y.2⟩] at hq
    exact m_fails1 ⟨fun z => absurd z (by decide), fun _ => ⟨by decide, hq.bad (m' := sI m 9 1) h (MQn.s9 1) (by rw [sI_at]; rfl)⟩⟩
-- the text
abbrev TT0 : Type := Nat × (Nat → Nat)
def qv (T : TT0) (p : Nat) : Nat := if p < T.1 then T.2 p else 0
abbrev isDg (T : TT0) (p : Nat) : Prop := 48 ≤ qv T p ∧ qv T p ≤ 57
theorem qv_lt {T : TT0} {p : Nat} (h : qv T p ≠ 0) : p < T.1 := Classical.byContradiction fun z => h (if_neg z)
/-- one more than the number that is read (0: none), and the place behind it -/
def rdn (T : TT0) : Nat → Nat → Nat → Nat × Nat
  | 0, p, v => (v, p)
  | d + 1, p, v => if isDg T p then rdn T d (p + 1) ((v - 1) * 10 + (qv T p - 48) + 1) else (v, p)
abbrev CTy : Type := Nat × Nat × Nat × Nat × Nat
def cB2 (l a : Nat) (s : Nat × Nat) : CTy := if s.1 = 0 then (0, l, a, 0, s.2) else (1, l, a, s.1 - 1, s.2)
def cB1 (T : TT0) (l : Nat) (r : Nat × Nat) : CTy := if r.1 = 0 then (0, l, 0, 0, r.2) else cB2 l (r.1 - 1) (rdn T 1 r.2 0)
def cS1 (T : TT0) (l m2 : Nat) (r : Nat × Nat) : CTy := if r.1 = 0 then (0, l, 0, 0, r.2) else if qv T r.2 = 47 then cB2 l (r.1 - 1) (rdn T m2 (r.2 + 1) 0) else (0, l, 0, 0, r.2)
def cN1 (l : Nat) (r : Nat × Nat) : CTy := if r.1 = 0 then (0, l, 0, 0, r.2) else (1, l, r.1 - 1, 0, r.2)
def cmd (T : TT0) (p : Nat) : CTy :=
  if qv T p = 119 then (1, 119, 0, 0, p + 1) else if qv T p = 107 then cS1 T 107 1 (rdn T 2 (p + 1) 0) else if qv T p = 99 then cS1 T 99 2 (rdn T 1 (p + 1) 0) else if qv T p = 108 then cN1 108 (rdn T 2 (p + 1) 0) else if qv T p = 98 then cB1 T 98 (rdn T 1 (p + 1) 0) else if qv T p = 117 then cB1 T 117 (rdn T 1 (p + 1) 0) else if qv T p = 112 then cB1 T 112 (rdn T 1 (p + 1) 0) else if qv T p = 116 then cN1 116 (rdn T 1 (p + 1) 0) else if qv T p = 115 then cN1 115 (rdn T 1 (p + 1) 0) else (0, 0, 0, 0, p)
theorem rdn_p {T : TT0} : ∀ d p v, p ≤ T.1 → p ≤ (rdn T d p v).2 ∧ (rdn T d p v).2 ≤ T.1 := by
  intro d
  induction d with
  | zero => intro p v h; exact ⟨Nat.le_refl _, h⟩
  | succ d ih =>
    intro p v h
    rw [rdn]
    by_cases c : isDg T p
    · rw [if_pos c]
      have := qv_lt (T := T) (p := p) (by omega)
      have t := ih (p + 1) ((v - 1) * 10 + (qv T p - 48) + 1) (by omega)
      omega
    · rw [if_neg c]; exact ⟨Nat.le_refl _, h⟩
theorem rdn_v {T : TT0} : ∀ d p v, d ≤ 2 → (v ≤ 1 ∧ d = 2 ∨ v ≤ 10 ∧ d ≤ 1 ∨ v ≤ 100 ∧ d = 0) → (rdn T d p v).1 ≤ 100 := by
  intro d
  induction d with
  | zero => intro p v _ h; rw [rdn]; show v ≤ 100; omega
  | succ d ih =>
    intro p v hd h
    rw [rdn]
    by_cases c : isDg T p
    · rw [if_pos c]
      refine ih _ _ (by omega) ?_
      omega
    · rw [if_neg c]; show v ≤ 100; omega
theorem cB2_p {l a : Nat} {s : Nat × Nat} : (cB2 l a s).2.2.2.2 = s.2 := by
  unfold cB2; split <;> rfl
theorem cmd_p {T : TT0} {p : Nat} (h : p ≤ T.1) : p ≤ (cmd T p).2.2.2.2 ∧ (cmd T p).2.2.2.2 ≤ T.1 ∧ ((cmd T p).1 = 0 ∨ (cmd T p).1 = 1) ∧ ((cmd T p).1 = 1 → p + 1 ≤ (cmd T p).2.2.2.2) := by
  have n1 : ∀ l m, qv T p ≠ 0 → p ≤ (cN1 l (rdn T m (p + 1) 0)).2.2.2.2 ∧ (cN1 l (rdn T m (p + 1) 0)).2.2.2.2 ≤ T.1 ∧ ((cN1 l (rdn T m (p + 1) 0)).1 = 0 ∨ (cN1 l (rdn T m (p + 1) 0)).1 = 1) ∧ ((cN1 l (rdn T m (p + 1) 0)).1 = 1 → p + 1 ≤ (cN1 l (rdn T m (p + 1) 0)).2.2.2.2) := fun l m hz => by
    have hp := qv_lt hz
    obtain ⟨a, b⟩ := rdn_p (T := T) m (p + 1) 0 (by omega)
    unfold cN1
    split
    · exact ⟨show p ≤ (rdn T m (p + 1) 0).2 by omega, b, Or.inl rfl, fun z => (Nat.zero_ne_one z).elim⟩
    · exact ⟨show p ≤ (rdn T m (p + 1) 0).2 by omega, b, Or.inr rfl, fun _ => a⟩
  have b2 : ∀ l a (s : Nat × Nat), p + 1 ≤ s.2 → s.2 ≤ T.1 → p ≤ (cB2 l a s).2.2.2.2 ∧ (cB2 l a s).2.2.2.2 ≤ T.1 ∧ ((cB2 l a s).1 = 0 ∨ (cB2 l a s).1 = 1) ∧ ((cB2 l a s).1 = 1 → p + 1 ≤ (cB2 l a s).2.2.2.2) := fun l a s h1 h2 => by
    rw [cB2_p]
    refine ⟨by omega, h2, ?_, fun _ => h1⟩
    unfold cB2; split
    · exact Or.inl rfl
    · exact Or.inr rfl
  have b1 : ∀ l, qv T p ≠ 0 → p ≤ (cB1 T l (rdn T 1 (p + 1) 0)).2.2.2.2 ∧ (cB1 T l (rdn T 1 (p + 1) 0)).2.2.2.2 ≤ T.1 ∧ ((cB1 T l (rdn T 1 (p + 1) 0)).1 = 0 ∨ (cB1 T l (rdn T 1 (p + 1) 0)).1 = 1) ∧ ((cB1 T l (rdn T 1 (p + 1) 0)).1 = 1 → p + 1 ≤ (cB1 T l (rdn T 1 (p + 1) 0)).2.2.2.2) := fun l hz => by
    have hp := qv_lt hz
    obtain ⟨a, b⟩ := rdn_p (T := T) 1 (p + 1) 0 (by omega)
    unfold cB1
    split
    · exact ⟨show p ≤ (rdn T 1 (p + 1) 0).2 by omega, b, Or.inl rfl, fun z => (Nat.zero_ne_one z).elim⟩
    · obtain ⟨a2, b2'⟩ := rdn_p (T := T) 1 (rdn T 1 (p + 1) 0).2 0 b
      exact b2 _ _ _ (by omega) b2'
  have s1 : ∀ l m1 m2, qv T p ≠ 0 → p ≤ (cS1 T l m2 (rdn T m1 (p + 1) 0)).2.2.2.2 ∧ (cS1 T l m2 (rdn T m1 (p + 1) 0)).2.2.2.2 ≤ T.1 ∧ ((cS1 T l m2 (rdn T m1 (p + 1) 0)).1 = 0 ∨ (cS1 T l m2 (rdn T m1 (p + 1) 0)).1 = 1) ∧ ((cS1 T l m2 (rdn T m1 (p + 1) 0)).1 = 1 → p + 1 ≤ (cS1 T l m2 (rdn T m1 (p + 1) 0)).2.2.2.2) := fun l m1 m2 hz => by
    have hp := qv_lt hz
    obtain ⟨a, b⟩ := rdn_p (T := T) m1 (p + 1) 0 (by omega)
    unfold cS1
    split
    · exact ⟨show p ≤ (rdn T m1 (p + 1) 0).2 by omega, b, Or.inl rfl, fun z => (Nat.zero_ne_one z).elim⟩
    · split
      · rename_i c
        have := qv_lt (T := T) (p := (rdn T m1 (p + 1) 0).2) (by omega)
        obtain ⟨a2, b2'⟩ := rdn_p (T := T) m2 ((rdn T m1 (p + 1) 0).2 + 1) 0 (by omega)
        exact b2 _ _ _ (by omega) b2'
      · exact ⟨show p ≤ (rdn T m1 (p + 1) 0).2 by omega, b, Or.inl rfl, fun z => (Nat.zero_ne_one z).elim⟩
  unfold cmd
  split
  · have := qv_lt (T := T) (p := p) (by omega)
    exact ⟨show p ≤ p + 1 by omega, show p + 1 ≤ T.1 by omega, Or.inr rfl, fun _ => Nat.le_refl _⟩
  split
  · exact s1 _ _ _ (by omega)
  split
  · exact s1 _ _ _ (by omega)
  split
  · exact n1 _ _ (by omega)
  split
  · exact b1 _ (by omega)
  split
  · exact b1 _ (by omega)
  split
  · exact b1 _ (by omega)
  split
  · exact n1 _ _ (by omega)
  split
  · exact n1 _ _ (by omega)
  · exact ⟨Nat.le_refl _, h, Or.inl rfl, fun z => (Nat.zero_ne_one z).elim⟩
/-- the class's text stands at p -/
def TXp (w : OV) (T : TT0) (p : Nat) : Prop := T.1 ≤ 60 ∧ p ≤ T.1 ∧ w.2 1 = nI T.1 ∧ w.2 2 = nI p ∧ ∀ i, i < T.1 → w.1 0 i = nI (T.2 i) ∧ T.2 i < 65536
def FR4 (w w' : OV) : Prop := w'.1 = w.1 ∧ w'.2 3 = w.2 3
theorem FR4.rfl' {w : OV} : FR4 w w := ⟨rfl, rfl⟩
theorem FR4.tr {w w' w'' : OV} (h : FR4 w w') (h' : FR4 w' w'') : FR4 w w'' := ⟨h'.1.trans h.1, h'.2.trans h.2⟩
theorem qv_le {T : TT0} {p : Nat} {w : OV} (h : TXp w T p) : qv T p < 65536 := by
  unfold qv
  split
  · rename_i c; exact (h.2.2.2.2 p c).2
  · decide
theorem c_sign {w : OV} {T : TT0} {p : Nat} {Q : Int32 → Prop} (h : TXp w T p) (hq : Q (nI (qv T p))) : wp_X0_signAtPlace Q w := by
  obtain ⟨h1, h2, h3, h4, h5⟩ := h
  unfold wp_X0_signAtPlace wp_X0_signAtPlace_0
  rw [h3, h4]
  refine br_f (nI_pos (by omega)) ?_
  by_cases c : p < T.1
  · have e : qv T p = T.2 p := if_pos c
    rw [e] at hq
    refine br_f (nI_ge c (by omega)) (br_f (show ¬ nI 60 ≤ nI p from nI_ge (by omega) (by omega)) ⟨vp_in_nI (by omega) (by omega), ?_⟩)
    rw [nI_clamp (by omega), (h5 p c).1]
    exact ⟨(pk_charN (h5 p c).2).1, hq⟩
  · have e : qv T p = 0 := if_neg c
    rw [e] at hq
    exact br_t (nI_le (by omega) (by omega)) ⟨by decide, hq⟩
theorem TXp.go {w w' : OV} {T : TT0} {p q : Nat} (h : TXp w T p) (hq : q ≤ T.1) (e1 : w'.1 = w.1) (e2 : w'.2 1 = w.2 1) (e3 : w'.2 2 = nI q) : TXp w' T q := ⟨h.1, hq, e2.trans h.2.2.1, e3, fun i hi => by rw [e1]; exact h.2.2.2.2 i hi⟩
theorem c_readNumber {w : OV} {T : TT0} {p m : Nat} {Q : Int32 → OV → Prop} (h : TXp w T p) (hm : m ≤ 2) (hq : ∀ w', TXp w' T (rdn T m p 0).2 → w'.1 = w.1 → (∀ j, j ≠ 2 → w'.2 j = w.2 j) → Q (nI (rdn T m p 0).1 - 1) w') : wp_X0_readNumber Q (nI m) w := by
  have key : ∀ d i p v w', i + d = m → TXp w' T p → w'.1 = w.1 → (∀ j, j ≠ 2 → w'.2 j = w.2 j) → v ≤ 1000 → (d ≤ 2) → (∀ w'', TXp w'' T (rdn T d p v).2 → w''.1 = w.1 → (∀ j, j ≠ 2 → w''.2 j = w.2 j) → Q (nI (rdn T d p v).1 - 1) w'') → (v ≤ 100 ∨ d = 0) → (v ≤ 10 ∨ d ≤ 1) → wp_X0_readNumber_4_loop Q (d + 1) (nI m) (nI v - 1) (nI i) w' := fun d => by
    induction d with
    | zero =>
      intro i p v w' hi ht e1 e2 hv hd hq' _ _
      have hi : i = m := by omega
      subst hi
      exact br_t (nI_le (Nat.le_refl _) (by omega)) (hq' w' ht e1 e2)
    | succ d ih =>
      intro i p v w' hi ht e1 e2 hv hd hq' g1 g2
      have b := qv_le ht
      refine br_f (nI_ge (by omega) (by omega)) (c_sign ht ?_)
      rw [rdn] at hq'
      refine ⟨fun z => ?_, fun z => ⟨fun z2 => ?_, fun z2 => ?_⟩⟩
      · have z' := (nI_ltI (a := qv T p) (b := 48) (by omega) (by omega)).mp z
        rw [if_neg (by omega)] at hq'
        exact hq' w' ht e1 e2
      · have z' : ¬ qv T p < 48 := fun y => z ((nI_ltI (a := qv T p) (b := 48) (by omega) (by omega)).mpr y)
        have z2' := (nI_leI (a := qv T p) (b := 57) (by omega) (by omega)).mp z2
        have hp := qv_lt (T := T) (p := p) (by omega)
        rw [if_pos ⟨by omega, by omega⟩] at hq'
        rintro _ rfl
        rintro _ rfl
        rintro _ rfl
        have ev : (if nI v - 1 < (0 : Int32) then (0 : Int32) else nI v - 1) = nI (v - 1) := by
          cases v with
          | zero => decide
          | succ v => rw [nI_pred, if_neg (nI_pos (by omega))]; rfl
        have e48 : nI (qv T p) - (48 : Int32) = nI (qv T p - 48) := pk_sub (b := 48) (by omega)
        rw [ev, e48, show (10 : Int32) = nI 10 by decide, pk_mul, nI_add, nI_1, ← nI_pred ((v - 1) * 10 + (qv T p - 48))]
        refine ih (i + 1) (p + 1) ((v - 1) * 10 + (qv T p - 48) + 1) (sI w' 2 (w'.2 2 + 1)) (by omega) ?_ e1 (fun j hj => ?_) (by omega) (by omega) hq' (by omega) (by omega)
        · refine ht.go (by omega) rfl (sI_oth (by decide)) ?_
          rw [sI_at, ht.2.2.2.1, nI_1]
        · rw [sI_oth hj]; exact e2 j hj
      · have z2' : ¬ qv T p ≤ 57 := fun y => z2 ((nI_leI (a := qv T p) (b := 57) (by omega) (by omega)).mpr y)
        rw [if_neg (by omega)] at hq'
        exact hq' w' ht e1 e2
  exact ⟨m + 1, key m 0 p 0 w (by omega) h rfl (fun _ _ => rfl) (by omega) hm hq (by omega) (by omega)⟩
