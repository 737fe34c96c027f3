/-! the class reads a command -/
def RCQ (Q : Int32 → OV → Prop) (w : OV) (T : TT0) (r : CTy) : Prop := ∀ w', TXp w' T r.2.2.2.2 → FR4 w w' → (r.1 = 1 → w'.2 4 = nI r.2.1 ∧ (r.2.1 ≠ 119 → w'.2 5 = nI r.2.2.1) ∧ (r.2.1 ≠ 119 → r.2.1 ≠ 108 → r.2.1 ≠ 116 → r.2.1 ≠ 115 → w'.2 6 = nI r.2.2.2.1)) → Q (nI r.1) w'
theorem c_readFirst {w : OV} {T : TT0} {p m : Nat} {Q : Int32 → OV → Prop} (h : TXp w T p) (hm : m ≤ 2) (hq : ∀ w', TXp w' T (rdn T m p 0).2 → FR4 w w' → w'.2 4 = w.2 4 → w'.2 5 = nI (rdn T m p 0).1 - 1 → Q (nI (b01 (¬ (rdn T m p 0).1 = 0))) w') : wp_X0_readFirst Q (nI m) w := by
  unfold wp_X0_readFirst wp_X0_readFirst_0
  refine c_readNumber h hm (fun w' t e1 e2 => ?_)
  have hv := rdn_v (T := T) m p 0 hm (by omega)
  have e3 := (nI_m1 (show (rdn T m p 0).1 < 2 ^ 30 by omega)).1
  have t2 := hq (sI w' 5 (nI (rdn T m p 0).1 - 1)) (t.go t.2.1 rfl (sI_oth (by decide)) (by rw [sI_oth (by decide)]; exact t.2.2.2.1)) ⟨e1, by rw [sI_oth (by decide)]; exact e2 3 (by decide)⟩ (by rw [sI_oth (by decide)]; exact e2 4 (by decide)) sI_at
  rintro _ rfl
  rw [sI_at]
  refine ⟨fun z => ⟨rfl, ?_⟩, fun z => ⟨rfl, ?_⟩⟩
  · rw [b01_f (fun y => y (e3.mp z))] at t2
    exact t2
  · rw [b01_t (show ¬ (rdn T m p 0).1 = 0 from fun y => z (e3.mpr y))] at t2
    exact t2
theorem c_readSecond {w : OV} {T : TT0} {p m : Nat} {Q : Int32 → OV → Prop} (h : TXp w T p) (hm : m ≤ 2) (hq : ∀ w', TXp w' T (rdn T m p 0).2 → FR4 w w' → w'.2 4 = w.2 4 → w'.2 5 = w.2 5 → w'.2 6 = nI (rdn T m p 0).1 - 1 → Q (nI (b01 (¬ (rdn T m p 0).1 = 0))) w') : wp_X0_readSecond Q (nI m) w := by
  unfold wp_X0_readSecond wp_X0_readSecond_0
  refine c_readNumber h hm (fun w' t e1 e2 => ?_)
  have hv := rdn_v (T := T) m p 0 hm (by omega)
  have e3 := (nI_m1 (show (rdn T m p 0).1 < 2 ^ 30 by omega)).1
  have t2 := hq (sI w' 6 (nI (rdn T m p 0).1 - 1)) (t.go t.2.1 rfl (sI_oth (by decide)) (by rw [sI_oth (by decide)]; exact t.2.2.2.1)) ⟨e1, by rw [sI_oth (by decide)]; exact e2 3 (by decide)⟩ (by rw [sI_oth (by decide)]; exact e2 4 (by decide)) (by rw [sI_oth (by decide)]; exact e2 5 (by decide)) sI_at
  rintro _ rfl
  rw [sI_at]
  refine ⟨fun z => ⟨rfl, ?_⟩, fun z => ⟨rfl, ?_⟩⟩
  · rw [b01_f (fun y => y (e3.mp z))] at t2
    exact t2
  · rw [b01_t (show ¬ (rdn T m p 0).1 = 0 from fun y => z (e3.mpr y))] at t2
    exact t2
theorem c_readSign {w : OV} {T : TT0} {p c : Nat} {Q : Int32 → OV → Prop} (h : TXp w T p) (hc : c < 65536) (hc0 : c ≠ 0) (h1 : qv T p = c → ∀ w', TXp w' T (p + 1) → FR4 w w' → (∀ j, j ≠ 2 → w'.2 j = w.2 j) → Q 1 w') (h0 : ¬ qv T p = c → Q 0 w) : wp_X0_readSign Q (nI c) w := by
  unfold wp_X0_readSign wp_X0_readSign_0
  have b := qv_le h
  refine c_sign h ⟨fun z => ?_, fun z => h0 fun y => z (by rw [y])⟩
  have e := (nI_eq (by omega) (by omega)).mp z
  rintro _ rfl
  have hp := qv_lt (T := T) (p := p) (by omega)
  refine h1 e _ (h.go (by omega) rfl (sI_oth (by decide)) ?_) ⟨rfl, sI_oth (by decide)⟩ (fun j hj => sI_oth hj)
  rw [sI_at, h.2.2.2.1, nI_1]
theorem no01 {P : Prop} : (0 : Nat) = 1 → P := fun z => (Nat.zero_ne_one z).elim
section RDC
variable {Q : Int32 → OV → Prop} {N Y : OV → Prop} {w w1 : OV} {T : TT0} {p l m1 m2 : Nat}
theorem c_sec (hN : ∀ v, Q 0 v → N v) (hY : ∀ v, Q 1 v → Y v) {a : Nat} (ht : TXp w1 T p) (hf : FR4 w w1) (h4 : w1.2 4 = nI l) (h5 : w1.2 5 = nI a) (hm2 : m2 ≤ 2) (hq : RCQ Q w T (cB2 l a (rdn T m2 p 0))) : wp_X0_readSecond (fun (r : Int32) (v : OV) => ((r = 0 → N v) ∧ (¬ (r = 0) → Y v))) (nI m2) w1 := by
  refine c_readSecond ht hm2 (fun w2 t2 f2 e4 e5 e6 => ?_)
  unfold cB2 at hq
  by_cases c : (rdn T m2 p 0).1 = 0
  · rw [if_pos c] at hq
    rw [b01_f (fun z => z c)]
    exact ⟨fun _ => hN _ (hq w2 t2 (hf.tr f2) no01), fun z => absurd rfl z⟩
  · rw [if_neg c] at hq
    rw [b01_t c]
    refine ⟨fun z => absurd z (by decide), fun _ => hY _ (hq w2 t2 (hf.tr f2) fun _ => ⟨e4.trans h4, fun _ => e5.trans h5, fun _ _ _ _ => ?_⟩)⟩
    obtain ⟨b, hb⟩ : ∃ b, (rdn T m2 p 0).1 = b + 1 := ⟨(rdn T m2 p 0).1 - 1, by omega⟩
    rw [e6]
    show nI (rdn T m2 p 0).1 - 1 = nI ((rdn T m2 p 0).1 - 1)
    rw [hb, nI_pred, Nat.add_sub_cancel]
theorem c_slash (hN : ∀ v, Q 0 v → N v) (hY : ∀ v, Q 1 v → Y v) (ht : TXp w1 T p) (hf : FR4 w w1) (h4 : w1.2 4 = nI l) (hm1 : m1 ≤ 2) (hm2 : m2 ≤ 2) (hq : RCQ Q w T (cS1 T l m2 (rdn T m1 p 0))) : wp_X0_readFirst (fun (r : Int32) (v : OV) => ((r = 0 → N v) ∧ (¬ (r = 0) → (wp_X0_readSign (fun (r : Int32) (v : OV) => ((r = 0 → N v) ∧ (¬ (r = 0) → (wp_X0_readSecond (fun (r : Int32) (v : OV) => ((r = 0 → N v) ∧ (¬ (r = 0) → Y v))) (nI m2) v)))) (47 : Int32) v)))) (nI m1) w1 := by
  refine c_readFirst ht hm1 (fun w2 t2 f2 e4 e5 => ?_)
  unfold cS1 at hq
  by_cases c : (rdn T m1 p 0).1 = 0
  · rw [if_pos c] at hq
    rw [b01_f (fun z => z c)]
    exact ⟨fun _ => hN _ (hq w2 t2 (hf.tr f2) no01), fun z => absurd rfl z⟩
  · rw [if_neg c] at hq
    rw [b01_t c]
    refine ⟨fun z => absurd z (by decide), fun _ => c_readSign (c := 47) t2 (by omega) (by omega) (fun d w3 t3 f3 g3 => ⟨fun z => absurd z (by decide), fun _ => ?_⟩) (fun d => ⟨fun _ => ?_, fun z => absurd rfl z⟩)⟩
    · rw [if_pos d] at hq
      obtain ⟨b, hb⟩ : ∃ b, (rdn T m1 p 0).1 = b + 1 := ⟨(rdn T m1 p 0).1 - 1, by omega⟩
      refine c_sec (a := (rdn T m1 p 0).1 - 1) hN hY t3 (hf.tr (f2.tr f3)) ?_ ?_ hm2 hq
      · rw [g3 4 (by decide), e4, h4]
      · rw [g3 5 (by decide), e5, hb, nI_pred, Nat.add_sub_cancel]
    · rw [if_neg d] at hq
      exact hN _ (hq w2 t2 (hf.tr f2) no01)
theorem c_two (hN : ∀ v, Q 0 v → N v) (hY : ∀ v, Q 1 v → Y v) (ht : TXp w1 T p) (hf : FR4 w w1) (h4 : w1.2 4 = nI l) (hq : RCQ Q w T (cB1 T l (rdn T 1 p 0))) : wp_X0_readFirst (fun (r : Int32) (v : OV) => ((r = 0 → N v) ∧ (¬ (r = 0) → (wp_X0_readSecond (fun (r : Int32) (v : OV) => ((r = 0 → N v) ∧ (¬ (r = 0) → Y v))) (nI 1) v)))) (nI 1) w1 := by
  refine c_readFirst ht (by omega) (fun w2 t2 f2 e4 e5 => ?_)
  unfold cB1 at hq
  by_cases c : (rdn T 1 p 0).1 = 0
  · rw [if_pos c] at hq
    rw [b01_f (fun z => z c)]
    exact ⟨fun _ => hN _ (hq w2 t2 (hf.tr f2) no01), fun z => absurd rfl z⟩
  · rw [if_neg c] at hq
    rw [b01_t c]
    obtain ⟨b, hb⟩ : ∃ b, (rdn T 1 p 0).1 = b + 1 := ⟨(rdn T 1 p 0).1 - 1, by omega⟩
    refine ⟨fun z => absurd z (by decide), fun _ => c_sec (a := (rdn T 1 p 0).1 - 1) hN hY t2 (hf.tr f2) (e4.trans h4) ?_ (by omega) hq⟩
    rw [e5, hb, nI_pred, Nat.add_sub_cancel]
theorem c_num (ht : TXp w1 T p) (hf : FR4 w w1) (h4 : w1.2 4 = nI l) (hl : l = 108 ∨ l = 116 ∨ l = 115) (hm1 : m1 ≤ 2) (hq : RCQ Q w T (cN1 l (rdn T m1 p 0))) : wp_X0_readFirst (fun (r : Int32) (v : OV) => (narrow .boolean (.int r) = .int r ∧ Q r v)) (nI m1) w1 := by
  refine c_readFirst ht hm1 (fun w2 t2 f2 e4 e5 => ⟨nar01 b01_le, ?_⟩)
  unfold cN1 at hq
  by_cases c : (rdn T m1 p 0).1 = 0
  · rw [if_pos c] at hq
    rw [b01_f (fun z => z c)]
    exact hq w2 t2 (hf.tr f2) no01
  · rw [if_neg c] at hq
    rw [b01_t c]
    obtain ⟨b, hb⟩ : ∃ b, (rdn T m1 p 0).1 = b + 1 := ⟨(rdn T m1 p 0).1 - 1, by omega⟩
    refine hq w2 t2 (hf.tr f2) fun _ => ⟨e4.trans h4, fun _ => ?_, fun _ a1 a2 a3 => ?_⟩
    · show w2.2 5 = nI ((rdn T m1 p 0).1 - 1)
      rw [e5, hb, nI_pred, Nat.add_sub_cancel]
    · have a1' : l ≠ 108 := a1
      have a2' : l ≠ 116 := a2
      have a3' : l ≠ 115 := a3
      omega
end RDC
theorem c_readCommand {Q : Int32 → OV → Prop} {w : OV} {T : TT0} {p : Nat} (ht : TXp w T p) (hq : RCQ Q w T (cmd T p)) : wp_X0_readCommand Q w := by
  unfold wp_X0_readCommand wp_X0_readCommand_0
  have b := qv_le ht
  refine c_sign ht ⟨pk_charN b, ?_⟩
  rintro _ rfl
  have t0 : TXp (sI w 4 (nI (qv T p))) T p := ht.go ht.2.1 rfl (sI_oth (by decide)) (by rw [sI_oth (by decide)]; exact ht.2.2.2.1)
  have f0 : FR4 w (sI w 4 (nI (qv T p))) := ⟨rfl, sI_oth (by decide)⟩
  have e4 : (sI w 4 (nI (qv T p))).2 4 = nI (qv T p) := sI_at
  generalize sI w 4 (nI (qv T p)) = v at t0 f0 e4
  rw [e4, nI_toInt (by omega)]
  have tn : qv T p ≠ 0 → TXp (sI v 2 (v.2 2 + 1)) T (p + 1) := fun z => by
    have hp := qv_lt z
    refine t0.go (by omega) rfl (sI_oth (by decide)) ?_
    rw [sI_at, t0.2.2.2.1, nI_1]
  have fn : FR4 w (sI v 2 (v.2 2 + 1)) := f0.tr ⟨rfl, sI_oth (by decide)⟩
  have en : (sI v 2 (v.2 2 + 1)).2 4 = nI (qv T p) := (sI_oth (by decide)).trans e4
  have N0 : ∀ u, Q 0 u → wp_X0_readCommand_244 Q u := fun u z => ⟨rfl, z⟩
  have Y0 : ∀ u, Q 1 u → wp_X0_readCommand_245 Q (1 : Int32) u := fun u z => ⟨rfl, z⟩
  have N1 : ∀ u, Q 0 u → wp_X0_readCommand_212 Q u := fun u z => ⟨rfl, z⟩
  have Y1 : ∀ u, Q 1 u → wp_X0_readCommand_213 Q (1 : Int32) u := fun u z => ⟨rfl, z⟩
  have N2 : ∀ u, Q 0 u → wp_X0_readCommand_155 Q u := fun u z => ⟨rfl, z⟩
  have Y2 : ∀ u, Q 1 u → wp_X0_readCommand_156 Q (1 : Int32) u := fun u z => ⟨rfl, z⟩
  have bad : (qv T p ≠ 119 ∧ qv T p ≠ 107 ∧ qv T p ≠ 99 ∧ qv T p ≠ 108 ∧ qv T p ≠ 98 ∧ qv T p ≠ 117 ∧ qv T p ≠ 112 ∧ qv T p ≠ 116 ∧ qv T p ≠ 115) → wp_X0_readCommand_274 Q v := fun ⟨a1, a2, a3, a4, a5, a6, a7, a8, a9⟩ => by
    unfold cmd at hq
    rw [if_neg a1, if_neg a2, if_neg a3, if_neg a4, if_neg a5, if_neg a6, if_neg a7, if_neg a8, if_neg a9] at hq
    exact hq v t0 f0 no01
  have two : ∀ l, qv T p = l → l ≠ 0 → cmd T p = cB1 T l (rdn T 1 (p + 1) 0) → wp_X0_readCommand_214 Q v := fun l e l0 ec => by
    rw [ec] at hq
    rintro _ rfl
    exact c_two N0 Y0 (tn (by omega)) fn (by rw [en, e]) hq
  have one : ∀ l, qv T p = l → l ≠ 0 → (l = 108 ∨ l = 116 ∨ l = 115) → cmd T p = cN1 l (rdn T 1 (p + 1) 0) → wp_X0_readCommand_246 Q v := fun l e l0 hl ec => by
    rw [ec] at hq
    rintro _ rfl
    exact c_num (m1 := 1) (tn (by omega)) fn (by rw [en, e]) hl (by omega) hq
  refine ⟨fun z => bad (by omega), fun z => two 98 (by omega) (by decide) ?_, fun z => ?_, fun z => bad (by omega), fun z => bad (by omega), fun z => bad (by omega), fun z => bad (by omega), fun z => bad (by omega), fun z => bad (by omega), fun z => bad (by omega), fun z => ?_, fun z => ?_, fun z => bad (by omega), fun z => bad (by omega), fun z => bad (by omega), fun z => two 112 (by omega) (by decide) ?_, fun z => bad (by omega), fun z => bad (by omega), fun z => one 115 (by omega) (by decide) (by decide) ?_, fun z => one 116 (by omega) (by decide) (by decide) ?_, fun z => two 117 (by omega) (by decide) ?_, fun z => bad (by omega), fun z => ?_⟩
  · unfold cmd
    rw [if_neg (by omega), if_neg (by omega), if_neg (by omega), if_neg (by omega), if_pos (by omega)]
  · have ec : cmd T p = cS1 T 99 2 (rdn T 1 (p + 1) 0) := by
      unfold cmd
      rw [if_neg (by omega), if_neg (by omega), if_pos (by omega)]
    rw [ec] at hq
    rintro _ rfl
    exact c_slash (l := 99) (m1 := 1) (m2 := 2) N1 Y1 (tn (by omega)) fn (by rw [en, show qv T p = 99 by omega]) (by omega) (by omega) hq
  · have ec : cmd T p = cS1 T 107 1 (rdn T 2 (p + 1) 0) := by
      unfold cmd
      rw [if_neg (by omega), if_pos (by omega)]
    rw [ec] at hq
    rintro _ rfl
    exact c_slash (l := 107) (m1 := 2) (m2 := 1) N2 Y2 (tn (by omega)) fn (by rw [en, show qv T p = 107 by omega]) (by omega) (by omega) hq
  · have ec : cmd T p = cN1 108 (rdn T 2 (p + 1) 0) := by
      unfold cmd
      rw [if_neg (by omega), if_neg (by omega), if_neg (by omega), if_pos (by omega)]
    rw [ec] at hq
    rintro _ rfl
    exact c_num (l := 108) (m1 := 2) (tn (by omega)) fn (by rw [en, show qv T p = 108 by omega]) (Or.inl rfl) (by omega) hq
  · unfold cmd
    rw [if_neg (by omega), if_neg (by omega), if_neg (by omega), if_neg (by omega), if_neg (by omega), if_neg (by omega), if_pos (by omega)]
  · unfold cmd
    rw [if_neg (by omega), if_neg (by omega), if_neg (by omega), if_neg (by omega), if_neg (by omega), if_neg (by omega), if_neg (by omega), if_neg (by omega), if_pos (by omega)]
  · unfold cmd
    rw [if_neg (by omega), if_neg (by omega), if_neg (by omega), if_neg (by omega), if_neg (by omega), if_neg (by omega), if_neg (by omega), if_pos (by omega)]
  · unfold cmd
    rw [if_neg (by omega), if_neg (by omega), if_neg (by omega), if_neg (by omega), if_neg (by omega), if_pos (by omega)]
  · have ec : cmd T p = (1, 119, 0, 0, p + 1) := by
      unfold cmd
      rw [if_pos (by omega)]
    rw [ec] at hq
    rintro _ rfl
    exact hq _ (tn (by omega)) fn fun _ => ⟨by rw [en, show qv T p = 119 by omega], fun z => absurd rfl z, fun z => absurd rfl z⟩
/-- the text from p on, k commands were read: whether it has no fault, how many commands, the place of the fault -/
def fnd (T : TT0) : Nat → Nat → Nat → Nat × Nat × Nat
  | 0, p, k => (0, k, p)
  | f + 1, p, k => if (cmd T p).1 = 0 then (0, k, (cmd T p).2.2.2.2) else if (cmd T p).2.2.2.2 = T.1 then (1, k + 1, 0) else if qv T (cmd T p).2.2.2.2 = 59 then fnd T f ((cmd T p).2.2.2.2 + 1) (k + 1) else (0, k + 1, (cmd T p).2.2.2.2)
theorem c_findFault {Q : Int32 → OV → Prop} {w : OV} {T : TT0} (hT : T.1 ≤ 60) (h1 : w.2 1 = nI T.1) (hc : ∀ i, i < T.1 → w.1 0 i = nI (T.2 i) ∧ T.2 i < 65536) (hq : ∀ w', w'.1 = w.1 → w'.2 1 = w.2 1 → ((fnd T 32 0 0).1 = 1 → w'.2 3 = nI (fnd T 32 0 0).2.1) → ((fnd T 32 0 0).1 = 0 ∨ (fnd T 32 0 0).1 = 1) → Q (if (fnd T 32 0 0).1 = 0 then nI (fnd T 32 0 0).2.2 else -1) w') : wp_X0_findFault Q w := by
  have key : ∀ f p k w', TXp w' T p → w'.1 = w.1 → w'.2 3 = nI k → 2 * k ≤ p → 62 ≤ p + 2 * f → (∀ w'', w''.1 = w.1 → w''.2 1 = w.2 1 → ((fnd T f p k).1 = 1 → w''.2 3 = nI (fnd T f p k).2.1) → ((fnd T f p k).1 = 0 ∨ (fnd T f p k).1 = 1) → Q (if (fnd T f p k).1 = 0 then nI (fnd T f p k).2.2 else -1) w'') → wp_X0_findFault_9_loop Q f w' := fun f => by
    induction f with
    | zero =>
      intro p k w' ht _ _ _ h2
      have := ht.2.1
      exact absurd h2 (by omega)
    | succ f ih =>
      intro p k w' ht e1 e3 hk hf hq'
      have hp := ht.2.1
      rw [fnd] at hq'
      obtain ⟨g1, g2, g3, g4⟩ := cmd_p (T := T) hp
      refine br_f (by rw [e3]; exact fun z => absurd ((nI_ltI (a := 60) (b := k) (by omega) (by omega)).mp z) (by omega)) (c_readCommand ht (fun w1 t1 f1 _ => ?_))
      have l1 : w1.2 1 = w.2 1 := by rw [t1.2.2.1, h1]
      rcases g3 with c | c
      · rw [if_pos c] at hq'
        rw [c]
        refine ⟨fun z => absurd rfl z, fun _ => ?_⟩
        rw [t1.2.2.2.1]
        exact hq' w1 (f1.1.trans e1) l1 no01 (Or.inl rfl)
      · rw [if_neg (by omega)] at hq'
        rw [c]
        refine ⟨fun _ => ?_, fun z => absurd z (by decide)⟩
        have g4' := g4 c
        rintro _ rfl
        have t2 : TXp (sI w1 3 (w1.2 3 + 1)) T (cmd T p).2.2.2.2 := t1.go g2 rfl (sI_oth (by decide)) (by rw [sI_oth (by decide)]; exact t1.2.2.2.1)
        have e32 : (sI w1 3 (w1.2 3 + 1)).2 3 = nI (k + 1) := by
          rw [sI_at, f1.2, e3, nI_1]
        have l2 : (sI w1 3 (w1.2 3 + 1)).2 1 = w.2 1 := by rw [sI_oth (by decide)]; exact l1
        have a2 : (sI w1 3 (w1.2 3 + 1)).1 = w.1 := f1.1.trans e1
        generalize sI w1 3 (w1.2 3 + 1) = w2 at t2 e32 l2 a2
        rw [t2.2.2.2.1, t2.2.2.1]
        by_cases d : (cmd T p).2.2.2.2 = T.1
        · rw [if_pos d] at hq'
          refine ⟨fun z => absurd ((nI_ltI (by omega) (by omega)).mp z) (by omega), fun _ => ?_⟩
          exact hq' w2 a2 l2 (fun _ => e32) (Or.inr rfl)
        · rw [if_neg d] at hq'
          refine ⟨fun _ => ?_, fun z => absurd (nI_lt (by omega) (by omega)) z⟩
          refine c_readSign (c := 59) t2 (by omega) (by omega) (fun y w3 t3 f3 _ => ⟨fun _ => ?_, fun z => absurd z (by decide)⟩) (fun y => ⟨fun z => absurd rfl z, fun _ => ?_⟩)
          · rw [if_pos y] at hq'
            exact ih _ (k + 1) w3 t3 (f3.1.trans a2) (f3.2.trans e32) (by omega) (by omega) hq'
          · rw [if_neg y] at hq'
            rw [t2.2.2.2.1]
            exact hq' w2 a2 l2 no01 (Or.inl rfl)
  unfold wp_X0_findFault wp_X0_findFault_0
  rintro _ rfl
  rintro _ rfl
  refine ⟨32, key 32 0 0 _ ⟨hT, Nat.zero_le _, ?_, ?_, hc⟩ rfl (by rw [sI_at]; decide) (by omega) (by omega) hq⟩
  · rw [sI_oth (by decide), sI_oth (by decide)]; exact h1
  · rw [sI_oth (by decide), sI_at]; decide
theorem c_readNext {Q : OV → Prop} {w : OV} {T : TT0} {p : Nat} (ht : TXp w T p) (hok : (cmd T p).1 = 1) (hq : ∀ w', TXp w' T (if qv T (cmd T p).2.2.2.2 = 59 then (cmd T p).2.2.2.2 + 1 else (cmd T p).2.2.2.2) → w'.1 = w.1 → (w'.2 4 = nI (cmd T p).2.1 ∧ ((cmd T p).2.1 ≠ 119 → w'.2 5 = nI (cmd T p).2.2.1) ∧ ((cmd T p).2.1 ≠ 119 → (cmd T p).2.1 ≠ 108 → (cmd T p).2.1 ≠ 116 → (cmd T p).2.1 ≠ 115 → w'.2 6 = nI (cmd T p).2.2.2.1)) → Q w') : wp_X0_readNext Q w := by
  unfold wp_X0_readNext wp_X0_readNext_0
  refine c_readCommand ht (fun w1 t1 f1 g1 => ?_)
  obtain ⟨a1, a2, a3⟩ := g1 hok
  rw [hok]
  refine ⟨fun z => absurd z (by decide), fun _ => c_readSign (c := 59) t1 (by omega) (by omega) (fun y w3 t3 f3 g3 => ?_) (fun y => ?_)⟩
  · rw [if_pos y] at hq
    exact hq w3 t3 (f3.1.trans f1.1) ⟨by rw [g3 4 (by decide)]; exact a1, fun z => by rw [g3 5 (by decide)]; exact a2 z, fun z1 z2 z3 z4 => by rw [g3 6 (by decide)]; exact a3 z1 z2 z3 z4⟩
  · rw [if_neg y] at hq
    exact hq w1 t1 f1.1 ⟨a1, a2, a3⟩
