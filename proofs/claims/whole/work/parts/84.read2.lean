/-! the reference reads a text -/
def TMp (m : OV) (T : TT0) (p : Nat) : Prop := T.1 ≤ 60 ∧ p ≤ T.1 ∧ m.2 14 = nI T.1 ∧ m.2 21 = nI p ∧ ∀ i, i < T.1 → m.1 13 i = nI (T.2 i) ∧ T.2 i < 65536
/-- what was told and the place may be others -/
def FTt (m m' : OV) : Prop := (∀ j, j ≠ 22 → m'.1 j = m.1 j) ∧ ∀ j, j ≠ 21 → m'.2 j = m.2 j
theorem FTt.rfl' {m : OV} : FTt m m := ⟨fun _ _ => rfl, fun _ _ => rfl⟩
theorem FTt.tr {m m' m'' : OV} (h : FTt m m') (h' : FTt m' m'') : FTt m m'' := ⟨fun j hj => (h'.1 j hj).trans (h.1 j hj), fun j hj => (h'.2 j hj).trans (h.2 j hj)⟩
theorem FTt.sI {m : OV} (x : Int32) : FTt m (sI m 21 x) := ⟨fun _ _ => rfl, fun j hj => sI_oth hj⟩
theorem FTt.sA {m : OV} (i : Nat) (x : Int32) : FTt m (sA m 22 i x) := ⟨fun j hj => sA_oth hj, fun _ _ => rfl⟩
theorem TMp.go {m m' : OV} {T : TT0} {p q : Nat} (h : TMp m T p) (hq : q ≤ T.1) (f : FTt m m') (e : m'.2 21 = nI q) : TMp m' T q := ⟨h.1, hq, (f.2 14 (by decide)).trans h.2.2.1, e, fun i hi => by rw [f.1 13 (by decide)]; exact h.2.2.2.2 i hi⟩
def hvv (T : TT0) (p : Nat) : Int32 := if p < T.1 then nI (T.2 p) else -1
theorem qv_lm {m : OV} {T : TT0} {p : Nat} (h : TMp m T p) : qv T p < 65536 := by
  unfold qv
  split
  · rename_i c; exact (h.2.2.2.2 p c).2
  · decide
theorem hv_c {m : OV} {T : TT0} {p c : Nat} (h : TMp m T p) (hc : c < 65536) (h0 : c ≠ 0) : hvv T p = nI c ↔ qv T p = c := by
  unfold hvv qv
  by_cases d : p < T.1
  · rw [if_pos d, if_pos d]
    exact nI_eq (by have := (h.2.2.2.2 p d).2; omega) (by omega)
  · rw [if_neg d, if_neg d]
    exact ⟨fun z => absurd z.symm (nI_ne (by omega)), fun z => absurd z.symm h0⟩
theorem hv_d {m : OV} {T : TT0} {p : Nat} (h : TMp m T p) : ((48 : Int32) ≤ hvv T p ∧ hvv T p ≤ (57 : Int32)) ↔ isDg T p := by
  unfold hvv isDg qv
  by_cases d : p < T.1
  · rw [if_pos d, if_pos d]
    have b := (h.2.2.2.2 p d).2
    have a1 := nI_leI (a := 48) (b := T.2 p) (by omega) (by omega)
    have a2 := nI_leI (a := T.2 p) (b := 57) (by omega) (by omega)
    exact ⟨fun z => ⟨a1.mp z.1, a2.mp z.2⟩, fun z => ⟨a1.mpr z.1, a2.mpr z.2⟩⟩
  · rw [if_neg d, if_neg d]
    exact ⟨fun z => absurd z.1 (by decide), fun z => absurd z.1 (by decide)⟩
theorem hv_q {T : TT0} {p : Nat} (h : qv T p ≠ 0) : hvv T p = nI (qv T p) := by
  have d := qv_lt h
  unfold hvv qv
  rw [if_pos d, if_pos d]
section MTX
variable {m : OV} {T : TT0} {p : Nat}
theorem m_here {Q : Int32 → Prop} (h : TMp m T p) (hq : Q (hvv T p)) : wp_X8_here Q m := by
  obtain ⟨h1, h2, h3, h4, h5⟩ := h
  unfold wp_X8_here wp_X8_here_0
  rw [h3, h4]
  unfold hvv at hq
  by_cases c : p < T.1
  · rw [if_pos c] at hq
    refine br_f (nI_ge c (by omega)) ⟨vp_in_nI (by omega) (by omega), ?_⟩
    rw [nI_clamp (by omega), (h5 p c).1]
    exact hq
  · rw [if_neg c] at hq
    exact br_t (nI_le (by omega) (by omega)) hq
theorem m_skips {Q : Int32 → OV → Prop} {c : Nat} (h : TMp m T p) (hc : c < 65536) (hc0 : c ≠ 0) (h1 : qv T p = c → ∀ m', TMp m' T (p + 1) → FTt m m' → m'.1 = m.1 → Q 1 m') (h0 : ¬ qv T p = c → Q 0 m) : wp_X8_skips Q (nI c) m := by
  unfold wp_X8_skips wp_X8_skips_0
  refine m_here h ⟨fun z => ?_, fun z => h0 fun y => z ((hv_c h hc hc0).mpr y)⟩
  have e := (hv_c h hc hc0).mp z
  have hp := qv_lt (T := T) (p := p) (by omega)
  rintro _ rfl
  refine h1 e _ (h.go (by omega) (FTt.sI _) ?_) (FTt.sI _) rfl
  rw [sI_at, h.2.2.2.1, nI_1]
theorem rdn_pos : ∀ d p v, 1 ≤ v → 1 ≤ (rdn T d p v).1 := by
  intro d
  induction d with
  | zero => intro p v h; exact h
  | succ d ih =>
    intro p v h
    rw [rdn]
    by_cases c : isDg T p
    · rw [if_pos c]; exact ih _ _ (by omega)
    · rw [if_neg c]; exact h
theorem m_figures {Q : Int32 → OV → Prop} {s k : Nat} (h : TMp m T p) (hs : s < 124) (hk : k = 1 ∨ k = 2) (h0 : (rdn T k p 0).1 = 0 → (rdn T k p 0).2 = p → Q 0 m) (h1 : ¬ (rdn T k p 0).1 = 0 → ∀ m', TMp m' T (rdn T k p 0).2 → FTt m m' → m'.1 22 s = nI ((rdn T k p 0).1 - 1) → (∀ j, j ≠ s → m'.1 22 j = m.1 22 j) → Q 1 m') : wp_X8_figures Q (nI s) (nI k) m := by
  have vs : vp_in (nI s) 124 := vp_in_nI hs (by omega)
  unfold wp_X8_figures wp_X8_figures_0
  obtain ⟨k', hk'⟩ : ∃ k', k = k' + 1 := ⟨k - 1, by omega⟩
  refine m_here h (m_in (fun z => ⟨fun _ => ?_, fun z => absurd z (by decide)⟩) (fun z => ⟨fun z => absurd rfl z, fun _ => ?_⟩))
  · have dg := (hv_d h).mp z
    have pos : ¬ (rdn T k p 0).1 = 0 := by
      rw [hk', rdn, if_pos dg]
      have := rdn_pos (T := T) k' (p + 1) ((0 - 1) * 10 + (qv T p - 48) + 1) (by omega)
      omega
    have h1' := h1 pos
    refine ⟨vs, ?_⟩
    rintro _ rfl
    rw [nI_clamp (by omega)]
    have key : ∀ d i p v m', i + d = k → TMp m' T p → FTt m m' → m'.1 22 s = nI (v - 1) → (∀ j, j ≠ s → m'.1 22 j = m.1 22 j) → v ≤ 1000 → (v ≤ 100 ∨ d = 0) → (v ≤ 10 ∨ d ≤ 1) → d ≤ 2 → (∀ m'', TMp m'' T (rdn T d p v).2 → FTt m m'' → m''.1 22 s = nI ((rdn T d p v).1 - 1) → (∀ j, j ≠ s → m''.1 22 j = m.1 22 j) → Q 1 m'') → wp_X8_figures_25_loop Q (d + 1) (nI s) (nI k) (nI i) m' := fun d => by
      induction d with
      | zero =>
        intro i p v m' hi ht hf e1 e2 _ _ _ _ hq
        have hi : i = k := by omega
        subst hi
        exact br_t (nI_le (Nat.le_refl _) (by omega)) (hq m' ht hf e1 e2)
      | succ d ih =>
        intro i p v m' hi ht hf e1 e2 hv g1 g2 g3 hq
        rw [rdn] at hq
        have b := qv_lm ht
        refine br_f (nI_ge (by omega) (by omega)) (m_here ht (m_in (fun z => ⟨fun z => absurd z (by decide), fun _ => ⟨vs, m_here ht ⟨vs, ?_⟩⟩⟩) (fun z => ⟨fun _ => ?_, fun z => absurd rfl z⟩)))
        · have dg := (hv_d ht).mp z
          have hp := qv_lt (T := T) (p := p) (by omega)
          rw [if_pos dg] at hq
          rw [nI_clamp (by omega), e1, hv_q (by omega)]
          have ev : (((10 : Int32) * nI (v - 1)) + nI (qv T p)) - (48 : Int32) = nI ((v - 1) * 10 + (qv T p - 48) + 1 - 1) := by
            rw [show (10 : Int32) = nI 10 by decide, pk_mul, nI_add, show (48 : Int32) = nI 48 by decide, pk_sub (by omega)]
            congr 1
            omega
          rw [ev]
          rintro _ rfl
          rintro _ rfl
          rintro _ rfl
          rw [nI_1]
          have f2 : FTt m' (sI (sA m' 22 s (nI ((v - 1) * 10 + (qv T p - 48) + 1 - 1))) 21 ((sA m' 22 s (nI ((v - 1) * 10 + (qv T p - 48) + 1 - 1))).2 21 + 1)) := (FTt.sA s _).tr (FTt.sI _)
          refine ih (i + 1) (p + 1) ((v - 1) * 10 + (qv T p - 48) + 1) _ (by omega) (ht.go (by omega) f2 ?_) (hf.tr f2) ?_ (fun j hj => ?_) (by omega) (by omega) (by omega) (by omega) hq
          · rw [sI_at]
            show m'.2 21 + 1 = _
            rw [ht.2.2.2.1, nI_1]
          · show (sA m' 22 s (nI ((v - 1) * 10 + (qv T p - 48) + 1 - 1))).1 22 s = _
            rw [sA_row, pk_us]
          · show (sA m' 22 s (nI ((v - 1) * 10 + (qv T p - 48) + 1 - 1))).1 22 j = _
            rw [sA_row, pk_un hj]; exact e2 j hj
        · have dg : ¬ isDg T p := fun y => z ((hv_d ht).mpr y)
          rw [if_neg dg] at hq
          exact hq m' ht hf e1 e2
    refine ⟨k + 1, key k 0 p 0 _ (by omega) (h.go h.2.1 (FTt.sA s 0) h.2.2.2.1) (FTt.sA s 0) ?_ (fun j hj => ?_) (by omega) (by omega) (by omega) (by omega) h1'⟩
    · rw [sA_row, pk_us]; decide
    · rw [sA_row, pk_un hj]
  · have dg : ¬ isDg T p := fun y => z ((hv_d h).mpr y)
    have e : rdn T k p 0 = (0, p) := by rw [hk', rdn, if_neg dg]
    rw [e] at h0
    exact h0 rfl rfl
def TDc (m : OV) (k : Nat) (r : CTy) : Prop := m.1 22 (4 * k) = nI r.2.1 ∧ (r.2.1 ≠ 119 → m.1 22 (4 * k + 1) = nI r.2.2.1) ∧ (r.2.1 ≠ 119 → r.2.1 ≠ 108 → r.2.1 ≠ 116 → r.2.1 ≠ 115 → m.1 22 (4 * k + 2) = nI r.2.2.2.1)
def RMQ (Q : Int32 → OV → Prop) (m : OV) (T : TT0) (k : Nat) (r : CTy) : Prop := ∀ m', TMp m' T r.2.2.2.2 → FTt m m' → (∀ j, j < 4 * k → m'.1 22 j = m.1 22 j) → (r.1 = 1 → TDc m' k r) → Q (nI r.1) m'
theorem m_fig2 {Q : Int32 → OV → Prop} {N Y : OV → Prop} {m1 : OV} {k l a m2 : Nat} (hN : ∀ v, Q 0 v → N v) (hY : ∀ v, Q 1 v → Y v) (hk : k ≤ 30) (ht : TMp m1 T p) (hf : FTt m m1) (hj : ∀ j, j < 4 * k → m1.1 22 j = m.1 22 j) (e0 : m1.1 22 (4 * k) = nI l) (e1 : m1.1 22 (4 * k + 1) = nI a) (hm2 : m2 = 1 ∨ m2 = 2) (hq : RMQ Q m T k (cB2 l a (rdn T m2 p 0))) : wp_X8_figures (fun (r : Int32) (v : OV) => ((r = 0 → N v) ∧ (¬ (r = 0) → Y v))) (nI (4 * k + 2)) (nI m2) m1 := by
  unfold cB2 at hq
  refine m_figures ht (by omega) hm2 (fun c cp => ⟨fun _ => hN _ ?_, fun z => absurd rfl z⟩) (fun c m2 t2 f2 g1 g2 => ⟨fun z => absurd z (by decide), fun _ => hY _ ?_⟩)
  · rw [if_pos c, cp] at hq
    exact hq m1 ht hf hj no01
  · rw [if_neg c] at hq
    refine hq m2 t2 (hf.tr f2) (fun j h => by rw [g2 j (by omega)]; exact hj j h) (fun _ => ⟨?_, fun _ => ?_, fun _ _ _ _ => g1⟩)
    · rw [g2 _ (by omega)]; exact e0
    · rw [g2 _ (by omega)]; exact e1
theorem m_slash {Q : Int32 → OV → Prop} {N Y : OV → Prop} {m1 : OV} {k l k1 k2 : Nat} (hN : ∀ v, Q 0 v → N v) (hY : ∀ v, Q 1 v → Y v) (hk : k ≤ 30) (ht : TMp m1 T p) (hf : FTt m m1) (hj : ∀ j, j < 4 * k → m1.1 22 j = m.1 22 j) (e0 : m1.1 22 (4 * k) = nI l) (hk1 : k1 = 1 ∨ k1 = 2) (hk2 : k2 = 1 ∨ k2 = 2) (hq : RMQ Q m T k (cS1 T l k2 (rdn T k1 p 0))) : wp_X8_figures (fun (r : Int32) (v : OV) => ((r = 0 → N v) ∧ (¬ (r = 0) → (wp_X8_skips (fun (r : Int32) (v : OV) => ((r = 0 → N v) ∧ (¬ (r = 0) → (wp_X8_figures (fun (r : Int32) (v : OV) => ((r = 0 → N v) ∧ (¬ (r = 0) → Y v))) (nI (4 * k + 2)) (nI k2) v)))) (47 : Int32) v)))) (nI (4 * k + 1)) (nI k1) m1 := by
  unfold cS1 at hq
  refine m_figures ht (by omega) hk1 (fun c cp => ⟨fun _ => hN _ ?_, fun z => absurd rfl z⟩) (fun c m2 t2 f2 g1 g2 => ⟨fun z => absurd z (by decide), fun _ => m_skips (c := 47) t2 (by omega) (by omega) (fun d m3 t3 f3 g3 => ⟨fun z => absurd z (by decide), fun _ => ?_⟩) (fun d => ⟨fun _ => hN _ ?_, fun z => absurd rfl z⟩)⟩)
  · rw [if_pos c, cp] at hq
    exact hq m1 ht hf hj no01
  · rw [if_neg c, if_pos d] at hq
    refine m_fig2 hN hY hk t3 (hf.tr (f2.tr f3)) (fun j h => ?_) ?_ ?_ hk2 hq
    · rw [g3, g2 j (by omega)]; exact hj j h
    · rw [g3, g2 _ (by omega)]; exact e0
    · rw [g3]; exact g1
  · rw [if_neg c, if_neg d] at hq
    exact hq m2 t2 (hf.tr f2) (fun j h => by rw [g2 j (by omega)]; exact hj j h) no01
theorem m_two {Q : Int32 → OV → Prop} {N Y : OV → Prop} {m1 : OV} {k l : Nat} (hN : ∀ v, Q 0 v → N v) (hY : ∀ v, Q 1 v → Y v) (hk : k ≤ 30) (ht : TMp m1 T p) (hf : FTt m m1) (hj : ∀ j, j < 4 * k → m1.1 22 j = m.1 22 j) (e0 : m1.1 22 (4 * k) = nI l) (hq : RMQ Q m T k (cB1 T l (rdn T 1 p 0))) : wp_X8_figures (fun (r : Int32) (v : OV) => ((r = 0 → N v) ∧ (¬ (r = 0) → (wp_X8_figures (fun (r : Int32) (v : OV) => ((r = 0 → N v) ∧ (¬ (r = 0) → Y v))) (nI (4 * k + 2)) (nI 1) v)))) (nI (4 * k + 1)) (nI 1) m1 := by
  unfold cB1 at hq
  refine m_figures ht (by omega) (Or.inl rfl) (fun c cp => ⟨fun _ => hN _ ?_, fun z => absurd rfl z⟩) (fun c m2 t2 f2 g1 g2 => ⟨fun z => absurd z (by decide), fun _ => ?_⟩)
  · rw [if_pos c, cp] at hq
    exact hq m1 ht hf hj no01
  · rw [if_neg c] at hq
    refine m_fig2 hN hY hk t2 (hf.tr f2) (fun j h => ?_) ?_ g1 (Or.inl rfl) hq
    · rw [g2 j (by omega)]; exact hj j h
    · rw [g2 _ (by omega)]; exact e0
theorem m_one {Q : Int32 → OV → Prop} {m1 : OV} {k l k1 : Nat} (hk : k ≤ 30) (ht : TMp m1 T p) (hf : FTt m m1) (hj : ∀ j, j < 4 * k → m1.1 22 j = m.1 22 j) (e0 : m1.1 22 (4 * k) = nI l) (hl : l = 108 ∨ l = 116 ∨ l = 115) (hk1 : k1 = 1 ∨ k1 = 2) (hq : RMQ Q m T k (cN1 l (rdn T k1 p 0))) {W : Int32 → OV → Prop} (hW : ∀ (r : Nat) v, r ≤ 1 → Q (nI r) v → W (nI r) v) : wp_X8_figures W (nI (4 * k + 1)) (nI k1) m1 := by
  unfold cN1 at hq
  refine m_figures ht (by omega) hk1 (fun c cp => hW 0 _ (by omega) ?_) (fun c m2 t2 f2 g1 g2 => hW 1 _ (by omega) ?_)
  · rw [if_pos c, cp] at hq
    exact hq m1 ht hf hj no01
  · rw [if_neg c] at hq
    refine hq m2 t2 (hf.tr f2) (fun j h => by rw [g2 j (by omega)]; exact hj j h) (fun _ => ⟨?_, fun _ => g1, fun _ a1 a2 a3 => ?_⟩)
    · rw [g2 _ (by omega)]; exact e0
    · have a1' : l ≠ 108 := a1
      have a2' : l ≠ 116 := a2
      have a3' : l ≠ 115 := a3
      omega
theorem m_commandHere {Q : Int32 → OV → Prop} {k : Nat} (ht : TMp m T p) (h23 : m.2 23 = nI k) (hk : k ≤ 30) (hq : RMQ Q m T k (cmd T p)) : wp_X8_commandHere Q m := by
  unfold wp_X8_commandHere wp_X8_commandHere_0
  rintro _ rfl
  have e4 : (4 : Int32) * m.2 23 = nI (4 * k) := by
    rw [h23, show (4 : Int32) = nI 4 by decide, pk_mul]
  rw [e4]
  refine m_here ht ⟨vp_in_nI (by omega) (by omega), ?_⟩
  rintro _ rfl
  rw [nI_clamp (by omega)]
  have i1 : nI (4 * k) + (1 : Int32) = nI (4 * k + 1) := nI_1 _
  have i2 : nI (4 * k) + (2 : Int32) = nI (4 * k + 2) := nI_add _ 2
  rw [i1, i2]
  have t0 : TMp (sA m 22 (4 * k) (hvv T p)) T p := ht.go ht.2.1 (FTt.sA _ _) ht.2.2.2.1
  have f0 : FTt m (sA m 22 (4 * k) (hvv T p)) := FTt.sA _ _
  have j0 : ∀ j, j < 4 * k → (sA m 22 (4 * k) (hvv T p)).1 22 j = m.1 22 j := fun j hj => by rw [sA_row, pk_un (by omega)]
  have e0 : qv T p ≠ 0 → (sA m 22 (4 * k) (hvv T p)).1 22 (4 * k) = nI (qv T p) := fun z => by rw [sA_row, pk_us, hv_q z]
  generalize sA m 22 (4 * k) (hvv T p) = v at t0 f0 j0 e0
  have e1 : ∀ {u : OV} {c : Nat}, u.1 = v.1 → qv T p = c → c ≠ 0 → u.1 22 (4 * k) = nI c := fun a b d => by rw [a, e0 (by omega), b]
  have j1 : ∀ {u : OV}, u.1 = v.1 → ∀ j, j < 4 * k → u.1 22 j = m.1 22 j := fun a j hj => by rw [a]; exact j0 j hj
  have N0 : ∀ u, Q 0 u → wp_X8_commandHere_191 Q u := fun u z => ⟨rfl, z⟩
  have Y0 : ∀ u, Q 1 u → wp_X8_commandHere_192 Q (1 : Int32) u := fun u z => ⟨rfl, z⟩
  have N1 : ∀ u, Q 0 u → wp_X8_commandHere_226 Q u := fun u z => ⟨rfl, z⟩
  have Y1 : ∀ u, Q 1 u → wp_X8_commandHere_227 Q (1 : Int32) u := fun u z => ⟨rfl, z⟩
  have N2 : ∀ u, Q 0 u → wp_X8_commandHere_118 Q u := fun u z => ⟨rfl, z⟩
  have Y2 : ∀ u, Q 1 u → wp_X8_commandHere_119 Q (1 : Int32) u := fun u z => ⟨rfl, z⟩
  have N3 : ∀ u, Q 0 u → wp_X8_commandHere_72 Q u := fun u z => ⟨rfl, z⟩
  have Y3 : ∀ u, Q 1 u → wp_X8_commandHere_73 Q (1 : Int32) u := fun u z => ⟨rfl, z⟩
  have two : ∀ l u, qv T p = l → l ≠ 0 → TMp u T (p + 1) → FTt v u → u.1 = v.1 → RMQ Q m T k (cB1 T l (rdn T 1 (p + 1) 0)) → wp_X8_commandHere_165 Q (nI (4 * k)) u := fun l u e l0 t f g hq => by
    unfold wp_X8_commandHere_165
    rw [i1, i2]
    exact m_two N0 Y0 hk t (f0.tr f) (j1 g) (e1 g e l0) hq
  have one : ∀ l u, qv T p = l → l ≠ 0 → (l = 108 ∨ l = 116 ∨ l = 115) → TMp u T (p + 1) → FTt v u → u.1 = v.1 → RMQ Q m T k (cN1 l (rdn T 1 (p + 1) 0)) → wp_X8_commandHere_211 Q (nI (4 * k)) u := fun l u e l0 hl t f g hq => by
    unfold wp_X8_commandHere_211
    rw [i1]
    refine m_one hk t (f0.tr f) (j1 g) (e1 g e l0) hl (Or.inl rfl) hq (fun r w hr z => ?_)
    by_cases c : r = 0
    · subst c
      exact ⟨fun _ => N1 _ z, fun y => absurd nI_0 y⟩
    · have c1 : r = 1 := by omega
      subst c1
      exact ⟨fun y => absurd y (by decide), fun _ => Y1 _ z⟩
  unfold cmd at hq
  refine m_skips (c := 119) t0 (by omega) (by omega) (fun d1 u1 t1 f1 g1 => ⟨fun z => absurd z (by decide), fun _ => ?_⟩) (fun d1 => ⟨fun _ => ?_, fun z => absurd rfl z⟩)
  · rw [if_pos d1] at hq
    exact hq u1 t1 (f0.tr f1) (j1 g1) (fun _ => ⟨e1 (c := 119) g1 d1 (by decide), fun z => absurd rfl z, fun z => absurd rfl z⟩)
  rw [if_neg d1] at hq
  refine m_skips (c := 107) t0 (by omega) (by omega) (fun d2 u1 t1 f1 g1 => ⟨fun z => absurd z (by decide), fun _ => ?_⟩) (fun d2 => ⟨fun _ => ?_, fun z => absurd rfl z⟩)
  · rw [if_pos d2] at hq
    exact m_slash (k1 := 2) (k2 := 1) N3 Y3 hk t1 (f0.tr f1) (j1 g1) (e1 g1 d2 (by decide)) (Or.inr rfl) (Or.inl rfl) hq
  rw [if_neg d2] at hq
  refine m_skips (c := 99) t0 (by omega) (by omega) (fun d3 u1 t1 f1 g1 => ⟨fun z => absurd z (by decide), fun _ => ?_⟩) (fun d3 => ⟨fun _ => ?_, fun z => absurd rfl z⟩)
  · rw [if_pos d3] at hq
    exact m_slash (k1 := 1) (k2 := 2) N2 Y2 hk t1 (f0.tr f1) (j1 g1) (e1 g1 d3 (by decide)) (Or.inl rfl) (Or.inr rfl) hq
  rw [if_neg d3] at hq
  refine m_skips (c := 108) t0 (by omega) (by omega) (fun d4 u1 t1 f1 g1 => ⟨fun z => absurd z (by decide), fun _ => ?_⟩) (fun d4 => ⟨fun _ => ?_, fun z => absurd rfl z⟩)
  · rw [if_pos d4] at hq
    exact m_one (k1 := 2) hk t1 (f0.tr f1) (j1 g1) (e1 g1 d4 (by decide)) (Or.inl rfl) (Or.inr rfl) hq (fun r w hr z => ⟨nar01 hr, z⟩)
  rw [if_neg d4] at hq
  refine m_skips (c := 98) t0 (by omega) (by omega) (fun d5 u1 t1 f1 g1 => ⟨fun _ => ?_, fun z => absurd z (by decide)⟩) (fun d5 => ⟨fun z => absurd rfl z, fun _ => ?_⟩)
  · rw [if_pos d5] at hq
    exact two 98 u1 d5 (by decide) t1 f1 g1 hq
  rw [if_neg d5] at hq
  refine m_skips (c := 117) t0 (by omega) (by omega) (fun d6 u1 t1 f1 g1 => ⟨fun _ => ?_, fun z => absurd z (by decide)⟩) (fun d6 => ⟨fun z => absurd rfl z, fun _ => ?_⟩)
  · rw [if_pos d6] at hq
    exact two 117 u1 d6 (by decide) t1 f1 g1 hq
  rw [if_neg d6] at hq
  refine m_skips (c := 112) t0 (by omega) (by omega) (fun d7 u1 t1 f1 g1 => ⟨fun z => absurd z (by decide), fun _ => ?_⟩) (fun d7 => ⟨fun _ => ?_, fun z => absurd rfl z⟩)
  · rw [if_pos d7] at hq
    exact two 112 u1 d7 (by decide) t1 f1 g1 hq
  rw [if_neg d7] at hq
  refine m_skips (c := 116) t0 (by omega) (by omega) (fun d8 u1 t1 f1 g1 => ⟨fun _ => ?_, fun z => absurd z (by decide)⟩) (fun d8 => ⟨fun z => absurd rfl z, fun _ => ?_⟩)
  · rw [if_pos d8] at hq
    exact one 116 u1 d8 (by decide) (by decide) t1 f1 g1 hq
  rw [if_neg d8] at hq
  refine m_skips (c := 115) t0 (by omega) (by omega) (fun d9 u1 t1 f1 g1 => ⟨fun z => absurd z (by decide), fun _ => ?_⟩) (fun d9 => ⟨fun _ => ?_, fun z => absurd rfl z⟩)
  · rw [if_pos d9] at hq
    exact one 115 u1 d9 (by decide) (by decide) t1 f1 g1 hq
  rw [if_neg d9] at hq
  exact N1 _ (hq v t0 f0 j0 no01)
end MTX
/-- where the j-th command begins -/
def stp (T : TT0) : Nat → Nat
  | 0 => 0
  | j + 1 => (cmd T (stp T j)).2.2.2.2 + 1
def TDs (m : OV) (T : TT0) (c : Nat) : Prop := ∀ j, j < c → TDc m j (cmd T (stp T j))
/-- the reading of a text may have changed these -/
def FTs (m m' : OV) : Prop := (∀ j, j ≠ 22 → m'.1 j = m.1 j) ∧ ∀ j, j ≠ 21 → j ≠ 23 → m'.2 j = m.2 j
theorem FTt.s {m m' : OV} (h : FTt m m') : FTs m m' := ⟨h.1, fun j a _ => h.2 j a⟩
theorem FTs.tr {m m' m'' : OV} (h : FTs m m') (h' : FTs m' m'') : FTs m m'' := ⟨fun j hj => (h'.1 j hj).trans (h.1 j hj), fun j a b => (h'.2 j a b).trans (h.2 j a b)⟩
theorem m_isText {m : OV} {T : TT0} {Q : Int32 → OV → Prop} (hT : T.1 ≤ 60) (h14 : m.2 14 = nI T.1) (hc : ∀ i, i < T.1 → m.1 13 i = nI (T.2 i) ∧ T.2 i < 65536) (hq : ∀ m', FTs m m' → ((fnd T 32 0 0).1 = 1 → m'.2 23 = nI (fnd T 32 0 0).2.1 ∧ TDs m' T (fnd T 32 0 0).2.1) → ((fnd T 32 0 0).1 = 0 → m'.2 21 = nI (fnd T 32 0 0).2.2) → ((fnd T 32 0 0).1 = 0 ∨ (fnd T 32 0 0).1 = 1) → Q (nI (fnd T 32 0 0).1) m') : wp_X8_isText Q m := by
  have key : ∀ f k m', TMp m' T (stp T k) → FTs m m' → m'.2 23 = nI k → TDs m' T k → 2 * k ≤ stp T k → 62 ≤ stp T k + 2 * f → (∀ m'', FTs m m'' → ((fnd T f (stp T k) k).1 = 1 → m''.2 23 = nI (fnd T f (stp T k) k).2.1 ∧ TDs m'' T (fnd T f (stp T k) k).2.1) → ((fnd T f (stp T k) k).1 = 0 → m''.2 21 = nI (fnd T f (stp T k) k).2.2) → ((fnd T f (stp T k) k).1 = 0 ∨ (fnd T f (stp T k) k).1 = 1) → Q (nI (fnd T f (stp T k) k).1) m'') → wp_X8_isText_10_loop Q f m' := fun f => by
    induction f with
    | zero =>
      intro k m' ht _ _ _ _ h2
      have := ht.2.1
      exact absurd h2 (by omega)
    | succ f ih =>
      intro k m' ht hf e23 hd hk hf2 hq'
      have hp := ht.2.1
      rw [fnd] at hq'
      obtain ⟨g1, g2, g3, g4⟩ := cmd_p (T := T) hp
      refine m_commandHere ht e23 (by omega) (fun m1 t1 f1 j1 d1 => ?_)
      rcases g3 with c | c
      · rw [if_pos c] at hq'
        rw [c]
        refine ⟨fun z => absurd nI_0 z, fun _ => ?_⟩
        exact hq' m1 (hf.tr f1.s) no01 (fun _ => t1.2.2.2.1) (Or.inl rfl)
      · rw [if_neg (by omega)] at hq'
        have dk := d1 c
        rw [c]
        refine ⟨fun _ => ?_, fun z => absurd z (by decide)⟩
        have g4' := g4 c
        rintro _ rfl
        have t2 : TMp (sI m1 23 (m1.2 23 + 1)) T (cmd T (stp T k)).2.2.2.2 := ⟨t1.1, t1.2.1, by rw [sI_oth (by decide)]; exact t1.2.2.1, by rw [sI_oth (by decide)]; exact t1.2.2.2.1, t1.2.2.2.2⟩
        have e2 : (sI m1 23 (m1.2 23 + 1)).2 23 = nI (k + 1) := by
          rw [sI_at, f1.2 23 (by decide), e23, nI_1]
        have f2 : FTs m (sI m1 23 (m1.2 23 + 1)) := (hf.tr f1.s).tr ⟨fun _ _ => rfl, fun j _ b => sI_oth b⟩
        have d2 : TDs (sI m1 23 (m1.2 23 + 1)) T (k + 1) := fun j hj => by
          by_cases z : j = k
          · rw [z]; exact dk
          · obtain ⟨a1, a2, a3⟩ := hd j (by omega)
            refine ⟨?_, fun y => ?_, fun y1 y2 y3 y4 => ?_⟩
            · show m1.1 22 (4 * j) = _
              rw [j1 _ (by omega)]; exact a1
            · show m1.1 22 (4 * j + 1) = _
              rw [j1 _ (by omega)]; exact a2 y
            · show m1.1 22 (4 * j + 2) = _
              rw [j1 _ (by omega)]; exact a3 y1 y2 y3 y4
        generalize sI m1 23 (m1.2 23 + 1) = m2 at t2 e2 f2 d2
        refine m_skips (c := 59) t2 (by omega) (by omega) (fun y m3 t3 f3 g3 => ⟨fun _ => ?_, fun z => absurd z (by decide)⟩) (fun y => ⟨fun z => absurd rfl z, fun _ => ?_⟩)
        · have hl := qv_lt (T := T) (p := (cmd T (stp T k)).2.2.2.2) (by omega)
          rw [if_neg (by omega), if_pos y] at hq'
          refine ih (k + 1) m3 t3 (f2.tr f3.s) ((f3.2 23 (by decide)).trans e2) (fun j hj => ?_) (by show 2 * (k + 1) ≤ (cmd T (stp T k)).2.2.2.2 + 1; omega) (by show 62 ≤ (cmd T (stp T k)).2.2.2.2 + 1 + 2 * f; omega) hq'
          have := d2 j hj
          unfold TDc at this ⊢
          rw [g3]; exact this
        · rw [t2.2.2.2.1, t2.2.2.1]
          by_cases d : (cmd T (stp T k)).2.2.2.2 = T.1
          · rw [if_pos d] at hq'
            refine ⟨fun z => absurd (by rw [d]) z, fun _ => ⟨rfl, ?_⟩⟩
            exact hq' m2 f2 (fun _ => ⟨e2, d2⟩) (fun z => (Nat.zero_ne_one z.symm).elim) (Or.inr rfl)
          · rw [if_neg d, if_neg y] at hq'
            refine ⟨fun _ => ⟨rfl, ?_⟩, fun z => absurd ((nI_eq (by omega) (by omega)).mp z) d⟩
            exact hq' m2 f2 no01 (fun _ => t2.2.2.2.1) (Or.inl rfl)
  unfold wp_X8_isText wp_X8_isText_0
  rintro _ rfl
  rintro _ rfl
  refine ⟨32, key 32 0 _ ⟨hT, Nat.zero_le _, ?_, ?_, hc⟩ ⟨fun _ _ => rfl, fun j a b => ?_⟩ ?_ (fun j hj => absurd hj (Nat.not_lt_zero j)) (by omega) (by omega) hq⟩
  · rw [sI_oth (by decide), sI_oth (by decide)]; exact h14
  · rw [sI_oth (by decide), sI_at]
    show (0 : Int32) = nI 0
    decide
  · rw [sI_oth b, sI_oth a]
  · rw [sI_at]; decide
theorem fnd_ok {T : TT0} : ∀ f k, stp T k ≤ T.1 → (fnd T f (stp T k) k).1 = 1 → k < (fnd T f (stp T k) k).2.1 ∧ (∀ j, k ≤ j → j < (fnd T f (stp T k) k).2.1 → (cmd T (stp T j)).1 = 1 ∧ stp T j ≤ T.1) ∧ ∀ j, k ≤ j → j + 1 < (fnd T f (stp T k) k).2.1 → qv T (cmd T (stp T j)).2.2.2.2 = 59 := by
  intro f
  induction f with
  | zero => intro k _ h; exact no01 h
  | succ f ih =>
    intro k hk h
    rw [fnd] at h ⊢
    obtain ⟨g1, g2, g3, g4⟩ := cmd_p (T := T) hk
    by_cases c : (cmd T (stp T k)).1 = 0
    · rw [if_pos c] at h; exact no01 h
    · rw [if_neg c] at h ⊢
      have c1 : (cmd T (stp T k)).1 = 1 := by omega
      by_cases d : (cmd T (stp T k)).2.2.2.2 = T.1
      · rw [if_pos d]
        refine ⟨Nat.lt_succ_self k, fun j h1 h2 => ?_, fun j h1 h2 => ?_⟩
        · have h2' : j < k + 1 := h2
          have : j = k := by omega
          rw [this]; exact ⟨c1, hk⟩
        · have h2' : j + 1 < k + 1 := h2
          omega
      · rw [if_neg d] at h ⊢
        by_cases y : qv T (cmd T (stp T k)).2.2.2.2 = 59
        · rw [if_pos y] at h ⊢
          have hl := qv_lt (T := T) (p := (cmd T (stp T k)).2.2.2.2) (by omega)
          obtain ⟨a1, a2, a3⟩ := ih (k + 1) (show (cmd T (stp T k)).2.2.2.2 + 1 ≤ T.1 by omega) h
          refine ⟨Nat.lt_of_succ_lt a1, fun j h1 h2 => ?_, fun j h1 h2 => ?_⟩
          · by_cases e : j = k
            · rw [e]; exact ⟨c1, hk⟩
            · exact a2 j (by omega) h2
          · by_cases e : j = k
            · rw [e]; exact y
            · exact a3 j (by omega) h2
        · rw [if_neg y] at h; exact no01 h
