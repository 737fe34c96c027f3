/-! levels: of each key one more than its level (0: none), and one more than the last level (0: none) -/
abbrev LVS : Type := (Nat → Nat) × Nat
def lstp (G : GT) (M : MT) (t k l : Nat) (s : LVS) : LVS :=
  if G k l = true then (if M.2.1 l = 0 then (s.1, if s.2 = 0 then t + 1 else s.2) else if s.1 (M.2.1 l - 1) = 0 then (fun a => if a = M.2.1 l - 1 then t + 2 else s.1 a, s.2) else s) else s
def lvl (G : GT) (M : MT) (t k : Nat) : Nat → LVS → LVS
  | 0, s => s
  | l + 1, s => lstp G M t k l (lvl G M t k l s)
def lvs (G : GT) (M : MT) (nl t k : Nat) (s : LVS) : LVS := if s.1 k = t + 1 then lvl G M t k nl s else s
def lvk (G : GT) (M : MT) (nl t : Nat) : Nat → LVS → LVS
  | 0, s => s
  | k + 1, s => lvs G M nl t k (lvk G M nl t k s)
def lv0 (nk : Nat) (M : MT) : LVS := (fun k => if k < nk ∧ M.1 k = 0 then 1 else 0, 0)
def lvt (G : GT) (nk nl : Nat) (M : MT) : Nat → LVS
  | 0 => lv0 nk M
  | t + 1 => lvk G M nl t nk (lvt G nk nl M t)
def LV (G : GT) (nk nl : Nat) (M : MT) : LVS := lvt G nk nl M 10
def LI (G : GT) (nk nl : Nat) (M : MT) (t : Nat) (s : LVS) : Prop :=
  (∀ k, s.1 k = 1 ↔ k < nk ∧ M.1 k = 0) ∧ (∀ k j, s.1 k = j + 2 → k < nk ∧ ∃ p l, p < nk ∧ l < nl ∧ G p l = true ∧ M.2.1 l = k + 1 ∧ s.1 p = j + 1) ∧ (∀ j, s.2 = j + 1 → ∃ p l, p < nk ∧ l < nl ∧ G p l = true ∧ M.2.1 l = 0 ∧ s.1 p = j + 1) ∧ (∀ k, s.1 k ≤ t + 2) ∧ s.2 ≤ t + 1
def LX (t : Nat) (s s' : LVS) : Prop := (∀ k, s.1 k ≠ 0 → s'.1 k = s.1 k) ∧ (s.2 ≠ 0 → s'.2 = s.2) ∧ ∀ k, s.1 k = 0 → s'.1 k = 0 ∨ s'.1 k = t + 2
theorem LX.rf {t : Nat} {s : LVS} : LX t s s := ⟨fun _ _ => rfl, fun _ => rfl, fun _ h => Or.inl h⟩
theorem LX.tr {t : Nat} {s s' s'' : LVS} (h : LX t s s') (h' : LX t s' s'') : LX t s s'' := by
  refine ⟨fun k c => ?_, fun c => ?_, fun k c => ?_⟩
  · have e := h.1 k c
    rw [h'.1 k (by rw [e]; exact c), e]
  · have e := h.2.1 c
    rw [h'.2.1 (by rw [e]; exact c), e]
  · rcases h.2.2 k c with e | e
    · exact h'.2.2 k e
    · right
      rw [h'.1 k (by rw [e]; omega), e]
def Cl (G : GT) (M : MT) (s : LVS) (k l : Nat) : Prop := G k l = true → (M.2.1 l = 0 → s.2 ≠ 0) ∧ ∀ m, M.2.1 l = m + 1 → s.1 m ≠ 0
theorem Cl.mono {G : GT} {M : MT} {s s' : LVS} {t k l : Nat} (h : Cl G M s k l) (hx : LX t s s') : Cl G M s' k l := fun g => by
  obtain ⟨h1, h2⟩ := h g
  refine ⟨fun e => ?_, fun m e => ?_⟩
  · rw [hx.2.1 (h1 e)]; exact h1 e
  · rw [hx.1 m (h2 m e)]; exact h2 m e
theorem lstp_ok {G : GT} {nk nl : Nat} {M : MT} {t k l : Nat} {s : LVS} (hM : MI G nk nl M) (hk : k < nk) (hl : l < nl) (h : LI G nk nl M t s) (e : s.1 k = t + 1) : LI G nk nl M t (lstp G M t k l s) ∧ LX t s (lstp G M t k l s) ∧ Cl G M (lstp G M t k l s) k l := by
  unfold lstp
  by_cases g : G k l = true
  · rw [if_pos g]
    obtain ⟨i1, i2, i3, i4, i5⟩ := h
    by_cases c : M.2.1 l = 0
    · rw [if_pos c]
      by_cases d : s.2 = 0
      · rw [if_pos d]
        refine ⟨⟨i1, i2, fun j hj => ?_, i4, Nat.le_refl _⟩, ⟨fun _ _ => rfl, fun z => absurd d z, fun _ z => Or.inl z⟩, fun _ => ⟨fun _ => Nat.succ_ne_zero t, fun m hm => ?_⟩⟩
        · have : t + 1 = j + 1 := hj
          exact ⟨k, l, hk, hl, g, c, by rw [← this]; exact e⟩
        · omega
      · rw [if_neg d]
        exact ⟨⟨i1, i2, i3, i4, i5⟩, LX.rf, fun _ => ⟨fun _ => d, fun m hm => by omega⟩⟩
    · rw [if_neg c]
      obtain ⟨m, hm⟩ : ∃ m, M.2.1 l = m + 1 := ⟨M.2.1 l - 1, by omega⟩
      have hm1 : M.2.1 l - 1 = m := by omega
      obtain ⟨hmk, hml⟩ := hM.2 l m hl hm
      rw [hm1]
      by_cases d : s.1 m = 0
      · rw [if_pos d]
        have x : LX t s (fun a => if a = m then t + 2 else s.1 a, s.2) := by
          refine ⟨fun a ha => ?_, fun _ => rfl, fun a ha => ?_⟩
          · exact if_neg fun z => ha (by rw [z]; exact d)
          · by_cases z : a = m
            · right; exact if_pos z
            · left; rw [← ha]; exact if_neg z
        refine ⟨⟨fun a => ?_, fun a j ha => ?_, fun j hj => ?_, fun a => ?_, i5⟩, x, fun _ => ⟨fun z => absurd z c, fun m' hm' => ?_⟩⟩
        · by_cases z : a = m
          · have t1 : (if a = m then t + 2 else s.1 a) = t + 2 := if_pos z
            refine ⟨fun y => ?_, fun y => ?_⟩
            · have y' : (if a = m then t + 2 else s.1 a) = 1 := y
              omega
            · have := (i1 a).mpr y
              rw [z] at this; omega
          · have t1 : (if a = m then t + 2 else s.1 a) = s.1 a := if_neg z
            exact Iff.trans (show (if a = m then t + 2 else s.1 a) = 1 ↔ s.1 a = 1 by rw [t1]) (i1 a)
        · by_cases z : a = m
          · have t1 : (if a = m then t + 2 else s.1 a) = t + 2 := if_pos z
            have t2 : (if a = m then t + 2 else s.1 a) = j + 2 := ha
            have t3 : j = t := by omega
            subst z
            refine ⟨hmk, k, l, hk, hl, g, hm, ?_⟩
            rw [x.1 k (by omega), e, t3]
          · have t1 : (if a = m then t + 2 else s.1 a) = s.1 a := if_neg z
            have t2 : (if a = m then t + 2 else s.1 a) = j + 2 := ha
            obtain ⟨u1, p, l', u2, u3, u4, u5, u6⟩ := i2 a j (by omega)
            refine ⟨u1, p, l', u2, u3, u4, u5, ?_⟩
            rw [x.1 p (by omega)]; exact u6
        · obtain ⟨p, l', u2, u3, u4, u5, u6⟩ := i3 j hj
          refine ⟨p, l', u2, u3, u4, u5, ?_⟩
          rw [x.1 p (by omega)]; exact u6
        · show (if a = m then t + 2 else s.1 a) ≤ t + 2
          by_cases z : a = m
          · rw [if_pos z]; exact Nat.le_refl _
          · rw [if_neg z]; exact i4 a
        · have : m' = m := by omega
          subst this
          show (if m' = m' then t + 2 else s.1 m') ≠ 0
          rw [if_pos rfl]; omega
      · rw [if_neg d]
        refine ⟨⟨i1, i2, i3, i4, i5⟩, LX.rf, fun _ => ⟨fun z => absurd z c, fun m' hm' => ?_⟩⟩
        have : m' = m := by omega
        rw [this]; exact d
  · rw [if_neg g]
    exact ⟨h, LX.rf, fun z => absurd z g⟩
theorem lvl_ok {G : GT} {nk nl : Nat} {M : MT} {t k : Nat} {s : LVS} (hM : MI G nk nl M) (hk : k < nk) (h : LI G nk nl M t s) (e : s.1 k = t + 1) : ∀ l, l ≤ nl → LI G nk nl M t (lvl G M t k l s) ∧ LX t s (lvl G M t k l s) ∧ ∀ l', l' < l → Cl G M (lvl G M t k l s) k l' := by
  intro l
  induction l with
  | zero => intro _; exact ⟨h, LX.rf, fun l' hl' => absurd hl' (Nat.not_lt_zero l')⟩
  | succ l ih =>
    intro hl
    obtain ⟨h1, h2, h3⟩ := ih (by omega)
    have e' : (lvl G M t k l s).1 k = t + 1 := by rw [h2.1 k (by omega), e]
    obtain ⟨g1, g2, g3⟩ := lstp_ok hM hk (show l < nl by omega) h1 e'
    refine ⟨g1, h2.tr g2, fun l' hl' => ?_⟩
    by_cases c : l' = l
    · rw [c]; exact g3
    · exact (h3 l' (by omega)).mono g2
theorem lvk_ok {G : GT} {nk nl : Nat} {M : MT} {t : Nat} {s : LVS} (hM : MI G nk nl M) (h : LI G nk nl M t s) : ∀ k, k ≤ nk → LI G nk nl M t (lvk G M nl t k s) ∧ LX t s (lvk G M nl t k s) ∧ ∀ k', k' < k → (lvk G M nl t k s).1 k' = t + 1 → ∀ l, l < nl → Cl G M (lvk G M nl t k s) k' l := by
  intro k
  induction k with
  | zero => intro _; exact ⟨h, LX.rf, fun l' hl' => absurd hl' (Nat.not_lt_zero l')⟩
  | succ k ih =>
    intro hk
    obtain ⟨h1, h2, h3⟩ := ih (by omega)
    show LI G nk nl M t (lvs G M nl t k (lvk G M nl t k s)) ∧ LX t s (lvs G M nl t k (lvk G M nl t k s)) ∧ ∀ k', k' < k + 1 → (lvs G M nl t k (lvk G M nl t k s)).1 k' = t + 1 → ∀ l, l < nl → Cl G M (lvs G M nl t k (lvk G M nl t k s)) k' l
    unfold lvs
    by_cases c : (lvk G M nl t k s).1 k = t + 1
    · rw [if_pos c]
      obtain ⟨g1, g2, g3⟩ := lvl_ok hM (show k < nk by omega) h1 c nl (Nat.le_refl _)
      refine ⟨g1, h2.tr g2, fun k' hk' e' l hl => ?_⟩
      by_cases d : k' = k
      · rw [d]; exact g3 l hl
      · refine (h3 k' (by omega) ?_ l hl).mono g2
        by_cases z : (lvk G M nl t k s).1 k' = 0
        · rcases g2.2.2 k' z with y | y
          · omega
          · omega
        · rw [← g2.1 k' z]; exact e'
    · rw [if_neg c]
      refine ⟨h1, h2, fun k' hk' e' l hl => ?_⟩
      by_cases d : k' = k
      · rw [d] at e'; exact absurd e' c
      · exact h3 k' (by omega) e' l hl
theorem lvt_ok {G : GT} {nk nl : Nat} {M : MT} (hM : MI G nk nl M) : ∀ t, LI G nk nl M t (lvt G nk nl M t) ∧ (∀ k, (lvt G nk nl M t).1 k ≤ t + 1) ∧ (lvt G nk nl M t).2 ≤ t ∧ ∀ k, k < nk → (lvt G nk nl M t).1 k ≠ 0 → (lvt G nk nl M t).1 k ≤ t → ∀ l, l < nl → Cl G M (lvt G nk nl M t) k l := by
  intro t
  induction t with
  | zero =>
    have a : ∀ k, (lvt G nk nl M 0).1 k = if k < nk ∧ M.1 k = 0 then 1 else 0 := fun k => rfl
    have b : ∀ k, (lvt G nk nl M 0).1 k ≤ 1 := fun k => by
      rw [a]; split <;> omega
    refine ⟨⟨fun k => ?_, fun k j e => ?_, fun j e => ?_, fun k => ?_, Nat.zero_le _⟩, b, Nat.le_refl _, fun k _ h0 h1 => by omega⟩
    · rw [a]
      by_cases c : k < nk ∧ M.1 k = 0
      · rw [if_pos c]; exact ⟨fun _ => c, fun _ => rfl⟩
      · rw [if_neg c]; exact ⟨fun z => by omega, fun z => absurd z c⟩
    · have := b k; omega
    · have : (0 : Nat) = j + 1 := e
      omega
    · have := b k; omega
  | succ t ih =>
    obtain ⟨h1, h2, h3, h4⟩ := ih
    obtain ⟨g1, g2, g3⟩ := lvk_ok hM h1 nk (Nat.le_refl _)
    show LI G nk nl M (t + 1) (lvk G M nl t nk (lvt G nk nl M t)) ∧ (∀ k, (lvk G M nl t nk (lvt G nk nl M t)).1 k ≤ t + 1 + 1) ∧ (lvk G M nl t nk (lvt G nk nl M t)).2 ≤ t + 1 ∧ ∀ k, k < nk → (lvk G M nl t nk (lvt G nk nl M t)).1 k ≠ 0 → (lvk G M nl t nk (lvt G nk nl M t)).1 k ≤ t + 1 → ∀ l, l < nl → Cl G M (lvk G M nl t nk (lvt G nk nl M t)) k l
    obtain ⟨i1, i2, i3, i4, i5⟩ := g1
    refine ⟨⟨i1, i2, i3, fun k => by have := i4 k; omega, by omega⟩, i4, i5, fun k hk c0 c1 l hl => ?_⟩
    by_cases c : (lvk G M nl t nk (lvt G nk nl M t)).1 k = t + 1
    · exact g3 k hk c l hl
    · have z : (lvt G nk nl M t).1 k ≠ 0 := fun y => by
        rcases g2.2.2 k y with w | w
        · exact c0 w
        · omega
      have y := g2.1 k z
      exact (h4 k hk z (by omega) l hl).mono g2
theorem lv_pig {G : GT} {nk nl : Nat} {M : MT} {t : Nat} {s : LVS} (h : LI G nk nl M t s) : ∀ j k, s.1 k = j + 1 → j + 1 ≤ ct (fun a => s.1 a ≠ 0 ∧ s.1 a ≤ j + 1) nk := by
  intro j
  induction j with
  | zero =>
    intro k e
    have hk := ((h.1 k).mp e).1
    rw [ct_rm (P := fun a => s.1 a ≠ 0 ∧ s.1 a ≤ 0 + 1) hk ⟨by omega, by omega⟩]
    omega
  | succ j ih =>
    intro k e
    obtain ⟨hk, p, l, _, _, _, _, ep⟩ := h.2.1 k j e
    have := ih p ep
    rw [ct_rm (P := fun a => s.1 a ≠ 0 ∧ s.1 a ≤ j + 1 + 1) hk ⟨by omega, by omega⟩]
    have le : ct (fun a => s.1 a ≠ 0 ∧ s.1 a ≤ j + 1) nk ≤ ct (fun i => (s.1 i ≠ 0 ∧ s.1 i ≤ j + 1 + 1) ∧ i ≠ k) nk := ct_le fun i _ z => ⟨⟨z.1, by omega⟩, fun y => by rw [y] at z; omega⟩
    omega
theorem LV_ok {G : GT} {nk nl : Nat} {M : MT} (hM : MI G nk nl M) (hn : nk ≤ 10) : LI G nk nl M 10 (LV G nk nl M) ∧ (∀ k, (LV G nk nl M).1 k ≤ 10) ∧ (LV G nk nl M).2 ≤ 10 ∧ ∀ k, k < nk → (LV G nk nl M).1 k ≠ 0 → ∀ l, l < nl → Cl G M (LV G nk nl M) k l := by
  obtain ⟨h1, h2, h3, h4⟩ := lvt_ok hM 10
  have b : ∀ k, (LV G nk nl M).1 k ≤ 10 := fun k => by
    by_cases c : (LV G nk nl M).1 k ≤ 10
    · exact c
    · have e : (LV G nk nl M).1 k = 10 + 1 := by
        have : (LV G nk nl M).1 k ≤ 10 + 1 := h2 k
        omega
      have p := lv_pig h1 10 k e
      have q : ct (fun a => (lvt G nk nl M 10).1 a ≠ 0 ∧ (lvt G nk nl M 10).1 a ≤ 10 + 1) nk ≤ nk := ct_n
      omega
  exact ⟨h1, b, h3, fun k hk c l hl => h4 k hk c (b k) l hl⟩
theorem LV_max {G : GT} {nk nl : Nat} {M M' : MT} (hM : MI G nk nl M) (hn : nk ≤ 10) (h0 : (LV G nk nl M).2 = 0) (hM' : MI G nk nl M') : sz nl M' ≤ sz nl M := by
  obtain ⟨h1, h2, h3, h4⟩ := LV_ok hM hn
  refine cert_max (Z := fun k => (LV G nk nl M).1 k ≠ 0) (T := fun l => ∃ k, k < nk ∧ (LV G nk nl M).1 k ≠ 0 ∧ G k l = true) hM ⟨fun k hk z l hl g => ⟨k, hk, z, g⟩, fun l hl z => ?_⟩ (fun k hk z e => ?_) hM'
  · obtain ⟨k, hk, z, g⟩ := z
    obtain ⟨c1, c2⟩ := h4 k hk z l hl g
    by_cases c : M.2.1 l = 0
    · exact absurd h0 (c1 c)
    · obtain ⟨m, hm⟩ : ∃ m, M.2.1 l = m + 1 := ⟨M.2.1 l - 1, by omega⟩
      exact ⟨m, (hM.2 l m hl hm).1, hm, c2 m hm⟩
  · have := (h1.1 k).mpr ⟨hk, e⟩
    exact z (by omega)
