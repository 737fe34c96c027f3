/-! ways by levels, waves, and waves until none adds -/
abbrev RT : Type := Nat × (Nat → Nat) × MT
def tke (k l : Nat) (r e : RT) : RT := if r.1 = 0 then e else (1, r.2.1, put r.2.2 k l)
def tkl (G : GT) (L : Nat → Nat) (last : Nat) (Rc : Nat → (Nat → Nat) → MT → RT) (k : Nat) : Nat → Nat → (Nat → Nat) → MT → RT
  | 0, _, U, M => (0, fun a => if a = k then 1 else U a, M)
  | d + 1, l, U, M => if G k l = true then (if M.2.1 l = 0 then (1, U, put M k l) else if L (M.2.1 l - 1) = L k + 1 ∧ L (M.2.1 l - 1) ≤ last ∧ U (M.2.1 l - 1) = 0 then tke k l (Rc (M.2.1 l - 1) U M) (tkl G L last Rc k d (l + 1) (Rc (M.2.1 l - 1) U M).2.1 (Rc (M.2.1 l - 1) U M).2.2) else tkl G L last Rc k d (l + 1) U M) else tkl G L last Rc k d (l + 1) U M
def tk (G : GT) (nl : Nat) (L : Nat → Nat) (last : Nat) : Nat → Nat → (Nat → Nat) → MT → RT
  | 0, _, U, M => (0, U, M)
  | n + 1, k, U, M => tkl G L last (tk G nl L last n) k nl 0 U M
/-- a key given up has no way on: no opened lock fits it, and the keys behind it are given up too -/
def Clos (G : GT) (nk nl : Nat) (L : Nat → Nat) (last : Nat) (U : Nat → Nat) (M : MT) : Prop := ∀ a, a < nk → U a ≠ 0 → ∀ l, l < nl → G a l = true → ∃ m, M.2.1 l = m + 1 ∧ (L m = L a + 1 → L m ≤ last → U m ≠ 0)
def TKr (G : GT) (nk nl : Nat) (L : Nat → Nat) (last k : Nat) (U : Nat → Nat) (M : MT) (r : RT) : Prop :=
  (r.1 = 0 ∧ r.2.2 = M ∧ (∀ a, U a ≠ 0 → r.2.1 a ≠ 0) ∧ r.2.1 k ≠ 0 ∧ (Clos G nk nl L last U M → Clos G nk nl L last r.2.1 M)) ∨ (r.1 = 1 ∧ Suc G nk nl k (fun a => a = k ∨ L k < L a) M r.2.2)
theorem tkl_ok {G : GT} {nk nl : Nat} {L : Nat → Nat} {last : Nat} {Rc : Nat → (Nat → Nat) → MT → RT} {k : Nat} {M : MT} (hM : MI G nk nl M) (hk : k < nk) (hR : ∀ m U, m < nk → L m = L k + 1 → L m ≤ last → TKr G nk nl L last m U M (Rc m U M)) : ∀ d l U, l + d = nl → (∀ l', l' < l → G k l' = true → ∃ m, M.2.1 l' = m + 1 ∧ (L m = L k + 1 → L m ≤ last → U m ≠ 0)) → TKr G nk nl L last k U M (tkl G L last Rc k d l U M) := by
  intro d
  induction d with
  | zero =>
    intro l U hd hp
    have hl : l = nl := by omega
    subst hl
    have up : ∀ a, U a ≠ 0 → (if a = k then 1 else U a) ≠ 0 := fun a ha => by
      by_cases c : a = k
      · rw [if_pos c]; omega
      · rw [if_neg c]; exact ha
    refine Or.inl ⟨rfl, rfl, up, ?_, fun hC => ?_⟩
    · show (if k = k then 1 else U k) ≠ 0
      rw [if_pos rfl]; omega
    · intro a ha hu l' hl' hg
      by_cases c : a = k
      · subst c
        obtain ⟨m, m1, m2⟩ := hp l' hl' hg
        exact ⟨m, m1, fun z1 z2 => up m (m2 z1 z2)⟩
      · have hu' : U a ≠ 0 := fun z => hu (by
          show (if a = k then 1 else U a) = 0
          rw [if_neg c]; exact z)
        obtain ⟨m, m1, m2⟩ := hC a ha hu' l' hl' hg
        exact ⟨m, m1, fun z1 z2 => up m (m2 z1 z2)⟩
  | succ d ih =>
    intro l U hd hp
    have hl : l < nl := by omega
    show TKr G nk nl L last k U M (if G k l = true then (if M.2.1 l = 0 then (1, U, put M k l) else if L (M.2.1 l - 1) = L k + 1 ∧ L (M.2.1 l - 1) ≤ last ∧ U (M.2.1 l - 1) = 0 then tke k l (Rc (M.2.1 l - 1) U M) (tkl G L last Rc k d (l + 1) (Rc (M.2.1 l - 1) U M).2.1 (Rc (M.2.1 l - 1) U M).2.2) else tkl G L last Rc k d (l + 1) U M) else tkl G L last Rc k d (l + 1) U M)
    by_cases g : G k l = true
    · rw [if_pos g]
      by_cases c : M.2.1 l = 0
      · rw [if_pos c]
        exact Or.inr ⟨rfl, suc_base hM hk hl g c (Or.inl rfl)⟩
      · rw [if_neg c]
        obtain ⟨m, hm⟩ : ∃ m, M.2.1 l = m + 1 := ⟨M.2.1 l - 1, by omega⟩
        have hm1 : M.2.1 l - 1 = m := by omega
        have hmk := (hM.2 l m hl hm).1
        rw [hm1]
        by_cases e : L m = L k + 1 ∧ L m ≤ last ∧ U m = 0
        · rw [if_pos e]
          unfold tke
          rcases hR m U hmk e.1 e.2.1 with ⟨r1, r2, r3, r4, r5⟩ | ⟨r1, r2⟩
          · rw [if_pos r1, r2]
            rcases ih (l + 1) (Rc m U M).2.1 (by omega) (fun l' hl' hg => by
              by_cases z : l' = l
              · subst z
                exact ⟨m, hm, fun _ _ => r4⟩
              · obtain ⟨m', m1, m2⟩ := hp l' (by omega) hg
                exact ⟨m', m1, fun z1 z2 => r3 m' (m2 z1 z2)⟩) with ⟨q1, q2, q3, q4, q5⟩ | q
            · exact Or.inl ⟨q1, q2, fun a ha => q3 a (r3 a ha), q4, fun z => q5 (r5 z)⟩
            · exact Or.inr q
          · rw [if_neg (by omega)]
            exact Or.inr ⟨rfl, suc_step hM hk hl g hm r2 (fun z => by
              rcases z with z | z
              · rw [z] at e; omega
              · omega) (Or.inl rfl) (fun a z => Or.inr (by
              rcases z with z | z
              · rw [z]; omega
              · omega))⟩
        · rw [if_neg e]
          refine ih (l + 1) U (by omega) (fun l' hl' hg => ?_)
          by_cases z : l' = l
          · subst z
            exact ⟨m, hm, fun z1 z2 z3 => e ⟨z1, z2, z3⟩⟩
          · exact hp l' (by omega) hg
    · rw [if_neg g]
      refine ih (l + 1) U (by omega) (fun l' hl' hg => ?_)
      by_cases z : l' = l
      · subst z
        exact absurd hg g
      · exact hp l' (by omega) hg
theorem tk_ok {G : GT} {nk nl : Nat} {L : Nat → Nat} {last : Nat} {M : MT} (hM : MI G nk nl M) (hb : last ≤ 10) : ∀ n k U, k < nk → 13 ≤ n + L k → L k ≤ 10 → TKr G nk nl L last k U M (tk G nl L last n k U M) := by
  intro n
  induction n with
  | zero => intro k U hk h1 h2; exact absurd h1 (by omega)
  | succ n ih =>
    intro k U hk h1 h2
    exact tkl_ok hM hk (fun m U' hm e1 e2 => ih m U' hm (by omega) (by omega)) nl 0 U (by omega) (fun l' hl' => by omega)
def wva (r q : RT) : RT := (r.1 + q.1, q.2.1, q.2.2)
def wvs (G : GT) (nl : Nat) (L : Nat → Nat) (last i : Nat) (r : RT) : RT := if L i = 1 then wva r (tk G nl L last 12 i r.2.1 r.2.2) else r
def wvl (G : GT) (nl : Nat) (L : Nat → Nat) (last : Nat) : Nat → MT → RT
  | 0, M => (0, fun _ => 0, M)
  | i + 1, M => wvs G nl L last i (wvl G nl L last i M)
def wv (G : GT) (nk nl : Nat) (M : MT) : Nat × MT := if (LV G nk nl M).2 = 0 then (0, M) else ((wvl G nl (LV G nk nl M).1 (LV G nk nl M).2 nk M).1, (wvl G nl (LV G nk nl M).1 (LV G nk nl M).2 nk M).2.2)
theorem wvl_ok {G : GT} {nk nl : Nat} {L : Nat → Nat} {last : Nat} {M : MT} (hM : MI G nk nl M) (hb : last ≤ 10) (hL : ∀ k, k < nk → L k = 1 → M.1 k = 0) : ∀ i, i ≤ nk → MI G nk nl (wvl G nl L last i M).2.2 ∧ sz nl (wvl G nl L last i M).2.2 = sz nl M + (wvl G nl L last i M).1 ∧ (∀ k, i ≤ k → k < nk → L k = 1 → (wvl G nl L last i M).2.2.1 k = 0) ∧ ((wvl G nl L last i M).1 = 0 → (wvl G nl L last i M).2.2 = M ∧ Clos G nk nl L last (wvl G nl L last i M).2.1 M ∧ ∀ k, k < i → L k = 1 → (wvl G nl L last i M).2.1 k ≠ 0) := by
  intro i
  induction i with
  | zero =>
    intro _
    exact ⟨hM, rfl, fun k _ hk e => hL k hk e, fun _ => ⟨rfl, fun a _ z => absurd rfl z, fun k hk => by omega⟩⟩
  | succ i ih =>
    intro hi
    obtain ⟨h1, h2, h3, h4⟩ := ih (by omega)
    have ew : wvl G nl L last (i + 1) M = wvs G nl L last i (wvl G nl L last i M) := rfl
    rw [ew]
    generalize wvl G nl L last i M = r at h1 h2 h3 h4 ⊢
    unfold wvs
    by_cases c : L i = 1
    · rw [if_pos c]
      have h0 := h3 i (Nat.le_refl _) (by omega) c
      have t := tk_ok (L := L) h1 hb 12 i r.2.1 (by omega) (by omega) (by omega)
      generalize tk G nl L last 12 i r.2.1 r.2.2 = q at t ⊢
      rcases t with ⟨r1, r2, r3, r4, r5⟩ | ⟨r1, r2⟩
      · have e1 : (wva r q).1 = r.1 := by show r.1 + q.1 = _; omega
        have e2 : (wva r q).2.2 = r.2.2 := r2
        have e3 : (wva r q).2.1 = q.2.1 := rfl
        rw [e1, e2, e3]
        refine ⟨h1, h2, fun k hk => h3 k (by omega), fun z => ?_⟩
        obtain ⟨g1, g2, g3⟩ := h4 z
        rw [g1] at r5
        refine ⟨g1, r5 g2, fun k hk e => ?_⟩
        by_cases d : k = i
        · rw [d]; exact r4
        · exact r3 k (g3 k (by omega) e)
      · have e1 : (wva r q).1 = r.1 + 1 := by show r.1 + q.1 = _; omega
        have e2 : (wva r q).2.2 = q.2.2 := rfl
        have e3 : (wva r q).2.1 = q.2.1 := rfl
        rw [e1, e2, e3]
        refine ⟨suc_done r2 h0, by rw [r2.2.2.2.1]; omega, fun k hk hk2 e => ?_, fun z => by omega⟩
        rw [r2.1 k (fun z => by rcases z with z | z <;> omega)]
        exact h3 k (by omega) hk2 e
    · rw [if_neg c]
      refine ⟨h1, h2, fun k hk => h3 k (by omega), fun z => ?_⟩
      obtain ⟨g1, g2, g3⟩ := h4 z
      refine ⟨g1, g2, fun k hk e => ?_⟩
      by_cases d : k = i
      · rw [d] at e; exact absurd e c
      · exact g3 k (by omega) e
theorem wv_ok {G : GT} {nk nl : Nat} {M : MT} (hM : MI G nk nl M) (hn : nk ≤ 10) : MI G nk nl (wv G nk nl M).2 ∧ sz nl (wv G nk nl M).2 = sz nl M + (wv G nk nl M).1 ∧ ((wv G nk nl M).1 = 0 → (LV G nk nl M).2 = 0 ∧ (wv G nk nl M).2 = M) := by
  obtain ⟨v1, v2, v3, v4⟩ := LV_ok hM hn
  unfold wv
  by_cases c : (LV G nk nl M).2 = 0
  · rw [if_pos c]
    exact ⟨hM, rfl, fun _ => ⟨c, rfl⟩⟩
  · rw [if_neg c]
    obtain ⟨h1, h2, h3, h4⟩ := wvl_ok hM v3 (fun k hk e => ((v1.1 k).mp e).2) nk (Nat.le_refl _)
    refine ⟨h1, h2, fun z => ?_⟩
    obtain ⟨g1, g2, g3⟩ := h4 z
    have claim : ∀ j, j + 1 ≤ (LV G nk nl M).2 → ∀ k, k < nk → (LV G nk nl M).1 k = j + 1 → (wvl G nl (LV G nk nl M).1 (LV G nk nl M).2 nk M).2.1 k ≠ 0 := by
      intro j
      induction j with
      | zero => intro _ k hk e; exact g3 k hk e
      | succ j ih =>
        intro hj k hk e
        obtain ⟨_, p, l, p1, p2, p3, p4, p5⟩ := v1.2.1 k j e
        obtain ⟨m, m1, m2⟩ := g2 p p1 (ih (by omega) p p1 p5) l p2 p3
        have : m = k := by omega
        subst this
        exact m2 (by omega) (by omega)
    obtain ⟨j, hj⟩ : ∃ j, (LV G nk nl M).2 = j + 1 := ⟨(LV G nk nl M).2 - 1, by omega⟩
    obtain ⟨p, l, p1, p2, p3, p4, p5⟩ := v1.2.2.1 j hj
    obtain ⟨m, m1, _⟩ := g2 p p1 (claim j (by omega) p p1 p5) l p2 p3
    exact absurd m1 (by omega)
def wvE (G : GT) (nk nl : Nat) : Nat → MT → Nat × MT
  | 0, M => (0, M)
  | n + 1, M => if (wv G nk nl M).1 = 0 then (0, (wv G nk nl M).2) else ((wvE G nk nl n (wv G nk nl M).2).1 + 1, (wvE G nk nl n (wv G nk nl M).2).2)
theorem wvE_ok {G : GT} {nk nl : Nat} (hn : nk ≤ 10) : ∀ n M, MI G nk nl M → nl + 1 ≤ n + sz nl M → MI G nk nl (wvE G nk nl n M).2 ∧ (LV G nk nl (wvE G nk nl n M).2).2 = 0 ∧ (wvE G nk nl n M).1 + sz nl M ≤ sz nl (wvE G nk nl n M).2 := by
  intro n
  induction n with
  | zero =>
    intro M hM h
    have : sz nl M ≤ nl := ct_n
    exact absurd h (by omega)
  | succ n ih =>
    intro M hM h
    obtain ⟨h1, h2, h3⟩ := wv_ok hM hn
    show MI G nk nl (if (wv G nk nl M).1 = 0 then (0, (wv G nk nl M).2) else ((wvE G nk nl n (wv G nk nl M).2).1 + 1, (wvE G nk nl n (wv G nk nl M).2).2)).2 ∧ (LV G nk nl (if (wv G nk nl M).1 = 0 then (0, (wv G nk nl M).2) else ((wvE G nk nl n (wv G nk nl M).2).1 + 1, (wvE G nk nl n (wv G nk nl M).2).2)).2).2 = 0 ∧ (if (wv G nk nl M).1 = 0 then (0, (wv G nk nl M).2) else ((wvE G nk nl n (wv G nk nl M).2).1 + 1, (wvE G nk nl n (wv G nk nl M).2).2)).1 + sz nl M ≤ sz nl (if (wv G nk nl M).1 = 0 then (0, (wv G nk nl M).2) else ((wvE G nk nl n (wv G nk nl M).2).1 + 1, (wvE G nk nl n (wv G nk nl M).2).2)).2
    by_cases c : (wv G nk nl M).1 = 0
    · rw [if_pos c]
      obtain ⟨e1, e2⟩ := h3 c
      refine ⟨h1, ?_, by show 0 + sz nl M ≤ sz nl (wv G nk nl M).2; omega⟩
      show (LV G nk nl (wv G nk nl M).2).2 = 0
      rw [e2]; exact e1
    · rw [if_neg c]
      obtain ⟨g1, g2, g3⟩ := ih (wv G nk nl M).2 h1 (by omega)
      exact ⟨g1, g2, by show (wvE G nk nl n (wv G nk nl M).2).1 + 1 + sz nl M ≤ sz nl (wvE G nk nl n (wv G nk nl M).2).2; omega⟩
