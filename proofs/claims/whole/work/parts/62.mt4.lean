/-! the second way: from no key in any lock on, a key after the other -/
def mk1 (X : Nat → Nat) (l : Nat) : Nat → Nat := fun a => if a = l then 1 else X a
theorem mk1_l {X : Nat → Nat} {l : Nat} : mk1 X l l = 1 := if_pos rfl
theorem mk1_up {X : Nat → Nat} {l a : Nat} (h : X a ≠ 0) : mk1 X l a ≠ 0 := by
  by_cases c : a = l
  · rw [c, mk1_l]; omega
  · show (if a = l then 1 else X a) ≠ 0
    rw [if_neg c]; exact h
theorem mk1_dn {X : Nat → Nat} {l a : Nat} (h : mk1 X l a = 0) : a ≠ l ∧ X a = 0 := by
  by_cases c : a = l
  · rw [c, mk1_l] at h; omega
  · have t : (if a = l then 1 else X a) = 0 := h
    rw [if_neg c] at t
    exact ⟨c, t⟩
theorem suc_more {G : GT} {nk nl k : Nat} {D D' : Nat → Prop} {M M' : MT} (hs : Suc G nk nl k D M M') (h : ∀ a, D a → D' a) : Suc G nk nl k D' M M' := by
  obtain ⟨s1, s2, s3, s4, s5, s6, s7, s8, s9, s10⟩ := hs
  refine ⟨fun a z => s1 a fun y => z (h a y), fun l a e z => s2 l a e ?_, s3, s4, s5, s6, s7, h k s8, s9, s10⟩
  rcases z with z | z
  · exact Or.inl fun y => z (h a y)
  · exact Or.inr z
def twl (G : GT) (Rc : Nat → (Nat → Nat) → MT → RT) (k : Nat) : Nat → Nat → (Nat → Nat) → MT → RT
  | 0, _, X, M => (0, X, M)
  | d + 1, l, X, M => if X l = 0 ∧ G k l = true then (if M.2.1 l = 0 then (1, mk1 X l, put M k l) else tke k l (Rc (M.2.1 l - 1) (mk1 X l) M) (twl G Rc k d (l + 1) (Rc (M.2.1 l - 1) (mk1 X l) M).2.1 (Rc (M.2.1 l - 1) (mk1 X l) M).2.2)) else twl G Rc k d (l + 1) X M
def tw (G : GT) (nl : Nat) : Nat → Nat → (Nat → Nat) → MT → RT
  | 0, _, X, M => (0, X, M)
  | n + 1, k, X, M => twl G (tw G nl n) k nl 0 X M
def TWf (G : GT) (nl : Nat) (X Y : Nat → Nat) (M : MT) : Prop := (∀ l, X l ≠ 0 → Y l ≠ 0) ∧ ∀ l, l < nl → Y l ≠ 0 → X l = 0 → ∃ m, M.2.1 l = m + 1 ∧ ∀ l', l' < nl → G m l' = true → Y l' ≠ 0
theorem TWf.tr {G : GT} {nl : Nat} {X Y W : Nat → Nat} {M : MT} (h : TWf G nl X Y M) (h' : TWf G nl Y W M) : TWf G nl X W M := by
  refine ⟨fun l z => h'.1 l (h.1 l z), fun l hl z y => ?_⟩
  by_cases c : Y l = 0
  · exact h'.2 l hl z c
  · obtain ⟨m, m1, m2⟩ := h.2 l hl c y
    exact ⟨m, m1, fun l' hl' g => h'.1 l' (m2 l' hl' g)⟩
def TWr (G : GT) (nk nl k : Nat) (X : Nat → Nat) (M : MT) (r : RT) : Prop :=
  (r.1 = 0 ∧ r.2.2 = M ∧ TWf G nl X r.2.1 M ∧ ∀ l, l < nl → G k l = true → r.2.1 l ≠ 0) ∨ (r.1 = 1 ∧ Suc G nk nl k (fun a => a = k ∨ ∃ l, l < nl ∧ X l = 0 ∧ M.2.1 l = a + 1) M r.2.2 ∧ ∀ Z T : Nat → Prop, CC G nk nl M Z T → ¬ Z k ∧ ∀ l, l < nl → T l → r.2.2.2.1 l = M.2.1 l)
theorem twl_ok {G : GT} {nk nl : Nat} {Rc : Nat → (Nat → Nat) → MT → RT} {k : Nat} {M : MT} (hM : MI G nk nl M) (hk : k < nk) {b : Nat} (hR : ∀ m X, m < nk → (∀ l, M.1 m = l + 1 → X l ≠ 0) → b + 1 ≤ ct (fun l => X l ≠ 0) nl → TWr G nk nl m X M (Rc m X M)) : ∀ d l X, l + d = nl → (∀ l, M.1 k = l + 1 → X l ≠ 0) → b ≤ ct (fun l => X l ≠ 0) nl → (∀ l', l' < l → G k l' = true → X l' ≠ 0) → TWr G nk nl k X M (twl G Rc k d l X M) := by
  intro d
  induction d with
  | zero =>
    intro l X hd hx hb hp
    have hl : l = nl := by omega
    subst hl
    exact Or.inl ⟨rfl, rfl, ⟨fun _ z => z, fun l _ z y => absurd y z⟩, hp⟩
  | succ d ih =>
    intro l X hd hx hb hp
    have hl : l < nl := by omega
    show TWr G nk nl k X M (if X l = 0 ∧ G k l = true then (if M.2.1 l = 0 then (1, mk1 X l, put M k l) else tke k l (Rc (M.2.1 l - 1) (mk1 X l) M) (twl G Rc k d (l + 1) (Rc (M.2.1 l - 1) (mk1 X l) M).2.1 (Rc (M.2.1 l - 1) (mk1 X l) M).2.2)) else twl G Rc k d (l + 1) X M)
    by_cases g : X l = 0 ∧ G k l = true
    · rw [if_pos g]
      by_cases c : M.2.1 l = 0
      · rw [if_pos c]
        refine Or.inr ⟨rfl, suc_base hM hk hl g.2 c (Or.inl rfl), fun Z T hC => ?_⟩
        have nt : ¬ T l := fun z => by
          obtain ⟨a, _, e, _⟩ := hC.2 l hl z
          omega
        exact ⟨fun z => nt (hC.1 k hk z l hl g.2), fun l' _ z => put_l' fun y => nt (y ▸ z)⟩
      · rw [if_neg c]
        obtain ⟨m, hm⟩ : ∃ m, M.2.1 l = m + 1 := ⟨M.2.1 l - 1, by omega⟩
        have hm1 : M.2.1 l - 1 = m := by omega
        obtain ⟨hmk, hml⟩ := hM.2 l m hl hm
        rw [hm1]
        have hcnt : b + 1 ≤ ct (fun a => mk1 X l a ≠ 0) nl := by
          rw [ct_rm (P := fun a => mk1 X l a ≠ 0) hl (show mk1 X l l ≠ 0 by rw [mk1_l]; omega)]
          have : ct (fun l => X l ≠ 0) nl ≤ ct (fun i => mk1 X l i ≠ 0 ∧ i ≠ l) nl := ct_le fun i _ z => ⟨mk1_up z, fun y => z (by rw [y]; exact g.1)⟩
          omega
        unfold tke
        rcases hR m (mk1 X l) hmk (fun l' e => by
          have : l' = l := by omega
          rw [this, mk1_l]; omega) hcnt with ⟨r1, r2, r3, r4⟩ | ⟨r1, r2, r3⟩
        · rw [if_pos r1, r2]
          have x1 : TWf G nl X (Rc m (mk1 X l) M).2.1 M := by
            refine ⟨fun a z => r3.1 a (mk1_up z), fun a ha z y => ?_⟩
            by_cases e : a = l
            · rw [e]; exact ⟨m, hm, r4⟩
            · refine r3.2 a ha z ?_
              show (if a = l then 1 else X a) = 0
              rw [if_neg e]; exact y
          have xl : (Rc m (mk1 X l) M).2.1 l ≠ 0 := r3.1 l (by rw [mk1_l]; omega)
          rcases ih (l + 1) (Rc m (mk1 X l) M).2.1 (by omega) (fun l' e => x1.1 l' (hx l' e)) (Nat.le_trans hb (ct_le fun i _ z => x1.1 i z)) (fun l' hl' hg => by
            by_cases z : l' = l
            · rw [z]; exact xl
            · exact x1.1 l' (hp l' (by omega) hg)) with ⟨q1, q2, q3, q4⟩ | ⟨q1, q2, q3⟩
          · exact Or.inl ⟨q1, q2, x1.tr q3, q4⟩
          · refine Or.inr ⟨q1, ?_, q3⟩
            exact suc_more q2 (fun a z => by
              rcases z with z | ⟨l', l1, l2, l3⟩
              · exact Or.inl z
              · refine Or.inr ⟨l', l1, ?_, l3⟩
                exact Classical.byContradiction fun y => x1.1 l' y l2)
        · rw [if_neg (by omega)]
          have nk' : ¬ (k = m ∨ ∃ l', l' < nl ∧ mk1 X l l' = 0 ∧ M.2.1 l' = k + 1) := fun z => by
            rcases z with z | ⟨l', l1, l2, l3⟩
            · exact hx l (by rw [z]; exact hml) g.1
            · exact hx l' (hM.2 l' k l1 l3).2 (mk1_dn l2).2
          refine Or.inr ⟨rfl, suc_step hM hk hl g.2 hm r2 nk' (Or.inl rfl) (fun a z => ?_), fun Z T hC => ?_⟩
          · rcases z with z | ⟨l', l1, l2, l3⟩
            · rw [z]; exact Or.inr ⟨l, hl, g.1, hm⟩
            · exact Or.inr ⟨l', l1, (mk1_dn l2).2, l3⟩
          · obtain ⟨z1, z2⟩ := r3 Z T hC
            have nt : ¬ T l := fun z => by
              obtain ⟨a, _, e, za⟩ := hC.2 l hl z
              have : a = m := by omega
              exact z1 (this ▸ za)
            refine ⟨fun z => nt (hC.1 k hk z l hl g.2), fun l' hl' z => ?_⟩
            have e : (put (Rc m (mk1 X l) M).2.2 k l).2.1 l' = (Rc m (mk1 X l) M).2.2.2.1 l' := put_l' fun y => nt (y ▸ z)
            exact e.trans (z2 l' hl' z)
    · rw [if_neg g]
      refine ih (l + 1) X (by omega) hx hb (fun l' hl' hg => ?_)
      by_cases z : l' = l
      · rw [z] at hg ⊢
        exact fun y => g ⟨y, hg⟩
      · exact hp l' (by omega) hg
theorem tw_ok {G : GT} {nk nl : Nat} {M : MT} (hM : MI G nk nl M) (hn : nl ≤ 10) : ∀ n k X, k < nk → (∀ l, M.1 k = l + 1 → X l ≠ 0) → 13 ≤ n + ct (fun l => X l ≠ 0) nl → TWr G nk nl k X M (tw G nl n k X M) := by
  intro n
  induction n with
  | zero =>
    intro k X hk hx h
    have : ct (fun l => X l ≠ 0) nl ≤ nl := ct_n
    exact absurd h (by omega)
  | succ n ih =>
    intro k X hk hx h
    exact twl_ok hM hk (b := 12 - n) (fun m X' hm hx' hb => ih m X' hm hx' (by omega)) nl 0 X (by omega) hx (by omega) (fun l' hl' => absurd hl' (Nat.not_lt_zero l'))
def emM : MT := (fun _ => 0, fun _ => 0, fun _ => 0)
def kua (r : Nat × MT) (q : RT) : Nat × MT := (r.1 + q.1, q.2.2)
def kus (G : GT) (nl : Nat) (out i : Nat) (r : Nat × MT) : Nat × MT := if i + 1 = out then r else kua r (tw G nl 13 i (fun _ => 0) r.2)
/-- all keys but one: that which is one less than out -/
def kul (G : GT) (nl out : Nat) : Nat → Nat × MT
  | 0 => (0, emM)
  | i + 1 => kus G nl out i (kul G nl out i)
theorem em_MI {G : GT} {nk nl : Nat} : MI G nk nl emM := ⟨fun k l _ e => (Nat.succ_ne_zero l e.symm).elim, fun l k _ e => (Nat.succ_ne_zero k e.symm).elim⟩
theorem em_sz {nl : Nat} : sz nl emM = 0 := sm_zero fun i _ => cp_f fun z => z rfl
theorem kul_ok {G : GT} {nk nl out : Nat} (hn : nl ≤ 10) (ho : ∀ k l, k + 1 = out → G k l = false) : ∀ i, i ≤ nk → MI G nk nl (kul G nl out i).2 ∧ sz nl (kul G nl out i).2 = (kul G nl out i).1 ∧ (∀ k, i ≤ k → (kul G nl out i).2.1 k = 0) ∧ ∃ Z T : Nat → Prop, CC G nk nl (kul G nl out i).2 Z T ∧ ∀ k, k < i → ¬ Z k → (kul G nl out i).2.1 k ≠ 0 := by
  intro i
  induction i with
  | zero => intro _; exact ⟨em_MI, em_sz, fun _ _ => rfl, fun _ => False, fun _ => False, ⟨fun _ _ z => absurd z id, fun _ _ z => absurd z id⟩, fun k hk => absurd hk (Nat.not_lt_zero k)⟩
  | succ i ih =>
    intro hi
    obtain ⟨h1, h2, h3, Z, T, h4, h5⟩ := ih (by omega)
    have ew : kul G nl out (i + 1) = kus G nl out i (kul G nl out i) := rfl
    rw [ew]
    generalize kul G nl out i = r at h1 h2 h3 h4 h5 ⊢
    unfold kus
    by_cases c : i + 1 = out
    · rw [if_pos c]
      refine ⟨h1, h2, fun k hk => h3 k (by omega), fun k => Z k ∨ k = i, T, ⟨fun k hk z l hl g => ?_, fun l hl z => ?_⟩, fun k hk z => ?_⟩
      · rcases z with z | z
        · exact h4.1 k hk z l hl g
        · rw [ho k l (by omega)] at g; cases g
      · obtain ⟨k, k1, k2, k3⟩ := h4.2 l hl z
        exact ⟨k, k1, k2, Or.inl k3⟩
      · exact h5 k (by
          have : k ≠ i := fun y => z (Or.inr y)
          omega) fun y => z (Or.inl y)
    · rw [if_neg c]
      have h0 := h3 i (Nat.le_refl _)
      have t := tw_ok h1 hn 13 i (fun _ => 0) (by omega) (fun l e => by omega) (by omega)
      generalize tw G nl 13 i (fun _ => 0) r.2 = q at t ⊢
      rcases t with ⟨r1, r2, r3, r4⟩ | ⟨r1, r2, r3⟩
      · have e1 : (kua r q).1 = r.1 := by show r.1 + q.1 = _; omega
        have e2 : (kua r q).2 = r.2 := r2
        rw [e1, e2]
        refine ⟨h1, h2, fun k hk => h3 k (by omega), fun k => Z k ∨ k = i ∨ ∃ l, l < nl ∧ q.2.1 l ≠ 0 ∧ r.2.2.1 l = k + 1, fun l => T l ∨ q.2.1 l ≠ 0, ⟨fun k hk z l hl g => ?_, fun l hl z => ?_⟩, fun k hk z => ?_⟩
        · rcases z with z | z | ⟨l', l1, l2, l3⟩
          · exact Or.inl (h4.1 k hk z l hl g)
          · rw [z] at g; exact Or.inr (r4 l hl g)
          · obtain ⟨m, m1, m2⟩ := r3.2 l' l1 l2 rfl
            have : m = k := by omega
            exact Or.inr (m2 l hl (this ▸ g))
        · rcases z with z | z
          · obtain ⟨k, k1, k2, k3⟩ := h4.2 l hl z
            exact ⟨k, k1, k2, Or.inl k3⟩
          · obtain ⟨m, m1, _⟩ := r3.2 l hl z rfl
            exact ⟨m, (h1.2 l m hl m1).1, m1, Or.inr (Or.inr ⟨l, hl, z, m1⟩)⟩
        · exact h5 k (by
            have : k ≠ i := fun y => z (Or.inr (Or.inl y))
            omega) fun y => z (Or.inl y)
      · have e1 : (kua r q).1 = r.1 + 1 := by show r.1 + q.1 = _; omega
        have e2 : (kua r q).2 = q.2.2 := rfl
        rw [e1, e2]
        refine ⟨suc_done r2 h0, by rw [r2.2.2.2.1, h2], fun k hk => ?_, Z, T, ⟨h4.1, fun l hl z => ?_⟩, fun k hk z => ?_⟩
        · rw [r2.1 k (fun z => by
            rcases z with z | ⟨l, l1, _, l3⟩
            · omega
            · have := (h1.2 l k l1 l3).2
              have := h3 k (by omega)
              omega)]
          exact h3 k (by omega)
        · obtain ⟨k, k1, k2, k3⟩ := h4.2 l hl z
          exact ⟨k, k1, by rw [(r3 Z T h4).2 l hl z]; exact k2, k3⟩
        · by_cases d : k = i
          · rw [d]; exact r2.2.2.2.2.2.2.2.2.2
          · exact r2.2.2.2.2.2.2.2.2.1 k (h5 k (by omega) z)
