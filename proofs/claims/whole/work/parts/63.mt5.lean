/-! the size of a largest matching; without a key and a lock; the lodge's rows as a matching -/
def MX (G : GT) (nk nl s : Nat) : Prop := ∃ M, MI G nk nl M ∧ sz nl M = s ∧ ∀ M', MI G nk nl M' → sz nl M' ≤ s
theorem MX.un {G : GT} {nk nl s s' : Nat} (h : MX G nk nl s) (h' : MX G nk nl s') : s = s' := by
  obtain ⟨M, m1, m2, m3⟩ := h
  obtain ⟨M', m1', m2', m3'⟩ := h'
  have a := m3 M' m1'
  have b := m3' M m1
  omega
theorem MI.mono {G G' : GT} {nk nl : Nat} {M : MT} (h : MI G nk nl M) (hg : ∀ a b, a < nk → b < nl → G a b = true → G' a b = true) : MI G' nk nl M :=
  ⟨fun k l hk e => ⟨(h.1 k l hk e).1, (h.1 k l hk e).2.1, hg k l hk (h.1 k l hk e).1 (h.1 k l hk e).2.2⟩, h.2⟩
theorem MX.congr {G G' : GT} {nk nl s : Nat} (h : MX G nk nl s) (hg : ∀ a b, a < nk → b < nl → (G a b = true ↔ G' a b = true)) : MX G' nk nl s := by
  obtain ⟨M, m1, m2, m3⟩ := h
  exact ⟨M, m1.mono fun a b ha hb => (hg a b ha hb).mp, m2, fun M' h' => m3 M' (h'.mono fun a b ha hb => (hg a b ha hb).mpr)⟩
theorem wvE_MX {G : GT} {nk nl : Nat} {M : MT} (hk : nk ≤ 10) (hl : nl ≤ 10) (hM : MI G nk nl M) : MX G nk nl (sz nl (wvE G nk nl 11 M).2) := by
  obtain ⟨h1, h2, h3⟩ := wvE_ok hk 11 M hM (by omega)
  exact ⟨_, h1, rfl, fun M' h' => LV_max h1 hk h2 h'⟩
theorem kul_MX {G : GT} {nk nl out : Nat} (hl : nl ≤ 10) (ho : ∀ k l, k + 1 = out → G k l = false) : MX G nk nl (kul G nl out nk).1 := by
  obtain ⟨h1, h2, h3, Z, T, h4, h5⟩ := kul_ok (nk := nk) hl ho nk (Nat.le_refl _)
  exact ⟨_, h1, h2, fun M' h' => by rw [← h2]; exact cert_max h1 h4 h5 h'⟩
def unp (M : MT) (k l : Nat) : MT := (fun a => if a = k then 0 else M.1 a, fun b => if b = l then 0 else M.2.1 b, M.2.2)
theorem MX_can {G : GT} {nk nl s l k0 : Nat} (h : MX G nk nl s) (hl : l < nl) (hk0 : k0 < nk) (g : G k0 l = true) : ∃ k, k < nk ∧ G k l = true ∧ ∀ (G' : GT) (s' : Nat), (∀ a b, a < nk → b < nl → (G' a b = true ↔ G a b = true ∧ a ≠ k ∧ b ≠ l)) → MX G' nk nl s' → s' + 1 = s := by
  obtain ⟨M, m1, m2, m3⟩ := h
  have key : ∃ k l', k < nk ∧ l' < nl ∧ G k l = true ∧ M.1 k = l' + 1 ∧ M.2.1 l' = k + 1 ∧ (l' = l ∨ M.2.1 l = 0) := by
    by_cases c : M.2.1 l = 0
    · by_cases d : M.1 k0 = 0
      · have sb := suc_base (D := fun a => a = k0) m1 hk0 hl g c rfl
        have := m3 _ (suc_done sb d)
        have := sb.2.2.2.1
        exact absurd m2 (by omega)
      · obtain ⟨l', hl'⟩ : ∃ l', M.1 k0 = l' + 1 := ⟨M.1 k0 - 1, by omega⟩
        obtain ⟨t1, t2, t3⟩ := m1.1 k0 l' hk0 hl'
        exact ⟨k0, l', hk0, t1, g, hl', t2, Or.inr c⟩
    · obtain ⟨k, hk⟩ : ∃ k, M.2.1 l = k + 1 := ⟨M.2.1 l - 1, by omega⟩
      obtain ⟨t1, t2⟩ := m1.2 l k hl hk
      exact ⟨k, l, t1, hl, (m1.1 k l t1 t2).2.2, t2, hk, Or.inl rfl⟩
  obtain ⟨k, l', hk, hl', gk, e1, e2, e3⟩ := key
  refine ⟨k, hk, gk, fun G' s' hG hx => ?_⟩
  obtain ⟨M', n1, n2, n3⟩ := hx
  have up : s' + 1 ≤ s := by
    have f1 : M'.1 k = 0 := Classical.byContradiction fun z => by
      obtain ⟨b, hb⟩ : ∃ b, M'.1 k = b + 1 := ⟨M'.1 k - 1, by omega⟩
      obtain ⟨t1, t2, t3⟩ := n1.1 k b hk hb
      exact ((hG k b hk t1).mp t3).2.1 rfl
    have f2 : M'.2.1 l = 0 := Classical.byContradiction fun z => by
      obtain ⟨a, ha⟩ : ∃ a, M'.2.1 l = a + 1 := ⟨M'.2.1 l - 1, by omega⟩
      obtain ⟨t1, t2⟩ := n1.2 l a hl ha
      exact ((hG a l t1 hl).mp (n1.1 a l t1 t2).2.2).2.2 rfl
    have n1' : MI G nk nl M' := n1.mono fun a b ha hb z => ((hG a b ha hb).mp z).1
    have sb := suc_base (D := fun a => a = k) n1' hk hl gk f2 rfl
    have t1 := m3 _ (suc_done sb f1)
    have t2 := sb.2.2.2.1
    omega
  have r0 : MI G' nk nl (unp M k l') := by
    refine ⟨fun a b ha e => ?_, fun b a hb e => ?_⟩
    · have e' : (if a = k then 0 else M.1 a) = b + 1 := e
      by_cases c : a = k
      · rw [if_pos c] at e'; omega
      · rw [if_neg c] at e'
        obtain ⟨t1, t2, t3⟩ := m1.1 a b ha e'
        have d : b ≠ l' := fun y => by rw [y] at t2; omega
        have d2 : b ≠ l := fun y => by
          rcases e3 with z | z
          · exact d (by rw [y, z])
          · rw [y] at t2; omega
        refine ⟨t1, ?_, (hG a b ha t1).mpr ⟨t3, c, d2⟩⟩
        show (if b = l' then 0 else M.2.1 b) = a + 1
        rw [if_neg d]; exact t2
    · have e' : (if b = l' then 0 else M.2.1 b) = a + 1 := e
      by_cases c : b = l'
      · rw [if_pos c] at e'; omega
      · rw [if_neg c] at e'
        obtain ⟨t1, t2⟩ := m1.2 b a hb e'
        have d : a ≠ k := fun y => by rw [y] at t2; omega
        refine ⟨t1, ?_⟩
        show (if a = k then 0 else M.1 a) = b + 1
        rw [if_neg d]; exact t2
  have r1 := n3 _ r0
  have r2 : sz nl M = sz nl (unp M k l') + 1 := by
    have t : sz nl M = ct (fun i => M.2.1 i ≠ 0 ∧ i ≠ l') nl + 1 := ct_rm hl' (by omega)
    rw [t]
    congr 1
    refine ct_iff fun i hi => ⟨fun z => ?_, fun z => ?_⟩
    · show (if i = l' then 0 else M.2.1 i) ≠ 0
      rw [if_neg z.2]; exact z.1
    · have z' : (if i = l' then 0 else M.2.1 i) ≠ 0 := z
      by_cases c : i = l'
      · rw [if_pos c] at z'; omega
      · rw [if_neg c] at z'; exact ⟨z', c⟩
  omega
-- the lodge's rows as a matching
def gA (A : AL) : GT := fun k l => decide (fit A k l)
theorem gA_t {A : AL} {k l : Nat} : gA A k l = true ↔ fit A k l := ⟨of_decide_eq_true, decide_eq_true⟩
def mO (A : AL) : MT := (A 3, A 6, A 7)
def mS (A : AL) (M : MT) : AL := fun i j => if i = 3 then M.1 j else if i = 6 then M.2.1 j else if i = 7 then M.2.2 j else A i j
theorem mS_o {A : AL} {M : MT} {i j : Nat} (h3 : i ≠ 3) (h6 : i ≠ 6) (h7 : i ≠ 7) : mS A M i j = A i j := by
  unfold mS
  rw [if_neg h3, if_neg h6, if_neg h7]
theorem mS_mO {A : AL} : mS A (mO A) = A := by
  funext i j
  unfold mS mO
  by_cases c3 : i = 3
  · rw [if_pos c3, c3]
  · rw [if_neg c3]
    by_cases c6 : i = 6
    · rw [if_pos c6, c6]
    · rw [if_neg c6]
      by_cases c7 : i = 7
      · rw [if_pos c7, c7]
      · rw [if_neg c7]
theorem mO_mS {A : AL} {M : MT} : mO (mS A M) = M := rfl
theorem mS_put {A : AL} {M : MT} {k l : Nat} : aPut (mS A M) k l = mS A (put M k l) := by
  funext i j
  by_cases c3 : i = 3
  · subst c3; simp [aPut, aS, mS, put]
  · by_cases c6 : i = 6
    · subst c6; simp [aPut, aS, mS, put]
    · by_cases c7 : i = 7
      · subst c7; simp [aPut, aS, mS, put]
      · simp [aPut, aS, mS, c3, c6, c7]
theorem fit_mS {A : AL} {M : MT} {k l : Nat} : fit (mS A M) k l ↔ fit A k l := by
  show (lk (mS A M 5 l) (mS A M 1 k) = 0 ∧ pop (mS A M 1 k) ≤ pop (mS A M 5 l) + mS A M 0 2 ∧ mS A M (8 + k) l = 0) ↔ _
  rw [mS_o (by decide) (by decide) (by decide), mS_o (by decide) (by decide) (by decide), mS_o (by decide) (by decide) (by decide), mS_o (by omega) (by omega) (by omega)]
theorem gA_mS {A : AL} {M : MT} : gA (mS A M) = gA A := by
  funext k l
  exact decide_eq_decide.mpr fit_mS
theorem MI_of {A : AL} (hI : Inv A) (hF : InvF A) : MI (gA A) (aNk A) (aNl A) (mO A) := by
  refine ⟨fun k l hk e => ?_, fun l k hl e => ?_⟩
  · obtain ⟨_, _, i3, i4⟩ := hI.2.2.2.1 k hk
    have e' : aIk A k = l + 1 := e
    exact ⟨by omega, i4 l e', gA_t.mpr (hF k hk l e')⟩
  · obtain ⟨_, i3, i4⟩ := hI.2.2.2.2.1 l hl
    have e' : aHk A l = k + 1 := e
    exact ⟨by omega, i4 k e'⟩
theorem Inv_mS {A : AL} {M : MT} (hI : Inv A) (h : MI (gA A) (aNk A) (aNl A) M) : Inv (mS A M) ∧ InvF (mS A M) := by
  obtain ⟨h1, h2, h3, h4, h5, h6, h7⟩ := hI
  have hb : ∀ k l, aBr (mS A M) k l = aBr A k l := fun k l => mS_o (by omega) (by omega) (by omega)
  refine ⟨⟨h1, h2, h3, fun k hk => ?_, fun l hl => ?_, fun k l => by rw [hb]; exact h6 k l, fun k l hkl => by rw [hb]; exact h7 k l hkl⟩, fun k hk l e => fit_mS.mpr (gA_t.mp (h.1 k l hk e).2.2)⟩
  · refine ⟨(h4 k hk).1, (h4 k hk).2.1, ?_, fun l e => (h.1 k l hk e).2.1⟩
    show M.1 k ≤ aNl A
    by_cases c : M.1 k = 0
    · omega
    · obtain ⟨l, hl⟩ : ∃ l, M.1 k = l + 1 := ⟨M.1 k - 1, by omega⟩
      have := (h.1 k l hk hl).1
      omega
  · refine ⟨(h5 l hl).1, ?_, fun k e => (h.2 l k hl e).2⟩
    show M.2.1 l ≤ aNk A
    by_cases c : M.2.1 l = 0
    · omega
    · obtain ⟨k, hk⟩ : ∃ k, M.2.1 l = k + 1 := ⟨M.2.1 l - 1, by omega⟩
      have := (h.2 l k hl hk).1
      omega
theorem sOpen_sz {A : AL} : sOpen A = sz (aNl A) (mO A) := sm_congr fun i _ => cp_b01
