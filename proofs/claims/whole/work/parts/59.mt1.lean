/-! matchings of keys and locks, apart from both programs: counting; a matching's size; a certificate that a matching is a largest one; what a way adds -/
noncomputable def cp (p : Prop) : Nat := @b01 p (Classical.propDecidable _)
theorem cp_t {p : Prop} (h : p) : cp p = 1 := @b01_t p (Classical.propDecidable _) h
theorem cp_f {p : Prop} (h : ¬ p) : cp p = 0 := @b01_f p (Classical.propDecidable _) h
theorem cp_le {p : Prop} : cp p ≤ 1 := by
  by_cases h : p
  · rw [cp_t h]; exact Nat.le_refl 1
  · rw [cp_f h]; exact Nat.zero_le 1
theorem cp_b01 {p : Prop} [Decidable p] : b01 p = cp p := by
  by_cases h : p
  · rw [b01_t h, cp_t h]
  · rw [b01_f h, cp_f h]
theorem cp_iff {p q : Prop} (h : p ↔ q) : cp p = cp q := by
  by_cases c : p
  · rw [cp_t c, cp_t (h.mp c)]
  · rw [cp_f c, cp_f (fun z => c (h.mpr z))]
noncomputable def ct (P : Nat → Prop) (n : Nat) : Nat := sm (fun i => cp (P i)) n
theorem ct_le {P R : Nat → Prop} {n : Nat} (h : ∀ i, i < n → P i → R i) : ct P n ≤ ct R n := by
  refine sm_le fun i hi => ?_
  by_cases c : P i
  · rw [cp_t c, cp_t (h i hi c)]; exact Nat.le_refl 1
  · rw [cp_f c]; exact Nat.zero_le _
theorem ct_iff {P R : Nat → Prop} {n : Nat} (h : ∀ i, i < n → (P i ↔ R i)) : ct P n = ct R n := sm_congr fun i hi => cp_iff (h i hi)
theorem ct_n {P : Nat → Prop} {n : Nat} : ct P n ≤ n := by
  have h : ct P n ≤ n * 1 := sm_bound fun i _ => cp_le
  omega
theorem ct_rm {P : Nat → Prop} {n l : Nat} (hl : l < n) (h : P l) : ct P n = ct (fun i => P i ∧ i ≠ l) n + 1 := by
  have t : sm (fun m => if m = l then 0 else cp (P m)) n + cp (P l) = sm (fun i => cp (P i)) n + 0 := sm_set (f := fun i => cp (P i)) (l := l) (c := 0) n hl
  have e : sm (fun m => if m = l then 0 else cp (P m)) n = ct (fun i => P i ∧ i ≠ l) n := by
    refine sm_congr fun i hi => ?_
    show (if i = l then 0 else cp (P i)) = cp (P i ∧ i ≠ l)
    by_cases c : i = l
    · rw [if_pos c, cp_f (fun z => z.2 c)]
    · rw [if_neg c]
      exact cp_iff ⟨fun d => ⟨d, c⟩, fun d => d.1⟩
  rw [e, cp_t h] at t
  show sm (fun i => cp (P i)) n = _
  omega
theorem ct_inj {R : Nat → Prop} (S : Nat → Nat → Prop) {m : Nat} : ∀ n : Nat, ∀ P : Nat → Prop, (∀ l, l < m → P l → ∃ k, k < n ∧ R k ∧ S l k) → (∀ l l' k, l < m → l' < m → P l → P l' → S l k → S l' k → l = l') → ct P m ≤ ct R n := by
  intro n
  induction n with
  | zero =>
    intro P h1 _
    have : ct P m = 0 := sm_zero fun i hi => cp_f fun z => by
      obtain ⟨k, hk, _⟩ := h1 i hi z
      omega
    omega
  | succ n ih =>
    intro P h1 h2
    have e : ct R (n + 1) = ct R n + cp (R n) := rfl
    by_cases c : ∃ l, l < m ∧ P l ∧ R n ∧ S l n
    · obtain ⟨l, hl, hp, hr, hs⟩ := c
      have h := ih (fun i => P i ∧ i ≠ l) (fun i hi hpi => by
        obtain ⟨k, hk, hrk, hsk⟩ := h1 i hi hpi.1
        refine ⟨k, ?_, hrk, hsk⟩
        by_cases d : k = n
        · subst d
          exact absurd (h2 i l k hi hl hpi.1 hp hsk hs) hpi.2
        · omega) (fun a b k ha hb pa pb sa sb => h2 a b k ha hb pa.1 pb.1 sa sb)
      rw [ct_rm hl hp, e, cp_t hr]
      omega
    · have h := ih P (fun i hi hpi => by
        obtain ⟨k, hk, hrk, hsk⟩ := h1 i hi hpi
        refine ⟨k, ?_, hrk, hsk⟩
        by_cases d : k = n
        · subst d
          exact absurd ⟨i, hi, hpi, hrk, hsk⟩ c
        · omega) h2
      omega
theorem sm_add {f g : Nat → Nat} : ∀ n, sm (fun i => f i + g i) n = sm f n + sm g n := by
  intro n
  induction n with
  | zero => rfl
  | succ n ih => rw [sm, sm, sm, ih]; omega
theorem ct_split {P T : Nat → Prop} {n : Nat} : ct P n = ct (fun i => P i ∧ T i) n + ct (fun i => P i ∧ ¬ T i) n := by
  have h : sm (fun i => cp (P i ∧ T i) + cp (P i ∧ ¬ T i)) n = sm (fun i => cp (P i ∧ T i)) n + sm (fun i => cp (P i ∧ ¬ T i)) n := sm_add n
  show sm (fun i => cp (P i)) n = sm (fun i => cp (P i ∧ T i)) n + sm (fun i => cp (P i ∧ ¬ T i)) n
  rw [← h]
  refine sm_congr fun i _ => ?_
  by_cases c : T i
  · rw [cp_f (p := P i ∧ ¬ T i) (fun z => z.2 c), Nat.add_zero]
    exact cp_iff ⟨fun z => ⟨z, c⟩, fun z => z.1⟩
  · rw [cp_f (p := P i ∧ T i) (fun z => c z.2), Nat.zero_add]
    exact cp_iff ⟨fun z => ⟨z, c⟩, fun z => z.1⟩
/-- a matching: the lock of a key (0: none), the key of a lock (0: none), times -/
abbrev MT : Type := (Nat → Nat) × (Nat → Nat) × (Nat → Nat)
abbrev GT : Type := Nat → Nat → Bool
def MI (G : GT) (nk nl : Nat) (M : MT) : Prop := (∀ k l, k < nk → M.1 k = l + 1 → l < nl ∧ M.2.1 l = k + 1 ∧ G k l = true) ∧ ∀ l k, l < nl → M.2.1 l = k + 1 → k < nk ∧ M.1 k = l + 1
noncomputable def sz (nl : Nat) (M : MT) : Nat := ct (fun l => M.2.1 l ≠ 0) nl
def CC (G : GT) (nk nl : Nat) (M : MT) (Z T : Nat → Prop) : Prop := (∀ k, k < nk → Z k → ∀ l, l < nl → G k l = true → T l) ∧ ∀ l, l < nl → T l → ∃ k, k < nk ∧ M.2.1 l = k + 1 ∧ Z k
theorem cert_max {G : GT} {nk nl : Nat} {M M' : MT} {Z T : Nat → Prop} (hM : MI G nk nl M) (hc : CC G nk nl M Z T) (hz : ∀ k, k < nk → ¬ Z k → M.1 k ≠ 0) (hM' : MI G nk nl M') : sz nl M' ≤ sz nl M := by
  have a1 : sz nl M' = ct (fun l => M'.2.1 l ≠ 0 ∧ T l) nl + ct (fun l => M'.2.1 l ≠ 0 ∧ ¬ T l) nl := ct_split
  have a2 : ct (fun l => M'.2.1 l ≠ 0 ∧ T l) nl ≤ ct T nl := ct_le fun i _ z => z.2
  have a3 : ct (fun l => M'.2.1 l ≠ 0 ∧ ¬ T l) nl ≤ ct (fun k => ¬ Z k) nk := by
    refine ct_inj (fun l k => M'.2.1 l = k + 1) nk _ (fun l hl z => ?_) (fun l l' k hl hl' _ _ e e' => ?_)
    · obtain ⟨k, hk⟩ : ∃ k, M'.2.1 l = k + 1 := ⟨M'.2.1 l - 1, by have := z.1; omega⟩
      obtain ⟨k1, k2⟩ := hM'.2 l k hl hk
      exact ⟨k, k1, fun y => z.2 (hc.1 k k1 y l hl (hM'.1 k l k1 k2).2.2), hk⟩
    · have t1 := (hM'.2 l k hl e).2
      have t2 := (hM'.2 l' k hl' e').2
      omega
  have b1 : sz nl M = ct (fun l => M.2.1 l ≠ 0 ∧ T l) nl + ct (fun l => M.2.1 l ≠ 0 ∧ ¬ T l) nl := ct_split
  have b2 : ct T nl ≤ ct (fun l => M.2.1 l ≠ 0 ∧ T l) nl := ct_le fun l hl z => by
    obtain ⟨k, _, h, _⟩ := hc.2 l hl z
    exact ⟨by omega, z⟩
  have b3 : ct (fun k => ¬ Z k) nk ≤ ct (fun l => M.2.1 l ≠ 0 ∧ ¬ T l) nl := by
    refine ct_inj (fun k l => M.1 k = l + 1) nl _ (fun k hk z => ?_) (fun k k' l hk hk' _ _ e e' => ?_)
    · obtain ⟨l, hl⟩ : ∃ l, M.1 k = l + 1 := ⟨M.1 k - 1, by have := hz k hk z; omega⟩
      obtain ⟨l1, l2, _⟩ := hM.1 k l hk hl
      refine ⟨l, l1, ⟨by omega, fun y => ?_⟩, hl⟩
      obtain ⟨k2, _, e2, z2⟩ := hc.2 l l1 y
      have : k2 = k := by omega
      exact z (this ▸ z2)
    · have t1 := (hM.1 k l hk e).2.1
      have t2 := (hM.1 k' l hk' e').2.1
      omega
  omega
def put (M : MT) (k l : Nat) : MT := (fun a => if a = k then l + 1 else M.1 a, fun a => if a = l then k + 1 else M.2.1 a, fun a => if a = l then M.2.2 l + 1 else M.2.2 a)
theorem put_k {M : MT} {k l : Nat} : (put M k l).1 k = l + 1 := if_pos rfl
theorem put_k' {M : MT} {k l a : Nat} (h : a ≠ k) : (put M k l).1 a = M.1 a := if_neg h
theorem put_l {M : MT} {k l : Nat} : (put M k l).2.1 l = k + 1 := if_pos rfl
theorem put_l' {M : MT} {k l a : Nat} (h : a ≠ l) : (put M k l).2.1 a = M.2.1 a := if_neg h
/-- a way from the key k was taken, over keys of D alone: one lock more is opened; the lock where k was may still name k -/
def Suc (G : GT) (nk nl k : Nat) (D : Nat → Prop) (M M' : MT) : Prop :=
  (∀ a, ¬ D a → M'.1 a = M.1 a) ∧ (∀ l a, M.2.1 l = a + 1 → (¬ D a ∨ a = k) → M'.2.1 l = M.2.1 l) ∧ (∀ l, M.2.1 l ≠ 0 → M'.2.1 l ≠ 0) ∧ sz nl M' = sz nl M + 1 ∧ (∀ l a, l < nl → M'.2.1 l = a + 1 → a < nk ∧ (M'.1 a = l + 1 ∨ (a = k ∧ M.1 k = l + 1))) ∧ (∀ a l, a < nk → M'.1 a = l + 1 → l < nl ∧ M'.2.1 l = a + 1 ∧ G a l = true) ∧ M'.1 k ≠ M.1 k ∧ D k ∧ (∀ a, M.1 a ≠ 0 → M'.1 a ≠ 0) ∧ M'.1 k ≠ 0
theorem suc_base {G : GT} {nk nl k l : Nat} {D : Nat → Prop} {M : MT} (hM : MI G nk nl M) (hk : k < nk) (hl : l < nl) (hg : G k l = true) (h0 : M.2.1 l = 0) (hD : D k) : Suc G nk nl k D M (put M k l) := by
  refine ⟨fun a ha => put_k' fun e => ha (e ▸ hD), fun l2 a e _ => put_l' fun z => ?_, fun l2 e => ?_, ?_, fun l2 a hl2 e => ?_, fun a l2 ha e => ?_, ?_, hD, fun a e => ?_, ?_⟩
  · rw [z] at e; omega
  · by_cases c : l2 = l
    · rw [c, put_l]; omega
    · rw [put_l' c]; exact e
  · have t : sz nl (put M k l) = ct (fun i => (put M k l).2.1 i ≠ 0 ∧ i ≠ l) nl + 1 := ct_rm hl (by rw [put_l]; omega)
    rw [t]
    congr 1
    refine ct_iff fun i hi => ⟨fun z => ?_, fun z => ?_⟩
    · rw [put_l' z.2] at z; exact z.1
    · have c : i ≠ l := fun y => z (by rw [y]; exact h0)
      exact ⟨by rw [put_l' c]; exact z, c⟩
  · by_cases c : l2 = l
    · subst c
      rw [put_l] at e
      have : a = k := by omega
      subst this
      exact ⟨hk, Or.inl put_k⟩
    · rw [put_l' c] at e
      obtain ⟨t1, t2⟩ := hM.2 l2 a hl2 e
      refine ⟨t1, ?_⟩
      by_cases d : a = k
      · subst d; exact Or.inr ⟨rfl, t2⟩
      · rw [put_k' d]; exact Or.inl t2
  · by_cases c : a = k
    · subst c
      rw [put_k] at e
      have : l2 = l := by omega
      subst this
      exact ⟨hl, put_l, hg⟩
    · rw [put_k' c] at e
      obtain ⟨t1, t2, t3⟩ := hM.1 a l2 ha e
      have d : l2 ≠ l := fun y => by rw [y] at t2; omega
      exact ⟨t1, by rw [put_l' d]; exact t2, t3⟩
  · rw [put_k]
    intro e
    have := (hM.1 k l hk e.symm).2.1
    omega
  · by_cases c : a = k
    · rw [c, put_k]; omega
    · rw [put_k' c]; exact e
  · rw [put_k]; omega
theorem suc_step {G : GT} {nk nl k l m : Nat} {D D' : Nat → Prop} {M M1 : MT} (hM : MI G nk nl M) (hk : k < nk) (hl : l < nl) (hg : G k l = true) (hh : M.2.1 l = m + 1) (hs : Suc G nk nl m D' M M1) (hk' : ¬ D' k) (hD : D k) (hDD : ∀ a, D' a → D a) : Suc G nk nl k D M (put M1 k l) := by
  obtain ⟨s1, s2, s3, s4, s5, s6, s7, s8, s9, s10⟩ := hs
  have hmk : m ≠ k := fun e => hk' (e ▸ s8)
  have f : M1.2.1 l = m + 1 := by rw [s2 l m hh (Or.inr rfl)]; exact hh
  have hm := (hM.2 l m hl hh).2
  refine ⟨fun a ha => ?_, fun l2 a e ha => ?_, fun l2 e => ?_, ?_, fun l2 a hl2 e => ?_, fun a l2 ha e => ?_, ?_, hD, fun a e => ?_, ?_⟩
  · rw [put_k' (show a ≠ k from fun e => ha (e ▸ hD))]
    exact s1 a fun z => ha (hDD a z)
  · have c : l2 ≠ l := fun z => by
      rw [z] at e
      have : a = m := by omega
      subst this
      rcases ha with ha | ha
      · exact ha (hDD a s8)
      · exact hmk ha
    rw [put_l' c]
    refine s2 l2 a e (Or.inl ?_)
    rcases ha with ha | ha
    · exact fun z => ha (hDD a z)
    · rw [ha]; exact hk'
  · by_cases c : l2 = l
    · rw [c, put_l]; omega
    · rw [put_l' c]; exact s3 l2 e
  · rw [← s4]
    refine ct_iff fun i hi => ?_
    by_cases c : i = l
    · rw [c, put_l, f]; omega
    · rw [put_l' c]
  · by_cases c : l2 = l
    · subst c
      rw [put_l] at e
      have : a = k := by omega
      subst this
      exact ⟨hk, Or.inl put_k⟩
    · rw [put_l' c] at e
      obtain ⟨t1, t2⟩ := s5 l2 a hl2 e
      refine ⟨t1, ?_⟩
      rcases t2 with t2 | t2
      · by_cases d : a = k
        · subst d
          rw [s1 a hk'] at t2
          exact Or.inr ⟨rfl, t2⟩
        · rw [put_k' d]; exact Or.inl t2
      · have := t2.2
        omega
  · by_cases c : a = k
    · subst c
      rw [put_k] at e
      have : l2 = l := by omega
      subst this
      exact ⟨hl, put_l, hg⟩
    · rw [put_k' c] at e
      obtain ⟨t1, t2, t3⟩ := s6 a l2 ha e
      have d : l2 ≠ l := fun y => by
        rw [y] at t2 e
        have : a = m := by omega
        subst this
        exact s7 (by rw [e, hm])
      exact ⟨t1, by rw [put_l' d]; exact t2, t3⟩
  · rw [put_k]
    intro e
    have := (hM.1 k l hk e.symm).2.1
    omega
  · by_cases c : a = k
    · rw [c, put_k]; omega
    · rw [put_k' c]; exact s9 a e
  · rw [put_k]; omega
theorem suc_done {G : GT} {nk nl k : Nat} {D : Nat → Prop} {M M' : MT} (hs : Suc G nk nl k D M M') (h0 : M.1 k = 0) : MI G nk nl M' := by
  obtain ⟨s1, s2, s3, s4, s5, s6, s7, s8, s9, s10⟩ := hs
  refine ⟨s6, fun l a hl e => ?_⟩
  obtain ⟨t1, t2⟩ := s5 l a hl e
  refine ⟨t1, ?_⟩
  rcases t2 with t2 | t2
  · exact t2
  · have := t2.2
    omega
