theorem fit_dr {A : AL} {n a b : Nat} : fit (drA A n) a b ↔ fit A a b := by
  show (lk (drA A n 5 b) (drA A n 1 a) = 0 ∧ pop (drA A n 1 a) ≤ pop (drA A n 5 b) + drA A n 0 2 ∧ drA A n (8 + a) b = 0) ↔ _
  rw [drA_o (by decide) (by decide), drA_o (by decide) (by decide), drA_o (by decide) (by decide), drA_o (by omega) (by omega)]
theorem dr_fit {A : AL} : ∀ n j, j < n → ∀ l, aIk (drA A n) j = l + 1 → fit A j l := by
  intro n
  induction n with
  | zero => intro j h; omega
  | succ n ih =>
    intro j hj l hl
    rw [drA] at hl
    by_cases c : drP (drA A n) n
    · rw [if_pos c, aLet_ik] at hl
      by_cases c2 : j = n
      · rw [if_pos c2] at hl; omega
      · rw [if_neg c2] at hl
        exact ih j (by omega) l hl
    · rw [if_neg c] at hl
      by_cases c2 : j = n
      · subst c2
        have hf : ¬ ¬ fit (drA A j) j (aIk (drA A j) j - 1) := fun z => c ⟨by omega, z⟩
        have hf := Classical.not_not.mp hf
        rw [hl, Nat.add_sub_cancel] at hf
        exact fit_dr.mp hf
      · exact ih j (by omega) l hl
theorem InvF_drop {A : AL} : InvF (aDrop A) := by
  intro k hk l hl
  have e : aNk (aDrop A) = aNk A := by
    show aS (drA A (aNk A)) 0 5 _ 0 0 = _
    simp only [aS]
    rw [if_neg (by omega)]
    exact drA_o (by decide) (by decide)
  rw [e] at hk
  have hl' : aIk (drA A (aNk A)) k = l + 1 := by
    have : aIk (aDrop A) k = aIk (drA A (aNk A)) k := by simp [aDrop, aS, aIk]
    rw [← this]; exact hl
  have hf := dr_fit _ k hk l hl'
  show lk (aDrop A 5 l) (aDrop A 1 k) = 0 ∧ pop (aDrop A 1 k) ≤ pop (aDrop A 5 l) + aDrop A 0 2 ∧ aDrop A (8 + k) l = 0
  have o : ∀ i j, i ≠ 0 → i ≠ 3 → i ≠ 6 → aDrop A i j = A i j := fun i j a b c => by
    have : ¬ (i = 0 ∧ j = 5) := fun z => a z.1
    simp only [aDrop, aS, if_neg this]
    exact drA_o b c
  have o2 : aDrop A 0 2 = A 0 2 := by
    have : ¬ (0 = 0 ∧ 2 = 5) := by omega
    simp only [aDrop, aS, if_neg this]
    exact drA_o (by decide) (by decide)
  rw [o 5 l (by decide) (by decide) (by decide), o 1 k (by decide) (by decide) (by decide), o (8 + k) l (by omega) (by omega) (by omega), o2]
  exact hf
theorem Inv_addKey {A : AL} (hI : Inv A) (hn : aNk A < 10) {w p : Nat} (hw : w < 64) (hp : p < 4) : Inv (aAddKey A w p) := by
  obtain ⟨g1, g2, g3, g4, g5, g6, g7⟩ := hI
  have e1 : aNk (aAddKey A w p) = aNk A + 1 := by simp [aAddKey, aS]
  have e2 : aNl (aAddKey A w p) = aNl A := by simp [aAddKey, aS]
  have eb : ∀ a b, aBr (aAddKey A w p) a b = aBr A a b := fun a b => by
    have t0 : ¬ (8 + a = 0 ∧ b = 0) := by omega
    have t1 : ¬ (8 + a = 1 ∧ b = aNk A) := by omega
    have t2 : ¬ (8 + a = 2 ∧ b = aNk A) := by omega
    have t3 : ¬ (8 + a = 3 ∧ b = aNk A) := by omega
    have t4 : ¬ (8 + a = 4 ∧ b = aNk A) := by omega
    simp only [aBr, aAddKey, aS, if_neg t0, if_neg t1, if_neg t2, if_neg t3, if_neg t4]
  have ei : ∀ j, aIk (aAddKey A w p) j = if j = aNk A then 0 else aIk A j := fun j => by simp [aIk, aAddKey, aS]
  have eh : ∀ j, aHk (aAddKey A w p) j = aHk A j := fun j => by simp [aHk, aAddKey, aS]
  refine ⟨by rw [e1]; omega, by rw [e2]; exact g2, by simpa [aAddKey, aS] using g3, fun j hj => ?_, fun l hl => ?_, fun a b => by rw [eb]; exact g6 a b, fun a b hab => ?_⟩
  · rw [e1] at hj
    by_cases c : j = aNk A
    · subst c
      refine ⟨by simp [aAddKey, aS]; exact hw, by simp [aAddKey, aS]; exact hp, by rw [ei, if_pos rfl]; omega, fun m hm => ?_⟩
      rw [ei, if_pos rfl] at hm; omega
    · obtain ⟨q1, q2, q3, q4⟩ := g4 j (by omega)
      refine ⟨by simp [aAddKey, aS, c]; exact q1, by simp [aAddKey, aS, c]; exact q2, by rw [ei, if_neg c, e2]; exact q3, fun m hm => ?_⟩
      rw [ei, if_neg c] at hm
      rw [eh]; exact q4 m hm
  · rw [e2] at hl
    obtain ⟨q1, q2, q3⟩ := g5 l hl
    refine ⟨by simpa [aAddKey, aS] using q1, by rw [eh, e1]; omega, fun j hj => ?_⟩
    rw [eh] at hj
    have := q3 j hj
    rw [ei, if_neg (by omega)]
    exact this
  · rw [eb]
    rw [e1, e2] at hab
    exact g7 a b (fun z => hab ⟨by omega, z.2⟩)
