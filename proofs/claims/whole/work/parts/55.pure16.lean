theorem Inv_addLock {A : AL} (hI : Inv A) (hn : aNl A < 10) {p : Nat} (hp : p < 64) : Inv (aAddLock A p) := by
  obtain ⟨g1, g2, g3, g4, g5, g6, g7⟩ := hI
  have e1 : aNk (aAddLock A p) = aNk A := by simp [aAddLock, aS]
  have e2 : aNl (aAddLock A p) = aNl A + 1 := by simp [aAddLock, aS]
  have eb : ∀ a b, aBr (aAddLock A p) a b = aBr A a b := fun a b => by
    have t0 : ¬ (8 + a = 0 ∧ b = 1) := by omega
    have t1 : ¬ (8 + a = 5 ∧ b = aNl A) := by omega
    have t2 : ¬ (8 + a = 6 ∧ b = aNl A) := by omega
    have t3 : ¬ (8 + a = 7 ∧ b = aNl A) := by omega
    simp only [aBr, aAddLock, aS, if_neg t0, if_neg t1, if_neg t2, if_neg t3]
  have ei : ∀ j, aIk (aAddLock A p) j = aIk A j := fun j => by simp [aIk, aAddLock, aS]
  have eh : ∀ j, aHk (aAddLock A p) j = if j = aNl A then 0 else aHk A j := fun j => by simp [aHk, aAddLock, aS]
  refine ⟨by rw [e1]; exact g1, by rw [e2]; omega, by simpa [aAddLock, aS] using g3, fun j hj => ?_, fun l hl => ?_, fun a b => by rw [eb]; exact g6 a b, fun a b hab => ?_⟩
  · rw [e1] at hj
    obtain ⟨q1, q2, q3, q4⟩ := g4 j hj
    refine ⟨by simpa [aAddLock, aS] using q1, by simpa [aAddLock, aS] using q2, by rw [ei, e2]; omega, fun m hm => ?_⟩
    rw [ei] at hm
    have := q4 m hm
    rw [eh, if_neg (by omega)]
    exact this
  · rw [e2] at hl
    by_cases c : l = aNl A
    · subst c
      refine ⟨by simp [aAddLock, aS]; exact hp, by rw [eh, if_pos rfl]; omega, fun j hj => ?_⟩
      rw [eh, if_pos rfl] at hj; omega
    · obtain ⟨q1, q2, q3⟩ := g5 l (by omega)
      refine ⟨by simp [aAddLock, aS, c]; exact q1, by rw [eh, if_neg c, e1]; exact q2, fun j hj => ?_⟩
      rw [eh, if_neg c] at hj
      rw [ei]; exact q3 j hj
  · rw [eb]
    rw [e1, e2] at hab
    exact g7 a b (fun z => hab ⟨z.1, by omega⟩)
theorem InvF_let {A : AL} (hF : InvF A) (k l : Nat) : InvF (aLet A k l) := by
  intro j hj m hm
  rw [show aNk (aLet A k l) = aNk A from aLet_o (by decide) (by decide)] at hj
  rw [aLet_ik] at hm
  by_cases c : j = k
  · rw [if_pos c] at hm; omega
  · rw [if_neg c] at hm
    exact fit_let.mpr (hF j hj m hm)
theorem fit_put {A : AL} {k l a b : Nat} : fit (aPut A k l) a b ↔ fit A a b := by
  have o : ∀ i j, i ≠ 3 → i ≠ 6 → i ≠ 7 → aPut A k l i j = A i j := fun i j a b c => by simp [aPut, aS, a, b, c]
  show (lk (aPut A k l 5 b) (aPut A k l 1 a) = 0 ∧ pop (aPut A k l 1 a) ≤ pop (aPut A k l 5 b) + aPut A k l 0 2 ∧ aPut A k l (8 + a) b = 0) ↔ _
  rw [o _ _ (by decide) (by decide) (by decide), o _ _ (by decide) (by decide) (by decide), o _ _ (by decide) (by decide) (by decide), o _ _ (by omega) (by omega) (by omega)]
theorem InvF_put {A : AL} (hF : InvF A) {k l : Nat} (hf : fit A k l) : InvF (aPut A k l) := by
  intro j hj m hm
  have e1 : aNk (aPut A k l) = aNk A := by simp [aPut, aS]
  have ei : aIk (aPut A k l) j = if j = k then l + 1 else aIk A j := by simp [aPut, aS, aIk]
  rw [e1] at hj
  rw [ei] at hm
  refine fit_put.mpr ?_
  by_cases c : j = k
  · rw [if_pos c] at hm
    have : m = l := by omega
    rw [c, this]; exact hf
  · rw [if_neg c] at hm
    exact hF j hj m hm
theorem InvF_addKey {A : AL} (hI : Inv A) (hF : InvF A) (w p : Nat) : InvF (aAddKey A w p) := by
  intro j hj m hm
  have e1 : aNk (aAddKey A w p) = aNk A + 1 := by simp [aAddKey, aS]
  have ei : aIk (aAddKey A w p) j = if j = aNk A then 0 else aIk A j := by simp [aIk, aAddKey, aS]
  rw [e1] at hj
  rw [ei] at hm
  by_cases c : j = aNk A
  · rw [if_pos c] at hm; omega
  · rw [if_neg c] at hm
    have hf := hF j (by omega) m hm
    have t4 : aAddKey A w p (8 + j) m = A (8 + j) m := by
      have t0 : ¬ (8 + j = 0 ∧ m = 0) := by omega
      have t1 : ¬ (8 + j = 1 ∧ m = aNk A) := by omega
      have t2 : ¬ (8 + j = 2 ∧ m = aNk A) := by omega
      have t3 : ¬ (8 + j = 3 ∧ m = aNk A) := by omega
      have t4 : ¬ (8 + j = 4 ∧ m = aNk A) := by omega
      simp only [aAddKey, aS, if_neg t0, if_neg t1, if_neg t2, if_neg t3, if_neg t4]
    show lk (aAddKey A w p 5 m) (aAddKey A w p 1 j) = 0 ∧ pop (aAddKey A w p 1 j) ≤ pop (aAddKey A w p 5 m) + aAddKey A w p 0 2 ∧ aAddKey A w p (8 + j) m = 0
    rw [t4, show aAddKey A w p 5 m = A 5 m by simp [aAddKey, aS], show aAddKey A w p 1 j = A 1 j by simp [aAddKey, aS, c], show aAddKey A w p 0 2 = A 0 2 by simp [aAddKey, aS]]
    exact hf
theorem InvF_addLock {A : AL} (hI : Inv A) (hF : InvF A) (p : Nat) : InvF (aAddLock A p) := by
  intro j hj m hm
  have e1 : aNk (aAddLock A p) = aNk A := by simp [aAddLock, aS]
  have ei : aIk (aAddLock A p) j = aIk A j := by simp [aIk, aAddLock, aS]
  rw [e1] at hj
  rw [ei] at hm
  have hf := hF j hj m hm
  have hm2 : ¬ m = aNl A := by have := (hI.2.2.2.1 j hj).2.2.1; omega
  have t4 : aAddLock A p (8 + j) m = A (8 + j) m := by
    have t0 : ¬ (8 + j = 0 ∧ m = 1) := by omega
    have t1 : ¬ (8 + j = 5 ∧ m = aNl A) := by omega
    have t2 : ¬ (8 + j = 6 ∧ m = aNl A) := by omega
    have t3 : ¬ (8 + j = 7 ∧ m = aNl A) := by omega
    simp only [aAddLock, aS, if_neg t0, if_neg t1, if_neg t2, if_neg t3]
  show lk (aAddLock A p 5 m) (aAddLock A p 1 j) = 0 ∧ pop (aAddLock A p 1 j) ≤ pop (aAddLock A p 5 m) + aAddLock A p 0 2 ∧ aAddLock A p (8 + j) m = 0
  rw [t4, show aAddLock A p 5 m = A 5 m by simp [aAddLock, aS, hm2], show aAddLock A p 1 j = A 1 j by simp [aAddLock, aS], show aAddLock A p 0 2 = A 0 2 by simp [aAddLock, aS]]
  exact hf
/-- what each change leaves is as it should be -/
theorem oKey_inv {A B : AL} {x y n : Int32} (hI : Inv A) (hF : InvF A) (h : oKey A x y = .inr (n, B)) : Inv B ∧ InvF B := by
  unfold oKey at h
  split at h
  · rename_i c
    obtain ⟨w, hw, -, ex⟩ := isS_nI c.1
    obtain ⟨p, hp, -, ey⟩ := isP_nI c.2
    split at h
    · cases h
    · rename_i c2
      cases h
      rw [ex, ey]
      exact ⟨Inv_addKey hI (by have := hI.1; omega) hw hp, InvF_addKey hI hF _ _⟩
  · cases h
theorem oLock_inv {A B : AL} {x n : Int32} (hI : Inv A) (hF : InvF A) (h : oLock A x = .inr (n, B)) : Inv B ∧ InvF B := by
  unfold oLock at h
  split at h
  · rename_i c
    obtain ⟨w, hw, -, ex⟩ := isS_nI c
    split at h
    · cases h
    · rename_i c2
      cases h
      rw [ex]
      exact ⟨Inv_addLock hI (by have := hI.2.1; omega) hw, InvF_addLock hI hF _⟩
  · cases h
theorem oCut_inv {A B : AL} {x y n : Int32} (hI : Inv A) (h : oCut A x y = .inr (n, B)) : Inv B ∧ InvF B := by
  unfold oCut at h
  split at h
  · split at h
    · rename_i c
      obtain ⟨w, hw, -, ey⟩ := isS_nI c
      split at h
      · cases h
      · cases h
        rw [ey]
        exact ⟨Inv_drop (Inv_wd hI hw), InvF_drop⟩
    · cases h
  · cases h
theorem oBar_inv {A B : AL} {x y n : Int32} {b : Nat} (hI : Inv A) (hb : b ≤ 1) (h : oBar A x y b = .inr (n, B)) : Inv B ∧ InvF B := by
  unfold oBar at h
  split at h
  · rename_i ck
    obtain ⟨k, hk, -, ex⟩ := isR_nI hI.1 ck
    split at h
    · rename_i cl
      obtain ⟨l, hl, -, ey⟩ := isR_nI hI.2.1 cl
      split at h
      · cases h
      · cases h
        rw [ex, ey]
        exact ⟨Inv_drop (Inv_br hI hk hl hb), InvF_drop⟩
    · cases h
  · cases h
