theorem ix_l (l : Nat) : ((47 : Int32) + ((3 : Int32) * nI l)) = nI (47 + 3 * l) := by
  rw [show (47 : Int32) = nI 47 by decide, show (3 : Int32) = nI 3 by decide, pk_mul, nI_add]
theorem ix_k (k : Nat) : ((7 : Int32) + ((4 : Int32) * nI k)) = nI (7 + 4 * k) := by
  rw [show (7 : Int32) = nI 7 by decide, show (4 : Int32) = nI 4 by decide, pk_mul, nI_add]
theorem RR_addLock {g : Nat → Int32} {A : AL} (h : RR g A) (hI : Inv A) (hn : aNl A < 10) (p : Nat) : RR (upd (upd (upd (upd g 1 (nI (aNl A + 1))) (47 + 3 * aNl A) (nI p)) (48 + 3 * aNl A) (-1)) (49 + 3 * aNl A) 0) (aAddLock A p) := by
  obtain ⟨g0, g1, g2, g3, g4, g5, g6, hk, hl, hb⟩ := h
  have n1 := hI.1
  have u : ∀ j, j ≠ 1 → j ≠ 47 + 3 * aNl A → j ≠ 48 + 3 * aNl A → j ≠ 49 + 3 * aNl A → upd (upd (upd (upd g 1 (nI (aNl A + 1))) (47 + 3 * aNl A) (nI p)) (48 + 3 * aNl A) (-1)) (49 + 3 * aNl A) 0 j = g j := fun j a b c d => by
    rw [pk_un d, pk_un c, pk_un b, pk_un a]
  have ec : aCo (aAddLock A p) = aCo A := by unfold aAddLock; rw [co_aS (by decide), co_aS (by decide), co_aS (by decide), co_aS (by decide)]
  refine ⟨by rw [u _ (by omega) (by omega) (by omega) (by omega)]; simpa [aAddLock, aS] using g0, ?_, by rw [u _ (by omega) (by omega) (by omega) (by omega)]; simpa [aAddLock, aS] using g2, by rw [u _ (by omega) (by omega) (by omega) (by omega)]; simpa [aAddLock, aS] using g3, by rw [u _ (by omega) (by omega) (by omega) (by omega)]; simpa [aAddLock, aS] using g4, by rw [u _ (by omega) (by omega) (by omega) (by omega)]; simpa [aAddLock, aS] using g5, by rw [u _ (by omega) (by omega) (by omega) (by omega), ec]; simpa [aAddLock, aS] using g6, fun j hj => ?_, fun j hj => ?_, fun a ha c hc => ?_⟩
  · rw [pk_un (by omega), pk_un (by omega), pk_un (by omega), pk_us]; simp [aAddLock, aS]
  · have hj : j < aNk A := by simpa [aAddLock, aS] using hj
    obtain ⟨e0, e1, e2, e3⟩ := hk j hj
    refine ⟨by rw [u _ (by omega) (by omega) (by omega) (by omega)]; simpa [aAddLock, aS] using e0, by rw [u _ (by omega) (by omega) (by omega) (by omega)]; simpa [aAddLock, aS] using e1, by rw [u _ (by omega) (by omega) (by omega) (by omega)]; simpa [aAddLock, aS] using e2, by rw [u _ (by omega) (by omega) (by omega) (by omega)]; simpa [aAddLock, aS] using e3⟩
  · have hj : j < aNl A + 1 := by simpa [aAddLock, aS] using hj
    by_cases c : j = aNl A
    · subst c
      refine ⟨by rw [pk_un (by omega), pk_un (by omega), pk_us]; simp [aAddLock, aS], by rw [pk_un (by omega), pk_us]; simp [aAddLock, aS, nI_0], by rw [pk_us]; simp [aAddLock, aS, nI_0]⟩
    · obtain ⟨e0, e1, e2⟩ := hl j (by omega)
      refine ⟨by rw [u _ (by omega) (by omega) (by omega) (by omega), e0]; simp [aAddLock, aS, c], by rw [u _ (by omega) (by omega) (by omega) (by omega), e1]; simp [aAddLock, aS, c], by rw [u _ (by omega) (by omega) (by omega) (by omega), e2]; simp [aAddLock, aS, c]⟩
  · rw [u _ (by omega) (by omega) (by omega) (by omega), hb a ha c hc]
    have t : aAddLock A p (8 + a) c = A (8 + a) c := by
      have t0 : ¬ (8 + a = 0 ∧ c = 1) := by omega
      have t5 : ¬ (8 + a = 5 ∧ c = aNl A) := by omega
      have t6 : ¬ (8 + a = 6 ∧ c = aNl A) := by omega
      have t7 : ¬ (8 + a = 7 ∧ c = aNl A) := by omega
      simp only [aAddLock, aS, if_neg t0, if_neg t5, if_neg t6, if_neg t7]
    show _ = nI (aAddLock A p (8 + a) c)
    rw [t]
theorem RR_addKey {g : Nat → Int32} {A : AL} (h : RR g A) (hI : Inv A) (hn : aNk A < 10) (w p : Nat) : RR (upd (upd (upd (upd (upd g 0 (nI (aNk A + 1))) (7 + 4 * aNk A) (nI w)) (8 + 4 * aNk A) (nI p)) (9 + 4 * aNk A) (-1)) (10 + 4 * aNk A) 0) (aAddKey A w p) := by
  obtain ⟨g0, g1, g2, g3, g4, g5, g6, hk, hl, hb⟩ := h
  have n2 := hI.2.1
  have u : ∀ j, j ≠ 0 → j ≠ 7 + 4 * aNk A → j ≠ 8 + 4 * aNk A → j ≠ 9 + 4 * aNk A → j ≠ 10 + 4 * aNk A → upd (upd (upd (upd (upd g 0 (nI (aNk A + 1))) (7 + 4 * aNk A) (nI w)) (8 + 4 * aNk A) (nI p)) (9 + 4 * aNk A) (-1)) (10 + 4 * aNk A) 0 j = g j := fun j a b c d e => by
    rw [pk_un e, pk_un d, pk_un c, pk_un b, pk_un a]
  have ec : sm (aCo (aAddKey A w p)) (aNk A + 1) = sm (aCo A) (aNk A) := by
    rw [sm]
    have e1 : aCo (aAddKey A w p) (aNk A) = 0 := by simp [aCo, aAddKey, aS]
    rw [e1, Nat.add_zero]
    refine sm_congr fun i hi => ?_
    have : ¬ i = aNk A := by omega
    simp [aCo, aAddKey, aS, this]
  refine ⟨?_, by rw [u _ (by omega) (by omega) (by omega) (by omega) (by omega)]; simpa [aAddKey, aS] using g1, by rw [u _ (by omega) (by omega) (by omega) (by omega) (by omega)]; simpa [aAddKey, aS] using g2, by rw [u _ (by omega) (by omega) (by omega) (by omega) (by omega)]; simpa [aAddKey, aS] using g3, by rw [u _ (by omega) (by omega) (by omega) (by omega) (by omega)]; simpa [aAddKey, aS] using g4, by rw [u _ (by omega) (by omega) (by omega) (by omega) (by omega)]; simpa [aAddKey, aS] using g5, ?_, fun j hj => ?_, fun j hj => ?_, fun a ha c hc => ?_⟩
  · rw [pk_un (by omega), pk_un (by omega), pk_un (by omega), pk_un (by omega), pk_us]; simp [aAddKey, aS]
  · rw [u _ (by omega) (by omega) (by omega) (by omega) (by omega), g6, show aNk (aAddKey A w p) = aNk A + 1 by simp [aAddKey, aS], ec]
  · have hj : j < aNk A + 1 := by simpa [aAddKey, aS] using hj
    by_cases c : j = aNk A
    · subst c
      refine ⟨by rw [pk_un (by omega), pk_un (by omega), pk_un (by omega), pk_us]; simp [aAddKey, aS], by rw [pk_un (by omega), pk_un (by omega), pk_us]; simp [aAddKey, aS], by rw [pk_un (by omega), pk_us]; simp [aAddKey, aS, nI_0], by rw [pk_us]; simp [aAddKey, aS, nI_0]⟩
    · obtain ⟨e0, e1, e2, e3⟩ := hk j (by omega)
      refine ⟨by rw [u _ (by omega) (by omega) (by omega) (by omega) (by omega), e0]; simp [aAddKey, aS, c], by rw [u _ (by omega) (by omega) (by omega) (by omega) (by omega), e1]; simp [aAddKey, aS, c], by rw [u _ (by omega) (by omega) (by omega) (by omega) (by omega), e2]; simp [aAddKey, aS, c], by rw [u _ (by omega) (by omega) (by omega) (by omega) (by omega), e3]; simp [aAddKey, aS, c]⟩
  · have hj : j < aNl A := by simpa [aAddKey, aS] using hj
    obtain ⟨e0, e1, e2⟩ := hl j hj
    refine ⟨by rw [u _ (by omega) (by omega) (by omega) (by omega) (by omega)]; simpa [aAddKey, aS] using e0, by rw [u _ (by omega) (by omega) (by omega) (by omega) (by omega)]; simpa [aAddKey, aS] using e1, by rw [u _ (by omega) (by omega) (by omega) (by omega) (by omega)]; simpa [aAddKey, aS] using e2⟩
  · rw [u _ (by omega) (by omega) (by omega) (by omega) (by omega), hb a ha c hc]
    have t : aAddKey A w p (8 + a) c = A (8 + a) c := by
      have t0 : ¬ (8 + a = 0 ∧ c = 0) := by omega
      have t5 : ¬ (8 + a = 1 ∧ c = aNk A) := by omega
      have t6 : ¬ (8 + a = 2 ∧ c = aNk A) := by omega
      have t7 : ¬ (8 + a = 3 ∧ c = aNk A) := by omega
      have t8 : ¬ (8 + a = 4 ∧ c = aNk A) := by omega
      simp only [aAddKey, aS, if_neg t0, if_neg t5, if_neg t6, if_neg t7, if_neg t8]
    show _ = nI (aAddKey A w p (8 + a) c)
    rw [t]
theorem isP_le {y : Int32} (h : isP y) : 0 ≤ y ∧ y ≤ 3 := by
  obtain ⟨p, hp, e, -⟩ := isP_nI h
  rw [e, show (3 : Int32) = nI 3 by decide]
  exact ⟨nI_pos' (by omega), nI_le (by omega) (by omega)⟩
section MOPS3
variable {m : OV} {A : AL} {Q : Int32 → OV → Prop} {x y : Int32} {c : Nat}
theorem m_lock (h : RR (m.1 0) A) (hI : Inv A) (hc : m.2 6 = nI c) (hc8 : c ≤ 8) (hr : ∀ r d, oLock A x = .inl (r, d) → ∀ m', RFd m m' r d → Q 0 m') (hk : ∀ n B, oLock A x = .inr (n, B) → ∀ m', RR (m'.1 0) B → KO m m' c → Q n m') : wp_X8_lock Q x m := by
  have n2 := hI.2.1
  unfold wp_X8_lock wp_X8_lock_0
  refine m_in (fun cs => ⟨fun _ => ⟨v1i, ?_⟩, fun z => absurd z (by decide)⟩) (fun cs => ⟨fun z => absurd rfl z, fun _ => m_refuses (hr _ _ (by rw [oLock, if_neg cs]))⟩)
  obtain ⟨w, hw, ex, ex2⟩ := isS_nI cs
  rw [cn1, h.2.1]
  refine ⟨fun z => ?_, fun z => ?_⟩
  · have c10 : ¬ aNl A = 10 := fun y => z (by rw [y]; decide)
    refine m_keepsK hc hc8 (fun m' e0 ko => ⟨v1i, ?_⟩)
    rintro _ rfl
    refine ⟨v1i, v1i, ?_⟩
    rintro _ rfl
    rw [e0, h.2.1, ix_l1, ix_l2, ix_l]
    refine ⟨vi _ (by omega), ?_⟩
    rintro _ rfl
    refine ⟨vi _ (by omega), ?_⟩
    rintro _ rfl
    refine ⟨vi _ (by omega), ?_⟩
    rintro _ rfl
    refine hk _ (aAddLock A w) (by rw [oLock, if_pos cs, if_neg c10, ex2]) _ ?_ (ko.mg ((((MG.sA0 _ _).tr (MG.sA0 _ _)).tr (MG.sA0 _ _)).tr (MG.sA0 _ _)))
    rw [sA00, sA00, sA00, sA00, e0, nI_clamp (show 47 + 3 * aNl A < 2 ^ 31 by omega), nI_clamp (show 48 + 3 * aNl A < 2 ^ 31 by omega), nI_clamp (show 49 + 3 * aNl A < 2 ^ 31 by omega), nI_1, ex]
    exact RR_addLock h hI (by omega) w
  · have c10 : aNl A = 10 := (nI_eq (a := aNl A) (b := 10) (by omega) (by omega)).mp z
    exact m_refuses (hr _ _ (by rw [oLock, if_pos cs, if_pos c10]))
theorem m_key (h : RR (m.1 0) A) (hI : Inv A) (hc : m.2 6 = nI c) (hc8 : c ≤ 8) (hr : ∀ r d, oKey A x y = .inl (r, d) → ∀ m', RFd m m' r d → Q 0 m') (hk : ∀ n B, oKey A x y = .inr (n, B) → ∀ m', RR (m'.1 0) B → KO m m' c → Q n m') : wp_X8_key Q x y m := by
  have n1 := hI.1
  unfold wp_X8_key wp_X8_key_0
  have bad : ¬ (isS x ∧ isP y) → wp_X8_key_19 Q m := fun z => m_refuses (hr _ _ (by rw [oKey, if_neg z]))
  refine m_in (fun cs => ⟨fun z => absurd z (by decide), fun _ => m_in (fun cp => ⟨fun _ => ⟨v0i, ?_⟩, fun z => absurd z (by decide)⟩) (fun cp => ⟨fun z => absurd rfl z, fun _ => bad fun z => cp (isP_le z.2)⟩)⟩) (fun cs => ⟨fun _ => bad fun z => cs z.1, fun z => absurd rfl z⟩)
  have cp' : isP y := ⟨cp.1, Int32.lt_of_le_of_lt cp.2 (by decide)⟩
  obtain ⟨w, hw, ex, ex2⟩ := isS_nI cs
  obtain ⟨p, hp, ey, ey2⟩ := isP_nI cp'
  rw [cn0, h.1]
  refine ⟨fun z => ?_, fun z => ?_⟩
  · have c10 : ¬ aNk A = 10 := fun y => z (by rw [y]; decide)
    refine m_keepsK hc hc8 (fun m' e0 ko => ⟨v0i, ?_⟩)
    rintro _ rfl
    refine ⟨v0i, v0i, ?_⟩
    rintro _ rfl
    rw [e0, h.1, ix_k1, ix_k2, ix_k3, ix_k]
    refine ⟨vi _ (by omega), ?_⟩
    rintro _ rfl
    refine ⟨vi _ (by omega), ?_⟩
    rintro _ rfl
    refine ⟨vi _ (by omega), ?_⟩
    rintro _ rfl
    refine ⟨vi _ (by omega), ?_⟩
    rintro _ rfl
    refine hk _ (aAddKey A w p) (by rw [oKey, if_pos ⟨cs, cp'⟩, if_neg c10, ex2, ey2]) _ ?_ (ko.mg (((((MG.sA0 _ _).tr (MG.sA0 _ _)).tr (MG.sA0 _ _)).tr (MG.sA0 _ _)).tr (MG.sA0 _ _)))
    rw [sA00, sA00, sA00, sA00, sA00, e0, nI_clamp (show 7 + 4 * aNk A < 2 ^ 31 by omega), nI_clamp (show 8 + 4 * aNk A < 2 ^ 31 by omega), nI_clamp (show 9 + 4 * aNk A < 2 ^ 31 by omega), nI_clamp (show 10 + 4 * aNk A < 2 ^ 31 by omega), nI_1, ex, ey]
    exact RR_addKey h hI (by omega) w p
  · have c10 : aNk A = 10 := (nI_eq (a := aNk A) (b := 10) (by omega) (by omega)).mp z
    exact m_refuses (hr _ _ (by rw [oKey, if_pos ⟨cs, cp'⟩, if_pos c10]))
end MOPS3
