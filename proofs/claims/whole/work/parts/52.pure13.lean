theorem RR_cut {g : Nat → Int32} {A : AL} (h : RR g A) (hI : Inv A) {k : Nat} (hk0 : k < aNk A) (w n : Nat) : RR (upd (upd (upd g (7 + 4 * k) (nI w)) (10 + 4 * k) (nI (aCo A k + n))) 6 (nI (sm (aCo A) (aNk A) + n))) (aS (aS A 1 k w) 4 k (aCo A k + n)) := by
  obtain ⟨g0, g1, g2, g3, g4, g5, g6, hk, hl, hb⟩ := h
  have n1 := hI.1; have n2 := hI.2.1
  have u : ∀ j, j ≠ 6 → j ≠ 7 + 4 * k → j ≠ 10 + 4 * k → upd (upd (upd g (7 + 4 * k) (nI w)) (10 + 4 * k) (nI (aCo A k + n))) 6 (nI (sm (aCo A) (aNk A) + n)) j = g j := fun j a b c => by
    rw [pk_un a, pk_un c, pk_un b]
  refine ⟨by rw [u _ (by omega) (by omega) (by omega)]; simpa [aS] using g0, by rw [u _ (by omega) (by omega) (by omega)]; simpa [aS] using g1, by rw [u _ (by omega) (by omega) (by omega)]; simpa [aS] using g2, by rw [u _ (by omega) (by omega) (by omega)]; simpa [aS] using g3, by rw [u _ (by omega) (by omega) (by omega)]; simpa [aS] using g4, by rw [u _ (by omega) (by omega) (by omega)]; simpa [aS] using g5, ?_, fun j hj => ?_, fun j hj => ?_, fun a ha c hc => ?_⟩
  · rw [pk_us, show aNk (aS (aS A 1 k w) 4 k (aCo A k + n)) = aNk A by simp [aS]]
    congr 1
    have e := sm_set (f := aCo A) (l := k) (c := aCo A k + n) (aNk A) hk0
    have e2 : sm (aCo (aS (aS A 1 k w) 4 k (aCo A k + n))) (aNk A) = sm (fun m => if m = k then aCo A k + n else aCo A m) (aNk A) := sm_congr fun i _ => by
      by_cases c : i = k
      · subst c; simp [aCo, aS]
      · simp [aCo, aS, c]
    rw [e2]; omega
  · have hj : j < aNk A := by simpa [aS] using hj
    obtain ⟨e0, e1, e2, e3⟩ := hk j hj
    refine ⟨?_, by rw [u _ (by omega) (by omega) (by omega)]; simpa [aS] using e1, by rw [u _ (by omega) (by omega) (by omega)]; simpa [aS] using e2, ?_⟩
    · by_cases c : j = k
      · subst c; rw [pk_un (by omega), pk_un (by omega), pk_us]; simp [aS]
      · rw [u _ (by omega) (by omega) (by omega), e0]; simp [aS, c]
    · by_cases c : j = k
      · subst c; rw [pk_un (by omega), pk_us]; simp [aS]
      · rw [u _ (by omega) (by omega) (by omega), e3]; simp [aS, c]
  · have hj : j < aNl A := by simpa [aS] using hj
    obtain ⟨e0, e1, e2⟩ := hl j hj
    refine ⟨by rw [u _ (by omega) (by omega) (by omega)]; simpa [aS] using e0, by rw [u _ (by omega) (by omega) (by omega)]; simpa [aS] using e1, by rw [u _ (by omega) (by omega) (by omega)]; simpa [aS] using e2⟩
  · rw [u _ (by omega) (by omega) (by omega), hb a ha c hc]
    have t : aS (aS A 1 k w) 4 k (aCo A k + n) (8 + a) c = A (8 + a) c := by
      have t5 : ¬ (8 + a = 1 ∧ c = k) := by omega
      have t6 : ¬ (8 + a = 4 ∧ c = k) := by omega
      simp only [aS, if_neg t5, if_neg t6]
    show _ = nI (aS (aS A 1 k w) 4 k (aCo A k + n) (8 + a) c)
    rw [t]
theorem RR_bar {g : Nat → Int32} {A : AL} (h : RR g A) (hI : Inv A) {k l : Nat} (hk0 : k < aNk A) (hl0 : l < aNl A) (b : Nat) : RR (upd g (77 + 10 * k + l) (nI b)) (aS A (8 + k) l b) := by
  obtain ⟨g0, g1, g2, g3, g4, g5, g6, hk, hl, hb⟩ := h
  have n1 := hI.1; have n2 := hI.2.1
  have u : ∀ j, j ≠ 77 + 10 * k + l → upd g (77 + 10 * k + l) (nI b) j = g j := fun j a => pk_un a
  have no : ∀ i j, i < 8 → aS A (8 + k) l b i j = A i j := fun i j hi => by
    have : ¬ (i = 8 + k ∧ j = l) := by omega
    simp [aS, this]
  refine ⟨by rw [u _ (by omega), aNk, no _ _ (by omega)]; exact g0, by rw [u _ (by omega), aNl, no _ _ (by omega)]; exact g1, by rw [u _ (by omega), aSl, no _ _ (by omega)]; exact g2, by rw [u _ (by omega), aWv, no _ _ (by omega)]; exact g3, by rw [u _ (by omega), aWs, no _ _ (by omega)]; exact g4, by rw [u _ (by omega), aFl, no _ _ (by omega)]; exact g5, by rw [u _ (by omega), co_aS (by omega), aNk, no _ _ (by omega)]; exact g6, fun j hj => ?_, fun j hj => ?_, fun a ha c hc => ?_⟩
  · rw [aNk, no _ _ (by omega)] at hj
    obtain ⟨e0, e1, e2, e3⟩ := hk j hj
    rw [aWd, aPo, aIk, aCo, no _ _ (by omega), no _ _ (by omega), no _ _ (by omega), no _ _ (by omega)]
    have hj : j < aNk A := hj
    exact ⟨by rw [u _ (by omega)]; exact e0, by rw [u _ (by omega)]; exact e1, by rw [u _ (by omega)]; exact e2, by rw [u _ (by omega)]; exact e3⟩
  · rw [aNl, no _ _ (by omega)] at hj
    obtain ⟨e0, e1, e2⟩ := hl j hj
    rw [aPn, aHk, aTm, no _ _ (by omega), no _ _ (by omega), no _ _ (by omega)]
    have hj : j < aNl A := hj
    exact ⟨by rw [u _ (by omega)]; exact e0, by rw [u _ (by omega)]; exact e1, by rw [u _ (by omega)]; exact e2⟩
  · by_cases t : a = k ∧ c = l
    · obtain ⟨rfl, rfl⟩ := t
      rw [pk_us]; simp [aBr, aS]
    · rw [u _ (by omega), hb a ha c hc]
      have t' : ¬ (8 + a = 8 + k ∧ c = l) := by omega
      show nI (A (8 + a) c) = nI (aS A (8 + k) l b (8 + a) c)
      simp only [aS, if_neg t']
theorem sm_split {f : Nat → Nat} : ∀ n, sm f (10 * n) = sm (fun k => sm (fun l => f (10 * k + l)) 10) n := by
  intro n
  induction n with
  | zero => rfl
  | succ n ih =>
    rw [sm, ← ih, show 10 * (n + 1) = 10 * n + 10 by omega]
    simp only [sm, Nat.add_assoc, Nat.zero_add, Nat.add_zero]
theorem sm_zero {f : Nat → Nat} {n : Nat} (h : ∀ i, i < n → f i = 0) : sm f n = 0 := by
  rw [sm_congr (g := fun _ => 0) h, sm_const, Nat.mul_zero]
theorem sm_more {f : Nat → Nat} {a : Nat} : ∀ n, (∀ i, a ≤ i → f i = 0) → a ≤ n → sm f n = sm f a := by
  intro n
  induction n with
  | zero => intro _ h; rw [show a = 0 by omega]
  | succ n ih =>
    intro h h2
    by_cases c : a = n + 1
    · rw [c]
    · rw [sm, ih h (by omega), h n (by omega), Nat.add_zero]
theorem sBars_all {A : AL} (hI : Inv A) : sm (fun i => aBr A (i / 10) (i % 10)) 100 = sBars A := by
  have e := sm_split (f := fun i => aBr A (i / 10) (i % 10)) 10
  rw [show 100 = 10 * 10 by decide, e, sBars]
  have e2 : ∀ k, sm (fun l => aBr A ((10 * k + l) / 10) ((10 * k + l) % 10)) 10 = pop (bm A k) := fun k => by
    rw [bm_pop (fun l => hI.2.2.2.2.2.1 k l)]
    refine sm_congr fun l hl => ?_
    rw [show (10 * k + l) / 10 = k by omega, show (10 * k + l) % 10 = l by omega]
  rw [sm_congr (fun k _ => e2 k)]
  refine sm_more 10 (fun k hk => ?_) hI.1
  rw [bm_0 hI hk]; decide
theorem m_barredMany {m : OV} {A : AL} {Q : Int32 → Prop} (h : RR (m.1 0) A) (hI : Inv A) (hq : Q (nI (sBars A))) : wp_X8_barredMany Q m := by
  refine cntloop (wp_X8_barredMany_4_loop Q m) (N := 100) (fun i => aBr A (i / 10) (i % 10)) (fun n => br_t (by decide) (by rw [sBars_all hI]; exact hq)) (fun n i hi K => br_f (by rw [show (100 : Int32) = nI 100 by decide]; exact nI_ge hi (by omega)) ?_)
  rw [show (77 : Int32) = nI 77 by decide, nI_add, nI_clamp (by omega)]
  refine ⟨vi _ (by omega), ?_⟩
  have e := h.2.2.2.2.2.2.2.2.2 (i / 10) (by omega) (i % 10) (by omega)
  rw [show 77 + 10 * (i / 10) + i % 10 = 77 + i by omega] at e
  rw [sm] at K
  rintro _ rfl _ rfl
  rw [e, nI_add, nI_1]; exact K
