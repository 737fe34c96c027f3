theorem fndloop2 (W : Nat → Int32 → Prop) (P : Nat → Prop) {N : Nat} (hx : (∀ j, j < N → ¬ P j) → ∀ n, W (n + 1) (nI N)) (hs : ∀ n i, i < N → (∀ j, j < i → ¬ P j) → (¬ P i → W n (nI (i + 1))) → W (n + 1) (nI i)) : ∃ n, W n 0 := by
  have key : ∀ d i, i + d = N → (∀ j, j < i → ¬ P j) → W (d + 1) (nI i) := fun d => by
    induction d with
    | zero =>
      intro i hi hj
      have hi : i = N := by omega
      subst hi
      exact hx hj 0
    | succ d ih => exact fun i hi hj => hs (d + 1) i (by omega) hj (fun hn => ih (i + 1) (by omega) (fun j h => by
        by_cases c : j = i
        · rw [c]; exact hn
        · exact hj j (by omega)))
  exact ⟨N + 1, key N 0 (by omega) (fun j h => absurd h (by omega))⟩
def cheapB (A : AL) (l k o : Nat) : Prop := aBr A o l = 0 ∧ (costA A o l < costA A k l ∨ costA A o l = costA A k l ∧ o < k)
noncomputable def cheapF (A : AL) (l k o : Nat) : Nat := @b01 (cheapB A l k o) (Classical.propDecidable _)
theorem cheapF_t {A : AL} {l k o : Nat} (h : cheapB A l k o) : cheapF A l k o = 1 := @b01_t _ (Classical.propDecidable _) h
theorem cheapF_f {A : AL} {l k o : Nat} (h : ¬ cheapB A l k o) : cheapF A l k o = 0 := @b01_f _ (Classical.propDecidable _) h
noncomputable def sCh (A : AL) (l k : Nat) : Nat := sm (cheapF A l k) (aNk A)
def rankB (A : AL) (k o : Nat) : Prop := sFor A o < sFor A k ∨ sFor A o = sFor A k ∧ (pop (aWd A k) < pop (aWd A o) ∨ pop (aWd A o) = pop (aWd A k) ∧ o < k)
noncomputable def rankF (A : AL) (k o : Nat) : Nat := @b01 (rankB A k o) (Classical.propDecidable _)
theorem rankF_t {A : AL} {k o : Nat} (h : rankB A k o) : rankF A k o = 1 := @b01_t _ (Classical.propDecidable _) h
theorem rankF_f {A : AL} {k o : Nat} (h : ¬ rankB A k o) : rankF A k o = 0 := @b01_f _ (Classical.propDecidable _) h
noncomputable def sRk (A : AL) (k : Nat) : Nat := sm (rankF A k) (aNk A)
theorem costA_lt {A : AL} (hI : Inv A) {k l : Nat} : costA A k l < 2 ^ 30 := by
  have p1 := pop_le (aWd A k); have p2 := pop_le (aPn A l); have p3 := pop_le (lk (aPn A l) (aWd A k)); unfold costA; omega
theorem sFor_lt {A : AL} (hI : Inv A) {k : Nat} : sFor A k < 2 ^ 30 := by
  have h1 : sFor A k ≤ aNl A * 1 := sm_bound fun i _ => b01_le
  have := hI.2.1; omega
section CLS3
variable {v : OV} {A : AL} {Q : Int32 → Prop}
theorem c_countCheaper (h : CR v A) (hI : Inv A) {k l : Nat} (hk : k < aNk A) (hl : l < aNl A) (hq : Q (nI (sCh A l k))) : wp_X3_countCheaper Q (nI k) (nI l) v := by
  unfold wp_X3_countCheaper wp_X3_countCheaper_0
  refine c_costToFit h hI hk hl ?_
  refine cntloop (fun n a b => wp_X3_countCheaper_13_loop Q v n (nI k) (nI l) (nI (costA A k l)) a b) (N := aNk A) (cheapF A l k) (fun n => br_t (keysEnd h hI) hq) (fun n i hi K => br_f (keysOn h hI hi) (c_costToFit h hI hi hl ?_))
  have c1 := costA_lt (l := l) hI (k := k); have c2 := costA_lt (l := l) hI (k := i); have n10 := hI.1
  have no : ¬ cheapB A l k i → wp_X3_countCheaper_74 Q (wp_X3_countCheaper_13_loop Q v n) v (nI k) (nI l) (nI (costA A k l)) (nI (sm (cheapF A l k) i)) (nI i) := fun hn => by
    rw [sm, cheapF_f hn, Nat.add_zero] at K
    rintro _ rfl
    rw [nI_1]; exact K
  have yes : cheapB A l k i → ∀ i9 : Int32, i9 = nI (sm (cheapF A l k) i) + 1 → wp_X3_countCheaper_74 Q (wp_X3_countCheaper_13_loop Q v n) v (nI k) (nI l) (nI (costA A k l)) i9 (nI i) := fun hn => by
    rw [sm, cheapF_t hn] at K
    rintro _ rfl _ rfl
    rw [nI_1, nI_1]; exact K
  have fin : ∀ s0 : Int32, (s0 = 0 ↔ ¬ (costA A i l < costA A k l ∨ costA A i l = costA A k l ∧ i < k)) → wp_X3_countCheaper_54 Q (wp_X3_countCheaper_13_loop Q v n) v (nI k) (nI l) (nI (costA A k l)) (nI (sm (cheapF A l k) i)) (nI i) s0 := fun s0 hs => by
    have hb := hI.2.2.2.2.2.1 i l
    refine c_hasBar h hI hi hl ⟨fun c => no (fun z => c (by rw [z.1]; rfl)), fun c => ⟨fun c0 => no (fun z => hs.mp c0 z.2), fun c0 => yes ⟨?_, Classical.not_not.mp (fun z => c0 (hs.mpr z))⟩⟩⟩
    rw [← nI_0] at c
    exact (nI_eq (by omega) (by omega)).mp c
  refine ⟨fun c => fin 1 ⟨fun e => absurd e (by decide), fun z => absurd (Or.inl ((nI_ltI (by omega) (by omega)).mp c)) z⟩, fun c => ?_⟩
  have c' : ¬ costA A i l < costA A k l := fun z => c ((nI_ltI (by omega) (by omega)).mpr z)
  refine ⟨fun e => fin 0 ⟨fun _ z => ?_, fun _ => rfl⟩, fun e => ?_⟩
  · rcases z with z | z
    · exact c' z
    · exact e (by rw [z.1])
  · have e' := (nI_eq (by omega) (by omega)).mp e
    refine ⟨fun d => fin 0 ⟨fun _ z => ?_, fun _ => rfl⟩, fun d => fin 1 ⟨fun e => absurd e (by decide), fun z => absurd (Or.inr ⟨e', ?_⟩) z⟩⟩
    · have d' := (nI_leI (by omega) (by omega)).mp d
      rcases z with z | z
      · exact c' z
      · omega
    · have d' : ¬ k ≤ i := fun z => d ((nI_leI (by omega) (by omega)).mpr z)
      omega
/-- the first key for which P holds -/
theorem c_keyByCost (h : CR v A) (hI : Inv A) {l : Nat} (hl : l < aNl A) {x : Int32} (h1 : ∀ k, k < aNk A → (∀ j, j < k → ¬ (aBr A j l = 0 ∧ nI (sCh A l j) = x)) → (aBr A k l = 0 ∧ nI (sCh A l k) = x) → Q (nI k)) (h0 : (∀ j, j < aNk A → ¬ (aBr A j l = 0 ∧ nI (sCh A l j) = x)) → Q (-1)) : wp_X3_keyByCost Q (nI l) x v := by
  refine fndloop2 (fun n a => wp_X3_keyByCost_2_loop Q v n (nI l) x a) (N := aNk A) (fun k => aBr A k l = 0 ∧ nI (sCh A l k) = x) (fun hn n => br_t (keysEnd h hI) (h0 hn)) (fun n i hi hj K => br_f (keysOn h hI hi) ?_)
  have hb := hI.2.2.2.2.2.1 i l
  have no : ¬ (aBr A i l = 0 ∧ nI (sCh A l i) = x) → wp_X3_keyByCost_31 Q (wp_X3_keyByCost_2_loop Q v n) v (nI l) x (nI i) := fun hn => by
    rintro _ rfl
    rw [nI_1]; exact K hn
  refine c_hasBar h hI hi hl ⟨fun c => no (fun z => c (by rw [z.1]; rfl)), fun c => c_countCheaper h hI hi hl ⟨fun d => no (fun z => d z.2), fun d => h1 i hi hj ⟨?_, d⟩⟩⟩
  rw [← nI_0] at c
  exact (nI_eq (by omega) (by omega)).mp c
theorem c_isRankedBefore (h : CR v A) (hI : Inv A) {o k : Nat} (ho : o < aNk A) (hk : k < aNk A) (h1 : rankB A k o → Q 1) (h0 : ¬ rankB A k o → Q 0) : wp_X3_isRankedBefore Q (nI o) (nI k) v := by
  have f1 := sFor_lt hI (k := o); have f2 := sFor_lt hI (k := k); have n10 := hI.1
  have p1 := pop_le (aWd A o); have p2 := pop_le (aWd A k); have w1 := (hI.2.2.2.1 o ho).1; have w2 := (hI.2.2.2.1 k hk).1
  refine c_countLocksFor h hI ho (c_countLocksFor h hI hk ⟨fun c => c_wardsOf h hI ho (c_bitCountN (by omega) (c_wardsOf h hI hk (c_bitCountN (by omega) ?_))), fun c => ?_⟩)
  · have c' := (nI_eq (by omega) (by omega)).mp c
    refine ⟨fun d => ?_, fun d => ?_⟩
    · have d' := (nI_eq (by omega) (by omega)).mp d
      refine ⟨fun e => ⟨rfl, h0 fun z => ?_⟩, fun e => ⟨rfl, h1 (Or.inr ⟨c', Or.inr ⟨d', ?_⟩⟩)⟩⟩
      · have e' := (nI_leI (by omega) (by omega)).mp e
        unfold rankB at z; omega
      · have e' : ¬ k ≤ o := fun z => e ((nI_leI (by omega) (by omega)).mpr z)
        omega
    · have d' : ¬ pop (aWd A o) = pop (aWd A k) := fun z => d (by rw [z])
      refine ⟨fun e => ⟨rfl, h0 fun z => ?_⟩, fun e => ⟨rfl, h1 (Or.inr ⟨c', Or.inl ?_⟩)⟩⟩
      · have e' := (nI_leI (by omega) (by omega)).mp e
        unfold rankB at z; omega
      · have e' : ¬ pop (aWd A o) ≤ pop (aWd A k) := fun z => e ((nI_leI (by omega) (by omega)).mpr z)
        omega
  · have c' : ¬ sFor A o = sFor A k := fun z => c (by rw [z])
    refine ⟨fun e => ⟨rfl, h0 fun z => ?_⟩, fun e => ⟨rfl, h1 (Or.inl ?_)⟩⟩
    · have e' := (nI_leI (by omega) (by omega)).mp e
      unfold rankB at z; omega
    · have e' : ¬ sFor A k ≤ sFor A o := fun z => e ((nI_leI (by omega) (by omega)).mpr z)
      omega
theorem c_countRankedBefore (h : CR v A) (hI : Inv A) {k : Nat} (hk : k < aNk A) (hq : Q (nI (sRk A k))) : wp_X3_countRankedBefore Q (nI k) v := by
  refine cntloop (fun n a b => wp_X3_countRankedBefore_4_loop Q v n (nI k) a b) (N := aNk A) (rankF A k) (fun n => br_t (keysEnd h hI) hq) (fun n i hi K => br_f (keysOn h hI hi) (c_isRankedBefore h hI hi hk (fun z => ⟨fun c => absurd c (by decide), fun _ => ?_⟩) (fun z => ⟨fun _ => ?_, fun c => absurd rfl c⟩)))
  · rw [sm, rankF_t z] at K
    rintro _ rfl _ rfl
    rw [nI_1, nI_1]; exact K
  · rw [sm, rankF_f z, Nat.add_zero] at K
    rintro _ rfl
    rw [nI_1]; exact K
theorem c_keyByRank (h : CR v A) (hI : Inv A) {x : Int32} (h1 : ∀ k, k < aNk A → (∀ j, j < k → ¬ nI (sRk A j) = x) → nI (sRk A k) = x → Q (nI k)) (h0 : (∀ j, j < aNk A → ¬ nI (sRk A j) = x) → Q (-1)) : wp_X3_keyByRank Q x v := by
  refine fndloop2 (fun n a => wp_X3_keyByRank_2_loop Q v n x a) (N := aNk A) (fun k => nI (sRk A k) = x) (fun hn n => br_t (keysEnd h hI) (h0 hn)) (fun n i hi hj K => br_f (keysOn h hI hi) (c_countRankedBefore h hI hi ⟨fun c => ?_, fun c => h1 i hi hj c⟩))
  rintro _ rfl
  rw [nI_1]; exact K c
end CLS3
-- changes
theorem bm_aS {A : AL} {i j n k : Nat} (hi : i < 8) : bm (aS A i j n) k = bm A k := sm_congr fun l _ => by
  have : ¬ (8 + k = i ∧ l = j) := by omega
  simp [aBr, aS, this]
theorem CR_s0 {v : OV} {A : AL} (h : CR v A) (k n : Nat) : CR (sA v 0 k (nI n)) (aS A 1 k n) := by
  obtain ⟨h0, h1, h2, h3, h4, h5, hk, hl⟩ := h
  refine ⟨h0, h1, h2, h3, h4, h5, fun j hj => ?_, fun j hj => ?_⟩
  · obtain ⟨e0, e1, e2, e3, e4⟩ := hk j hj
    rw [bm_aS (by omega)]
    by_cases c : j = k
    · subst c; simp [sA, upd, aS, e0, e1, e2, e3, e4]
    · simp [sA, upd, aS, c, e0, e1, e2, e3, e4]
  · obtain ⟨e0, e1, e2⟩ := hl j hj
    simp [sA, aS, e0, e1, e2]
theorem CR_s1 {v : OV} {A : AL} (h : CR v A) (k n : Nat) : CR (sA v 1 k (nI n)) (aS A 2 k n) := by
  obtain ⟨h0, h1, h2, h3, h4, h5, hk, hl⟩ := h
  refine ⟨h0, h1, h2, h3, h4, h5, fun j hj => ?_, fun j hj => ?_⟩
  · obtain ⟨e0, e1, e2, e3, e4⟩ := hk j hj
    rw [bm_aS (by omega)]
    by_cases c : j = k
    · subst c; simp [sA, upd, aS, e0, e1, e2, e3, e4]
    · simp [sA, upd, aS, c, e0, e1, e2, e3, e4]
  · obtain ⟨e0, e1, e2⟩ := hl j hj
    simp [sA, aS, e0, e1, e2]
theorem CR_s3 {v : OV} {A : AL} (h : CR v A) (k n : Nat) : CR (sA v 3 k (nI n)) (aS A 4 k n) := by
  obtain ⟨h0, h1, h2, h3, h4, h5, hk, hl⟩ := h
  refine ⟨h0, h1, h2, h3, h4, h5, fun j hj => ?_, fun j hj => ?_⟩
  · obtain ⟨e0, e1, e2, e3, e4⟩ := hk j hj
    rw [bm_aS (by omega)]
    by_cases c : j = k
    · subst c; simp [sA, upd, aS, e0, e1, e2, e3, e4]
    · simp [sA, upd, aS, c, e0, e1, e2, e3, e4]
  · obtain ⟨e0, e1, e2⟩ := hl j hj
    simp [sA, aS, e0, e1, e2]
theorem CR_s4 {v : OV} {A : AL} (h : CR v A) (k n : Nat) : CR (sA v 4 k (nI n - 1)) (aS A 3 k n) := by
  obtain ⟨h0, h1, h2, h3, h4, h5, hk, hl⟩ := h
  refine ⟨h0, h1, h2, h3, h4, h5, fun j hj => ?_, fun j hj => ?_⟩
  · obtain ⟨e0, e1, e2, e3, e4⟩ := hk j hj
    rw [bm_aS (by omega)]
    by_cases c : j = k
    · subst c; simp [sA, upd, aS, e0, e1, e2, e3, e4]
    · simp [sA, upd, aS, c, e0, e1, e2, e3, e4]
  · obtain ⟨e0, e1, e2⟩ := hl j hj
    simp [sA, aS, e0, e1, e2]
theorem CR_s5 {v : OV} {A : AL} (h : CR v A) (l n : Nat) : CR (sA v 5 l (nI n)) (aS A 5 l n) := by
  obtain ⟨h0, h1, h2, h3, h4, h5, hk, hl⟩ := h
  refine ⟨h0, h1, h2, h3, h4, h5, fun j hj => ?_, fun j hj => ?_⟩
  · obtain ⟨e0, e1, e2, e3, e4⟩ := hk j hj
    rw [bm_aS (by omega)]
    simp [sA, aS, e0, e1, e2, e3, e4]
  · obtain ⟨e0, e1, e2⟩ := hl j hj
    by_cases c : j = l
    · subst c; simp [sA, upd, aS, e0, e1, e2]
    · simp [sA, upd, aS, c, e0, e1, e2]
theorem CR_s6 {v : OV} {A : AL} (h : CR v A) (l n : Nat) : CR (sA v 6 l (nI n - 1)) (aS A 6 l n) := by
  obtain ⟨h0, h1, h2, h3, h4, h5, hk, hl⟩ := h
  refine ⟨h0, h1, h2, h3, h4, h5, fun j hj => ?_, fun j hj => ?_⟩
  · obtain ⟨e0, e1, e2, e3, e4⟩ := hk j hj
    rw [bm_aS (by omega)]
    simp [sA, aS, e0, e1, e2, e3, e4]
  · obtain ⟨e0, e1, e2⟩ := hl j hj
    by_cases c : j = l
    · subst c; simp [sA, upd, aS, e0, e1, e2]
    · simp [sA, upd, aS, c, e0, e1, e2]
theorem CR_s7 {v : OV} {A : AL} (h : CR v A) (l n : Nat) : CR (sA v 7 l (nI n)) (aS A 7 l n) := by
  obtain ⟨h0, h1, h2, h3, h4, h5, hk, hl⟩ := h
  refine ⟨h0, h1, h2, h3, h4, h5, fun j hj => ?_, fun j hj => ?_⟩
  · obtain ⟨e0, e1, e2, e3, e4⟩ := hk j hj
    rw [bm_aS (by omega)]
    simp [sA, aS, e0, e1, e2, e3, e4]
  · obtain ⟨e0, e1, e2⟩ := hl j hj
    by_cases c : j = l
    · subst c; simp [sA, upd, aS, e0, e1, e2]
    · simp [sA, upd, aS, c, e0, e1, e2]
theorem CR_i10 {v : OV} {A : AL} (h : CR v A) (n : Nat) : CR (sI v 10 (nI n)) (aS A 0 2 n) := by
  obtain ⟨h0, h1, h2, h3, h4, h5, hk, hl⟩ := h
  refine ⟨?_, ?_, ?_, ?_, ?_, ?_, fun j hj => ?_, fun j hj => ?_⟩
  iterate 6 (simp [sI, upd, aS, h0, h1, h2, h3, h4, h5])
  · have := hk j hj
    rw [bm_aS (by omega)]
    simpa [sI, aS] using this
  · simpa [sI, aS] using hl j hj
theorem CR_i11 {v : OV} {A : AL} (h : CR v A) (n : Nat) : CR (sI v 11 (nI n)) (aS A 0 3 n) := by
  obtain ⟨h0, h1, h2, h3, h4, h5, hk, hl⟩ := h
  refine ⟨?_, ?_, ?_, ?_, ?_, ?_, fun j hj => ?_, fun j hj => ?_⟩
  iterate 6 (simp [sI, upd, aS, h0, h1, h2, h3, h4, h5])
  · have := hk j hj
    rw [bm_aS (by omega)]
    simpa [sI, aS] using this
  · simpa [sI, aS] using hl j hj
theorem CR_i12 {v : OV} {A : AL} (h : CR v A) (n : Nat) : CR (sI v 12 (nI n)) (aS A 0 4 n) := by
  obtain ⟨h0, h1, h2, h3, h4, h5, hk, hl⟩ := h
  refine ⟨?_, ?_, ?_, ?_, ?_, ?_, fun j hj => ?_, fun j hj => ?_⟩
  iterate 6 (simp [sI, upd, aS, h0, h1, h2, h3, h4, h5])
  · have := hk j hj
    rw [bm_aS (by omega)]
    simpa [sI, aS] using this
  · simpa [sI, aS] using hl j hj
theorem CR_i13 {v : OV} {A : AL} (h : CR v A) (n : Nat) : CR (sI v 13 (nI n)) (aS A 0 5 n) := by
  obtain ⟨h0, h1, h2, h3, h4, h5, hk, hl⟩ := h
  refine ⟨?_, ?_, ?_, ?_, ?_, ?_, fun j hj => ?_, fun j hj => ?_⟩
  iterate 6 (simp [sI, upd, aS, h0, h1, h2, h3, h4, h5])
  · have := hk j hj
    rw [bm_aS (by omega)]
    simpa [sI, aS] using this
  · simpa [sI, aS] using hl j hj
def aPut (A : AL) (k l : Nat) : AL := aS (aS (aS A 3 k (l + 1)) 6 l (k + 1)) 7 l (aTm A l + 1)
def aLet (A : AL) (k l : Nat) : AL := aS (aS A 3 k 0) 6 l 0
theorem c_place {v : OV} {A : AL} {Q : OV → Prop} (h : CR v A) (hI : Inv A) {k l : Nat} (hk : k < aNk A) (hl : l < aNl A) (hq : ∀ v', CR v' (aPut A k l) → Q v') : wp_X3_place Q (nI k) (nI l) v := by
  have n1 := hI.1; have n2 := hI.2.1
  refine c_hasKey_t h hI hk (br_c (fun c => absurd c (by decide)) (fun _ => c_hasLock_t h hI hl (br_c (fun c => absurd c (by decide)) (fun _ => ⟨vp_in_nI (by omega) (by omega), ?_⟩))))
  rintro _ rfl
  refine ⟨vp_in_nI (by omega) (by omega), ?_⟩
  rintro _ rfl
  refine ⟨vp_in_nI (by omega) (by omega), vp_in_nI (by omega) (by omega), ?_⟩
  rintro _ rfl
  rw [nI_clamp (show k < 2 ^ 31 by omega), nI_clamp (show l < 2 ^ 31 by omega)]
  refine hq _ ?_
  have e1 : nI l = nI (l + 1) - 1 := (nI_pred l).symm
  have e2 : nI k = nI (k + 1) - 1 := (nI_pred k).symm
  have h1 : CR (sA (sA v 4 k (nI l)) 6 l (nI k)) (aS (aS A 3 k (l + 1)) 6 l (k + 1)) := by
    rw [e1, e2]; exact CR_s6 (CR_s4 h k (l + 1)) l (k + 1)
  have e3 : (sA (sA v 4 k (nI l)) 6 l (nI k)).1 7 l + 1 = nI (aTm A l + 1) := by
    have := (h.2.2.2.2.2.2.2 l hl).2.2
    simp [sA, this, nI_1]
  rw [e3]
  exact CR_s7 h1 l (aTm A l + 1)
theorem c_refuse {v : OV} {Q : Int32 → OV → Prop} {r d : Int32} (hq : Q (-1) (sI (sI v 0 r) 1 d)) : wp_X5_refuse Q r d v := by
  rintro _ rfl _ rfl
  exact hq
