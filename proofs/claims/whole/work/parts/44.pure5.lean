/-- what a change comes to: refused, for a reason and with a detail, or an answer and what there is then -/
abbrev OR : Type := (Int32 × Int32) ⊕ (Int32 × AL)
abbrev isS (x : Int32) : Prop := 0 ≤ x ∧ x ≤ 63
abbrev isP (x : Int32) : Prop := 0 ≤ x ∧ x < 4
abbrev isK (A : AL) (x : Int32) : Prop := 0 ≤ x ∧ x < nI (aNk A)
abbrev isL (A : AL) (x : Int32) : Prop := 0 ≤ x ∧ x < nI (aNl A)
theorem isS_nI {x : Int32} (h : isS x) : ∃ w : Nat, w < 64 ∧ x = nI w ∧ x.toNatClampNeg = w := by
  obtain ⟨j, hj, e⟩ := nI_of2 (x := x) (M := 63) (n := 63) (by decide) (Int32.not_lt.mpr h.1) h.2
  exact ⟨j, by omega, e, by rw [e]; exact nI_clamp (by omega)⟩
theorem isP_nI {x : Int32} (h : isP x) : ∃ w : Nat, w < 4 ∧ x = nI w ∧ x.toNatClampNeg = w := by
  rcases pk_ix x (n := 4) (by omega) with c | c | ⟨j, hj, e⟩
  · exact absurd c (Int32.not_lt.mpr h.1)
  · exact absurd h.2 (Int32.not_lt.mpr c)
  · exact ⟨j, hj, e, by rw [e]; exact nI_clamp (by omega)⟩
theorem isR_nI {x : Int32} {n : Nat} (hn : n ≤ 10) (h : 0 ≤ x ∧ x < nI n) : ∃ w : Nat, w < n ∧ x = nI w ∧ x.toNatClampNeg = w := by
  rcases pk_ix x (n := n) (by omega) with c | c | ⟨j, hj, e⟩
  · exact absurd c (Int32.not_lt.mpr h.1)
  · exact absurd h.2 (Int32.not_lt.mpr c)
  · exact ⟨j, hj, e, by rw [e]; exact nI_clamp (by omega)⟩
theorem isR_of {x : Int32} {n : Nat} (hn : n ≤ 10) (h : ¬ (0 ≤ x ∧ x < nI n)) : ¬ ∃ k, k < n ∧ x = nI k := by
  rintro ⟨k, hk, rfl⟩
  exact h ⟨nI_pos' (by omega), nI_lt hk (by omega)⟩
def aAddKey (A : AL) (w p : Nat) : AL := aS (aS (aS (aS (aS A 1 (aNk A) w) 2 (aNk A) p) 3 (aNk A) 0) 4 (aNk A) 0) 0 0 (aNk A + 1)
def aAddLock (A : AL) (p : Nat) : AL := aS (aS (aS (aS A 5 (aNl A) p) 6 (aNl A) 0) 7 (aNl A) 0) 0 1 (aNl A + 1)
def oKey (A : AL) (x y : Int32) : OR := if isS x ∧ isP y then (if aNk A = 10 then .inl (2, 10) else .inr (nI (aNk A), aAddKey A x.toNatClampNeg y.toNatClampNeg)) else .inl (1, 0)
def oLock (A : AL) (x : Int32) : OR := if isS x then (if aNl A = 10 then .inl (2, 10) else .inr (nI (aNl A), aAddLock A x.toNatClampNeg)) else .inl (1, 0)
def aCut (A : AL) (k w : Nat) : AL := aDrop (aS (aS A 1 k w) 4 k (aCo A k + pop (aWd A k ^^^ w)))
def oCut (A : AL) (x y : Int32) : OR := if isK A x then (if isS y then (if aWd A x.toNatClampNeg = y.toNatClampNeg then .inl (5, 0) else .inr (nI (pop (aWd A x.toNatClampNeg ^^^ y.toNatClampNeg)), aCut A x.toNatClampNeg y.toNatClampNeg)) else .inl (1, 0)) else .inl (3, x)
def aBar (A : AL) (k l b : Nat) : AL := aDrop (aS A (8 + k) l b)
def oBar (A : AL) (x y : Int32) (b : Nat) : OR := if isK A x then (if isL A y then (if aBr A x.toNatClampNeg y.toNatClampNeg = b then .inl (5, 0) else .inr (nI (sBars (aBar A x.toNatClampNeg y.toNatClampNeg b)), aBar A x.toNatClampNeg y.toNatClampNeg b)) else .inl (4, y)) else .inl (3, x)
def oSlack (A : AL) (x : Int32) : OR := if 0 ≤ x ∧ x ≤ 6 then (if aSl A = x.toNatClampNeg then .inl (5, 0) else .inr (nI (drN (aS A 0 2 x.toNatClampNeg) (aNk A)), aDrop (aS A 0 2 x.toNatClampNeg))) else .inl (1, 0)
def oPut (A : AL) (x y : Int32) : OR := if isK A x then (if isL A y then (if aIk A x.toNatClampNeg = 0 then (if aHk A y.toNatClampNeg = 0 then (if fit A x.toNatClampNeg y.toNatClampNeg then .inr (nI (sOpen (aPut A x.toNatClampNeg y.toNatClampNeg)), aPut A x.toNatClampNeg y.toNatClampNeg) else .inl (6, nI (pop (lk (aPn A y.toNatClampNeg) (aWd A x.toNatClampNeg))))) else .inl (7, nI (aHk A y.toNatClampNeg) - 1)) else .inl (8, nI (aIk A x.toNatClampNeg) - 1)) else .inl (4, y)) else .inl (3, x)
def oTake (A : AL) (x : Int32) : OR := if isK A x then (if aIk A x.toNatClampNeg = 0 then .inl (9, x) else .inr (nI (aIk A x.toNatClampNeg) - 1, aLet A x.toNatClampNeg (aIk A x.toNatClampNeg - 1))) else .inl (3, x)
theorem c_isSet {Q : Int32 → Prop} {x : Int32} (h1 : isS x → Q 1) (h0 : ¬ isS x → Q 0) : wp_X7_isSet Q x :=
  br_c (fun c => ⟨rfl, h0 fun z => absurd c (Int32.not_lt.mpr z.1)⟩) (fun c => br_c (fun c2 => ⟨rfl, h0 fun z => absurd c2 (Int32.not_lt.mpr z.2)⟩) (fun c2 => ⟨rfl, h1 ⟨Int32.not_lt.mp c, Int32.not_lt.mp c2⟩⟩))
theorem c_isPorter {Q : Int32 → Prop} {x : Int32} (h1 : isP x → Q 1) (h0 : ¬ isP x → Q 0) : wp_X7_isPorter Q x :=
  br_c (fun c => ⟨rfl, h0 fun z => absurd c (Int32.not_lt.mpr z.1)⟩) (fun c => br_c (fun c2 => ⟨rfl, h0 fun z => absurd z.2 (Int32.not_lt.mpr c2)⟩) (fun c2 => ⟨rfl, h1 ⟨Int32.not_lt.mp c, Int32.not_le.mp c2⟩⟩))
theorem c_hasKey {v : OV} {A : AL} {Q : Int32 → Prop} (h : CR v A) (hI : Inv A) {x : Int32} (h1 : ∀ k, k < aNk A → x = nI k → x.toNatClampNeg = k → isK A x → Q 1) (h0 : ¬ isK A x → Q 0) : wp_X3_hasKey Q x v := by
  by_cases c : isK A x
  · obtain ⟨k, hk, e, e2⟩ := isR_nI hI.1 c
    have := h1 k hk e e2 c
    rw [e]
    exact c_hasKey_t h hI hk this
  · exact c_hasKey_f h hI (isR_of hI.1 c) (h0 c)
theorem c_hasLock {v : OV} {A : AL} {Q : Int32 → Prop} (h : CR v A) (hI : Inv A) {x : Int32} (h1 : ∀ k, k < aNl A → x = nI k → x.toNatClampNeg = k → isL A x → Q 1) (h0 : ¬ isL A x → Q 0) : wp_X3_hasLock Q x v := by
  by_cases c : isL A x
  · obtain ⟨k, hk, e, e2⟩ := isR_nI hI.2.1 c
    have := h1 k hk e e2 c
    rw [e]
    exact c_hasLock_t h hI hk this
  · exact c_hasLock_f h hI (isR_of hI.2.1 c) (h0 c)
section OPS
variable {v vR : OV} {A : AL} {Q : Int32 → OV → OV → Prop} {x y : Int32}
theorem bm_0 (hI : Inv A) {k : Nat} (hk : aNk A ≤ k) : bm A k = 0 := by
  have : bm A k = sm (fun _ => 0) 10 := sm_congr fun l _ => by rw [hI.2.2.2.2.2.2 k l (by omega), Nat.zero_mul]
  rw [this, sm_const, Nat.mul_zero]
theorem CR_addKey (h : CR v A) (hI : Inv A) (w p : Nat) : CR (sI (sA (sA (sA (sA (sA v 0 (aNk A) (nI w)) 1 (aNk A) (nI p)) 2 (aNk A) 0) 3 (aNk A) 0) 4 (aNk A) (-1)) 8 (nI (aNk A + 1))) (aAddKey A w p) := by
  obtain ⟨h0, h1, h2, h3, h4, h5, hk, hl⟩ := h
  refine ⟨by simp [sI, upd, aAddKey, aS], ?_, ?_, ?_, ?_, ?_, fun j hj => ?_, fun j hj => ?_⟩
  iterate 5 (simp [sI, sA, upd, aAddKey, aS, h0, h1, h2, h3, h4, h5])
  · have e : bm (aAddKey A w p) j = bm A j := by
      unfold aAddKey
      rw [bm_aS (by omega), bm_aS (by omega), bm_aS (by omega), bm_aS (by omega), bm_aS (by omega)]
    have hj' : j < aNk A + 1 := by simpa [aAddKey, aS] using hj
    rw [e]
    by_cases c : j = aNk A
    · subst c
      rw [bm_0 hI (Nat.le_refl _)]
      refine ⟨?_, ?_, ?_, ?_, ?_⟩
      iterate 5 (simp [sI, sA, upd, aAddKey, aS, nI_0])
    · obtain ⟨e0, e1, e2, e3, e4⟩ := hk j (by omega)
      refine ⟨?_, ?_, ?_, ?_, ?_⟩
      iterate 5 (simp [sI, sA, upd, aAddKey, aS, c, e0, e1, e2, e3, e4])
  · have hj' : j < aNl A := by simpa [aAddKey, aS] using hj
    obtain ⟨e0, e1, e2⟩ := hl j hj'
    refine ⟨?_, ?_, ?_⟩
    iterate 3 (simp [sI, sA, aAddKey, aS, e0, e1, e2])
theorem CR_addLock (h : CR v A) (hI : Inv A) (p : Nat) : CR (sI (sA (sA (sA v 5 (aNl A) (nI p)) 6 (aNl A) (-1)) 7 (aNl A) 0) 9 (nI (aNl A + 1))) (aAddLock A p) := by
  obtain ⟨h0, h1, h2, h3, h4, h5, hk, hl⟩ := h
  refine ⟨?_, by simp [sI, upd, aAddLock, aS], ?_, ?_, ?_, ?_, fun j hj => ?_, fun j hj => ?_⟩
  iterate 5 (simp [sI, sA, upd, aAddLock, aS, h0, h1, h2, h3, h4, h5])
  · have e : bm (aAddLock A p) j = bm A j := by
      unfold aAddLock
      rw [bm_aS (by omega), bm_aS (by omega), bm_aS (by omega), bm_aS (by omega)]
    have hj' : j < aNk A := by simpa [aAddLock, aS] using hj
    rw [e]
    obtain ⟨e0, e1, e2, e3, e4⟩ := hk j hj'
    refine ⟨?_, ?_, ?_, ?_, ?_⟩
    iterate 5 (simp [sI, sA, aAddLock, aS, e0, e1, e2, e3, e4])
  · have hj' : j < aNl A + 1 := by simpa [aAddLock, aS] using hj
    by_cases c : j = aNl A
    · subst c
      refine ⟨?_, ?_, ?_⟩
      iterate 3 (simp [sI, sA, upd, aAddLock, aS, nI_0])
    · obtain ⟨e0, e1, e2⟩ := hl j (by omega)
      refine ⟨?_, ?_, ?_⟩
      iterate 3 (simp [sI, sA, upd, aAddLock, aS, c, e0, e1, e2])
theorem c_addKey (h : CR v A) (hI : Inv A) (hr : ∀ r d, oKey A x y = .inl (r, d) → Q (-1) v (sI (sI vR 0 r) 1 d)) (hk : ∀ n B, oKey A x y = .inr (n, B) → ∀ v', CR v' B → Q n v' vR) : wp_X3_addKey Q x y v vR := by
  have n1 := hI.1
  have bad : ¬ (isS x ∧ isP y) → wp_X3_addKey_14 Q v vR := fun c => c_refuse (hr _ _ (by rw [oKey, if_neg c]))
  refine c_isSet (fun cs => ⟨fun z => absurd z (by decide), fun _ => c_isPorter (fun cp => ⟨fun _ => ?_, fun z => absurd z (by decide)⟩) (fun cp => ⟨fun z => absurd rfl z, fun _ => bad fun z => cp z.2⟩)⟩) (fun cs => ⟨fun _ => bad fun z => cs z.1, fun z => absurd rfl z⟩)
  obtain ⟨w, hw, ex, ex2⟩ := isS_nI cs
  obtain ⟨p, hp, ey, ey2⟩ := isP_nI cp
  rw [h.1]
  refine br_f (nI_pos (by omega)) ?_
  by_cases c : aNk A = 10
  · refine ⟨fun z => absurd z (by rw [c]; decide), fun _ => c_refuse (hr _ _ (by rw [oKey, if_pos ⟨cs, cp⟩, if_pos c]))⟩
  · refine ⟨fun _ => ?_, fun z => absurd (by rw [ten]; exact nI_lt (by omega) (by omega)) z⟩
    rintro _ rfl
    refine ⟨vp_in_nI (by omega) (by omega), ?_⟩
    rintro _ rfl
    refine ⟨vp_in_nI (by omega) (by omega), ?_⟩
    rintro _ rfl
    refine ⟨vp_in_nI (by omega) (by omega), ?_⟩
    rintro _ rfl
    refine ⟨vp_in_nI (by omega) (by omega), ?_⟩
    rintro _ rfl
    refine ⟨vp_in_nI (by omega) (by omega), ?_⟩
    rintro _ rfl
    rintro _ rfl
    refine hk (nI (aNk A)) (aAddKey A w p) (by rw [oKey, if_pos ⟨cs, cp⟩, if_neg c, ex2, ey2]) _ ?_
    rw [nI_clamp (show aNk A < 2 ^ 31 by omega), ex, ey]
    have e8 : (sA (sA (sA (sA (sA v 0 (aNk A) (nI w)) 1 (aNk A) (nI p)) 2 (aNk A) 0) 3 (aNk A) 0) 4 (aNk A) (-1)).2 8 + 1 = nI (aNk A + 1) := by
      show v.2 8 + 1 = _
      rw [h.1, nI_1]
    rw [e8]
    exact CR_addKey h hI w p
theorem c_addLock (h : CR v A) (hI : Inv A) (hr : ∀ r d, oLock A x = .inl (r, d) → Q (-1) v (sI (sI vR 0 r) 1 d)) (hk : ∀ n B, oLock A x = .inr (n, B) → ∀ v', CR v' B → Q n v' vR) : wp_X3_addLock Q x v vR := by
  have n1 := hI.2.1
  refine c_isSet (fun cs => ⟨fun _ => ?_, fun z => absurd z (by decide)⟩) (fun cs => ⟨fun z => absurd rfl z, fun _ => c_refuse (hr _ _ (by rw [oLock, if_neg cs]))⟩)
  obtain ⟨w, hw, ex, ex2⟩ := isS_nI cs
  rw [h.2.1]
  refine br_f (nI_pos (by omega)) ?_
  by_cases c : aNl A = 10
  · refine ⟨fun z => absurd z (by rw [c]; decide), fun _ => c_refuse (hr _ _ (by rw [oLock, if_pos cs, if_pos c]))⟩
  · refine ⟨fun _ => ?_, fun z => absurd (by rw [ten]; exact nI_lt (by omega) (by omega)) z⟩
    rintro _ rfl
    refine ⟨vp_in_nI (by omega) (by omega), ?_⟩
    rintro _ rfl
    refine ⟨vp_in_nI (by omega) (by omega), ?_⟩
    rintro _ rfl
    refine ⟨vp_in_nI (by omega) (by omega), ?_⟩
    rintro _ rfl
    rintro _ rfl
    refine hk (nI (aNl A)) (aAddLock A w) (by rw [oLock, if_pos cs, if_neg c, ex2]) _ ?_
    rw [nI_clamp (show aNl A < 2 ^ 31 by omega), ex]
    have e8 : (sA (sA (sA v 5 (aNl A) (nI w)) 6 (aNl A) (-1)) 7 (aNl A) 0).2 9 + 1 = nI (aNl A + 1) := by
      show v.2 9 + 1 = _
      rw [h.2.1, nI_1]
    rw [e8]
    exact CR_addLock h hI w
theorem c_takeOut (h : CR v A) (hI : Inv A) (hr : ∀ r d, oTake A x = .inl (r, d) → Q (-1) v (sI (sI vR 0 r) 1 d)) (hk : ∀ n B, oTake A x = .inr (n, B) → ∀ v', CR v' B → Q n v' vR) : wp_X3_takeOut Q x v vR := by
  have n1 := hI.1; have n2 := hI.2.1
  refine c_hasKey h hI (fun k hkk e e2 ck => ⟨fun _ => ?_, fun z => absurd z (by decide)⟩) (fun c => ⟨fun z => absurd rfl z, fun _ => c_refuse (hr _ _ (by rw [oTake, if_neg c]))⟩)
  have ek := (h.2.2.2.2.2.2.1 k hkk).2.2.2.2
  rw [e2]
  refine ⟨by rw [e]; exact vp_in_nI (by omega) (by omega), ?_⟩
  rintro _ rfl
  rw [ek]
  by_cases c : aIk A k = 0
  · rw [c]
    refine c_hasLock_f h hI ?_ ⟨fun z => absurd rfl z, fun _ => c_refuse (hr _ _ (by rw [oTake, if_pos ck, e2, if_pos c]))⟩
    rintro ⟨l, hl, e⟩
    exact absurd (show nI l < 0 by rw [← e]; decide) (nI_pos (by omega))
  · obtain ⟨l, hl⟩ : ∃ l, aIk A k = l + 1 := ⟨aIk A k - 1, by omega⟩
    have hll : l < aNl A := by have := (hI.2.2.2.1 k hkk).2.2.1; omega
    rw [hl, nI_pred]
    refine c_hasLock_t h hI hll ⟨fun _ => ?_, fun z => absurd z (by decide)⟩
    refine ⟨by rw [e]; exact vp_in_nI (by omega) (by omega), ?_⟩
    rintro _ rfl
    refine ⟨vp_in_nI (by omega) (by omega), ?_⟩
    rintro _ rfl
    rw [nI_clamp (show l < 2 ^ 31 by omega)]
    exact hk _ (aLet A k l) (by rw [oTake, if_pos ck, e2, if_neg c, hl, nI_pred, Nat.add_sub_cancel]) _ (CR_s6 (CR_s4 h k 0) l 0)
theorem c_putIn (h : CR v A) (hI : Inv A) (hIp : ∀ k l, k < aNk A → l < aNl A → aIk A k = 0 → aHk A l = 0 → Inv (aPut A k l)) (hr : ∀ r d, oPut A x y = .inl (r, d) → Q (-1) v (sI (sI vR 0 r) 1 d)) (hk : ∀ n B, oPut A x y = .inr (n, B) → ∀ v', CR v' B → Q n v' vR) : wp_X3_putIn Q x y v vR := by
  have n1 := hI.1; have n2 := hI.2.1
  refine c_hasKey h hI (fun k hkk e e2 ck => ⟨fun _ => ?_, fun z => absurd z (by decide)⟩) (fun c => ⟨fun z => absurd rfl z, fun _ => c_refuse (hr _ _ (by rw [oPut, if_neg c]))⟩)
  refine c_hasLock h hI (fun l hll f f2 cl => ⟨fun _ => ?_, fun z => absurd z (by decide)⟩) (fun c => ⟨fun z => absurd rfl z, fun _ => c_refuse (hr _ _ (by rw [oPut, if_pos ck, if_neg c]))⟩)
  have ek := (h.2.2.2.2.2.2.1 k hkk).2.2.2.2
  have el := (h.2.2.2.2.2.2.2 l hll).2.1
  have ix : vp_in x 10 := by rw [e]; exact vp_in_nI (by omega) (by omega)
  have iy : vp_in y 10 := by rw [f]; exact vp_in_nI (by omega) (by omega)
  rw [e2, f2, ek, el]
  refine ⟨ix, fun c => ⟨iy, fun c2 => ?_, fun c2 => ⟨iy, ?_⟩⟩, fun c => ⟨ix, ?_⟩⟩
  · have c' := (nI_m1 (ik_lt hI hkk)).1.mp c
    have c2' := (nI_m1 (hk_lt hI hll)).1.mp c2
    rw [e, f]
    refine c_isFit h hI hkk hll ⟨fun z => ?_, fun z => ?_⟩
    · have hf : fit A k l := Classical.not_not.mp fun y => z (b01_0.mpr y)
      refine c_place h hI hkk hll (fun v' hv => c_countOpen hv (hIp k l hkk hll c' c2') (hk _ _ ?_ v' hv))
      rw [oPut, if_pos ck, if_pos cl, e2, f2, if_pos c', if_pos c2', if_pos hf]
    · have hf : ¬ fit A k l := b01_0.mp z
      refine c_countMissing h hI hkk hll (c_refuse (hr _ _ ?_))
      rw [oPut, if_pos ck, if_pos cl, e2, f2, if_pos c', if_pos c2', if_neg hf]
  · have c' := (nI_m1 (ik_lt hI hkk)).1.mp c
    have c2' : ¬ aHk A l = 0 := fun z => c2 ((nI_m1 (hk_lt hI hll)).1.mpr z)
    exact c_refuse (hr _ _ (by rw [oPut, if_pos ck, if_pos cl, e2, f2, if_pos c', if_neg c2']))
  · have c' : ¬ aIk A k = 0 := fun z => c ((nI_m1 (ik_lt hI hkk)).1.mpr z)
    exact c_refuse (hr _ _ (by rw [oPut, if_pos ck, if_pos cl, e2, if_neg c']))
end OPS
