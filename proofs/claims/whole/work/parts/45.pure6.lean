theorem tb_x6 : ∀ a : Nat, a < 64 → ∀ b : Nat, b < 64 → (nI a ^^^ nI b) = nI (a ^^^ b) ∧ a ^^^ b < 64 := by decide +kernel
theorem sm_set {f : Nat → Nat} {l c : Nat} : ∀ n, l < n → sm (fun m => if m = l then c else f m) n + f l = sm f n + c := by
  intro n
  induction n with
  | zero => intro h; omega
  | succ n ih =>
    intro h
    rw [sm, sm]
    by_cases e : l = n
    · subst e
      rw [if_pos rfl, sm_congr (g := f) (fun i hi => if_neg (by omega))]
      omega
    · have := ih (by omega)
      rw [if_neg (show ¬ n = l by omega)]
      omega
theorem bm_set {A : AL} {k l b : Nat} (hl : l < 10) : bm (aS A (8 + k) l b) k + aBr A k l * 2 ^ l = bm A k + b * 2 ^ l := by
  have := sm_set (f := fun m => aBr A k m * 2 ^ m) (l := l) (c := b * 2 ^ l) 10 hl
  refine Eq.trans ?_ this
  unfold bm
  congr 1
  refine sm_congr fun m _ => ?_
  by_cases c : m = l
  · subst c; simp [aBr, aS]
  · simp [aBr, aS, c]
theorem bm_other {A : AL} {k j l b : Nat} (h : j ≠ k) : bm (aS A (8 + k) l b) j = bm A j := sm_congr fun m _ => by
  simp [aBr, aS, h]
theorem CR_s2 {v : OV} {A : AL} (h : CR v A) (k l b : Nat) : CR (sA v 2 k (nI (bm (aS A (8 + k) l b) k))) (aS A (8 + k) l b) := by
  obtain ⟨h0, h1, h2, h3, h4, h5, hk, hl⟩ := h
  have no : ∀ i j, i < 8 → aS A (8 + k) l b i j = A i j := fun i j hi => by
    have : ¬ (i = 8 + k ∧ j = l) := by omega
    simp [aS, this]
  refine ⟨by rw [aNk, no _ _ (by omega)]; exact h0, by rw [aNl, no _ _ (by omega)]; exact h1, by rw [aSl, no _ _ (by omega)]; exact h2, by rw [aWv, no _ _ (by omega)]; exact h3, by rw [aWs, no _ _ (by omega)]; exact h4, by rw [aFl, no _ _ (by omega)]; exact h5, fun j hj => ?_, fun j hj => ?_⟩
  · rw [aNk, no _ _ (by omega)] at hj
    obtain ⟨e0, e1, e2, e3, e4⟩ := hk j hj
    rw [aWd, aPo, aCo, aIk, no _ _ (by omega), no _ _ (by omega), no _ _ (by omega), no _ _ (by omega)]
    refine ⟨by simpa [sA] using e0, by simpa [sA] using e1, ?_, by simpa [sA] using e3, by simpa [sA] using e4⟩
    by_cases c : j = k
    · subst c; simp [sA, upd]
    · rw [bm_other c]; simp [sA, upd, c, e2]
  · rw [aNl, no _ _ (by omega)] at hj
    obtain ⟨e0, e1, e2⟩ := hl j hj
    rw [aPn, aHk, aTm, no _ _ (by omega), no _ _ (by omega), no _ _ (by omega)]
    exact ⟨by simpa [sA] using e0, by simpa [sA] using e1, by simpa [sA] using e2⟩
theorem Inv_wd {A : AL} (hI : Inv A) {k w c : Nat} (hw : w < 64) : Inv (aS (aS A 1 k w) 4 k c) := by
  obtain ⟨h1, h2, h3, h4, h5, h6, h7⟩ := hI
  have e : ∀ a b, aBr (aS (aS A 1 k w) 4 k c) a b = aBr A a b := fun a b => by
    have t1 : ¬ (8 + a = 1 ∧ b = k) := by omega
    have t2 : ¬ (8 + a = 4 ∧ b = k) := by omega
    simp [aBr, aS, t1, t2]
  refine ⟨by simpa [aS] using h1, by simpa [aS] using h2, by simpa [aS] using h3, fun j hj => ?_, by simpa [aS] using h5, fun a b => by rw [e]; exact h6 a b, fun a b hab => by rw [e]; exact h7 a b (by simpa [aS] using hab)⟩
  have hj' : j < aNk A := by simpa [aS] using hj
  obtain ⟨g1, g2, g3, g4⟩ := h4 j hj'
  refine ⟨?_, by simpa [aS] using g2, by simpa [aS] using g3, by simpa [aS] using g4⟩
  by_cases c : j = k
  · simp [aS, c]; exact hw
  · simp [aS, c]; exact g1
theorem Inv_br {A : AL} (hI : Inv A) {k l b : Nat} (hk : k < aNk A) (hl : l < aNl A) (hb : b ≤ 1) : Inv (aS A (8 + k) l b) := by
  obtain ⟨h1, h2, h3, h4, h5, h6, h7⟩ := hI
  have no : ∀ i j, i < 8 → aS A (8 + k) l b i j = A i j := fun i j hi => by
    have : ¬ (i = 8 + k ∧ j = l) := by omega
    simp [aS, this]
  have e1 : aNk (aS A (8 + k) l b) = aNk A := no _ _ (by omega)
  have e2 : aNl (aS A (8 + k) l b) = aNl A := no _ _ (by omega)
  refine ⟨by rw [e1]; exact h1, by rw [e2]; exact h2, by rw [aSl, no _ _ (by omega)]; exact h3, fun j hj => ?_, fun m hm => ?_, fun a c => ?_, fun a c hac => ?_⟩
  · rw [e1] at hj
    rw [aWd, aPo, aIk, e2, no _ _ (by omega), no _ _ (by omega), no _ _ (by omega)]
    obtain ⟨g1, g2, g3, g4⟩ := h4 j hj
    exact ⟨g1, g2, g3, fun m hm => by rw [aHk, no _ _ (by omega)]; exact g4 m hm⟩
  · rw [e2] at hm
    rw [aPn, aHk, e1, no _ _ (by omega), no _ _ (by omega)]
    obtain ⟨g1, g2, g3⟩ := h5 m hm
    exact ⟨g1, g2, fun j hj => by rw [aIk, no _ _ (by omega)]; exact g3 j hj⟩
  · by_cases t : 8 + a = 8 + k ∧ c = l
    · simp [aBr, aS, t]; exact hb
    · have := h6 a c
      simp only [aBr, aS, if_neg t]; exact this
  · rw [e1, e2] at hac
    have t : ¬ (8 + a = 8 + k ∧ c = l) := by
      rintro ⟨t1, rfl⟩
      have : a = k := by omega
      subst this
      exact hac ⟨hk, hl⟩
    have := h7 a c hac
    simp only [aBr, aS, if_neg t]; exact this
theorem Inv_sl {A : AL} (hI : Inv A) {s : Nat} (hs : s ≤ 6) : Inv (aS A 0 2 s) := by
  obtain ⟨h1, h2, h3, h4, h5, h6, h7⟩ := hI
  have e : ∀ a b, aBr (aS A 0 2 s) a b = aBr A a b := fun a b => by
    have : ¬ (8 + a = 0 ∧ b = 2) := by omega
    simp [aBr, aS, this]
  refine ⟨by simpa [aS] using h1, by simpa [aS] using h2, by simpa [aS] using hs, by simpa [aS] using h4, by simpa [aS] using h5, fun a b => by rw [e]; exact h6 a b, fun a b hab => by rw [e]; exact h7 a b (by simpa [aS] using hab)⟩
section OPS2
variable {v vR : OV} {A : AL} {Q : Int32 → OV → OV → Prop} {x y : Int32}
theorem c_setSlack (h : CR v A) (hI : Inv A) (hr : ∀ r d, oSlack A x = .inl (r, d) → Q (-1) v (sI (sI vR 0 r) 1 d)) (hk : ∀ n B, oSlack A x = .inr (n, B) → ∀ v', CR v' B → Q n v' vR) : wp_X3_setSlack Q x v vR := by
  have hs6 := hI.2.2.1
  have bad : ¬ (0 ≤ x ∧ x ≤ 6) → wp_X3_setSlack_10 Q v vR := fun c => c_refuse (hr _ _ (by rw [oSlack, if_neg c]))
  refine br_c (fun c => bad fun z => absurd c (Int32.not_lt.mpr z.1)) (fun c => ⟨fun c2 => ?_, fun c2 => bad fun z => c2 z.2⟩)
  have cs : 0 ≤ x ∧ x ≤ 6 := ⟨Int32.not_lt.mp c, c2⟩
  obtain ⟨s, hs, ex⟩ := nI_of2 (x := x) (M := 6) (n := 6) (by decide) c c2
  have ex2 : x.toNatClampNeg = s := by rw [ex]; exact nI_clamp (by omega)
  rw [h.2.2.1, ex]
  refine ⟨fun c3 => ?_, fun c3 => ?_⟩
  · have c3' : ¬ aSl A = s := fun z => c3 (by rw [z])
    rintro _ rfl
    refine c_dropUnfit (CR_i10 h s) (Inv_sl hI hs) (fun v' hv => hk _ _ ?_ v' hv)
    rw [oSlack, if_pos cs, ex2, if_neg c3']
    rfl
  · have c3' : aSl A = s := (nI_eq (by omega) (by omega)).mp c3
    exact c_refuse (hr _ _ (by rw [oSlack, if_pos cs, ex2, if_pos c3']))
theorem c_cutKey (h : CR v A) (hI : Inv A) (hr : ∀ r d, oCut A x y = .inl (r, d) → Q (-1) v (sI (sI vR 0 r) 1 d)) (hk : ∀ n B, oCut A x y = .inr (n, B) → ∀ v', CR v' B → Q n v' vR) : wp_X3_cutKey Q x y v vR := by
  have n1 := hI.1; have n2 := hI.2.1
  refine c_hasKey h hI (fun k hkk e e2 ck => ⟨fun _ => c_isSet (fun cs => ⟨fun _ => ?_, fun z => absurd z (by decide)⟩) (fun cs => ⟨fun z => absurd rfl z, fun _ => c_refuse (hr _ _ (by rw [oCut, if_pos ck, if_neg cs]))⟩), fun z => absurd z (by decide)⟩) (fun c => ⟨fun z => absurd rfl z, fun _ => c_refuse (hr _ _ (by rw [oCut, if_neg c]))⟩)
  obtain ⟨w, hw, ey, ey2⟩ := isS_nI cs
  have ew := (h.2.2.2.2.2.2.1 k hkk).1
  have hwk := (hI.2.2.2.1 k hkk).1
  obtain ⟨t1, t2⟩ := tb_x6 _ hwk _ hw
  have ix : vp_in x 10 := by rw [e]; exact vp_in_nI (by omega) (by omega)
  rw [e2, ew, ey]
  refine ⟨ix, fun c => ⟨ix, ?_⟩, fun c => ?_⟩
  · have c' : ¬ aWd A k = w := fun z => c (by rw [z])
    rw [t1]
    refine c_bitCountN (by omega) ⟨ix, ?_⟩
    rintro _ rfl
    refine ⟨ix, ix, ?_⟩
    rintro _ rfl
    have ec : (sA v 0 k (nI w)).1 3 k + nI (pop (aWd A k ^^^ w)) = nI (aCo A k + pop (aWd A k ^^^ w)) := by
      have := (h.2.2.2.2.2.2.1 k hkk).2.2.2.1
      simp [sA, this, nI_add]
    rw [ec]
    refine c_dropUnfit (CR_s3 (CR_s0 h k w) k _) (Inv_wd hI hw) (fun v' hv => hk _ _ ?_ v' hv)
    rw [oCut, if_pos ck, if_pos cs, e2, ey2, if_neg c']
    rfl
  · have c' : aWd A k = w := (nI_eq (by omega) (by omega)).mp c
    exact c_refuse (hr _ _ (by rw [oCut, if_pos ck, if_pos cs, e2, ey2, if_pos c']))
theorem c_setBar (h : CR v A) (hI : Inv A) {b : Nat} (hb : b ≤ 1) (hr : ∀ r d, oBar A x y b = .inl (r, d) → Q (-1) v (sI (sI vR 0 r) 1 d)) (hk : ∀ n B, oBar A x y b = .inr (n, B) → ∀ v', CR v' B → Q n v' vR) : wp_X3_setBar Q x y (nI b) v vR := by
  have n1 := hI.1; have n2 := hI.2.1
  refine c_hasKey h hI (fun k hkk e e2 ck => ⟨fun _ => ?_, fun z => absurd z (by decide)⟩) (fun c => ⟨fun z => absurd rfl z, fun _ => c_refuse (hr _ _ (by rw [oBar, if_neg c]))⟩)
  refine c_hasLock h hI (fun l hll f f2 cl => ⟨fun _ => ?_, fun z => absurd z (by decide)⟩) (fun c => ⟨fun z => absurd rfl z, fun _ => c_refuse (hr _ _ (by rw [oBar, if_pos ck, if_neg c]))⟩)
  have hb1 := hI.2.2.2.2.2.1 k l
  have ix : vp_in x 10 := by rw [e]; exact vp_in_nI (by omega) (by omega)
  have eb := (h.2.2.2.2.2.2.1 k hkk).2.2.1
  obtain ⟨b1, b2⟩ := bm_ok (A := A) (k := k) (fun l => hI.2.2.2.2.2.1 k l)
  have tx := tb_xor l (by omega) _ b1
  rw [b2 l (by omega)] at tx
  rw [e2, eb, e, f]
  refine c_hasBar h hI hkk hll ⟨fun c => ⟨by rw [← e]; exact ix, by rw [← e]; exact ix, ?_⟩, fun c => ?_⟩
  · have c' : ¬ aBr A k l = b := fun z => c (by rw [z])
    have ns := bm_set (A := A) (k := k) (l := l) (b := b) (by omega)
    have en : (nI (bm A k) ^^^ ((1 : Int32) <<< (nI l &&& 31))) = nI (bm (aS A (8 + k) l b) k) := by
      rw [tx]
      congr 1
      by_cases z : aBr A k l = 0
      · have : b = 1 := by omega
        subst this
        rw [if_pos z]; rw [z] at ns; omega
      · have z1 : aBr A k l = 1 := by omega
        have z2 : b = 0 := by omega
        subst z2
        rw [if_neg z]; rw [z1] at ns; omega
    rintro _ rfl
    rw [en]
    have hB := Inv_br hI hkk hll hb
    refine c_dropUnfit (CR_s2 h k l b) hB (fun v' hv => c_countBars hv (Inv_drop hB) (hk _ _ ?_ v' hv))
    rw [oBar, if_pos ck, if_pos cl, e2, f2, if_neg c']
    rfl
  · have c' : aBr A k l = b := (nI_eq (by omega) (by omega)).mp c
    exact c_refuse (hr _ _ (by rw [oBar, if_pos ck, if_pos cl, e2, f2, if_pos c']))
end OPS2
