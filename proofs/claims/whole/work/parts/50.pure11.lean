theorem Inv_put {A : AL} (hI : Inv A) {k l : Nat} (hk : k < aNk A) (hl : l < aNl A) (h0 : aIk A k = 0) (h1 : aHk A l = 0) : Inv (aPut A k l) := by
  obtain ⟨g1, g2, g3, g4, g5, g6, g7⟩ := hI
  have o : ∀ i j, i ≠ 3 → i ≠ 6 → i ≠ 7 → aPut A k l i j = A i j := fun i j a b c => by simp [aPut, aS, a, b, c]
  have ei : ∀ j, aIk (aPut A k l) j = if j = k then l + 1 else aIk A j := fun j => by simp [aPut, aS, aIk]
  have eh : ∀ j, aHk (aPut A k l) j = if j = l then k + 1 else aHk A j := fun j => by simp [aPut, aS, aHk]
  have e1 : aNk (aPut A k l) = aNk A := o _ _ (by decide) (by decide) (by decide)
  have e2 : aNl (aPut A k l) = aNl A := o _ _ (by decide) (by decide) (by decide)
  refine ⟨by rw [e1]; exact g1, by rw [e2]; exact g2, by rw [aSl, o _ _ (by decide) (by decide) (by decide)]; exact g3, fun j hj => ?_, fun m hm => ?_, fun a b => by rw [aBr, o _ _ (by omega) (by omega) (by omega)]; exact g6 a b, fun a b hab => by rw [aBr, o _ _ (by omega) (by omega) (by omega)]; exact g7 a b (by rw [e1, e2] at hab; exact hab)⟩
  · rw [e1] at hj
    obtain ⟨q1, q2, q3, q4⟩ := g4 j hj
    refine ⟨by rw [aWd, o _ _ (by decide) (by decide) (by decide)]; exact q1, by rw [aPo, o _ _ (by decide) (by decide) (by decide)]; exact q2, ?_, fun m hm => ?_⟩
    · rw [ei, e2]; split <;> omega
    · rw [ei] at hm
      rw [eh]
      by_cases c : j = k
      · rw [if_pos c] at hm
        rw [if_pos (by omega)]; omega
      · rw [if_neg c] at hm
        have := q4 m hm
        by_cases c2 : m = l
        · subst c2; omega
        · rw [if_neg c2]; exact this
  · rw [e2] at hm
    obtain ⟨q1, q2, q3⟩ := g5 m hm
    refine ⟨by rw [aPn, o _ _ (by decide) (by decide) (by decide)]; exact q1, ?_, fun j hj => ?_⟩
    · rw [eh, e1]; split <;> omega
    · rw [eh] at hj
      rw [ei]
      by_cases c : m = l
      · rw [if_pos c] at hj
        rw [if_pos (by omega)]; omega
      · rw [if_neg c] at hj
        have := q3 j hj
        by_cases c2 : j = k
        · subst c2; omega
        · rw [if_neg c2]; exact this
section MOPS2
variable {m : OV} {A : AL} {Q : Int32 → OV → Prop} {x y : Int32} {c : Nat}
theorem m_put (h : RR (m.1 0) A) (hI : Inv A) (hc : m.2 6 = nI c) (hc8 : c ≤ 8) (hr : ∀ r d, oPut A x y = .inl (r, d) → ∀ m', RFd m m' r d → Q 0 m') (hk : ∀ n B, oPut A x y = .inr (n, B) → ∀ m', RR (m'.1 0) B → KO m m' c → Q n m') : wp_X8_put Q x y m := by
  unfold wp_X8_put wp_X8_put_0
  refine m_isKey h hI (fun ck => ⟨fun _ => ?_, fun z => absurd z (by decide)⟩) (fun ck => ⟨fun z => absurd rfl z, fun _ => m_refuses (hr _ _ (by rw [oPut, if_neg ck]))⟩)
  refine m_isLock h hI (fun cl => ⟨fun _ => ?_, fun z => absurd z (by decide)⟩) (fun cl => ⟨fun z => absurd rfl z, fun _ => m_refuses (hr _ _ (by rw [oPut, if_pos ck, if_neg cl]))⟩)
  obtain ⟨k, hkk, e, e2⟩ := isR_nI hI.1 ck
  obtain ⟨l, hll, f, f2⟩ := isR_nI hI.2.1 cl
  rw [e, f]
  refine m_Ik h hI hkk ⟨fun z => ?_, fun z => m_Ik h hI hkk (m_refuses (hr _ _ ?_))⟩
  · have c1 := (nI_m1 (ik_lt hI hkk)).2.mp z
    refine m_Hk h hI hll ⟨fun z => ?_, fun z => m_Hk h hI hll (m_refuses (hr _ _ ?_))⟩
    · have c2 := (nI_m1 (hk_lt hI hll)).2.mp z
      refine m_isFit h hI hkk hll ⟨fun z => ?_, fun z => ?_⟩
      · have hf : fit A k l := Classical.not_not.mp fun y => z (b01_0.mpr y)
        refine m_keepsK hc hc8 (fun m' e0 ko => m_puts (by rw [e0]; exact h) hI hkk hll (fun m'' hr' hg => m_openMany hr' (Inv_put hI hkk hll c1 c2) (hk _ _ ?_ m'' hr' (ko.mg hg))))
        rw [oPut, if_pos ck, if_pos cl, e2, f2, if_pos c1, if_pos c2, if_pos hf]
      · have hf : ¬ fit A k l := b01_0.mp z
        refine m_lacks h hI hkk hll (m_refuses (hr _ _ ?_))
        rw [oPut, if_pos ck, if_pos cl, e2, f2, if_pos c1, if_pos c2, if_neg hf]
    · have c2 : ¬ aHk A l = 0 := fun w => z ((nI_m1 (hk_lt hI hll)).2.mpr w)
      rw [oPut, if_pos ck, if_pos cl, e2, f2, if_pos c1, if_neg c2]
  · have c1 : ¬ aIk A k = 0 := fun w => z ((nI_m1 (ik_lt hI hkk)).2.mpr w)
    rw [oPut, if_pos ck, if_pos cl, e2, if_neg c1]
theorem m_slack (h : RR (m.1 0) A) (hI : Inv A) (hc : m.2 6 = nI c) (hc8 : c ≤ 8) (hr : ∀ r d, oSlack A x = .inl (r, d) → ∀ m', RFd m m' r d → Q 0 m') (hk : ∀ n B, oSlack A x = .inr (n, B) → ∀ m', RR (m'.1 0) B → KO m m' c → Q n m') : wp_X8_slack Q x m := by
  have hs6 := hI.2.2.1
  unfold wp_X8_slack wp_X8_slack_0
  refine m_in (fun cs => ⟨fun _ => ⟨v2i, ?_⟩, fun z => absurd z (by decide)⟩) (fun cs => ⟨fun z => absurd rfl z, fun _ => m_refuses (hr _ _ (by rw [oSlack, if_neg cs]))⟩)
  obtain ⟨s, hs, ex⟩ := nI_of2 (x := x) (M := 6) (n := 6) (by decide) (Int32.not_lt.mpr cs.1) cs.2
  have ex2 : x.toNatClampNeg = s := by rw [ex]; exact nI_clamp (by omega)
  rw [cn2, h.2.2.1]
  refine ⟨fun z => ?_, fun z => ?_⟩
  · have c3 : ¬ aSl A = s := fun w => z (by rw [w, ex])
    refine m_keepsK hc hc8 (fun m' e0 ko => ⟨v2i, ?_⟩)
    rintro _ rfl
    rw [ex]
    refine m_falls (A := aS A 0 2 s) ?_ (Inv_sl hI hs) (fun m'' hr' hg => hk _ _ ?_ m'' hr' (ko.mg ((MG.sA0 _ _).tr hg)))
    · rw [sA00, e0]; exact RR_g2 h s
    · rw [oSlack, if_pos cs, ex2, if_neg c3]; rfl
  · have c3 : aSl A = s := ((nI_eq (by omega) (by omega)).mp (by rw [← ex]; exact z.symm))
    exact m_refuses (hr _ _ (by rw [oSlack, if_pos cs, ex2, if_pos c3]))
end MOPS2
