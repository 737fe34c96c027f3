theorem drN_le {A : AL} : ∀ n, drN A n ≤ n := fun n => by
  induction n with
  | zero => exact Nat.le_refl 0
  | succ n ih => rw [drN]; have := b01_le (p := drP (drA A n) n); omega
theorem cn6 : (6 : Int32).toNatClampNeg = 6 := by decide
theorem v6i : vp_in (6 : Int32) 177 := vi 6 (by omega)
section MOPS4
variable {m : OV} {A : AL} {Q : Int32 → OV → Prop} {x y : Int32} {c : Nat}
theorem m_cut (h : RR (m.1 0) A) (hI : Inv A) (hc : m.2 6 = nI c) (hc8 : c ≤ 8) (hr : ∀ r d, oCut A x y = .inl (r, d) → ∀ m', RFd m m' r d → Q 0 m') (hk : ∀ n B, oCut A x y = .inr (n, B) → ∀ m', RR (m'.1 0) B → KO m m' c → Q n m') : wp_X8_cut Q x y m := by
  have n1 := hI.1
  unfold wp_X8_cut wp_X8_cut_0
  refine m_isKey h hI (fun ck => ⟨fun _ => ?_, fun z => absurd z (by decide)⟩) (fun ck => ⟨fun z => absurd rfl z, fun _ => m_refuses (hr _ _ (by rw [oCut, if_neg ck]))⟩)
  refine m_in (fun cs => ⟨fun _ => ?_, fun z => absurd z (by decide)⟩) (fun cs => ⟨fun z => absurd rfl z, fun _ => m_refuses (hr _ _ (by rw [oCut, if_pos ck, if_neg cs]))⟩)
  obtain ⟨k, hkk, e, e2⟩ := isR_nI hI.1 ck
  obtain ⟨w, hw, ey, ey2⟩ := isS_nI cs
  have hwk := (hI.2.2.2.1 k hkk).1
  obtain ⟨t1, t2⟩ := tb_x6 _ hwk _ hw
  rw [e]
  refine m_Wd h hI hkk ⟨fun z => ?_, fun z => ?_⟩
  · have c' : ¬ aWd A k = w := fun u => z (by rw [u, ey])
    refine m_keepsK hc hc8 (fun m' e0 ko => ?_)
    have h' : RR (m'.1 0) A := by rw [e0]; exact h
    refine m_Wd h' hI hkk ?_
    rw [ey, t1]
    refine m_many t2 ?_
    rw [ix_k3, ix_k]
    refine ⟨vi _ (by omega), ?_⟩
    rintro _ rfl
    refine ⟨vi _ (by omega), vi _ (by omega), ?_⟩
    rintro _ rfl
    refine ⟨v6i, v6i, ?_⟩
    rintro _ rfl
    rw [nI_clamp (show 7 + 4 * k < 2 ^ 31 by omega), nI_clamp (show 10 + 4 * k < 2 ^ 31 by omega), cn6]
    have q1 : (sA m' 0 (7 + 4 * k) (nI w)).1 0 (10 + 4 * k) + nI (pop (aWd A k ^^^ w)) = nI (aCo A k + pop (aWd A k ^^^ w)) := by
      rw [sA00, pk_un (by omega), (h'.2.2.2.2.2.2.2.1 k hkk).2.2.2, nI_add]
    rw [q1]
    have q2 : (sA (sA m' 0 (7 + 4 * k) (nI w)) 0 (10 + 4 * k) (nI (aCo A k + pop (aWd A k ^^^ w)))).1 0 6 + nI (pop (aWd A k ^^^ w)) = nI (sm (aCo A) (aNk A) + pop (aWd A k ^^^ w)) := by
      rw [sA00, sA00, pk_un (by omega), pk_un (by omega), h'.2.2.2.2.2.2.1, nI_add]
    rw [q2]
    refine m_falls (A := aS (aS A 1 k w) 4 k (aCo A k + pop (aWd A k ^^^ w))) ?_ (Inv_wd hI hw) (fun m'' hr' hg => ?_)
    · rw [sA00, sA00, sA00]; exact RR_cut h' hI hkk w _
    · have hB := Inv_wd (c := aCo A k + pop (aWd A k ^^^ w)) (k := k) hI hw
      have hd := drN_le (A := aS (aS A 1 k w) 4 k (aCo A k + pop (aWd A k ^^^ w))) (aNk (aS (aS A 1 k w) 4 k (aCo A k + pop (aWd A k ^^^ w))))
      have hB1 := hB.1
      refine ⟨fun _ => hk _ (aCut A k w) ?_ m'' hr' (ko.mg ((((MG.sA0 _ _).tr (MG.sA0 _ _)).tr (MG.sA0 _ _)).tr hg)), fun z => absurd (nI_pos' (by omega)) z⟩
      rw [oCut, if_pos ck, if_pos cs, e2, ey2, if_neg c']
  · have c' : aWd A k = w := (nI_eq (by omega) (by omega)).mp (by rw [← ey]; exact z)
    exact m_refuses (hr _ _ (by rw [oCut, if_pos ck, if_pos cs, e2, ey2, if_pos c']))
theorem m_bar (h : RR (m.1 0) A) (hI : Inv A) {b : Nat} (hb : b ≤ 1) (hc : m.2 6 = nI c) (hc8 : c ≤ 8) (hr : ∀ r d, oBar A x y b = .inl (r, d) → ∀ m', RFd m m' r d → Q 0 m') (hk : ∀ n B, oBar A x y b = .inr (n, B) → ∀ m', RR (m'.1 0) B → KO m m' c → Q n m') : wp_X8_bar Q x y (nI b) m := by
  have n1 := hI.1; have n2 := hI.2.1
  unfold wp_X8_bar wp_X8_bar_0
  refine m_isKey h hI (fun ck => ⟨fun _ => ?_, fun z => absurd z (by decide)⟩) (fun ck => ⟨fun z => absurd rfl z, fun _ => m_refuses (hr _ _ (by rw [oBar, if_neg ck]))⟩)
  refine m_isLock h hI (fun cl => ⟨fun _ => ?_, fun z => absurd z (by decide)⟩) (fun cl => ⟨fun z => absurd rfl z, fun _ => m_refuses (hr _ _ (by rw [oBar, if_pos ck, if_neg cl]))⟩)
  obtain ⟨k, hkk, e, e2⟩ := isR_nI hI.1 ck
  obtain ⟨l, hll, f, f2⟩ := isR_nI hI.2.1 cl
  have hb1 := hI.2.2.2.2.2.1 k l
  have main : wp_X8_bar_39 Q x y (nI b) m := by
    unfold wp_X8_bar_39
    rw [e, f, ix_b]
    refine ⟨vi _ (by omega), ?_⟩
    rw [nI_clamp (show 77 + 10 * k + l < 2 ^ 31 by omega), h.2.2.2.2.2.2.2.2.2 k (by omega) l (by omega)]
    refine ⟨fun z => ?_, fun z => ?_⟩
    · have c' : ¬ aBr A k l = b := fun u => z (by rw [u])
      refine m_keepsK hc hc8 (fun m' e0 ko => ⟨vi _ (by omega), ?_⟩)
      have h' : RR (m'.1 0) A := by rw [e0]; exact h
      rintro _ rfl
      have hB := Inv_br hI hkk hll hb
      refine m_falls (A := aS A (8 + k) l b) ?_ hB (fun m'' hr' hg => ?_)
      · rw [sA00]; exact RR_bar h' hI hkk hll b
      · have hd := drN_le (A := aS A (8 + k) l b) (aNk (aS A (8 + k) l b))
        have hB1 := hB.1
        refine ⟨fun _ => m_barredMany hr' (Inv_drop hB) (hk _ (aBar A k l b) ?_ m'' hr' (ko.mg ((MG.sA0 _ _).tr hg))), fun z => absurd (nI_pos' (by omega)) z⟩
        rw [oBar, if_pos ck, if_pos cl, e2, f2, if_neg c']
        rfl
    · have c' : aBr A k l = b := (nI_eq (by omega) (by omega)).mp z
      exact m_refuses (hr _ _ (by rw [oBar, if_pos ck, if_pos cl, e2, f2, if_pos c']))
  refine ⟨fun z => ?_, fun z => ?_⟩
  · have : b = 0 := (nI_eq (by omega) (by omega)).mp (by rw [nI_0]; exact z)
    subst this
    exact main
  · have : b = 1 := by
      have : ¬ b = 0 := fun u => z (by rw [u]; rfl)
      omega
    subst this
    exact main
end MOPS4
