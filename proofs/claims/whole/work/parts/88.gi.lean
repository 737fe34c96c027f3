/-! what holds between two calls, after each kind of call; at the start -/
def GIx (vKW vLg vLg3 vRf vTx vLn : OV) (vHs : HV) (m : OV) : Prop := ∃ A c K S, GIs A c K S vKW vLg vLg3 vRf vTx vLn vHs m
section GIL
variable {A : AL} {c : Nat} {K : Nat → AL} {S : AL} {vKW vLg vLg3 vRf vTx vLn : OV} {vHs : HV} {m m' : OV}
theorem GIs.x (h : GIs A c K S vKW vLg vLg3 vRf vTx vLn vHs m) : GIx vKW vLg vLg3 vRf vTx vLn vHs m := ⟨A, c, K, S, h⟩
theorem GIs.hop {B : AL} {c' : Nat} {a : OV} {e : HV} (h : GIs A c K S vKW vLg vLg3 vRf vTx vLn vHs m) (hB : Inv B) (hB2 : InvF B) (ha : CR a B) (he : HR e c' K) (hc' : c' ≤ c) (hr : RR (m'.1 0) B) (h6 : m'.2 6 = nI c') (f1 : ∀ j, j ≠ 0 → m'.1 j = m.1 j) (f2 : ∀ j, j ≠ 6 → j ≠ 9 → m'.2 j = m.2 j) : GIs B c' K S vKW a vLg3 vRf vTx vLn e m' := by
  obtain ⟨h1, h2, h3, h4, h5, h6', h7, h8, h9, h10, h11, h12⟩ := h
  refine ⟨hB, hB2, ha, hr, he, ⟨h6, fun i hi => ?_⟩, h7.same (f1 2 (by decide)) (f2 5 (by decide) (by decide)), h8.same (f2 10 (by decide) (by decide)) (f2 11 (by decide) (by decide)) (f2 12 (by decide) (by decide)), h9.same (f1 13 (by decide)) (f2 14 (by decide) (by decide)), h10.same (f1 16 (by decide)) (f2 17 (by decide) (by decide)), h11.trans (f2 15 (by decide) (by decide)).symm, (f2 7 (by decide) (by decide)).trans h12⟩
  rw [f1 1 (by decide)]
  exact h6'.2 i (by omega)
theorem GIs.sv {a : OV} (h : GIs A c K S vKW vLg vLg3 vRf vTx vLn vHs m) (ha : CR a A) (r2 : RR (m'.1 2) A) (f1 : ∀ j, j ≠ 2 → m'.1 j = m.1 j) (h5' : m'.2 5 = 1) (f2 : ∀ j, j ≠ 5 → j ≠ 9 → m'.2 j = m.2 j) : GIs A c K A (sI vKW 10 1) vLg a vRf vTx vLn vHs m' := by
  obtain ⟨h1, h2, h3, h4, h5, h6, h7, h8, h9, h10, h11, h12⟩ := h
  refine ⟨h1, h2, h3, by rw [f1 0 (by decide)]; exact h4, h5, h6.same (f1 1 (by decide)) (f2 6 (by decide) (by decide)), ⟨?_, fun _ => ⟨ha, r2, h1, h2⟩⟩, h8.same (f2 10 (by decide) (by decide)) (f2 11 (by decide) (by decide)) (f2 12 (by decide) (by decide)), h9.same (f1 13 (by decide)) (f2 14 (by decide) (by decide)), h10.same (f1 16 (by decide)) (f2 17 (by decide) (by decide)), ?_, (f2 7 (by decide) (by decide)).trans h12⟩
  · rw [sI_at, h5']
  · rw [sI_oth (by decide)]
    exact h11.trans (f2 15 (by decide) (by decide)).symm
theorem GIs.ap {w : OV} {n q : Nat} (h : GIs A c K S vKW vLg vLg3 vRf vTx vLn vHs m) (hq : q < 65536) (hn : n < 60) (t1 : ∀ i, i < n → ∃ x, x < 65536 ∧ vTx.1 0 i = nI x ∧ m.1 13 i = nI x) (w1 : w.2 1 = nI (n + 1)) (w0 : w.1 0 = upd (vTx.1 0) n (nI q)) (m14 : m'.2 14 = nI (n + 1)) (m13 : m'.1 13 = upd (m.1 13) n (nI q)) (f1 : ∀ j, j ≠ 13 → m'.1 j = m.1 j) (f2 : ∀ j, j ≠ 9 → j ≠ 14 → m'.2 j = m.2 j) : GIs A c K S vKW vLg vLg3 vRf w vLn vHs m' := by
  obtain ⟨h1, h2, h3, h4, h5, h6, h7, h8, h9, h10, h11, h12⟩ := h
  refine ⟨h1, h2, h3, by rw [f1 0 (by decide)]; exact h4, h5, h6.same (f1 1 (by decide)) (f2 6 (by decide) (by decide)), h7.same (f1 2 (by decide)) (f2 5 (by decide) (by decide)), h8.same (f2 10 (by decide) (by decide)) (f2 11 (by decide) (by decide)) (f2 12 (by decide) (by decide)), ⟨n + 1, by omega, w1, m14, fun i hi => ?_⟩, h10.same (f1 16 (by decide)) (f2 17 (by decide) (by decide)), h11.trans (f2 15 (by decide) (by decide)).symm, (f2 7 (by decide) (by decide)).trans h12⟩
  rw [w0, m13]
  by_cases z : i = n
  · rw [z, pk_us, pk_us]; exact ⟨q, hq, rfl, rfl⟩
  · rw [pk_un z, pk_un z]; exact t1 i (by omega)
theorem GIs.ln {w : OV} {W : WT} (h : GIs A c K S vKW vLg vLg3 vRf vTx vLn vHs m) (hW : W.1 ≤ 80) (l1 : LNw (w.1 0) (w.2 1) W) (l2 : LNw (m'.1 16) (m'.2 17) W) (f1 : ∀ j, j ≠ 16 → m'.1 j = m.1 j) (f2 : ∀ j, j ≠ 9 → j ≠ 17 → m'.2 j = m.2 j) : GIs A c K S vKW vLg vLg3 vRf vTx w vHs m' := by
  obtain ⟨h1, h2, h3, h4, h5, h6, h7, h8, h9, h10, h11, h12⟩ := h
  exact ⟨h1, h2, h3, by rw [f1 0 (by decide)]; exact h4, h5, h6.same (f1 1 (by decide)) (f2 6 (by decide) (by decide)), h7.same (f1 2 (by decide)) (f2 5 (by decide) (by decide)), h8.same (f2 10 (by decide) (by decide)) (f2 11 (by decide) (by decide)) (f2 12 (by decide) (by decide)), h9.same (f1 13 (by decide)) (f2 14 (by decide) (by decide)), ⟨W.1, hW, l1.1, l2.1, fun i hi => ⟨W.2 i, (l1.2 i hi).2, (l1.2 i hi).1, (l2.2 i hi).1⟩⟩, h11.trans (f2 15 (by decide) (by decide)).symm, (f2 7 (by decide) (by decide)).trans h12⟩
theorem GIs.cm {B : AL} {c' : Nat} {K' : Nat → AL} {a f t : OV} {e : HV} {y : Int32} (h : GIs A c K S vKW vLg vLg3 vRf vTx vLn vHs m) (hB : Inv B) (hB2 : InvF B) (ha : CR a B) (he : HR e c' K') (hr : RR (m'.1 0) B) (hk : KRR m' c' K') (mc : MCm m m') (ht : t.2 1 = 0) (hf : RFR f m') (h15 : m'.2 15 = y) : GIs B c' K' S (sI vKW 11 y) a vLg3 f t vLn e m' := by
  obtain ⟨h1, h2, h3, h4, h5, h6, h7, h8, h9, h10, h11, h12⟩ := h
  obtain ⟨k1, k14, k7, k5, k17⟩ := mc
  refine ⟨hB, hB2, ha, hr, he, hk, ?_, hf, ⟨0, by omega, by rw [ht]; decide, by rw [k14]; decide, fun i hi => absurd hi (Nat.not_lt_zero i)⟩, h10.same (k1 16 (by decide) (by decide) (by decide) (by decide) (by decide) (by decide)) k17, ?_, k7⟩
  · have t := h7.same (k1 2 (by decide) (by decide) (by decide) (by decide) (by decide) (by decide)) k5
    unfold SVR at t ⊢
    rw [sI_oth (by decide)]
    exact t
  · rw [sI_at, h15]
end GIL
def A0L : AL := fun i j => if i = 0 ∧ j = 2 then 6 else 0
theorem A0_o {i j : Nat} (h : ¬ (i = 0 ∧ j = 2)) : A0L i j = 0 := if_neg h
theorem GI_start : GIx v0KW v0Lg v0Lg v0Rf v0Tx v0Ln v0Hs v0Md := by
  have nk : aNk A0L = 0 := A0_o (by decide)
  have nl : aNl A0L = 0 := A0_o (by decide)
  have sl : aSl A0L = 6 := if_pos ⟨rfl, rfl⟩
  have br : ∀ k l, aBr A0L k l = 0 := fun k l => A0_o (by omega)
  have hI : Inv A0L := ⟨by rw [nk]; omega, by rw [nl]; omega, by rw [sl]; omega, fun k hk => absurd hk (by rw [nk]; omega), fun l hl => absurd hl (by rw [nl]; omega), fun k l => by rw [br]; omega, fun k l _ => br k l⟩
  have hF : InvF A0L := fun k hk => absurd hk (by rw [nk]; omega)
  have w0 : aWv A0L = 0 := A0_o (by decide)
  have w1 : aWs A0L = 0 := A0_o (by decide)
  have w2 : aFl A0L = 0 := A0_o (by decide)
  have hC : CR v0Lg A0L := by
    refine ⟨by rw [nk]; decide, by rw [nl]; decide, by rw [sl]; decide, by rw [w0]; decide, by rw [w1]; decide, by rw [w2]; decide, fun k hk => absurd hk (by rw [nk]; omega), fun l hl => absurd hl (by rw [nl]; omega)⟩
  have g0 : ∀ j, j ≠ 2 → v0Md.1 0 j = nI 0 := fun j hj => by
    show upd (fun _ => (0 : Int32)) (2 : Int32).toNatClampNeg 6 j = nI 0
    rw [cn2, pk_un hj, nI_0]
  have g2 : v0Md.1 0 2 = nI 6 := by
    show upd (fun _ => (0 : Int32)) (2 : Int32).toNatClampNeg 6 2 = nI 6
    rw [cn2, pk_us]
    decide
  have hR : RR (v0Md.1 0) A0L := by
    refine ⟨by rw [nk]; exact g0 0 (by decide), by rw [nl]; exact g0 1 (by decide), by rw [sl]; exact g2, by rw [w0]; exact g0 3 (by decide), by rw [w1]; exact g0 4 (by decide), by rw [w2]; exact g0 5 (by decide), by rw [nk]; exact g0 6 (by decide), fun k hk => absurd hk (by rw [nk]; omega), fun l hl => absurd hl (by rw [nl]; omega), fun k hk l hl => ?_⟩
    rw [br]; exact g0 _ (by omega)
  refine ⟨A0L, 0, fun _ => A0L, A0L, hI, hF, hC, hR, ⟨⟨fun i hi => hi, by decide, by decide⟩, fun i j _ _ e => e, by omega, by decide, fun i hi => absurd hi (Nat.not_lt_zero i)⟩, ⟨by decide, fun i hi => absurd hi (Nat.not_lt_zero i)⟩, ⟨⟨fun _ => by decide, fun _ => by decide⟩, fun z => absurd (show v0Md.2 5 = 0 by decide) z⟩, ⟨by decide, by decide, by decide⟩, ⟨0, by omega, by decide, by decide, fun i hi => absurd hi (Nat.not_lt_zero i)⟩, ⟨0, by omega, by decide, by decide, fun i hi => absurd hi (Nat.not_lt_zero i)⟩, by decide, by decide⟩
