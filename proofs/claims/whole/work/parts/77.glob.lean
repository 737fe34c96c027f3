/-! what holds between two calls: the lodge, the kept rows, the snapshot, the refusal, the text, the line -/
def HR (v : HV) (c : Nat) (K : Nat → AL) : Prop := HI v ∧ (∀ i j, i < 8 → j < 8 → v.2.1 i = v.2.1 j → i = j) ∧ c ≤ 8 ∧ v.1 = nI c ∧ ∀ i, i < c → CR (v.2.2 (v.2.1 i)) (K i)
def KRR (m : OV) (c : Nat) (K : Nat → AL) : Prop := m.2 6 = nI c ∧ ∀ i, i < c → RR (fun j => m.1 1 (177 * i + j)) (K i) ∧ Inv (K i) ∧ InvF (K i)
def kK (c : Nat) (K : Nat → AL) (A : AL) : Nat → AL := fun i => if c = 8 then (if i = 7 then A else K (i + 1)) else (if i = c then A else K i)
theorem HR_keep {v : HV} {w : OV} {c : Nat} {K : Nat → AL} {A : AL} (h : HR v c K) (hw : CR w A) (hI : Inv A) : HR (hkeep v w) (kc c) (kK c K A) := by
  obtain ⟨⟨h1, h2, h3⟩, h4, h5, h6, h7⟩ := h
  by_cases c8 : c = 8
  · subst c8
    have e : hkeep v w = hput ((7 : Int32), hrot v.2.1, v.2.2) w := by
      unfold hkeep hcnt
      rw [if_neg (by rw [h6]; decide)]
    have e7 : (7 : Int32).toNatClampNeg = 7 := by decide
    have r7 : hrot v.2.1 7 = v.2.1 0 := by simp [hrot]
    have rj : ∀ j, j < 7 → hrot v.2.1 j = v.2.1 (j + 1) := fun j hj => by simp [hrot, hj]
    rw [e]
    show HR ((7 : Int32) + 1, hrot v.2.1, upR v.2.2 (hrot v.2.1 (7 : Int32).toNatClampNeg) (cpLg (v.2.2 (hrot v.2.1 (7 : Int32).toNatClampNeg)) w)) (kc 8) (kK 8 K A)
    rw [e7, r7]
    refine ⟨⟨fun i hi => ?_, show (0 : Int32) ≤ 7 + 1 by decide, show (7 : Int32) + 1 ≤ 8 by decide⟩, fun i j hi hj he => ?_, Nat.le_refl _, show (7 : Int32) + 1 = nI 8 by decide, fun i hi => ?_⟩
    · show hrot v.2.1 i < 8
      by_cases c : i = 7
      · rw [c, r7]; exact h1 0 (by omega)
      · rw [rj i (by omega)]; exact h1 (i + 1) (by omega)
    · have he : hrot v.2.1 i = hrot v.2.1 j := he
      by_cases ci : i = 7
      · by_cases cj : j = 7
        · omega
        · rw [ci, r7, rj j (by omega)] at he
          exact absurd (h4 0 (j + 1) (by omega) (by omega) he) (by omega)
      · by_cases cj : j = 7
        · rw [cj, r7, rj i (by omega)] at he
          exact absurd (h4 (i + 1) 0 (by omega) (by omega) he) (by omega)
        · rw [rj i (by omega), rj j (by omega)] at he
          have := h4 (i + 1) (j + 1) (by omega) (by omega) he
          omega
    · show CR (upR v.2.2 (v.2.1 0) _ (hrot v.2.1 i)) (kK 8 K A i)
      have hi8 : i < 8 := hi
      by_cases ci : i = 7
      · rw [ci, r7]
        have t : upR v.2.2 (v.2.1 0) (cpLg (v.2.2 (v.2.1 0)) w) (v.2.1 0) = cpLg (v.2.2 (v.2.1 0)) w := if_pos rfl
        rw [t]
        have t2 : kK 8 K A 7 = A := by simp [kK]
        rw [t2]
        exact CR_copy hw hI
      · rw [rj i (by omega)]
        have t : upR v.2.2 (v.2.1 0) (cpLg (v.2.2 (v.2.1 0)) w) (v.2.1 (i + 1)) = v.2.2 (v.2.1 (i + 1)) := if_neg fun z => by
          have := h4 (i + 1) 0 (by omega) (by omega) z
          omega
        rw [t]
        have t2 : kK 8 K A i = K (i + 1) := by simp [kK, ci]
        rw [t2]
        exact h7 (i + 1) (by omega)
  · have e : hkeep v w = hput v w := by
      unfold hkeep hcnt
      rw [if_pos (show v.1 < 8 by
        rw [h6]
        show nI c < nI 8
        exact nI_lt (by omega) (by omega))]
    have ec : v.1.toNatClampNeg = c := by rw [h6]; exact nI_clamp (by omega)
    rw [e]
    unfold hput
    rw [ec]
    have kcc : kc c = c + 1 := if_neg c8
    refine ⟨⟨h1, ?_, ?_⟩, h4, ?_, ?_, fun i hi => ?_⟩
    · show (0 : Int32) ≤ v.1 + 1
      rw [h6, nI_1]; exact nI_pos' (by omega)
    · show v.1 + 1 ≤ (8 : Int32)
      rw [h6, nI_1]
      show nI (c + 1) ≤ nI 8
      exact nI_le (by omega) (by omega)
    · rw [kcc]; omega
    · show v.1 + 1 = _
      rw [h6, nI_1, kcc]
    · rw [kcc] at hi
      show CR (upR v.2.2 (v.2.1 c) (cpLg (v.2.2 (v.2.1 c)) w) (v.2.1 i)) (kK c K A i)
      by_cases ci : i = c
      · rw [ci]
        have t : upR v.2.2 (v.2.1 c) (cpLg (v.2.2 (v.2.1 c)) w) (v.2.1 c) = cpLg (v.2.2 (v.2.1 c)) w := if_pos rfl
        rw [t]
        have t2 : kK c K A c = A := by simp [kK, c8]
        rw [t2]
        exact CR_copy hw hI
      · have t : upR v.2.2 (v.2.1 c) (cpLg (v.2.2 (v.2.1 c)) w) (v.2.1 i) = v.2.2 (v.2.1 i) := if_neg fun z => ci (h4 i c (by omega) (by omega) z)
        rw [t]
        have t2 : kK c K A i = K i := by simp [kK, c8, ci]
        rw [t2]
        exact h7 i (by omega)
theorem KRR_keep {m m' : OV} {row : Nat → Int32} {c : Nat} {K : Nat → AL} {A : AL} (h : KRR m c K) (c8 : c ≤ 8) (hr : RR row A) (hI : Inv A) (hF : InvF A) (e1 : m'.1 1 = kp (m.1 1) row c) (e6 : m'.2 6 = nI (kc c)) : KRR m' (kc c) (kK c K A) := by
  have n1 := hI.1; have n2 := hI.2.1
  refine ⟨e6, fun i hi => ?_⟩
  by_cases c8' : c = 8
  · subst c8'
    have hi8 : i < 8 := hi
    have ek : kp (m.1 1) row 8 = va_cpy row (shf (m.1 1) 1239) 0 1239 177 := if_pos rfl
    rw [e1, ek]
    by_cases ci : i = 7
    · have t2 : kK 8 K A i = A := by simp [kK, ci]
      rw [t2]
      refine ⟨RR_eq hr n1 n2 (fun j hj => ?_), hI, hF⟩
      show va_cpy row (shf (m.1 1) 1239) 0 1239 177 (177 * i + j) = row j
      rw [pk_cpy_in (by omega) (by omega), show 0 + (177 * i + j - 1239) = j by omega]
    · have t2 : kK 8 K A i = K (i + 1) := by simp [kK, ci]
      rw [t2]
      obtain ⟨k1, k2, k3⟩ := h.2 (i + 1) (by omega)
      refine ⟨RR_eq k1 k2.1 k2.2.1 (fun j hj => ?_), k2, k3⟩
      show va_cpy row (shf (m.1 1) 1239) 0 1239 177 (177 * i + j) = m.1 1 (177 * (i + 1) + j)
      rw [pk_cpy_out (by omega)]
      show (if 177 * i + j < 1239 then m.1 1 (177 * i + j + 177) else _) = _
      rw [if_pos (by omega), show 177 * i + j + 177 = 177 * (i + 1) + j by omega]
  · have kcc : kc c = c + 1 := if_neg c8'
    rw [kcc] at hi
    have ek : kp (m.1 1) row c = va_cpy row (m.1 1) 0 (177 * c) 177 := if_neg c8'
    rw [e1, ek]
    by_cases ci : i = c
    · have t2 : kK c K A i = A := by simp [kK, c8', ci]
      rw [t2]
      refine ⟨RR_eq hr n1 n2 (fun j hj => ?_), hI, hF⟩
      show va_cpy row (m.1 1) 0 (177 * c) 177 (177 * i + j) = row j
      rw [ci, pk_cpy_in (by omega) (by omega), show 0 + (177 * c + j - 177 * c) = j by omega]
    · have t2 : kK c K A i = K i := by simp [kK, c8', ci]
      rw [t2]
      obtain ⟨k1, k2, k3⟩ := h.2 i (by omega)
      refine ⟨RR_eq k1 k2.1 k2.2.1 (fun j hj => ?_), k2, k3⟩
      show va_cpy row (m.1 1) 0 (177 * c) 177 (177 * i + j) = m.1 1 (177 * i + j)
      exact pk_cpy_out (by omega)
def TXR (vTx m : OV) : Prop := ∃ n, n ≤ 60 ∧ vTx.2 1 = nI n ∧ m.2 14 = nI n ∧ ∀ i, i < n → ∃ x, x < 65536 ∧ vTx.1 0 i = nI x ∧ m.1 13 i = nI x
def LNR (vLn m : OV) : Prop := ∃ n, n ≤ 80 ∧ vLn.2 1 = nI n ∧ m.2 17 = nI n ∧ ∀ i, i < n → ∃ x, x < 65536 ∧ vLn.1 0 i = nI x ∧ m.1 16 i = nI x
def SVR (vKW vLg3 m : OV) (S : AL) : Prop := (vKW.2 10 = 0 ↔ m.2 5 = 0) ∧ (¬ m.2 5 = 0 → CR vLg3 S ∧ RR (m.1 2) S ∧ Inv S ∧ InvF S)
def RFR (vRf m : OV) : Prop := vRf.2 0 = m.2 10 ∧ vRf.2 1 = m.2 11 ∧ vRf.2 2 = m.2 12
def GIs (A : AL) (c : Nat) (K : Nat → AL) (S : AL) (vKW vLg vLg3 vRf vTx vLn : OV) (vHs : HV) (m : OV) : Prop := Inv A ∧ InvF A ∧ CR vLg A ∧ RR (m.1 0) A ∧ HR vHs c K ∧ KRR m c K ∧ SVR vKW vLg3 m S ∧ RFR vRf m ∧ TXR vTx m ∧ LNR vLn m ∧ vKW.2 11 = m.2 15 ∧ m.2 7 = 0
theorem KRR.same {m m' : OV} {c : Nat} {K : Nat → AL} (h : KRR m c K) (e1 : m'.1 1 = m.1 1) (e6 : m'.2 6 = m.2 6) : KRR m' c K := ⟨e6.trans h.1, fun i hi => by rw [e1]; exact h.2 i hi⟩
theorem TXR.same {v m m' : OV} (h : TXR v m) (e1 : m'.1 13 = m.1 13) (e6 : m'.2 14 = m.2 14) : TXR v m' := by
  unfold TXR; rw [e1, e6]; exact h
theorem LNR.same {v m m' : OV} (h : LNR v m) (e1 : m'.1 16 = m.1 16) (e6 : m'.2 17 = m.2 17) : LNR v m' := by
  unfold LNR; rw [e1, e6]; exact h
theorem SVR.same {v w m m' : OV} {S : AL} (h : SVR v w m S) (e1 : m'.1 2 = m.1 2) (e6 : m'.2 5 = m.2 5) : SVR v w m' S := by
  unfold SVR; rw [e1, e6]; exact h
theorem RFR.same {v m m' : OV} (h : RFR v m) (e1 : m'.2 10 = m.2 10) (e2 : m'.2 11 = m.2 11) (e3 : m'.2 12 = m.2 12) : RFR v m' := by
  unfold RFR; rw [e1, e2, e3]; exact h
section GSEC
variable {A : AL} {c : Nat} {K : Nat → AL} {S : AL} {vKW vLg vLg3 vRf vTx vLn : OV} {vHs : HV} {m m' : OV}
theorem GIs.q (h : GIs A c K S vKW vLg vLg3 vRf vTx vLn vHs m) (hr : RR (m'.1 0) A) (hg : MQn m m') : GIs A c K S vKW vLg vLg3 vRf vTx vLn vHs m' := by
  obtain ⟨h1, h2, h3, h4, h5, h6, h7, h8, h9, h10, h11, h12⟩ := h
  obtain ⟨g1, g2⟩ := hg
  exact ⟨h1, h2, h3, hr, h5, h6.same (g1 1 (by decide) (by decide) (by decide) (by decide)) (g2 6 (by decide) (by decide)), h7.same (g1 2 (by decide) (by decide) (by decide) (by decide)) (g2 5 (by decide) (by decide)), h8.same (g2 10 (by decide) (by decide)) (g2 11 (by decide) (by decide)) (g2 12 (by decide) (by decide)), h9.same (g1 13 (by decide) (by decide) (by decide) (by decide)) (g2 14 (by decide) (by decide)), h10.same (g1 16 (by decide) (by decide) (by decide) (by decide)) (g2 17 (by decide) (by decide)), h11.trans (g2 15 (by decide) (by decide)).symm, (g2 7 (by decide) (by decide)).trans h12⟩
/-- a change was made; the levels and marks may be others -/
def KOw (m m' : OV) (c : Nat) : Prop := (m.2 7 = 0 → m'.1 1 = kp (m.1 1) (m.1 0) c ∧ m'.2 6 = nI (kc c)) ∧ (¬ m.2 7 = 0 → m'.1 1 = m.1 1 ∧ m'.2 6 = m.2 6) ∧ m'.2 9 = 0 ∧ (∀ j, j ≠ 0 → j ≠ 1 → j ≠ 18 → j ≠ 19 → m'.1 j = m.1 j) ∧ ∀ j, j ≠ 6 → j ≠ 9 → j ≠ 20 → m'.2 j = m.2 j
theorem KO.w (h : KO m m' c) : KOw m m' c := ⟨h.1, h.2.1, h.2.2.1, fun j a b _ _ => h.2.2.2.1 j a b, fun j a b _ => h.2.2.2.2 j a b⟩
/-- a change was refused; the levels and marks may be others -/
def RFw (m m' : OV) (r d : Int32) : Prop := (∀ j, j ≠ 18 → j ≠ 19 → m'.1 j = m.1 j) ∧ m'.2 9 = 1 ∧ m'.2 10 = r ∧ m'.2 11 = d ∧ m'.2 12 = (if m.2 7 = 0 then 0 else m.2 8) ∧ ∀ j, j ≠ 9 → j ≠ 10 → j ≠ 11 → j ≠ 12 → j ≠ 20 → m'.2 j = m.2 j
theorem RFd.w {r d : Int32} (h : RFd m m' r d) : RFw m m' r d := ⟨fun j _ _ => by rw [h.1], h.2.1, h.2.2.1, h.2.2.2.1, h.2.2.2.2.1, fun j a b c d _ => h.2.2.2.2.2 j a b c d⟩
theorem GIs.op {B : AL} {vLg' : OV} {vHs' : HV} (h : GIs A c K S vKW vLg vLg3 vRf vTx vLn vHs m) (hB : Inv B) (hB2 : InvF B) (hv : CR vLg' B) (hr : RR (m'.1 0) B) (ko : KOw m m' c) (hh : HR vHs' (kc c) (kK c K A)) : GIs B (kc c) (kK c K A) S vKW vLg' vLg3 vRf vTx vLn vHs' m' := by
  obtain ⟨h1, h2, h3, h4, h5, h6, h7, h8, h9, h10, h11, h12⟩ := h
  obtain ⟨k1, k2, k3, k4, k5⟩ := ko
  obtain ⟨e1, e6⟩ := k1 h12
  exact ⟨hB, hB2, hv, hr, hh, KRR_keep h6 h5.2.2.1 h4 h1 h2 e1 e6, h7.same (k4 2 (by decide) (by decide) (by decide) (by decide)) (k5 5 (by decide) (by decide) (by decide)), h8.same (k5 10 (by decide) (by decide) (by decide)) (k5 11 (by decide) (by decide) (by decide)) (k5 12 (by decide) (by decide) (by decide)), h9.same (k4 13 (by decide) (by decide) (by decide) (by decide)) (k5 14 (by decide) (by decide) (by decide)), h10.same (k4 16 (by decide) (by decide) (by decide) (by decide)) (k5 17 (by decide) (by decide) (by decide)), h11.trans (k5 15 (by decide) (by decide) (by decide)).symm, (k5 7 (by decide) (by decide) (by decide)).trans h12⟩
theorem GIs.no {vLg' : OV} {r d : Int32} (h : GIs A c K S vKW vLg vLg3 vRf vTx vLn vHs m) (hv : CR vLg' A) (hf : RFw m m' r d) : GIs A c K S vKW vLg' vLg3 (sI (sI (sI vRf 0 r) 1 d) 2 0) vTx vLn vHs m' := by
  obtain ⟨h1, h2, h3, h4, h5, h6, h7, h8, h9, h10, h11, h12⟩ := h
  obtain ⟨k1, k2, k3, k4, k5, k6⟩ := hf
  rw [if_pos h12] at k5
  refine ⟨h1, h2, hv, by rw [k1 0 (by decide) (by decide)]; exact h4, h5, h6.same (k1 1 (by decide) (by decide)) (k6 6 (by decide) (by decide) (by decide) (by decide) (by decide)), h7.same (k1 2 (by decide) (by decide)) (k6 5 (by decide) (by decide) (by decide) (by decide) (by decide)), ?_, h9.same (k1 13 (by decide) (by decide)) (k6 14 (by decide) (by decide) (by decide) (by decide) (by decide)), h10.same (k1 16 (by decide) (by decide)) (k6 17 (by decide) (by decide) (by decide) (by decide) (by decide)), h11.trans (k6 15 (by decide) (by decide) (by decide) (by decide) (by decide)).symm, (k6 7 (by decide) (by decide) (by decide) (by decide) (by decide)).trans h12⟩
  refine ⟨?_, ?_, ?_⟩
  · rw [k3, sI_oth (by decide), sI_oth (by decide), sI_at]
  · rw [k4, sI_oth (by decide), sI_at]
  · rw [k5, sI_at]
end GSEC
