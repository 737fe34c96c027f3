/-! the reference's questions: a code (0: an answer) and an answer -/
def MQn (m m' : OV) : Prop := (∀ j, j ≠ 0 → j ≠ 4 → j ≠ 18 → j ≠ 19 → m'.1 j = m.1 j) ∧ ∀ j, j ≠ 9 → j ≠ 20 → m'.2 j = m.2 j
theorem MQn.rfl' {m : OV} : MQn m m := ⟨fun _ _ _ _ _ => rfl, fun _ _ _ => rfl⟩
theorem MQn.tr {m m' m'' : OV} (h : MQn m m') (h' : MQn m' m'') : MQn m m'' := ⟨fun j h0 h1 h2 h3 => (h'.1 j h0 h1 h2 h3).trans (h.1 j h0 h1 h2 h3), fun j a b => (h'.2 j a b).trans (h.2 j a b)⟩
theorem MQn.s9 {m : OV} (x : Int32) : MQn m (sI m 9 x) := ⟨fun _ _ _ _ _ => rfl, fun j a _ => sI_oth a⟩
theorem MGS.q {m m' : OV} (h : MGS m m') : MQn m m' := ⟨h.1, fun j _ b => h.2 j b⟩
theorem MGL.q {m m' : OV} (h : MGL m m') : MQn m m' := h.a.s.q
abbrev QT : Type := Nat × Int32
/-- what a question's row may go on with -/
def QR (Q : Int32 → OV → Prop) (A : AL) (m : OV) (q : QT) : Prop := ∀ r m', RR (m'.1 0) A → MQn m m' → m'.2 9 = nI q.1 → (q.1 = 0 → r = q.2) → Q r m'
theorem QR.bad {Q : Int32 → OV → Prop} {A : AL} {m m' : OV} {n : Nat} {a r : Int32} (h : QR Q A m (n + 1, a)) (hr : RR (m'.1 0) A) (hg : MQn m m') (hc : m'.2 9 = nI (n + 1)) : Q r m' := h r m' hr hg hc (fun z => absurd z (Nat.succ_ne_zero n))
theorem QR.ok {Q : Int32 → OV → Prop} {A : AL} {m m' : OV} {a : Int32} (h : QR Q A m (0, a)) (hr : RR (m'.1 0) A) (hg : MQn m m') (hc : m'.2 9 = nI 0) : Q a m' := h a m' hr hg hc (fun _ => rfl)
theorem m_fails0 {m : OV} {Q : Int32 → OV → Prop} (hq : Q 0 (sI m 9 0)) : wp_X8_fails Q (0 : Int32) m := by
  rintro _ rfl
  exact ⟨fun _ => ⟨rfl, hq⟩, fun z => absurd (show (0 : Int32) ≤ 0 by decide) z⟩
theorem m_fails1 {m : OV} {Q : Int32 → OV → Prop} (hq : Q 1 (sI m 9 1)) : wp_X8_fails Q (1 : Int32) m := by
  rintro _ rfl
  exact ⟨fun z => absurd z (by decide), fun _ => ⟨rfl, hq⟩⟩
theorem m_fails2 {m : OV} {Q : Int32 → OV → Prop} (hq : Q 1 (sI m 9 2)) : wp_X8_fails Q (2 : Int32) m := by
  rintro _ rfl
  exact ⟨fun z => absurd z (by decide), fun _ => ⟨rfl, hq⟩⟩
def qFits (A : AL) (x y : Int32) : QT := if isK A x ∧ isL A y then (0, nI (b01 (fit A x.toNatClampNeg y.toNatClampNeg))) else (1, 0)
def qBarred (A : AL) (x y : Int32) : QT := if isK A x ∧ isL A y then (0, nI (aBr A x.toNatClampNeg y.toNatClampNeg)) else (1, 0)
def qCost (A : AL) (x y : Int32) : QT := if isK A x ∧ isL A y then (0, nI (costA A x.toNatClampNeg y.toNatClampNeg)) else (1, 0)
abbrev LVA (A : AL) : LVS := LV (gA A) (aNk A) (aNl A) (mO A)
def qLength (A : AL) : QT := if (LVA A).2 = 0 then (1, 0) else (0, nI (LVA A).2)
def qKeyOf (A : AL) (x y : Int32) : QT := if isK A x then (if y = nI 0 then (0, nI (aWd A x.toNatClampNeg)) else if y = nI 1 then (0, nI (aPo A x.toNatClampNeg)) else if y = nI 2 then (0, nI (aIk A x.toNatClampNeg) - 1) else if y = nI 3 then (0, nI ((LVA A).1 x.toNatClampNeg) - 1) else if y = nI 4 then (0, nI (sFor A x.toNatClampNeg)) else if y = nI 5 then (0, nI (aCo A x.toNatClampNeg)) else (2, 0)) else (1, 0)
def qLockOf (A : AL) (x y : Int32) : QT := if isL A x then (if y = nI 0 then (0, nI (aPn A x.toNatClampNeg)) else if y = nI 1 then (0, nI (aHk A x.toNatClampNeg) - 1) else if y = nI 2 then (0, nI (sKeys A x.toNatClampNeg)) else if y = nI 3 then (0, nI (aTm A x.toNatClampNeg)) else (2, 0)) else (1, 0)
theorem nI_of5 {y M : Int32} {n : Nat} (hM : M.toInt = n) (h : 0 ≤ y ∧ y ≤ M) : ∃ j, j ≤ n ∧ y = nI j := nI_of2 hM (Int32.not_lt.mpr h.1) h.2
theorem nI_in5 {M : Int32} {j n : Nat} (hM : M = nI n) (hn : n < 2 ^ 31) (h : j ≤ n) : 0 ≤ nI j ∧ nI j ≤ M := ⟨nI_pos' (by omega), by rw [hM]; exact nI_le h hn⟩
section ASK
variable {m : OV} {A : AL} {Q : Int32 → OV → Prop} {x y : Int32}
theorem m_isNoPair (h : RR (m.1 0) A) (hI : Inv A) (h1 : isK A x → isL A y → Q 0 (sI m 9 0)) (h0 : ¬ (isK A x ∧ isL A y) → Q 1 (sI m 9 1)) : wp_X8_isNoPair Q x y m := by
  have bad : ¬ (isK A x ∧ isL A y) → wp_X8_isNoPair_21 Q m := fun z => m_fails1 ⟨rfl, h0 z⟩
  unfold wp_X8_isNoPair wp_X8_isNoPair_0
  refine m_isKey h hI (fun ck => ⟨fun z => absurd z (by decide), fun _ => ?_⟩) (fun ck => ⟨fun _ => bad fun z => ck z.1, fun z => absurd rfl z⟩)
  refine m_isLock h hI (fun cl => ⟨fun z => absurd z (by decide), fun _ => m_fails0 ⟨rfl, h1 ck cl⟩⟩) (fun cl => ⟨fun _ => bad fun z => cl z.2, fun z => absurd rfl z⟩)
theorem m_fits (h : RR (m.1 0) A) (hI : Inv A) (hq : QR Q A m (qFits A x y)) : wp_X8_fits Q x y m := by
  unfold wp_X8_fits wp_X8_fits_0
  refine m_isNoPair h hI (fun ck cl => ⟨fun z => absurd rfl z, fun _ => ?_⟩) (fun c => ⟨fun _ => ⟨rfl, ?_⟩, fun z => absurd z (by decide)⟩)
  · obtain ⟨k, hk, e, e2⟩ := isR_nI hI.1 ck
    obtain ⟨l, hl, f, f2⟩ := isR_nI hI.2.1 cl
    rw [qFits, if_pos ⟨ck, cl⟩, e2, f2] at hq
    rw [e, f]
    refine m_isFit (m := sI m 9 0) h hI hk hl ⟨fun z => ⟨rfl, ?_⟩, fun z => ⟨rfl, ?_⟩⟩
    · have t := hq.ok (m' := sI m 9 0) h (MQn.s9 0) (by rw [sI_at]; rfl)
      rw [z] at t; exact t
    · have t := hq.ok (m' := sI m 9 0) h (MQn.s9 0) (by rw [sI_at]; rfl)
      rw [b01_t (Classical.not_not.mp fun y => z (b01_0.mpr y))] at t; exact t
  · rw [qFits, if_neg c] at hq
    exact hq.bad (m' := sI m 9 1) h (MQn.s9 1) (by rw [sI_at]; rfl)
theorem m_isBarred (h : RR (m.1 0) A) (hI : Inv A) (hq : QR Q A m (qBarred A x y)) : wp_X8_isBarred Q x y m := by
  unfold wp_X8_isBarred wp_X8_isBarred_0
  refine m_isNoPair h hI (fun ck cl => ⟨fun z => absurd rfl z, fun _ => ?_⟩) (fun c => ⟨fun _ => ⟨rfl, ?_⟩, fun z => absurd z (by decide)⟩)
  · obtain ⟨k, hk, e, e2⟩ := isR_nI hI.1 ck
    obtain ⟨l, hl, f, f2⟩ := isR_nI hI.2.1 cl
    have n1 := hI.1; have n2 := hI.2.1
    have hb := hI.2.2.2.2.2.1 k l
    rw [qBarred, if_pos ⟨ck, cl⟩, e2, f2] at hq
    rw [e, f, ix_b]
    refine ⟨vi _ (by omega), ?_⟩
    have eb : (sI m 9 0).1 0 (nI (77 + 10 * k + l)).toNatClampNeg = nI (aBr A k l) := by
      rw [nI_clamp (by omega)]
      exact h.2.2.2.2.2.2.2.2.2 k (by omega) l (by omega)
    rw [eb]
    have t := hq.ok (m' := sI m 9 0) h (MQn.s9 0) (by rw [sI_at]; rfl)
    refine ⟨fun z => ⟨rfl, ?_⟩, fun z => ⟨rfl, ?_⟩⟩
    · have : aBr A k l = 0 := Classical.byContradiction fun y => z (by rw [show aBr A k l = 1 by omega]; rfl)
      rw [this] at t; exact t
    · rw [z] at t; exact t
  · rw [qBarred, if_neg c] at hq
    exact hq.bad (m' := sI m 9 1) h (MQn.s9 1) (by rw [sI_at]; rfl)
theorem m_costFor (h : RR (m.1 0) A) (hI : Inv A) (hq : QR Q A m (qCost A x y)) : wp_X8_costFor Q x y m := by
  unfold wp_X8_costFor wp_X8_costFor_0
  refine m_isNoPair h hI (fun ck cl => ⟨fun _ => ?_, fun z => absurd rfl z⟩) (fun c => ⟨fun z => absurd z (by decide), fun _ => ?_⟩)
  · obtain ⟨k, hk, e, e2⟩ := isR_nI hI.1 ck
    obtain ⟨l, hl, f, f2⟩ := isR_nI hI.2.1 cl
    rw [qCost, if_pos ⟨ck, cl⟩, e2, f2] at hq
    rw [e, f]
    exact m_costOf (m := sI m 9 0) h hI hk hl (hq.ok (m' := sI m 9 0) h (MQn.s9 0) (by rw [sI_at]; rfl))
  · rw [qCost, if_neg c] at hq
    exact hq.bad (m' := sI m 9 1) h (MQn.s9 1) (by rw [sI_at]; rfl)
theorem m_length (h : RR (m.1 0) A) (hI : Inv A) (hq : QR Q A m (qLength A)) : wp_X8_length Q m := by
  unfold wp_X8_length wp_X8_length_0
  refine m_levels h hI (fun m' hr hw hg => ⟨fun z => ?_, fun z => ?_⟩)
  · have c := Classical.not_not.mp (b01_0.mp z)
    rw [qLength, if_pos c] at hq
    exact m_fails1 ⟨fun z => absurd z (by decide), fun _ => hq.bad (m' := sI m' 9 1) hr (hg.q.tr (MQn.s9 1)) (by rw [sI_at]; rfl)⟩
  · have c : ¬ (LVA A).2 = 0 := Classical.not_not.mp fun y => z (b01_0.mpr y)
    rw [qLength, if_neg c] at hq
    refine m_fails0 ⟨fun _ => ?_, fun z => absurd rfl z⟩
    have e : (sI m' 9 0).2 20 + 1 = nI (LVA A).2 := by
      rw [sI_oth (by decide), hw.2.1]
      obtain ⟨n, hn⟩ : ∃ n, (LVA A).2 = n + 1 := ⟨(LVA A).2 - 1, by omega⟩
      rw [hn, nI_pred, nI_1]
    show Q ((sI m' 9 0).2 20 + 1) (sI m' 9 0)
    rw [e]
    exact hq.ok (m' := sI m' 9 0) hr (hg.q.tr (MQn.s9 0)) (by rw [sI_at]; rfl)
theorem m_levelOf {k : Nat} (h : RR (m.1 0) A) (hI : Inv A) (hk : k < aNk A) (hq : ∀ m', RR (m'.1 0) A → MGL m m' → Q (nI ((LVA A).1 k) - 1) m') : wp_X8_levelOf Q (nI k) m := by
  have n1 := hI.1
  unfold wp_X8_levelOf wp_X8_levelOf_0
  refine m_levels h hI (fun m' hr hw hg => ?_)
  have ek := hw.1 k (by omega)
  have vk : vp_in (nI k) 10 := vp_in_nI (by omega) (by omega)
  have go : wp_X8_levelOf_18 Q (nI k) m' := by
    refine ⟨vk, ?_⟩
    show Q (m'.1 18 (nI k).toNatClampNeg) m'
    rw [nI_clamp (by omega), ek.1]
    exact hq m' hr hg
  refine ⟨fun _ => go, fun _ => ⟨vk, ?_⟩⟩
  rw [nI_clamp (by omega), ek.1]
  refine ⟨fun z => ?_, fun _ => go⟩
  have c := (nI_m1 (by omega)).2.mp z
  have t := hq m' hr hg
  rw [c] at t
  exact t
theorem m_keyOf (h : RR (m.1 0) A) (hI : Inv A) (hq : QR Q A m (qKeyOf A x y)) : wp_X8_keyOf Q x y m := by
  have n1 := hI.1
  unfold wp_X8_keyOf wp_X8_keyOf_0
  refine m_isKey h hI (fun ck => ⟨fun _ => ?_, fun z => absurd z (by decide)⟩) (fun ck => ⟨fun z => absurd rfl z, fun _ => ?_⟩)
  · obtain ⟨k, hk, e, e2⟩ := isR_nI hI.1 ck
    rw [qKeyOf, if_pos ck, e2] at hq
    rw [e]
    have h' : RR ((sI m 9 0).1 0) A := h
    have ok : ∀ a, QR Q A m (0, a) → Q a (sI m 9 0) := fun a t => t.ok (m' := sI m 9 0) h (MQn.s9 0) (by rw [sI_at]; rfl)
    refine m_in (fun z => ⟨fun z => absurd z (by decide), fun _ => m_fails0 ⟨fun _ => ?_, fun z => absurd rfl z⟩⟩) (fun z => ⟨fun _ => ?_, fun z => absurd rfl z⟩)
    · obtain ⟨j, hj, ej⟩ := nI_of5 (n := 5) (by decide) z
      subst ej
      match j, hj with
      | 0, _ => exact ⟨fun _ => m_Wd h' hI hk (ok _ hq), fun z => absurd z (by decide), fun z => absurd z (by decide), fun z => absurd z (by decide)⟩
      | 1, _ => exact ⟨fun _ => m_Po h' hI hk (ok _ hq), fun z => absurd z (by decide), fun z => absurd z (by decide), fun z => absurd z (by decide)⟩
      | 2, _ => exact ⟨fun _ => m_Ik h' hI hk (ok _ hq), fun z => absurd z (by decide), fun z => absurd z (by decide), fun z => absurd z (by decide)⟩
      | 3, _ => exact ⟨fun z => absurd z (by decide), fun _ => m_levelOf h' hI hk (fun m' a b => QR.ok (show QR Q A m (0, nI ((LVA A).1 k) - 1) from hq) a ((MQn.s9 0).tr b.q) (by rw [b.2 9 (by decide), sI_at]; rfl)), fun z => absurd z (by decide), fun z => absurd z (by decide)⟩
      | 4, _ => exact ⟨fun z => absurd z (by decide), fun z => absurd z (by decide), fun _ => m_fitsOf h' hI hk (ok _ hq), fun z => absurd z (by decide)⟩
      | 5, _ => exact ⟨fun z => absurd z (by decide), fun z => absurd z (by decide), fun z => absurd z (by decide), fun _ => m_Co h' hI hk (ok _ hq)⟩
      | j + 6, h => exact absurd h (by omega)
    · have ne : ∀ j, j ≤ 5 → y ≠ nI j := fun j hj e => z (by rw [e]; exact nI_in5 (n := 5) (by decide) (by omega) hj)
      rw [if_neg (ne 0 (by omega)), if_neg (ne 1 (by omega)), if_neg (ne 2 (by omega)), if_neg (ne 3 (by omega)), if_neg (ne 4 (by omega)), if_neg (ne 5 (by omega))] at hq
      exact m_fails2 ⟨fun z => absurd z (by decide), fun _ => hq.bad (m' := sI m 9 2) h (MQn.s9 2) (by rw [sI_at]; rfl)⟩
  · rw [qKeyOf, if_neg ck] at hq
    exact m_fails1 ⟨fun z => absurd z (by decide), fun _ => hq.bad (m' := sI m 9 1) h (MQn.s9 1) (by rw [sI_at]; rfl)⟩
theorem m_lockOf (h : RR (m.1 0) A) (hI : Inv A) (hq : QR Q A m (qLockOf A x y)) : wp_X8_lockOf Q x y m := by
  have n1 := hI.1; have n2 := hI.2.1
  unfold wp_X8_lockOf wp_X8_lockOf_0
  refine m_isLock h hI (fun ck => ⟨fun _ => ?_, fun z => absurd z (by decide)⟩) (fun ck => ⟨fun z => absurd rfl z, fun _ => ?_⟩)
  · obtain ⟨l, hl, e, e2⟩ := isR_nI hI.2.1 ck
    rw [qLockOf, if_pos ck, e2] at hq
    rw [e]
    have h' : RR ((sI m 9 0).1 0) A := h
    have ok : ∀ a, QR Q A m (0, a) → Q a (sI m 9 0) := fun a t => t.ok (m' := sI m 9 0) h (MQn.s9 0) (by rw [sI_at]; rfl)
    refine m_in (fun z => ⟨fun z => absurd z (by decide), fun _ => m_fails0 ⟨fun _ => ?_, fun z => absurd rfl z⟩⟩) (fun z => ⟨fun _ => ?_, fun z => absurd rfl z⟩)
    · obtain ⟨j, hj, ej⟩ := nI_of5 (n := 3) (by decide) z
      subst ej
      match j, hj with
      | 0, _ => exact ⟨fun z => absurd z (by decide), fun _ => ⟨fun _ => m_Pn h' hI hl (ok _ hq), fun z => absurd z (by decide)⟩⟩
      | 1, _ => exact ⟨fun z => absurd z (by decide), fun _ => ⟨fun _ => m_Hk h' hI hl (ok _ hq), fun z => absurd z (by decide)⟩⟩
      | 2, _ =>
        refine ⟨fun _ => ?_, fun z => absurd (show nI 2 = (2 : Int32) by decide) z⟩
        refine cntloop (fun n a b => wp_X8_lockOf_61_loop Q n (nI l) a b (sI m 9 0)) (N := aNk A) (fun k => b01 (fit A k l)) (fun n => ⟨v0i, br_t ?_ (ok _ hq)⟩) (fun n i hi K => ⟨v0i, br_f ?_ (m_isFit h' hI hi hl ⟨fun c => ?_, fun c => ?_⟩)⟩)
        · show m.1 0 (0 : Int32).toNatClampNeg ≤ _
          rw [cn0, h.1]; exact nI_le (Nat.le_refl _) (by omega)
        · show ¬ m.1 0 (0 : Int32).toNatClampNeg ≤ _
          rw [cn0, h.1]; exact nI_ge hi (by omega)
        · rw [sm, b01_f (b01_0.mp c), Nat.add_zero] at K
          rintro _ rfl _ rfl
          rw [← nI_0, nI_add, nI_1, Nat.add_zero]; exact K
        · rw [sm, b01_t (Classical.not_not.mp fun z => c (b01_0.mpr z))] at K
          rintro _ rfl _ rfl
          rw [nI_1, nI_1]; exact K
      | 3, _ => exact ⟨fun z => absurd z (by decide), fun _ => ⟨fun z => absurd (show nI 3 = (3 : Int32) by decide) z, fun _ => m_Tm h' hI hl (ok _ hq)⟩⟩
      | j + 4, h => exact absurd h (by omega)
    · have ne : ∀ j, j ≤ 3 → y ≠ nI j := fun j hj e => z (by rw [e]; exact nI_in5 (n := 3) (by decide) (by omega) hj)
      rw [if_neg (ne 0 (by omega)), if_neg (ne 1 (by omega)), if_neg (ne 2 (by omega)), if_neg (ne 3 (by omega))] at hq
      exact m_fails2 ⟨fun z => absurd z (by decide), fun _ => hq.bad (m' := sI m 9 2) h (MQn.s9 2) (by rw [sI_at]; rfl)⟩
  · rw [qLockOf, if_neg ck] at hq
    exact m_fails1 ⟨fun z => absurd z (by decide), fun _ => hq.bad (m' := sI m 9 1) h (MQn.s9 1) (by rw [sI_at]; rfl)⟩
end ASK
