/-! the class's questions, by the law's helpers: the same codes and answers -/
def LQ (Q : Int32 → (Nat → Int64) → Prop) (q : QT) : Prop := ∀ v, (q.1 = 0 → v 0 = q.2.toInt64) → Q (nI q.1) v
def LQw (Q : Int32 → OV → (Nat → Int64) → Prop) (q : QT) : Prop := ∀ w v, (q.1 = 0 → v 0 = q.2.toInt64) → Q (nI q.1) w v
theorem upL0 {f : Nat → Int64} {x : Int64} : vp_updL f (0 : Int32).toNatClampNeg x 0 = x := if_pos (by decide)
theorem LQ.ok {Q : Int32 → (Nat → Int64) → Prop} {a : Int32} (t : LQ Q (0, a)) {vLa : Nat → Int64} : ∀ v : Nat → Int64, v = vp_updL vLa (0 : Int32).toNatClampNeg a.toInt64 → Q (0 : Int32) v := by
  rintro _ rfl
  exact t _ fun _ => upL0
theorem LQ.bad {Q : Int32 → (Nat → Int64) → Prop} {n : Nat} {a : Int32} (t : LQ Q (n + 1, a)) (v : Nat → Int64) : Q (nI (n + 1)) v := t v fun z => absurd z (Nat.succ_ne_zero n)
theorem LQw.ok {Q : Int32 → OV → (Nat → Int64) → Prop} {a : Int32} (t : LQw Q (0, a)) (w : OV) {vLa : Nat → Int64} : ∀ v : Nat → Int64, v = vp_updL vLa (0 : Int32).toNatClampNeg a.toInt64 → Q (0 : Int32) w v := by
  rintro _ rfl
  exact t w _ fun _ => upL0
theorem LQw.bad {Q : Int32 → OV → (Nat → Int64) → Prop} {n : Nat} {a : Int32} (t : LQw Q (n + 1, a)) (w : OV) (v : Nat → Int64) : Q (nI (n + 1)) w v := t w v fun z => absurd z (Nat.succ_ne_zero n)
theorem LQ.bo {Q : Int32 → (Nat → Int64) → Prop} {p : Nat} (hp : p ≤ 1) (t : LQ Q (0, nI p)) {vLa : Nat → Int64} : (nI p = 0 → (∀ v_5 : (Nat → Int64), v_5 = vp_updL vLa (0 : Int32).toNatClampNeg (0 : Int64) → (Q (0 : Int32) v_5))) ∧ (¬ (nI p = 0) → (∀ v_6 : (Nat → Int64), v_6 = vp_updL vLa (0 : Int32).toNatClampNeg (1 : Int64) → (Q (0 : Int32) v_6))) := by
  by_cases c : p = 0
  · subst c
    refine ⟨fun _ => ?_, fun z => absurd nI_0 z⟩
    rintro _ rfl
    refine t _ fun _ => upL0.trans ?_
    decide
  · have c1 : p = 1 := by omega
    subst c1
    refine ⟨fun z => absurd z (by decide), fun _ => ?_⟩
    rintro _ rfl
    refine t _ fun _ => upL0.trans ?_
    decide
theorem LQw.bo {Q : Int32 → OV → (Nat → Int64) → Prop} {p : Nat} (hp : p ≤ 1) (t : LQw Q (0, nI p)) (w : OV) {vLa : Nat → Int64} : (nI p = 0 → (∀ v_5 : (Nat → Int64), v_5 = vp_updL vLa (0 : Int32).toNatClampNeg (0 : Int64) → (Q (0 : Int32) w v_5))) ∧ (¬ (nI p = 0) → (∀ v_6 : (Nat → Int64), v_6 = vp_updL vLa (0 : Int32).toNatClampNeg (1 : Int64) → (Q (0 : Int32) w v_6))) := LQ.bo (Q := fun r v => Q r w v) hp (fun v hv => t w v hv)
theorem nar01 {p : Nat} (hp : p ≤ 1) : narrow .boolean (.int (nI p)) = .int (nI p) := by
  by_cases c : p = 0
  · subst c; rfl
  · have c1 : p = 1 := by omega
    subst c1; rfl
theorem ti_ne {y : Int32} {j : Nat} (h : y ≠ nI j) (hj : ((nI j).toInt = (j : Int))) {P : Prop} : y.toInt = (j : Int) → P := fun z => absurd (Int32.toInt_inj.mp (z.trans hj.symm)) h
section CLSQ
variable {A : AL} {c : Nat} {K : Nat → AL} {vKW vLg vLg2 vLg3 vLg4 vWv vPr vRf vTx vLn : OV} {vHs : HV} {x y : Int32} {vLa : Nat → Int64}
theorem x_reqKey {P : Prop} {QX : String → Prop} (h : CR vLg A) (hI : Inv A) (h1 : ∀ k, k < aNk A → x = nI k → x.toNatClampNeg = k → isK A x → P) (h0 : ¬ isK A x → QX "java/lang/IndexOutOfBoundsException") : wp_X7_requireKey P QX x vKW vLg vLg2 vLg3 vLg4 vWv vPr vRf vTx vLn vHs :=
  c_hasKey h hI (fun k a b c d => ⟨fun _ => h1 k a b c d, fun z => absurd z (by decide)⟩) (fun z => ⟨fun y => absurd rfl y, fun _ => h0 z⟩)
theorem x_reqLock {P : Prop} {QX : String → Prop} (h : CR vLg A) (hI : Inv A) (h1 : ∀ k, k < aNl A → x = nI k → x.toNatClampNeg = k → isL A x → P) (h0 : ¬ isL A x → QX "java/lang/IndexOutOfBoundsException") : wp_X7_requireLock P QX x vKW vLg vLg2 vLg3 vLg4 vWv vPr vRf vTx vLn vHs :=
  c_hasLock h hI (fun k a b c d => ⟨fun _ => h1 k a b c d, fun z => absurd z (by decide)⟩) (fun z => ⟨fun y => absurd rfl y, fun _ => h0 z⟩)
theorem L_keyOf {Q : Int32 → OV → (Nat → Int64) → Prop} (h : CR vLg A) (hI : Inv A) (hq : LQw Q (qKeyOf A x y)) : wp_L_keyOf Q x y vKW vLg vLg2 vLg3 vLg4 vWv vPr vRf vTx vLn vHs vLa := by
  have n1 := hI.1
  unfold wp_L_keyOf wp_L_keyOf_0 wp_X7_keyOf wp_X7_keyOf_0
  refine x_reqKey h hI (fun k hk e e2 ck => ?_) (fun ck => Or.inl ⟨rfl, ?_⟩)
  · rw [qKeyOf, if_pos ck, e2] at hq
    rw [e]
    have no : ∀ {P : Prop} {a b : Int}, a ≠ b → (a = b → P) := fun h z => absurd z h
    by_cases z : 0 ≤ y ∧ y ≤ (5 : Int32)
    · obtain ⟨j, hj, ej⟩ := nI_of5 (n := 5) (by decide) z
      subst ej
      match j, hj with
      | 0, _ => exact ⟨fun z => absurd z (by decide), fun _ => c_wardsOf h hI hk (LQw.ok hq _), no (by decide), no (by decide), no (by decide), no (by decide), no (by decide)⟩
      | 1, _ => exact ⟨fun z => absurd z (by decide), no (by decide), fun _ => c_porterWith h hI hk (LQw.ok hq _), no (by decide), no (by decide), no (by decide), no (by decide)⟩
      | 2, _ => exact ⟨fun z => absurd z (by decide), no (by decide), no (by decide), fun _ => c_lockWith h hI hk (LQw.ok hq _), no (by decide), no (by decide), no (by decide)⟩
      | 3, _ =>
        refine ⟨fun z => absurd z (by decide), no (by decide), no (by decide), no (by decide), fun _ => ?_, no (by decide), no (by decide)⟩
        refine c_findLevels h hI (fun w hw => c_levelAt (by omega) ?_)
        rw [(hw.1 k (by omega)).1]
        exact LQw.ok (show LQw Q (0, nI ((LVA A).1 k) - 1) from hq) w
      | 4, _ => exact ⟨fun z => absurd z (by decide), no (by decide), no (by decide), no (by decide), no (by decide), fun _ => c_countLocksFor h hI hk (LQw.ok hq _), no (by decide)⟩
      | 5, _ => exact ⟨fun z => absurd z (by decide), no (by decide), no (by decide), no (by decide), no (by decide), no (by decide), fun _ => c_cutCostOf h hI hk (LQw.ok hq _)⟩
      | j + 6, h => exact absurd h (by omega)
    · have ne : ∀ j, j ≤ 5 → y ≠ nI j := fun j hj e => z (by rw [e]; exact nI_in5 (n := 5) (by decide) (by omega) hj)
      rw [if_neg (ne 0 (by omega)), if_neg (ne 1 (by omega)), if_neg (ne 2 (by omega)), if_neg (ne 3 (by omega)), if_neg (ne 4 (by omega)), if_neg (ne 5 (by omega))] at hq
      exact ⟨fun _ => Or.inr ⟨rfl, LQw.bad hq _ _⟩, ti_ne (ne 0 (by omega)) (by decide), ti_ne (ne 1 (by omega)) (by decide), ti_ne (ne 2 (by omega)) (by decide), ti_ne (ne 3 (by omega)) (by decide), ti_ne (ne 4 (by omega)) (by decide), ti_ne (ne 5 (by omega)) (by decide)⟩
  · rw [qKeyOf, if_neg ck] at hq
    exact LQw.bad hq _ _
theorem L_lockOf {Q : Int32 → (Nat → Int64) → Prop} (h : CR vLg A) (hI : Inv A) (hq : LQ Q (qLockOf A x y)) : wp_L_lockOf Q x y vKW vLg vLg2 vLg3 vLg4 vWv vPr vRf vTx vLn vHs vLa := by
  unfold wp_L_lockOf wp_L_lockOf_0 wp_X7_lockOf wp_X7_lockOf_0
  refine x_reqLock h hI (fun k hk e e2 ck => ?_) (fun ck => Or.inl ⟨rfl, ?_⟩)
  · rw [qLockOf, if_pos ck, e2] at hq
    rw [e]
    have no : ∀ {P : Prop} {a b : Int}, a ≠ b → (a = b → P) := fun h z => absurd z h
    by_cases z : 0 ≤ y ∧ y ≤ (3 : Int32)
    · obtain ⟨j, hj, ej⟩ := nI_of5 (n := 3) (by decide) z
      subst ej
      match j, hj with
      | 0, _ => exact ⟨fun z => absurd z (by decide), fun _ => c_pinsOf h hI hk (LQ.ok hq), no (by decide), no (by decide), no (by decide)⟩
      | 1, _ => exact ⟨fun z => absurd z (by decide), no (by decide), fun _ => c_keyIn h hI hk (LQ.ok hq), no (by decide), no (by decide)⟩
      | 2, _ => exact ⟨fun z => absurd z (by decide), no (by decide), no (by decide), fun _ => c_countKeysFor h hI hk (LQ.ok hq), no (by decide)⟩
      | 3, _ => exact ⟨fun z => absurd z (by decide), no (by decide), no (by decide), no (by decide), fun _ => c_putCountOf h hI hk (LQ.ok hq)⟩
      | j + 4, h => exact absurd h (by omega)
    · have ne : ∀ j, j ≤ 3 → y ≠ nI j := fun j hj e => z (by rw [e]; exact nI_in5 (n := 3) (by decide) (by omega) hj)
      rw [if_neg (ne 0 (by omega)), if_neg (ne 1 (by omega)), if_neg (ne 2 (by omega)), if_neg (ne 3 (by omega))] at hq
      exact ⟨fun _ => Or.inr ⟨rfl, LQ.bad hq _⟩, ti_ne (ne 0 (by omega)) (by decide), ti_ne (ne 1 (by omega)) (by decide), ti_ne (ne 2 (by omega)) (by decide), ti_ne (ne 3 (by omega)) (by decide)⟩
  · rw [qLockOf, if_neg ck] at hq
    exact LQ.bad hq _
theorem L_fits {Q : Int32 → (Nat → Int64) → Prop} (h : CR vLg A) (hI : Inv A) (hq : LQ Q (qFits A x y)) : wp_L_fits Q x y vKW vLg vLg2 vLg3 vLg4 vWv vPr vRf vTx vLn vHs vLa := by
  unfold wp_L_fits wp_L_fits_0 wp_X7_fits wp_X7_fits_0
  refine x_reqKey h hI (fun k hk e e2 ck => x_reqLock h hI (fun l hl f f2 cl => ?_) (fun cl => ⟨rfl, ?_⟩)) (fun ck => ⟨rfl, ?_⟩)
  · rw [qFits, if_pos ⟨ck, cl⟩, e2, f2] at hq
    rw [e, f]
    exact c_isFit h hI hk hl ⟨nar01 b01_le, LQ.bo b01_le hq⟩
  · rw [qFits, if_neg fun z => cl z.2] at hq
    exact LQ.bad hq _
  · rw [qFits, if_neg fun z => ck z.1] at hq
    exact LQ.bad hq _
theorem L_isBarred {Q : Int32 → (Nat → Int64) → Prop} (h : CR vLg A) (hI : Inv A) (hq : LQ Q (qBarred A x y)) : wp_L_isBarred Q x y vKW vLg vLg2 vLg3 vLg4 vWv vPr vRf vTx vLn vHs vLa := by
  unfold wp_L_isBarred wp_L_isBarred_0 wp_X7_isBarred wp_X7_isBarred_0
  refine x_reqKey h hI (fun k hk e e2 ck => x_reqLock h hI (fun l hl f f2 cl => ?_) (fun cl => ⟨rfl, ?_⟩)) (fun ck => ⟨rfl, ?_⟩)
  · rw [qBarred, if_pos ⟨ck, cl⟩, e2, f2] at hq
    rw [e, f]
    have hb := hI.2.2.2.2.2.1 k l
    exact c_hasBar h hI hk hl ⟨nar01 hb, LQ.bo hb hq⟩
  · rw [qBarred, if_neg fun z => cl z.2] at hq
    exact LQ.bad hq _
  · rw [qBarred, if_neg fun z => ck z.1] at hq
    exact LQ.bad hq _
theorem L_costFor {Q : Int32 → (Nat → Int64) → Prop} (h : CR vLg A) (hI : Inv A) (hq : LQ Q (qCost A x y)) : wp_L_costFor Q x y vKW vLg vLg2 vLg3 vLg4 vWv vPr vRf vTx vLn vHs vLa := by
  unfold wp_L_costFor wp_L_costFor_0 wp_X7_costFor wp_X7_costFor_0
  refine x_reqKey h hI (fun k hk e e2 ck => x_reqLock h hI (fun l hl f f2 cl => ?_) (fun cl => ⟨rfl, ?_⟩)) (fun ck => ⟨rfl, ?_⟩)
  · rw [qCost, if_pos ⟨ck, cl⟩, e2, f2] at hq
    rw [e, f]
    exact c_costToFit h hI hk hl (LQ.ok hq)
  · rw [qCost, if_neg fun z => cl z.2] at hq
    exact LQ.bad hq _
  · rw [qCost, if_neg fun z => ck z.1] at hq
    exact LQ.bad hq _
theorem L_cheapest {Q : Int32 → (Nat → Int64) → Prop} (h : CR vLg A) (hI : Inv A) (hq : LQ Q (qCheap A x y)) : wp_L_cheapest Q x y vKW vLg vLg2 vLg3 vLg4 vWv vPr vRf vTx vLn vHs vLa := by
  have n1 := hI.1
  unfold wp_L_cheapest wp_L_cheapest_0 wp_X7_cheapest wp_X7_cheapest_0
  refine x_reqLock h hI (fun l hl f f2 cl => ?_) (fun cl => Or.inl ⟨rfl, ?_⟩)
  · rw [qCheap, if_pos cl, f2] at hq
    rw [f]
    refine c_keyByCost h hI hl (fun k hk hj hp => ⟨fun _ => ?_, fun z => absurd z (nI_ne (by omega))⟩) (fun hn => ⟨fun z => absurd rfl z, fun _ => Or.inr ⟨rfl, ?_⟩⟩)
    · rw [qFst_some (P := chP A l y) hk hp hj] at hq
      exact LQ.ok hq
    · rw [qFst_none hn] at hq
      exact LQ.bad hq _
  · rw [qCheap, if_neg cl] at hq
    exact LQ.bad hq _
theorem L_ranked {Q : Int32 → (Nat → Int64) → Prop} (h : CR vLg A) (hI : Inv A) (hq : LQ Q (qRank A x)) : wp_L_ranked Q x vKW vLg vLg2 vLg3 vLg4 vWv vPr vRf vTx vLn vHs vLa := by
  have n1 := hI.1
  unfold qRank at hq
  unfold wp_L_ranked wp_L_ranked_0 wp_X7_ranked wp_X7_ranked_0
  refine c_keyByRank h hI (fun k hk hj hp => ⟨fun _ => ?_, fun z => absurd z (nI_ne (by omega))⟩) (fun hn => ⟨fun z => absurd rfl z, fun _ => ⟨rfl, ?_⟩⟩)
  · rw [qFst_some (P := fun k => nI (sRk A k) = x) hk hp hj] at hq
    exact LQ.ok hq
  · rw [qFst_none hn] at hq
    exact LQ.bad hq _
theorem L_length {Q : Int32 → OV → (Nat → Int64) → Prop} (h : CR vLg A) (hI : Inv A) (hq : LQw Q (qLength A)) : wp_L_length Q vKW vLg vLg2 vLg3 vLg4 vWv vPr vRf vTx vLn vHs vLa := by
  unfold wp_L_length wp_L_length_0 wp_X7_length wp_X7_length_0
  refine c_findLevels h hI (fun w hw => ?_)
  have e3 := (lv_0 hw.2.2).1
  rw [← hw.2.1] at e3
  refine ⟨fun z => ?_, fun z => ?_⟩
  · have c : ¬ (LVA A).2 = 0 := fun y => z (e3.mpr y)
    rw [qLength, if_neg c] at hq
    obtain ⟨n, hn⟩ : ∃ n, (LVA A).2 = n + 1 := ⟨(LVA A).2 - 1, by omega⟩
    have le : (LVA A).2 ≤ 12 := hw.2.2
    have e : w.2 2 + 1 = nI (n + 1) := by
      rw [hw.2.1]
      show nI (LVA A).2 - 1 + 1 = _
      rw [hn, nI_pred, nI_1]
    rw [hn] at hq
    show (¬ w.2 2 + 1 = (-1 : Int32) → _) ∧ (w.2 2 + 1 = (-1 : Int32) → _)
    rw [e]
    exact ⟨fun _ => LQw.ok hq w, fun y => absurd y (nI_ne (by omega))⟩
  · rw [qLength, if_pos (e3.mp z)] at hq
    exact ⟨fun y => absurd rfl y, fun _ => ⟨rfl, LQw.bad hq _ _⟩⟩
theorem L_canBeOpen {Q : Int32 → (Nat → Int64) → Prop} (h : CR vLg A) (hI : Inv A) (hq : LQ Q (qCan A x)) : wp_L_canBeOpen Q x vKW vLg vLg2 vLg3 vLg4 vWv vPr vRf vTx vLn vHs vLa := by
  unfold wp_L_canBeOpen wp_L_canBeOpen_0 wp_X7_canBeOpen wp_X7_canBeOpen_0
  refine x_reqLock h hI (fun l hl f f2 cl => ?_) (fun cl => ⟨rfl, ?_⟩)
  · rw [qCan, if_pos cl, f2] at hq
    rw [f]
    have le : sKeys A l ≤ 10 * 1 := sm10 hI.1 fun i _ => b01_le
    have t := LQ.bo (vLa := vLa) b01_le hq
    refine c_countKeysFor h hI hl ⟨fun z => ⟨rfl, ?_⟩, fun z => ⟨rfl, ?_⟩⟩
    · have z' := (nI_leI (a := sKeys A l) (b := 0) (by omega) (by omega)).mp (by rw [nI_0]; exact z)
      rw [b01_f (show ¬ ¬ sKeys A l = 0 by omega)] at t
      exact t
    · have z' : ¬ sKeys A l = 0 := fun y => z (by rw [y]; decide)
      rw [b01_t z'] at t
      exact t
  · rw [qCan, if_neg cl] at hq
    exact LQ.bad hq _
theorem L_isNeeded {Q : Int32 → OV → (Nat → Int64) → Prop} (h : CR vLg A) (hI : Inv A) (hq : LQw Q (qNeed A x)) : wp_L_isNeeded Q x vKW vLg vLg2 vLg3 vLg4 vWv vPr vRf vTx vLn vHs vLa := by
  have n1 := hI.1
  unfold wp_L_isNeeded wp_L_isNeeded_0 wp_X7_isNeeded wp_X7_isNeeded_0
  refine x_reqKey h hI (fun k hk e e2 ck => ?_) (fun ck => ⟨rfl, ?_⟩)
  · rw [qNeed, if_pos ck, e2] at hq
    rw [e, ← nI_pred k]
    have b1 := mu_bd (A := A) (o1 := k + 1) (o2 := 0) hI
    have b2 := mu_bd (A := A) (o1 := 0) (o2 := 0) hI
    refine c_countMostWithout h hI (by omega) (fun s w' mx => ?_)
    rw [mu_of mx, m1_nI]
    refine c_countMostWithout h hI (by omega) (fun s2 w2 mx2 => ?_)
    rw [mu_of mx2]
    have t := LQw.bo (vLa := vLa) b01_le hq w2
    refine ⟨fun z => ⟨rfl, ?_⟩, fun z => ⟨rfl, ?_⟩⟩
    · have z' := (nI_leI (by omega) (by omega)).mp z
      rw [b01_f (show ¬ mu A (k + 1) 0 < mu A 0 0 by omega)] at t
      exact t
    · have z' : ¬ mu A 0 0 ≤ mu A (k + 1) 0 := fun y => z ((nI_leI (by omega) (by omega)).mpr y)
      rw [b01_t (show mu A (k + 1) 0 < mu A 0 0 by omega)] at t
      exact t
  · rw [qNeed, if_neg ck] at hq
    exact LQw.bad hq _ _
theorem L_porterOf {Q : Int32 → (Nat → Int64) → Prop} (h : CR vLg A) (hI : Inv A) (hq : LQ Q (qPort A x y)) : wp_L_porterOf Q x y vKW vLg vLg2 vLg3 vLg4 vWv vPr vRf vTx vLn vHs vLa := by
  unfold wp_L_porterOf wp_L_porterOf_0 wp_X7_porterOf wp_X7_porterOf_0
  refine c_isPorter (fun cp0 => ⟨fun _ => ?_, fun z => absurd z (by decide)⟩) (fun cp0 => ⟨fun z => absurd rfl z, fun _ => ⟨rfl, ?_⟩⟩)
  · obtain ⟨p, hp, e, e2⟩ := isP_nI cp0
    rw [qPort, if_pos cp0, e2] at hq
    rw [e]
    have no : ∀ {P : Prop} {a b : Int}, a ≠ b → (a = b → P) := fun h z => absurd z h
    by_cases z : 0 ≤ y ∧ y ≤ (2 : Int32)
    · obtain ⟨j, hj, ej⟩ := nI_of5 (n := 2) (by decide) z
      subst ej
      match j, hj with
      | 0, _ => exact ⟨fun z => absurd z (by decide), fun _ => c_countKeysOn h hI hp (LQ.ok hq), no (by decide), no (by decide)⟩
      | 1, _ => exact ⟨fun z => absurd z (by decide), no (by decide), fun _ => c_countKeysInLocks h hI hp (LQ.ok hq), no (by decide)⟩
      | 2, _ => exact ⟨fun z => absurd z (by decide), no (by decide), no (by decide), fun _ => c_sumCostsOn h hI hp (LQ.ok hq)⟩
      | j + 3, h => exact absurd h (by omega)
    · have ne : ∀ j, j ≤ 2 → y ≠ nI j := fun j hj e => z (by rw [e]; exact nI_in5 (n := 2) (by decide) (by omega) hj)
      rw [if_neg (ne 0 (by omega)), if_neg (ne 1 (by omega)), if_neg (ne 2 (by omega))] at hq
      exact ⟨fun _ => ⟨rfl, LQ.bad hq _⟩, ti_ne (ne 0 (by omega)) (by decide), ti_ne (ne 1 (by omega)) (by decide), ti_ne (ne 2 (by omega)) (by decide)⟩
  · rw [qPort, if_neg cp0] at hq
    exact LQ.bad hq _
theorem L_reason {Q : Int32 → (Nat → Int64) → Prop} (hq : LQ Q (qWhy (vRf.2 0) (vRf.2 1) (vRf.2 2) x)) : wp_L_reason Q x vKW vLg vLg2 vLg3 vLg4 vWv vPr vRf vTx vLn vHs vLa := by
  unfold wp_L_reason wp_L_reason_0 wp_X7_reason wp_X7_reason_0
  have bad : ¬ (0 ≤ x ∧ x ≤ (2 : Int32)) → Q (1 : Int32) vLa := fun z => by
    rw [qWhy, if_neg z] at hq
    exact LQ.bad hq _
  refine ⟨fun z => Or.inl ⟨rfl, bad fun y => absurd z (Int32.not_lt.mpr y.1)⟩, fun z => ⟨fun z2 => ?_, fun z2 => Or.inl ⟨rfl, bad fun y => z2 y.2⟩⟩⟩
  have cx : 0 ≤ x ∧ x ≤ (2 : Int32) := ⟨Int32.not_lt.mp z, z2⟩
  rw [qWhy, if_pos cx] at hq
  refine ⟨fun y => ?_, fun y => Or.inr ⟨rfl, ?_⟩⟩
  · rw [if_neg y] at hq
    have x0 : x.toInt = 0 ↔ x = 0 := ⟨fun t => Int32.toInt_inj.mp (t.trans (by decide)), fun t => by rw [t]; decide⟩
    have x1 : x.toInt = 1 ↔ x = 1 := ⟨fun t => Int32.toInt_inj.mp (t.trans (by decide)), fun t => by rw [t]; decide⟩
    refine ⟨fun t => ?_, fun t => ?_, fun t => ?_⟩
    · rw [if_pos (x0.mp t)] at hq
      exact LQ.ok hq
    · have t1 := x1.mp t
      rw [if_neg (show ¬ x = 0 by rw [t1]; decide), if_pos t1] at hq
      exact LQ.ok hq
    · rw [if_neg (fun u => t.1 (x0.mpr u)), if_neg (fun u => t.2 (x1.mpr u))] at hq
      exact LQ.ok hq
  · rw [if_pos y] at hq
    exact LQ.bad hq _
theorem L_account {Q : Int32 → (Nat → Int64) → Prop} {n : Nat} (h : CR vLg A) (hI : Inv A) (hc : vHs.1 = nI c) (hn : vTx.2 1 = nI n) (hq : LQ Q (qAcc A c n x)) : wp_L_account Q x vKW vLg vLg2 vLg3 vLg4 vWv vPr vRf vTx vLn vHs vLa := by
  unfold wp_L_account wp_L_account_0 wp_X7_account wp_X7_account_0
  obtain ⟨e0, e1, e2, e3, e4, e5, _⟩ := id h
  have no : ∀ {P : Prop} {a b : Int}, a ≠ b → (a = b → P) := fun h z => absurd z h
  by_cases z : 0 ≤ x ∧ x ≤ (11 : Int32)
  · obtain ⟨j, hj, ej⟩ := nI_of5 (n := 11) (by decide) z
    subst ej
    match j, hj with
    | 0, _ => exact ⟨fun z => absurd z (by decide), fun _ => by rw [e0]; exact LQ.ok hq, no (by decide), no (by decide), no (by decide), no (by decide), no (by decide), no (by decide), no (by decide), no (by decide), no (by decide), no (by decide), no (by decide)⟩
    | 1, _ => exact ⟨fun z => absurd z (by decide), no (by decide), fun _ => by rw [e1]; exact LQ.ok hq, no (by decide), no (by decide), no (by decide), no (by decide), no (by decide), no (by decide), no (by decide), no (by decide), no (by decide), no (by decide)⟩
    | 2, _ => exact ⟨fun z => absurd z (by decide), no (by decide), no (by decide), fun _ => c_countOpen h hI (LQ.ok hq), no (by decide), no (by decide), no (by decide), no (by decide), no (by decide), no (by decide), no (by decide), no (by decide), no (by decide)⟩
    | 3, _ => exact ⟨fun z => absurd z (by decide), no (by decide), no (by decide), no (by decide), fun _ => c_countFits h hI (LQ.ok hq), no (by decide), no (by decide), no (by decide), no (by decide), no (by decide), no (by decide), no (by decide), no (by decide)⟩
    | 4, _ => exact ⟨fun z => absurd z (by decide), no (by decide), no (by decide), no (by decide), no (by decide), fun _ => c_countBars h hI (LQ.ok hq), no (by decide), no (by decide), no (by decide), no (by decide), no (by decide), no (by decide), no (by decide)⟩
    | 5, _ => exact ⟨fun z => absurd z (by decide), no (by decide), no (by decide), no (by decide), no (by decide), no (by decide), fun _ => by rw [e2]; exact LQ.ok hq, no (by decide), no (by decide), no (by decide), no (by decide), no (by decide), no (by decide)⟩
    | 6, _ => exact ⟨fun z => absurd z (by decide), no (by decide), no (by decide), no (by decide), no (by decide), no (by decide), no (by decide), fun _ => by rw [e3]; exact LQ.ok hq, no (by decide), no (by decide), no (by decide), no (by decide), no (by decide)⟩
    | 7, _ => exact ⟨fun z => absurd z (by decide), no (by decide), no (by decide), no (by decide), no (by decide), no (by decide), no (by decide), no (by decide), fun _ => by rw [e4]; exact LQ.ok hq, no (by decide), no (by decide), no (by decide), no (by decide)⟩
    | 8, _ => exact ⟨fun z => absurd z (by decide), no (by decide), no (by decide), no (by decide), no (by decide), no (by decide), no (by decide), no (by decide), no (by decide), fun _ => by rw [e5]; exact LQ.ok hq, no (by decide), no (by decide), no (by decide)⟩
    | 9, _ => exact ⟨fun z => absurd z (by decide), no (by decide), no (by decide), no (by decide), no (by decide), no (by decide), no (by decide), no (by decide), no (by decide), no (by decide), fun _ => c_sumCosts h hI (LQ.ok hq), no (by decide), no (by decide)⟩
    | 10, _ => exact ⟨fun z => absurd z (by decide), no (by decide), no (by decide), no (by decide), no (by decide), no (by decide), no (by decide), no (by decide), no (by decide), no (by decide), no (by decide), fun _ => by rw [hc]; exact LQ.ok hq, no (by decide)⟩
    | 11, _ => exact ⟨fun z => absurd z (by decide), no (by decide), no (by decide), no (by decide), no (by decide), no (by decide), no (by decide), no (by decide), no (by decide), no (by decide), no (by decide), no (by decide), fun _ => by rw [hn]; exact LQ.ok hq⟩
    | j + 12, h => exact absurd h (by omega)
  · have ne : ∀ j, j ≤ 11 → x ≠ nI j := fun j hj e => z (by rw [e]; exact nI_in5 (n := 11) (by decide) (by omega) hj)
    rw [qAcc, if_neg (ne 0 (by omega)), if_neg (ne 1 (by omega)), if_neg (ne 2 (by omega)), if_neg (ne 3 (by omega)), if_neg (ne 4 (by omega)), if_neg (ne 5 (by omega)), if_neg (ne 6 (by omega)), if_neg (ne 7 (by omega)), if_neg (ne 8 (by omega)), if_neg (ne 9 (by omega)), if_neg (ne 10 (by omega)), if_neg (ne 11 (by omega))] at hq
    exact ⟨fun _ => ⟨rfl, LQ.bad hq _⟩, ti_ne (ne 0 (by omega)) (by decide), ti_ne (ne 1 (by omega)) (by decide), ti_ne (ne 2 (by omega)) (by decide), ti_ne (ne 3 (by omega)) (by decide), ti_ne (ne 4 (by omega)) (by decide), ti_ne (ne 5 (by omega)) (by decide), ti_ne (ne 6 (by omega)) (by decide), ti_ne (ne 7 (by omega)) (by decide), ti_ne (ne 8 (by omega)) (by decide), ti_ne (ne 9 (by omega)) (by decide), ti_ne (ne 10 (by omega)) (by decide), ti_ne (ne 11 (by omega)) (by decide)⟩
end CLSQ
