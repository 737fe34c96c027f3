/-! the reference's questions, the second half -/
/-- one more than the first place below n where P holds; 0: none -/
noncomputable def fst1 (P : Nat → Prop) : Nat → Nat
  | 0 => 0
  | n + 1 => if fst1 P n = 0 then @ite Nat (P n) (Classical.propDecidable _) (n + 1) 0 else fst1 P n
theorem fst1_none {P : Nat → Prop} : ∀ n, (∀ j, j < n → ¬ P j) → fst1 P n = 0 := by
  intro n
  induction n with
  | zero => intro _; rfl
  | succ n ih =>
    intro h
    rw [fst1, if_pos (ih fun j hj => h j (by omega))]
    exact if_neg (h n (by omega))
theorem fst1_some {P : Nat → Prop} {k : Nat} (hk : P k) (hj : ∀ j, j < k → ¬ P j) : ∀ n, k < n → fst1 P n = k + 1 := by
  intro n
  induction n with
  | zero => intro h; omega
  | succ n ih =>
    intro h
    by_cases c : k = n
    · subst c
      rw [fst1, if_pos (fst1_none k hj)]
      exact if_pos hk
    · have e := ih (by omega)
      rw [fst1, if_neg (by omega), e]
abbrev chP (A : AL) (l : Nat) (y : Int32) (k : Nat) : Prop := aBr A k l = 0 ∧ nI (sCh A l k) = y
noncomputable def qFst (bad : Nat) (P : Nat → Prop) (n : Nat) : QT := if fst1 P n = 0 then (bad, 0) else (0, nI (fst1 P n - 1))
theorem qFst_none {bad : Nat} {P : Nat → Prop} {n : Nat} (h : ∀ j, j < n → ¬ P j) : qFst bad P n = (bad, 0) := if_pos (fst1_none n h)
theorem qFst_some {bad : Nat} {P : Nat → Prop} {n k : Nat} (hn : k < n) (hk : P k) (hj : ∀ j, j < k → ¬ P j) : qFst bad P n = (0, nI k) := by
  have e := fst1_some hk hj n hn
  unfold qFst
  rw [if_neg (by omega), e, Nat.add_sub_cancel]
noncomputable def qCheap (A : AL) (x y : Int32) : QT := if isL A x then qFst 2 (chP A x.toNatClampNeg y) (aNk A) else (1, 0)
noncomputable def qRank (A : AL) (x : Int32) : QT := qFst 1 (fun k => nI (sRk A k) = x) (aNk A)
def qPort (A : AL) (x y : Int32) : QT := if isP x then (if y = nI 0 then (0, nI (sOn A x.toNatClampNeg)) else if y = nI 1 then (0, nI (sOnIn A x.toNatClampNeg)) else if y = nI 2 then (0, nI (sOnCo A x.toNatClampNeg)) else (1, 0)) else (1, 0)
def qAcc (A : AL) (c n : Nat) (x : Int32) : QT := if x = nI 0 then (0, nI (aNk A)) else if x = nI 1 then (0, nI (aNl A)) else if x = nI 2 then (0, nI (sOpen A)) else if x = nI 3 then (0, nI (sFits A)) else if x = nI 4 then (0, nI (sBars A)) else if x = nI 5 then (0, nI (aSl A)) else if x = nI 6 then (0, nI (aWv A)) else if x = nI 7 then (0, nI (aWs A)) else if x = nI 8 then (0, nI (aFl A)) else if x = nI 9 then (0, nI (sCo A)) else if x = nI 10 then (0, nI c) else if x = nI 11 then (0, nI n) else (1, 0)
def qWhy (r d i x : Int32) : QT := if 0 ≤ x ∧ x ≤ 2 then (if r = 0 then (2, 0) else (0, if x = 0 then r else if x = 1 then d else i)) else (1, 0)
section ASK2
variable {m : OV} {A : AL} {Q : Int32 → OV → Prop} {x y : Int32}
theorem m_cheapest (h : RR (m.1 0) A) (hI : Inv A) (hq : QR Q A m (qCheap A x y)) : wp_X8_cheapest Q x y m := by
  have n1 := hI.1; have n2 := hI.2.1
  unfold wp_X8_cheapest wp_X8_cheapest_0
  refine m_isLock h hI (fun ck => ⟨fun z => absurd z (by decide), fun _ => ?_⟩) (fun ck => ⟨fun _ => ?_, fun z => absurd rfl z⟩)
  · obtain ⟨l, hl, e, e2⟩ := isR_nI hI.2.1 ck
    rw [qCheap, if_pos ck, e2] at hq
    rw [e]
    refine m_fails0 ⟨fun _ => ?_, fun z => absurd rfl z⟩
    have h' : RR ((sI m 9 0).1 0) A := h
    have hg0 : MQn m (sI m 9 0) := MQn.s9 0
    have hc0 : (sI m 9 0).2 9 = nI 0 := by rw [sI_at]; rfl
    generalize sI m 9 0 = m0 at h' hg0 hc0
    have eb : ∀ k, k < aNk A → m0.1 0 (nI (77 + 10 * k + l)).toNatClampNeg = nI (aBr A k l) := fun k hk => by
      rw [nI_clamp (by omega)]
      exact h'.2.2.2.2.2.2.2.2.2 k (by omega) l (by omega)
    have b1 : ∀ k, nI (aBr A k l) = 1 ↔ ¬ aBr A k l = 0 := fun k => by
      have hb := hI.2.2.2.2.2.1 k l
      refine ⟨fun z y => ?_, fun z => ?_⟩
      · rw [y] at z; exact absurd z (by decide)
      · rw [show aBr A k l = 1 by omega]; rfl
    refine fndloop2 (fun n a => wp_X8_cheapest_24_loop Q n (nI l) y a m0) (chP A l y) (N := aNk A) (fun hn n => ⟨v0i, br_t ?_ ?_⟩) (fun n k hk hj K => ⟨v0i, br_f ?_ ?_⟩)
    · rw [cn0, h'.1]; exact nI_le (Nat.le_refl _) (by omega)
    · rintro _ rfl
      rw [qFst_none hn] at hq
      exact hq.bad (m' := sI m0 9 2) h' (hg0.tr (MQn.s9 2)) (by rw [sI_at]; rfl)
    · rw [cn0, h'.1]; exact nI_ge hk (by omega)
    · have no : ¬ chP A l y k → wp_X8_cheapest_150 Q (wp_X8_cheapest_24_loop Q n) (nI l) y (nI k) m0 := fun hn => by
        rintro _ rfl
        rw [nI_1]; exact K hn
      rw [ix_b]
      refine ⟨vi _ (by omega), ?_⟩
      rw [eb k hk]
      refine ⟨fun z => ?_, fun z => no fun t => (b1 k).mp z t.1⟩
      have bk : aBr A k l = 0 := Classical.byContradiction fun t => z ((b1 k).mpr t)
      refine cntloop (fun n' a b => wp_X8_cheapest_61_loop Q (wp_X8_cheapest_24_loop Q n) n' (nI l) y (nI k) a b m0) (N := aNk A) (cheapF A l k) (fun n' => ⟨v0i, br_t ?_ ⟨fun t => no fun u => t u.2, fun t => ?_⟩⟩) (fun n' i hi K' => ⟨v0i, br_f ?_ ?_⟩)
      · rw [cn0, h'.1]; exact nI_le (Nat.le_refl _) (by omega)
      · rw [qFst_some (P := chP A l y) hk ⟨bk, t⟩ hj] at hq
        exact hq.ok h' hg0 hc0
      · rw [cn0, h'.1]; exact nI_ge hi (by omega)
      · have k1 := costA_lt (l := l) hI (k := k); have k2 := costA_lt (l := l) hI (k := i)
        have sk : ¬ cheapB A l k i → wp_X8_cheapest_132 Q (wp_X8_cheapest_24_loop Q n) (wp_X8_cheapest_61_loop Q (wp_X8_cheapest_24_loop Q n) n') (nI l) y (nI k) (nI i) (nI (sm (cheapF A l k) i)) m0 := fun hn => by
          rw [sm, cheapF_f hn, Nat.add_zero] at K'
          rintro _ rfl
          rintro _ rfl
          rw [← nI_0, nI_add, nI_1, Nat.add_zero]; exact K'
        have yes : cheapB A l k i → wp_X8_cheapest_128 Q (wp_X8_cheapest_24_loop Q n) (wp_X8_cheapest_61_loop Q (wp_X8_cheapest_24_loop Q n) n') (nI l) y (nI k) (nI i) (nI (sm (cheapF A l k) i)) m0 := fun hn => by
          rw [sm, cheapF_t hn] at K'
          rintro _ rfl
          rintro _ rfl
          rw [nI_1, nI_1]; exact K'
        rw [ix_b]
        refine ⟨vi _ (by omega), ?_⟩
        rw [eb i hi]
        refine ⟨fun z => ?_, fun z => ?_⟩
        · have bi : aBr A i l = 0 := Classical.byContradiction fun t => z ((b1 i).mpr t)
          refine m_costOf h' hI hi hl (m_costOf h' hI hk hl ?_)
          rintro _ rfl
          by_cases c : costA A k l ≤ costA A i l
          · rw [pk_sub c]
            refine ⟨fun t => absurd t (nI_pos (by omega)), fun _ => ⟨fun t => sk fun u => t ?_, fun t => ⟨fun u => sk fun w => ?_, fun u => yes ⟨bi, Or.inr ⟨?_, ?_⟩⟩⟩⟩⟩
            · rcases u.2 with u | u
              · omega
              · rw [show costA A i l - costA A k l = 0 by omega]; exact nI_0
            · have u' := (nI_leI (by omega) (by omega)).mp u
              rcases w.2 with w | w
              · omega
              · omega
            · have t' := (nI_eq (a := costA A i l - costA A k l) (b := 0) (by omega) (by omega)).mp (by rw [nI_0]; exact t)
              omega
            · have u' : ¬ k ≤ i := fun w => u ((nI_leI (by omega) (by omega)).mpr w)
              omega
          · have hneg := pk_sneg (a := costA A i l) (b := costA A k l) (by omega) (by omega)
            exact ⟨fun _ => yes ⟨bi, Or.inl (by omega)⟩, fun t => absurd hneg t⟩
        · rw [sm, cheapF_f (fun u => (b1 i).mp z u.1), Nat.add_zero] at K'
          rintro _ rfl
          rw [nI_1]; exact K'
  · rw [qCheap, if_neg ck] at hq
    exact m_fails1 ⟨fun z => absurd z (by decide), fun _ => hq.bad (m' := sI m 9 1) h (MQn.s9 1) (by rw [sI_at]; rfl)⟩
theorem m_ranked (h : RR (m.1 0) A) (hI : Inv A) (hq : QR Q A m (qRank A x)) : wp_X8_ranked Q x m := by
  have n1 := hI.1; have n2 := hI.2.1
  unfold qRank at hq
  refine fndloop2 (fun n a => wp_X8_ranked_2_loop Q n x a m) (fun k => nI (sRk A k) = x) (N := aNk A) (fun hn n => ⟨v0i, br_t ?_ ?_⟩) (fun n k hk hj K => ⟨v0i, br_f ?_ ?_⟩)
  · rw [cn0, h.1]; exact nI_le (Nat.le_refl _) (by omega)
  · rintro _ rfl
    rw [qFst_none hn] at hq
    exact hq.bad (m' := sI m 9 1) h (MQn.s9 1) (by rw [sI_at]; rfl)
  · rw [cn0, h.1]; exact nI_ge hk (by omega)
  · refine cntloop (fun n' a b => wp_X8_ranked_17_loop Q (wp_X8_ranked_2_loop Q n) n' x (nI k) a b m) (N := aNk A) (rankF A k) (fun n' => ⟨v0i, br_t ?_ ⟨fun t => ?_, fun t => ?_⟩⟩) (fun n' i hi K' => ⟨v0i, br_f ?_ (m_isAhead h hI hi hk (fun z => ⟨fun c => absurd c (by decide), fun _ => ?_⟩) (fun z => ⟨fun _ => ?_, fun c => absurd rfl c⟩))⟩)
    · rw [cn0, h.1]; exact nI_le (Nat.le_refl _) (by omega)
    · rintro _ rfl
      rw [qFst_some (P := fun k => nI (sRk A k) = x) hk t hj] at hq
      exact hq.ok (m' := sI m 9 0) h (MQn.s9 0) (by rw [sI_at]; rfl)
    · rintro _ rfl
      rw [nI_1]; exact K t
    · rw [cn0, h.1]; exact nI_ge hi (by omega)
    · rw [sm, rankF_t z] at K'
      rintro _ rfl _ rfl
      rw [nI_1, nI_1]; exact K'
    · rw [sm, rankF_f z, Nat.add_zero] at K'
      rintro _ rfl _ rfl
      rw [← nI_0, nI_add, nI_1, Nat.add_zero]; exact K'
theorem m_porterOf (h : RR (m.1 0) A) (hI : Inv A) (hq : QR Q A m (qPort A x y)) : wp_X8_porterOf Q x y m := by
  have n1 := hI.1; have n2 := hI.2.1
  have bad : qPort A x y = (1, 0) → wp_X8_porterOf_23 Q x y m := fun e => by
    rw [e] at hq
    exact m_fails1 ⟨fun z => absurd z (by decide), fun _ => hq.bad (m' := sI m 9 1) h (MQn.s9 1) (by rw [sI_at]; rfl)⟩
  unfold wp_X8_porterOf wp_X8_porterOf_0
  refine m_in (fun c => ⟨fun z => absurd z (by decide), fun _ => ?_⟩) (fun c => ⟨fun _ => bad ?_, fun z => absurd rfl z⟩)
  · have cp0 : isP x := ⟨c.1, Int32.lt_of_le_of_lt c.2 (by decide)⟩
    obtain ⟨p, hp, e, e2⟩ := isP_nI cp0
    refine m_in (fun d => ⟨fun z => absurd z (by decide), fun _ => ?_⟩) (fun d => ⟨fun _ => bad ?_, fun z => absurd rfl z⟩)
    · rw [qPort, if_pos cp0, e2] at hq
      refine m_fails0 ⟨fun _ => ?_, fun z => absurd rfl z⟩
      have h' : RR ((sI m 9 0).1 0) A := h
      have hg0 : MQn m (sI m 9 0) := MQn.s9 0
      have hc0 : (sI m 9 0).2 9 = nI 0 := by rw [sI_at]; rfl
      generalize sI m 9 0 = m0 at h' hg0 hc0
      rw [e]
      have ok : ∀ a, QR Q A m (0, a) → Q a m0 := fun a t => t.ok h' hg0 hc0
      obtain ⟨j, hj, ej⟩ := nI_of5 (n := 2) (by decide) d
      subst ej
      have go : ∀ f : Nat → Nat, (∀ i, i < aNk A → ¬ aPo A i = p → f i = 0) → (∀ n' i, i < aNk A → aPo A i = p → wp_X8_porterOf_98 Q (wp_X8_porterOf_37_loop Q n') (nI p) (nI j) (nI i) (nI (sm f i)) (nI (f i)) m0 → ((¬ nI j = 0 → ((¬ nI j = (2 : Int32) → (wp_X8_ofKey (fun (r_13 : Int32) => ((r_13 < 0 → (wp_X8_porterOf_98 Q (wp_X8_porterOf_37_loop Q n') (nI p) (nI j) (nI i) (nI (sm f i)) (0 : Int32) m0)) ∧ (¬ (r_13 < 0) → (wp_X8_porterOf_98 Q (wp_X8_porterOf_37_loop Q n') (nI p) (nI j) (nI i) (nI (sm f i)) (1 : Int32) m0)))) (nI i) (2 : Int32) m0)) ∧ (nI j = (2 : Int32) → (wp_X8_ofKey (fun (r_16 : Int32) => (wp_X8_porterOf_98 Q (wp_X8_porterOf_37_loop Q n') (nI p) (nI j) (nI i) (nI (sm f i)) r_16 m0)) (nI i) (3 : Int32) m0)))) ∧ (nI j = 0 → (wp_X8_porterOf_98 Q (wp_X8_porterOf_37_loop Q n') (nI p) (nI j) (nI i) (nI (sm f i)) (1 : Int32) m0)))) → Q (nI (sm f (aNk A))) m0 → ∃ n, wp_X8_porterOf_37_loop Q n (nI p) (nI j) (0 : Int32) (0 : Int32) m0 := fun f h0 h1 hq' => by
        refine cntloop (fun n a b => wp_X8_porterOf_37_loop Q n (nI p) (nI j) a b m0) (N := aNk A) f (fun n => ⟨v0i, br_t ?_ hq'⟩) (fun n i hi K => ⟨v0i, br_f ?_ (m_Po h' hI hi ⟨fun c => ?_, fun c => ?_⟩)⟩)
        · rw [cn0, h'.1]; exact nI_le (Nat.le_refl _) (by omega)
        · rw [cn0, h'.1]; exact nI_ge hi (by omega)
        · rw [sm, h0 i hi (fun z => c ((po_eq hI hi hp).mpr z)), Nat.add_zero] at K
          rintro _ rfl
          rw [nI_1]; exact K
        · refine h1 n i hi ((po_eq hI hi hp).mp c) ?_
          rw [sm] at K
          rintro _ rfl
          rintro _ rfl
          rw [nI_add, nI_1]; exact K
      match j, hj with
      | 0, _ =>
        refine go (fun k => b01 (aPo A k = p)) (fun i _ c => b01_f c) (fun n' i hi c K => ⟨fun z => absurd nI_0 z, fun _ => ?_⟩) (ok _ hq)
        have K' : wp_X8_porterOf_98 Q (wp_X8_porterOf_37_loop Q n') (nI p) (nI 0) (nI i) (nI (sm (fun k => b01 (aPo A k = p)) i)) (nI (b01 (aPo A i = p))) m0 := K
        rw [b01_t c] at K'
        exact K'
      | 1, _ =>
        refine go (fun k => b01 (aPo A k = p ∧ ¬ aIk A k = 0)) (fun i _ c => b01_f fun z => c z.1) (fun n' i hi c K => ⟨fun _ => ⟨fun _ => ?_, fun z => absurd z (by decide)⟩, fun z => absurd z (by decide)⟩) (ok _ hq)
        have K' : wp_X8_porterOf_98 Q (wp_X8_porterOf_37_loop Q n') (nI p) (nI 1) (nI i) (nI (sm (fun k => b01 (aPo A k = p ∧ ¬ aIk A k = 0)) i)) (nI (b01 (aPo A i = p ∧ ¬ aIk A i = 0))) m0 := K
        refine m_Ik h' hI hi ⟨fun z => ?_, fun z => ?_⟩
        · rw [b01_f (fun u => u.2 ((nI_m1 (ik_lt hI hi)).2.mp z))] at K'
          exact K'
        · rw [b01_t ⟨c, fun u => z ((nI_m1 (ik_lt hI hi)).2.mpr u)⟩] at K'
          exact K'
      | 2, _ =>
        refine go (fun k => if aPo A k = p then aCo A k else 0) (fun i _ c => if_neg c) (fun n' i hi c K => ⟨fun _ => ⟨fun z => absurd (show nI 2 = (2 : Int32) by decide) z, fun _ => ?_⟩, fun z => absurd z (by decide)⟩) (ok _ hq)
        have K' : wp_X8_porterOf_98 Q (wp_X8_porterOf_37_loop Q n') (nI p) (nI 2) (nI i) (nI (sm (fun k => if aPo A k = p then aCo A k else 0) i)) (nI (if aPo A i = p then aCo A i else 0)) m0 := K
        rw [if_pos c] at K'
        exact m_Co h' hI hi K'
      | j + 3, h => exact absurd h (by omega)
    · have ne : ∀ j, j ≤ 2 → y ≠ nI j := fun j hj e => d (by rw [e]; exact nI_in5 (n := 2) (by decide) (by omega) hj)
      rw [qPort, if_pos cp0, if_neg (ne 0 (by omega)), if_neg (ne 1 (by omega)), if_neg (ne 2 (by omega))]
  · rw [qPort, if_neg fun z => c (isP_le z)]
theorem m_pairs {Q : Int32 → Prop} (h : RR (m.1 0) A) (hI : Inv A) (hq : Q (nI (sFits A))) : wp_X8_pairs Q m := by
  have n1 := hI.1
  refine cntloop (wp_X8_pairs_4_loop Q m) (N := aNk A) (sFor A) (fun n => ⟨v0i, br_t ?_ hq⟩) (fun n i hi K => ⟨v0i, br_f ?_ (m_fitsOf h hI hi ?_)⟩)
  · rw [cn0, h.1]; exact nI_le (Nat.le_refl _) (by omega)
  · rw [cn0, h.1]; exact nI_ge hi (by omega)
  · rw [sm] at K
    rintro _ rfl _ rfl
    rw [nI_add, nI_1]; exact K
theorem m_account {c n : Nat} (h : RR (m.1 0) A) (hI : Inv A) (h6 : m.2 6 = nI c) (h14 : m.2 14 = nI n) (hq : QR Q A m (qAcc A c n x)) : wp_X8_account Q x m := by
  unfold wp_X8_account wp_X8_account_0
  refine m_in (fun d => ⟨fun z => absurd z (by decide), fun _ => m_fails0 ⟨fun _ => ?_, fun z => absurd rfl z⟩⟩) (fun d => ⟨fun _ => ?_, fun z => absurd rfl z⟩)
  · have h' : RR ((sI m 9 0).1 0) A := h
    have hg0 : MQn m (sI m 9 0) := MQn.s9 0
    have hc0 : (sI m 9 0).2 9 = nI 0 := by rw [sI_at]; rfl
    have g6 : (sI m 9 0).2 6 = nI c := by rw [sI_oth (by decide)]; exact h6
    have g14 : (sI m 9 0).2 14 = nI n := by rw [sI_oth (by decide)]; exact h14
    generalize sI m 9 0 = m0 at h' hg0 hc0 g6 g14
    have ok : ∀ a, QR Q A m (0, a) → Q a m0 := fun a t => t.ok h' hg0 hc0
    obtain ⟨j, hj, ej⟩ := nI_of5 (n := 11) (by decide) d
    subst ej
    obtain ⟨e0, e1, e2, e3, e4, e5, e6, _⟩ := id h'
    have no : ∀ {P : Prop} {a b : Int}, a ≠ b → (a = b → P) := fun h z => absurd z h
    match j, hj with
    | 0, _ => exact ⟨fun z => absurd z (by decide), fun _ => ⟨vi 0 (by omega), by rw [show (nI 0).toNatClampNeg = 0 by decide, e0]; exact ok _ hq⟩, no (by decide), no (by decide), no (by decide), no (by decide), no (by decide), no (by decide), no (by decide), no (by decide), no (by decide), no (by decide)⟩
    | 1, _ => exact ⟨fun z => absurd z (by decide), no (by decide), fun _ => ⟨vi 1 (by omega), by rw [show (nI 1).toNatClampNeg = 1 by decide, e1]; exact ok _ hq⟩, no (by decide), no (by decide), no (by decide), no (by decide), no (by decide), no (by decide), no (by decide), no (by decide), no (by decide)⟩
    | 2, _ => exact ⟨fun z => absurd z (by decide), no (by decide), no (by decide), fun _ => m_openMany h' hI (ok _ hq), no (by decide), no (by decide), no (by decide), no (by decide), no (by decide), no (by decide), no (by decide), no (by decide)⟩
    | 3, _ => exact ⟨fun z => absurd z (by decide), no (by decide), no (by decide), no (by decide), fun _ => m_pairs h' hI (ok _ hq), no (by decide), no (by decide), no (by decide), no (by decide), no (by decide), no (by decide), no (by decide)⟩
    | 4, _ => exact ⟨fun z => absurd z (by decide), no (by decide), no (by decide), no (by decide), no (by decide), fun _ => m_barredMany h' hI (ok _ hq), no (by decide), no (by decide), no (by decide), no (by decide), no (by decide), no (by decide)⟩
    | 5, _ => exact ⟨fun z => absurd z (by decide), no (by decide), no (by decide), no (by decide), no (by decide), no (by decide), fun _ => ⟨v2i, by rw [cn2, e2]; exact ok _ hq⟩, no (by decide), no (by decide), no (by decide), no (by decide), no (by decide)⟩
    | 6, _ => exact ⟨fun z => absurd z (by decide), no (by decide), no (by decide), no (by decide), no (by decide), no (by decide), no (by decide), fun _ => ⟨vi 3 (by omega), by rw [show (3 : Int32).toNatClampNeg = 3 by decide, e3]; exact ok _ hq⟩, no (by decide), no (by decide), no (by decide), no (by decide)⟩
    | 7, _ => exact ⟨fun z => absurd z (by decide), no (by decide), no (by decide), no (by decide), no (by decide), no (by decide), no (by decide), no (by decide), fun _ => ⟨vi 4 (by omega), by rw [show (4 : Int32).toNatClampNeg = 4 by decide, e4]; exact ok _ hq⟩, no (by decide), no (by decide), no (by decide)⟩
    | 8, _ => exact ⟨fun z => absurd z (by decide), no (by decide), no (by decide), no (by decide), no (by decide), no (by decide), no (by decide), no (by decide), no (by decide), fun _ => ⟨v5i, by rw [cn5, e5]; exact ok _ hq⟩, no (by decide), no (by decide)⟩
    | 9, _ => exact ⟨fun z => absurd z (by decide), no (by decide), no (by decide), no (by decide), no (by decide), no (by decide), no (by decide), no (by decide), no (by decide), no (by decide), fun _ => ⟨v6i, by rw [cn6, e6]; exact ok _ hq⟩, no (by decide)⟩
    | 10, _ => exact ⟨fun z => absurd z (by decide), no (by decide), no (by decide), no (by decide), no (by decide), no (by decide), no (by decide), no (by decide), no (by decide), no (by decide), no (by decide), fun _ => by rw [g6]; exact ok _ hq⟩
    | 11, _ => exact ⟨fun _ => by rw [g14]; exact ok _ hq, no (by decide), no (by decide), no (by decide), no (by decide), no (by decide), no (by decide), no (by decide), no (by decide), no (by decide), no (by decide), no (by decide)⟩
    | j + 12, h => exact absurd h (by omega)
  · have ne : ∀ j, j ≤ 11 → x ≠ nI j := fun j hj e => d (by rw [e]; exact nI_in5 (n := 11) (by decide) (by omega) hj)
    rw [qAcc, if_neg (ne 0 (by omega)), if_neg (ne 1 (by omega)), if_neg (ne 2 (by omega)), if_neg (ne 3 (by omega)), if_neg (ne 4 (by omega)), if_neg (ne 5 (by omega)), if_neg (ne 6 (by omega)), if_neg (ne 7 (by omega)), if_neg (ne 8 (by omega)), if_neg (ne 9 (by omega)), if_neg (ne 10 (by omega)), if_neg (ne 11 (by omega))] at hq
    exact m_fails1 ⟨fun z => absurd z (by decide), fun _ => hq.bad (m' := sI m 9 1) h (MQn.s9 1) (by rw [sI_at]; rfl)⟩
theorem m_reason {r d i : Int32} (h : RR (m.1 0) A) (h10 : m.2 10 = r) (h11 : m.2 11 = d) (h12 : m.2 12 = i) (hq : QR Q A m (qWhy r d i x)) : wp_X8_reason Q x m := by
  unfold wp_X8_reason wp_X8_reason_0
  rw [h10]
  refine m_in (fun c => ⟨fun _ => ⟨fun z => ?_, fun z => ?_⟩, fun z => absurd z (by decide)⟩) (fun c => ⟨fun z => absurd rfl z, fun _ => ?_⟩)
  · rw [qWhy, if_pos c, if_neg z] at hq
    have g10 : (sI m 9 0).2 10 = r := by rw [sI_oth (by decide)]; exact h10
    have g11 : (sI m 9 0).2 11 = d := by rw [sI_oth (by decide)]; exact h11
    have g12 : (sI m 9 0).2 12 = i := by rw [sI_oth (by decide)]; exact h12
    have t := hq.ok (m' := sI m 9 0) h (MQn.s9 0) (by rw [sI_at]; rfl)
    refine m_fails0 ⟨fun _ => ⟨fun u => ⟨fun w => ?_, fun w => ?_⟩, fun u => ?_⟩, fun z => absurd rfl z⟩
    · rw [if_neg u, if_neg w] at t
      rw [g12]; exact t
    · rw [if_neg u, if_pos w] at t
      rw [g11]; exact t
    · rw [if_pos u] at t
      rw [g10]; exact t
  · rw [qWhy, if_pos c, if_pos z] at hq
    exact m_fails2 ⟨fun z => absurd z (by decide), fun _ => hq.bad (m' := sI m 9 2) h (MQn.s9 2) (by rw [sI_at]; rfl)⟩
  · rw [qWhy, if_neg c] at hq
    exact m_fails1 ⟨fun z => absurd z (by decide), fun _ => hq.bad (m' := sI m 9 1) h (MQn.s9 1) (by rw [sI_at]; rfl)⟩
end ASK2
