/-! the reference's questions about waves and largest matchings -/
noncomputable def mu (A : AL) (o1 o2 : Nat) : Nat := @dite Nat (∃ s, MX (gX A o1 o2) (aNk A) (aNl A) s) (Classical.propDecidable _) (fun h => Classical.choose h) (fun _ => 0)
theorem mu_of {A : AL} {o1 o2 s : Nat} (h : MX (gX A o1 o2) (aNk A) (aNl A) s) : s = mu A o1 o2 := by
  have e : ∃ s, MX (gX A o1 o2) (aNk A) (aNl A) s := ⟨s, h⟩
  have t : mu A o1 o2 = Classical.choose e := dif_pos e
  rw [t]
  exact h.un (Classical.choose_spec e)
theorem mu_le {A : AL} {o1 o2 s : Nat} (h : MX (gX A o1 o2) (aNk A) (aNl A) s) (hI : Inv A) : s ≤ 10 := by
  obtain ⟨M, _, e, _⟩ := h
  have : sz (aNl A) M ≤ aNl A := ct_n
  have := hI.2.1
  omega
theorem m1_nI : (-1 : Int32) = nI 0 - 1 := by decide
theorem mu_MX {A : AL} {o1 o2 : Nat} (hI : Inv A) : MX (gX A o1 o2) (aNk A) (aNl A) (mu A o1 o2) := by
  have h : MX (gX A o1 o2) (aNk A) (aNl A) (sz (aNl A) (wvE (gX A o1 o2) (aNk A) (aNl A) 11 emM).2) := wvE_MX hI.1 hI.2.1 em_MI
  rw [← mu_of h]; exact h
noncomputable def qNeed (A : AL) (x : Int32) : QT := if isK A x then (0, nI (b01 (mu A (x.toNatClampNeg + 1) 0 < mu A 0 0))) else (1, 0)
def qCan (A : AL) (x : Int32) : QT := if isL A x then (0, nI (b01 (¬ sKeys A x.toNatClampNeg = 0))) else (1, 0)
theorem sKeys_0 {A : AL} {l k : Nat} (hk : k < aNk A) (hf : fit A k l) : ¬ sKeys A l = 0 := by
  have e : sKeys A l = ct (fun k => fit A k l) (aNk A) := sm_congr fun i _ => cp_b01
  rw [e, ct_rm (P := fun k => fit A k l) hk hf]
  omega
theorem sKeys_ex {A : AL} {l : Nat} (h : ¬ sKeys A l = 0) : ∃ k, k < aNk A ∧ fit A k l :=
  Classical.byContradiction fun c => h (sm_zero fun i hi => b01_f fun z => c ⟨i, hi, z⟩)
theorem can_ex {A : AL} (hI : Inv A) {l s : Nat} (hl : l < aNl A) (hs : MX (gX A 0 0) (aNk A) (aNl A) s) (h : ¬ sKeys A l = 0) : ∃ k, k < aNk A ∧ fit A k l ∧ ∀ s', MX (gX A (k + 1) (l + 1)) (aNk A) (aNl A) s' → s' + 1 = s := by
  obtain ⟨k0, hk0, hf⟩ := sKeys_ex h
  obtain ⟨k, hk, g, hx⟩ := MX_can hs hl hk0 (gX_t.mpr ⟨hf, Nat.succ_ne_zero _, Nat.succ_ne_zero _⟩)
  refine ⟨k, hk, (gX_t.mp g).1, fun s' h' => hx (gX A (k + 1) (l + 1)) s' (fun a b _ _ => ?_) h'⟩
  rw [gX_t, gX_t]
  refine ⟨fun z => ⟨⟨z.1, Nat.succ_ne_zero _, Nat.succ_ne_zero _⟩, fun y => z.2.1 (by rw [y]), fun y => z.2.2 (by rw [y])⟩, fun z => ⟨z.1.1, fun y => z.2.1 (by omega), fun y => z.2.2 (by omega)⟩⟩
/-- a set of numbers as bits -/
noncomputable def orS (P : Nat → Prop) : Nat → Int32
  | 0 => 0
  | n + 1 => @ite Int32 (P n) (Classical.propDecidable _) (orS P n ||| ((1 : Int32) <<< (nI n &&& 31))) (orS P n)
theorem orS_t {P : Nat → Prop} {n : Nat} (h : P n) : orS P (n + 1) = (orS P n ||| ((1 : Int32) <<< (nI n &&& 31))) := @if_pos _ (Classical.propDecidable _) h _ _ _
theorem orS_f {P : Nat → Prop} {n : Nat} (h : ¬ P n) : orS P (n + 1) = orS P n := @if_neg _ (Classical.propDecidable _) h _ _ _
theorem orloop (W : Nat → Int32 → Int32 → Prop) {N : Nat} (P : Nat → Prop) (hx : ∀ n, W (n + 1) (orS P N) (nI N)) (hs : ∀ n i, i < N → W n (orS P (i + 1)) (nI (i + 1)) → W (n + 1) (orS P i) (nI i)) : ∃ n, W n 0 0 := by
  have key : ∀ d i, i + d = N → W (d + 1) (orS P i) (nI i) := fun d => by
    induction d with
    | zero =>
      intro i hi
      have hi : i = N := by omega
      subst hi
      exact hx 0
    | succ d ih => exact fun i hi => hs (d + 1) i (by omega) (ih (i + 1) (by omega))
  exact ⟨N + 1, key N 0 (by omega)⟩
abbrev MEnd (A : AL) : MT := (wvE (gA A) (aNk A) (aNl A) 11 (mO A)).2
abbrev LEnd (A : AL) : LVS := LV (gA A) (aNk A) (aNl A) (MEnd A)
def rchP (A : AL) (l : Nat) : Prop := ∃ k, k < aNk A ∧ ¬ (LEnd A).1 k = 0 ∧ fit A k l ∧ ¬ (MEnd A).2.1 l = k + 1
def unrP (A : AL) (k : Nat) : Prop := (LEnd A).1 k = 0
noncomputable def covS (A : AL) (isL0 : Prop) : Int32 := @ite Int32 isL0 (Classical.propDecidable _) (orS (rchP A) (aNl A)) (orS (unrP A) (aNk A))
theorem covS_t {A : AL} {p : Prop} (h : p) : covS A p = orS (rchP A) (aNl A) := @if_pos _ (Classical.propDecidable _) h _ _ _
theorem covS_f {A : AL} {p : Prop} (h : ¬ p) : covS A p = orS (unrP A) (aNk A) := @if_neg _ (Classical.propDecidable _) h _ _ _
section ASK3
variable {m : OV} {A : AL} {Q : Int32 → OV → Prop} {x y : Int32}
theorem m_spare {W : (Int32 → OV → Prop) → OV → Prop} (h : RR (m.1 0) A) (hI : Inv A) {r : Int32} (hW : ∀ (Q' : Int32 → OV → Prop) m1, RR (m1.1 0) A → (∀ m', MGA m1 m' → Q' r m') → W Q' m1) (hq : ∀ m', RR (m'.1 0) A → MGS m m' → Q r m') : wp_X8_copies (fun (v_2 : (Nat → Int32)) => (∀ v_3 : OV, v_3 = sF m 4 v_2 → (W (fun (r_4 : Int32) (v_5 : OV) => (wp_X8_copies (fun (v_6 : (Nat → Int32)) => (∀ v_7 : OV, v_7 = sF v_5 0 v_6 → (Q r_4 v_7))) 177 177 (0 : Int32) (0 : Int32) (v_5.1 4) (v_5.1 0))) v_3))) 177 177 (0 : Int32) (0 : Int32) (m.1 0) (m.1 4) := by
  have n1 := hI.1; have n2 := hI.2.1
  refine m_copies (a := 0) (b := 0) (by omega) (by omega) (by omega) (by omega) ?_
  rintro _ rfl
  refine hW _ _ (by rw [sF_oth (by decide)]; exact h) (fun m' hg => ?_)
  refine m_copies (a := 0) (b := 0) (by omega) (by omega) (by omega) (by omega) ?_
  rintro _ rfl
  refine hq _ ?_ ⟨fun j a b c d => ?_, fun j a => ?_⟩
  · rw [sF_row]
    refine RR_eq h n1 n2 (fun i hi => ?_)
    rw [pk_cpy_in (by omega) (by omega), hg.1 4 (by decide) (by decide) (by decide), sF_row, pk_cpy_in (by omega) (by omega), show 0 + (0 + (i - 0) - 0) = i by omega]
  · rw [sF_oth a, hg.1 j a c d, sF_oth b]
  · show m'.2 j = m.2 j
    rw [hg.2 j a]; rfl
theorem m_adds (h : RR (m.1 0) A) (hI : Inv A) (hF : InvF A) (hq : QR Q A m (0, nI (wv (gA A) (aNk A) (aNl A) (mO A)).1)) : wp_X8_adds Q m := by
  rintro _ rfl
  refine m_spare (m := sI m 9 0) (W := wp_X8_adds0) h hI (r := nI (wv (gA A) (aNk A) (aNl A) (mO A)).1) (fun Q' m1 hr hq' => m_adds0 hr hI hF (fun m' _ b => hq' m' b)) (fun m' a b => ?_)
  exact hq.ok a ((MQn.s9 0).tr b.q) (by rw [b.2 9 (by decide), sI_at]; rfl)
theorem m_waves (h : RR (m.1 0) A) (hI : Inv A) (hF : InvF A) (hq : QR Q A m (0, nI (wvE (gA A) (aNk A) (aNl A) 11 (mO A)).1)) : wp_X8_waves Q m := by
  rintro _ rfl
  refine m_spare (m := sI m 9 0) (W := wp_X8_comesToEnd) h hI (r := nI (wvE (gA A) (aNk A) (aNl A) 11 (mO A)).1) (fun Q' m1 hr hq' => m_comesToEnd (A := A) (M := mO A) (by rw [mS_mO]; exact hr) hI (MI_of hI hF) (fun m' _ b => hq' m' b)) (fun m' a b => ?_)
  exact hq.ok a ((MQn.s9 0).tr b.q) (by rw [b.2 9 (by decide), sI_at]; rfl)
theorem m_most0 (h : RR (m.1 0) A) (hI : Inv A) (hq : ∀ m', RR (m'.1 0) A → MGS m m' → Q (nI (mu A 0 0)) m') : wp_X8_mostWithout Q (-1 : Int32) (-1 : Int32) m := by
  rw [m1_nI]
  exact m_mostWithout h hI (by omega) (by omega) (fun s m' _ mx a b => by rw [mu_of mx]; exact hq m' a b)
theorem m_mostK {k : Nat} (h : RR (m.1 0) A) (hI : Inv A) (hk : k < aNk A) (hq : ∀ m', RR (m'.1 0) A → MGS m m' → Q (nI (mu A (k + 1) 0)) m') : wp_X8_mostWithout Q (nI k) (-1 : Int32) m := by
  have n1 := hI.1
  have t := m_mostWithout (Q := Q) h hI (o1 := k + 1) (o2 := 0) (by omega) (by omega) (fun s m' _ mx a b => by rw [mu_of mx]; exact hq m' a b)
  rw [nI_pred] at t
  rw [m1_nI]
  exact t
theorem m_mostKL {k l : Nat} (h : RR (m.1 0) A) (hI : Inv A) (hk : k < aNk A) (hl : l < aNl A) (hq : ∀ s m', MX (gX A (k + 1) (l + 1)) (aNk A) (aNl A) s → s ≤ 10 → RR (m'.1 0) A → MGS m m' → Q (nI s) m') : wp_X8_mostWithout Q (nI k) (nI l) m := by
  have n1 := hI.1; have n2 := hI.2.1
  have t := m_mostWithout (Q := Q) h hI (o1 := k + 1) (o2 := l + 1) (by omega) (by omega) (fun s m' a b c d => hq s m' b a c d)
  rw [nI_pred, nI_pred] at t
  exact t
theorem m_most (h : RR (m.1 0) A) (hI : Inv A) (hq : QR Q A m (0, nI (mu A 0 0))) : wp_X8_most Q m := by
  rintro _ rfl
  exact m_most0 (m := sI m 9 0) h hI (fun m' a b => hq.ok a ((MQn.s9 0).tr b.q) (by rw [b.2 9 (by decide), sI_at]; rfl))
theorem m_mostAgain (h : RR (m.1 0) A) (hI : Inv A) (hq : QR Q A m (0, nI (mu A 0 0))) : wp_X8_mostAgain Q m := by
  rintro _ rfl
  exact m_most0 (m := sI m 9 0) h hI (fun m' a b => hq.ok a ((MQn.s9 0).tr b.q) (by rw [b.2 9 (by decide), sI_at]; rfl))
theorem mu_bd {A : AL} {o1 o2 : Nat} (hI : Inv A) : mu A o1 o2 ≤ 10 := by
  by_cases e : ∃ s, MX (gX A o1 o2) (aNk A) (aNl A) s
  · obtain ⟨s, hs⟩ := e
    rw [← mu_of hs]; exact mu_le hs hI
  · have t : mu A o1 o2 = 0 := dif_neg e
    omega
theorem m_isNeeded (h : RR (m.1 0) A) (hI : Inv A) (hq : QR Q A m (qNeed A x)) : wp_X8_isNeeded Q x m := by
  unfold wp_X8_isNeeded wp_X8_isNeeded_0
  refine m_isKey h hI (fun ck => ⟨fun z => absurd z (by decide), fun _ => ?_⟩) (fun ck => ⟨fun _ => ?_, fun z => absurd rfl z⟩)
  · obtain ⟨k, hk, e, e2⟩ := isR_nI hI.1 ck
    rw [qNeed, if_pos ck, e2] at hq
    rw [e]
    have b1 := mu_bd (A := A) (o1 := k + 1) (o2 := 0) hI
    have b2 := mu_bd (A := A) (o1 := 0) (o2 := 0) hI
    refine m_fails0 ⟨fun z => absurd rfl z, fun _ => ?_⟩
    refine m_mostK (m := sI m 9 0) h hI hk (fun m1 a1 g1 => m_most0 a1 hI (fun m2 a2 g2 => ?_))
    have gg : MQn m m2 := (MQn.s9 0).tr (g1.q.tr g2.q)
    have hc : m2.2 9 = nI 0 := by rw [g2.2 9 (by decide), g1.2 9 (by decide), sI_at]; rfl
    refine ⟨fun z => ⟨rfl, ?_⟩, fun z => ⟨rfl, ?_⟩⟩
    · have z' := (nI_leI (by omega) (by omega)).mp z
      rw [b01_f (by omega)] at hq
      exact hq.ok a2 gg hc
    · have z' : ¬ mu A 0 0 ≤ mu A (k + 1) 0 := fun y => z ((nI_leI (by omega) (by omega)).mpr y)
      rw [b01_t (by omega)] at hq
      exact hq.ok a2 gg hc
  · rw [qNeed, if_neg ck] at hq
    exact m_fails1 ⟨fun _ => ⟨rfl, hq.bad (m' := sI m 9 1) h (MQn.s9 1) (by rw [sI_at]; rfl)⟩, fun z => absurd z (by decide)⟩
theorem m_canBeOpen (h : RR (m.1 0) A) (hI : Inv A) (hq : QR Q A m (qCan A x)) : wp_X8_canBeOpen Q x m := by
  have n1 := hI.1; have n2 := hI.2.1
  unfold wp_X8_canBeOpen wp_X8_canBeOpen_0
  refine m_isLock h hI (fun ck => ⟨fun z => absurd z (by decide), fun _ => ?_⟩) (fun ck => ⟨fun _ => ?_, fun z => absurd rfl z⟩)
  · obtain ⟨l, hl, e, e2⟩ := isR_nI hI.2.1 ck
    rw [qCan, if_pos ck, e2] at hq
    rw [e]
    refine m_fails0 ⟨fun _ => ?_, fun z => absurd rfl z⟩
    have mx := mu_MX (A := A) (o1 := 0) (o2 := 0) hI
    have b2 := mu_bd (A := A) (o1 := 0) (o2 := 0) hI
    refine m_most0 (m := sI m 9 0) h hI (fun m1 a1 g1 => ?_)
    have key : ∀ d i m', i + d = aNk A → RR (m'.1 0) A → MGS m1 m' → (∀ j, j < i → fit A j l → ∀ s', MX (gX A (j + 1) (l + 1)) (aNk A) (aNl A) s' → ¬ s' + 1 = mu A 0 0) → wp_X8_canBeOpen_31_loop Q (d + 1) (nI l) (nI (mu A 0 0)) (nI i) m' := fun d => by
      induction d with
      | zero =>
        intro i m' hi hr hg hj
        have hi : i = aNk A := by omega
        subst hi
        have e8 : m'.1 0 0 = nI (aNk A) := hr.1
        refine ⟨v0i, br_t (by rw [cn0, e8]; exact nI_le (Nat.le_refl _) (by omega)) ?_⟩
        have c : sKeys A l = 0 := Classical.byContradiction fun z => by
          obtain ⟨k, hk, hf, hx⟩ := can_ex hI hl mx z
          have hs' := mu_MX (A := A) (o1 := k + 1) (o2 := l + 1) hI
          exact hj k hk hf _ hs' (hx _ hs')
        rw [b01_f (fun z => z c)] at hq
        exact hq.ok hr ((MQn.s9 0).tr (g1.q.tr hg.q)) (by rw [hg.2 9 (by decide), g1.2 9 (by decide), sI_at]; rfl)
      | succ d ih =>
        intro i m' hi hr hg hj
        have hik : i < aNk A := by omega
        have e8 : m'.1 0 0 = nI (aNk A) := hr.1
        refine ⟨v0i, br_f (by rw [cn0, e8]; exact nI_ge hik (by omega)) (m_isFit hr hI hik hl ⟨fun c => ?_, fun c => ?_⟩)⟩
        · rintro _ rfl
          rw [nI_1]
          refine ih (i + 1) m' (by omega) hr hg (fun j hj' hf => ?_)
          by_cases z : j = i
          · rw [z] at hf; exact absurd hf (b01_0.mp c)
          · exact hj j (by omega) hf
        · have hf : fit A i l := Classical.not_not.mp fun z => c (b01_0.mpr z)
          refine m_mostKL hr hI hik hl (fun s m'' mxs sb a b => ?_)
          rw [nI_1]
          refine ⟨fun z => ?_, fun z => ?_⟩
          · rintro _ rfl
            rw [nI_1]
            refine ih (i + 1) m'' (by omega) a (hg.tr b) (fun j hj' hf' s' ms' => ?_)
            by_cases y : j = i
            · rw [y] at ms'
              rw [ms'.un mxs]
              exact fun w => z (by rw [w])
            · exact hj j (by omega) hf' s' ms'
          · rw [b01_t (show ¬ sKeys A l = 0 from sKeys_0 hik hf)] at hq
            exact hq.ok a ((MQn.s9 0).tr (g1.q.tr (hg.tr b).q)) (by rw [b.2 9 (by decide), hg.2 9 (by decide), g1.2 9 (by decide), sI_at]; rfl)
    exact ⟨aNk A + 1, key (aNk A) 0 m1 (by omega) a1 MGS.rfl' (fun j hj => absurd hj (Nat.not_lt_zero j))⟩
  · rw [qCan, if_neg ck] at hq
    exact m_fails1 ⟨fun z => absurd z (by decide), fun _ => hq.bad (m' := sI m 9 1) h (MQn.s9 1) (by rw [sI_at]; rfl)⟩
end ASK3
