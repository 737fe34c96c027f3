/-! a run of commands -/
def oCmd (A : AL) (r : CTy) : OR := if r.2.1 = 98 then oBar A (nI r.2.2.1) (nI r.2.2.2.1) 1 else if r.2.1 = 99 then oCut A (nI r.2.2.1) (nI r.2.2.2.1) else if r.2.1 = 107 then oKey A (nI r.2.2.1) (nI r.2.2.2.1) else if r.2.1 = 108 then oLock A (nI r.2.2.1) else if r.2.1 = 112 then oPut A (nI r.2.2.1) (nI r.2.2.2.1) else if r.2.1 = 115 then oSlack A (nI r.2.2.1) else if r.2.1 = 116 then oTake A (nI r.2.2.1) else if r.2.1 = 117 then oBar A (nI r.2.2.1) (nI r.2.2.2.1) 0 else oWave A
def crnN (k : AL → (Int32 × Int32 × Nat) ⊕ AL) (j : Nat) : OR → (Int32 × Int32 × Nat) ⊕ AL
  | .inl x => .inl (x.1, x.2, j)
  | .inr y => k y.2
def crn (T : TT0) : Nat → Nat → AL → (Int32 × Int32 × Nat) ⊕ AL
  | 0, _, A => .inr A
  | d + 1, j, A => crnN (crn T d (j + 1)) j (oCmd A (cmd T (stp T j)))
theorem oCmd_inv {A B : AL} {r : CTy} {n : Int32} (hI : Inv A) (hF : InvF A) (h : oCmd A r = .inr (n, B)) : Inv B ∧ InvF B := by
  unfold oCmd at h
  split at h
  · exact oBar_inv hI (by omega) h
  split at h
  · exact oCut_inv hI h
  split at h
  · exact oKey_inv hI hF h
  split at h
  · exact oLock_inv hI hF h
  split at h
  · exact oPut_inv hI hF h
  split at h
  · exact oSlack_inv hI h
  split at h
  · exact oTake_inv hI hF h
  split at h
  · exact oBar_inv hI (by omega) h
  · exact oWave_inv hI hF h
theorem oCmd_ans {A B : AL} {r : CTy} {n : Int32} (hI : Inv A) (hF : InvF A) (h : oCmd A r = .inr (n, B)) : ∃ k, k < 2 ^ 30 ∧ n = nI k := by
  unfold oCmd at h
  split at h
  · exact oBar_ans hI (by omega) h
  split at h
  · exact oCut_ans hI h
  split at h
  · exact oKey_ans hI h
  split at h
  · exact oLock_ans hI h
  split at h
  · exact oPut_ans hI hF h
  split at h
  · exact oSlack_ans hI h
  split at h
  · exact oTake_ans hI h
  split at h
  · exact oBar_ans hI (by omega) h
  · exact oWave_ans hI hF h
abbrev ltr (l : Nat) : Prop := l = 98 ∨ l = 99 ∨ l = 107 ∨ l = 108 ∨ l = 112 ∨ l = 115 ∨ l = 116 ∨ l = 117 ∨ l = 119
theorem cB2_l {l a : Nat} {s : Nat × Nat} : (cB2 l a s).2.1 = l := by
  unfold cB2; split <;> rfl
theorem cB1_l {T : TT0} {l : Nat} {s : Nat × Nat} : (cB1 T l s).2.1 = l := by
  unfold cB1; split
  · rfl
  · exact cB2_l
theorem cS1_l {T : TT0} {l m : Nat} {s : Nat × Nat} : (cS1 T l m s).2.1 = l := by
  unfold cS1; split
  · rfl
  · split
    · exact cB2_l
    · rfl
theorem cN1_l {l : Nat} {s : Nat × Nat} : (cN1 l s).2.1 = l := by
  unfold cN1; split <;> rfl
theorem cmd_l {T : TT0} {p : Nat} (h : (cmd T p).1 = 1) : ltr (cmd T p).2.1 := by
  unfold cmd at h ⊢
  split at h
  · rename_i c; rw [if_pos c]; show ltr 119; decide
  rename_i c1; rw [if_neg c1]
  split at h
  · rename_i c; rw [if_pos c, cS1_l]; decide
  rename_i c2; rw [if_neg c2]
  split at h
  · rename_i c; rw [if_pos c, cS1_l]; decide
  rename_i c3; rw [if_neg c3]
  split at h
  · rename_i c; rw [if_pos c, cN1_l]; decide
  rename_i c4; rw [if_neg c4]
  split at h
  · rename_i c; rw [if_pos c, cB1_l]; decide
  rename_i c5; rw [if_neg c5]
  split at h
  · rename_i c; rw [if_pos c, cB1_l]; decide
  rename_i c6; rw [if_neg c6]
  split at h
  · rename_i c; rw [if_pos c, cB1_l]; decide
  rename_i c7; rw [if_neg c7]
  split at h
  · rename_i c; rw [if_pos c, cN1_l]; decide
  rename_i c8; rw [if_neg c8]
  split at h
  · rename_i c; rw [if_pos c, cN1_l]; decide
  · exact no01 h
section CARC
variable {A : AL} {c0 : Nat} {K : Nat → AL} {vKW vLg vLg2 vLg3 vLg4 vWv vPr vRf vTx vLn : OV} {vHs : HV} {r : CTy} {x1 x2 x3 : Int32}
theorem c_carry {Q : Int32 → OV → OV → OV → Prop} (h : CR vLg A) (hI : Inv A) (hF : InvF A) (hl : ltr r.2.1) (e4 : x1 = nI r.2.1) (e5 : r.2.1 ≠ 119 → x2 = nI r.2.2.1) (e6 : r.2.1 ≠ 119 → r.2.1 ≠ 108 → r.2.1 ≠ 116 → r.2.1 ≠ 115 → x3 = nI r.2.2.2.1) (hr : ∀ rr d, oCmd A r = .inl (rr, d) → ∀ a w, CR a A → Q (-1) a w (sI (sI vRf 0 rr) 1 d)) (hk : ∀ n B, oCmd A r = .inr (n, B) → ∀ a w, CR a B → Q n a w vRf) : wp_X7_carryOut Q x1 x2 x3 vKW vLg vLg2 vLg3 vLg4 vWv vPr vRf vTx vLn vHs := by
  unfold wp_X7_carryOut wp_X7_carryOut_0
  rw [e4, nI_toInt (by omega)]
  unfold oCmd at hr hk
  generalize r.2.1 = l at hl e4 e5 e6 hr hk
  refine ⟨fun z => ?_, fun z => ?_, fun z => ?_, fun z => absurd hl (by omega), fun z => absurd hl (by omega), fun z => absurd hl (by omega), fun z => absurd hl (by omega), fun z => absurd hl (by omega), fun z => absurd hl (by omega), fun z => absurd hl (by omega), fun z => ?_, fun z => ?_, fun z => absurd hl (by omega), fun z => absurd hl (by omega), fun z => absurd hl (by omega), fun z => ?_, fun z => absurd hl (by omega), fun z => absurd hl (by omega), fun z => ?_, fun z => ?_, fun z => ?_⟩
  · have el : l = 119 := by omega
    subst el
    exact c_wave207 h hI hF (fun rr d e w => hr rr d e _ w h) (fun n B e a w ha => hk n B e a w ha)
  · have el : l = 98 := by omega
    subst el
    rw [e5 (by decide), e6 (by decide) (by decide) (by decide) (by decide)]
    exact c_setBar (b := 1) h hI (by omega) (fun rr d e => hr rr d e _ _ h) (fun n B e v' hv => hk n B e v' _ hv)
  · have el : l = 99 := by omega
    subst el
    rw [e5 (by decide), e6 (by decide) (by decide) (by decide) (by decide)]
    exact c_cutKey h hI (fun rr d e => hr rr d e _ _ h) (fun n B e v' hv => hk n B e v' _ hv)
  · have el : l = 107 := by omega
    subst el
    rw [e5 (by decide), e6 (by decide) (by decide) (by decide) (by decide)]
    exact c_addKey h hI (fun rr d e => hr rr d e _ _ h) (fun n B e v' hv => hk n B e v' _ hv)
  · have el : l = 108 := by omega
    subst el
    rw [e5 (by decide)]
    exact c_addLock h hI (fun rr d e => hr rr d e _ _ h) (fun n B e v' hv => hk n B e v' _ hv)
  · have el : l = 112 := by omega
    subst el
    rw [e5 (by decide), e6 (by decide) (by decide) (by decide) (by decide)]
    exact c_putIn h hI (fun k l a b c d => Inv_put hI a b c d) (fun rr d e => hr rr d e _ _ h) (fun n B e v' hv => hk n B e v' _ hv)
  · have el : l = 115 := by omega
    subst el
    rw [e5 (by decide)]
    exact c_setSlack h hI (fun rr d e => hr rr d e _ _ h) (fun n B e v' hv => hk n B e v' _ hv)
  · have el : l = 116 := by omega
    subst el
    rw [e5 (by decide)]
    exact c_takeOut h hI (fun rr d e => hr rr d e _ _ h) (fun n B e v' hv => hk n B e v' _ hv)
  · have el : l = 117 := by omega
    subst el
    rw [e5 (by decide), e6 (by decide) (by decide) (by decide) (by decide)]
    exact c_setBar (b := 0) h hI (by omega) (fun rr d e => hr rr d e _ _ h) (fun n B e v' hv => hk n B e v' _ hv)
theorem c_cmdLoop {A0 : AL} {T : TT0} {c : Nat} {Q : Int32 → OV → OV → OV → OV → OV → OV → HV → Prop} {QX : String → OV → OV → OV → OV → OV → OV → HV → Prop} (hT : T.1 ≤ 60) (h2 : CR vLg2 A0) (hI0 : Inv A0) (hH : HR vHs c0 K) (hc : c ≤ 31) (hok : ∀ j, j < c → (cmd T (stp T j)).1 = 1 ∧ stp T j ≤ T.1) (hs : ∀ j, j + 1 < c → qv T (cmd T (stp T j)).2.2.2.2 = 59) : ∀ d j A vLg vWv vTx, j + d = c → CR vLg A → Inv A → InvF A → (d ≠ 0 → TXp vTx T (stp T j)) →
    (∀ rr dd i, crn T d j A = .inl (rr, dd, i) → ∀ a w t, CR a A0 → t.2 1 = 0 → QX uoE vKW a vLg2 w (rf3 vRf rr dd (nI i)) t vHs) → (∀ B, crn T d j A = .inr B → ∀ a w t e, CR a B → HR e (kc c0) (kK c0 K A0) → t.2 1 = 0 → Q (nI c) vKW a vLg2 w vRf t e) → wp_X7_commands_64_loop Q QX vLg3 vLg4 vPr vLn (d + 1) (nI c) (nI j) vKW vLg vLg2 vWv vRf vTx vHs := by
  intro d
  induction d with
  | zero =>
    intro j A vLg vWv vTx hj hA hI hF _ hr hk
    have hj : j = c := by omega
    subst hj
    refine br_t (nI_le (Nat.le_refl _) (by omega)) ?_
    rintro _ rfl
    exact x_settle_ok hH h2 hI0 (nI_ne (by omega)) (fun e he => hk A rfl _ _ _ e hA he sI_at)
  | succ d ih =>
    intro j A vLg vWv vTx hj hA hI hF ht hr hk
    obtain ⟨o1, o2⟩ := hok j (by omega)
    refine br_f (nI_ge (by omega) (by omega)) (c_readNext (ht (by omega)) o1 (fun w t e1 g => ?_))
    obtain ⟨a4, a5, a6⟩ := g
    have ec : crn T (d + 1) j A = crnN (crn T d (j + 1)) j (oCmd A (cmd T (stp T j))) := rfl
    rw [ec] at hr hk
    refine c_carry hA hI hF (cmd_l o1) a4 a5 a6 (fun rr dd e a w' ha => ?_) (fun n B e a w' ha => ?_)
    · rw [e] at hr
      refine ⟨fun z => absurd rfl z, fun _ => ?_⟩
      rintro _ rfl
      exact x_settle_bad h2 hI0 (fun a' ha' => hr rr dd j rfl a' _ _ ha' sI_at)
    · rw [e] at hr hk
      obtain ⟨k, k1, k2⟩ := oCmd_ans hI hF e
      obtain ⟨i1, i2⟩ := oCmd_inv hI hF e
      refine ⟨fun _ => ?_, fun z => absurd z (by rw [k2]; exact nI_ne (by omega))⟩
      rintro _ rfl
      rw [nI_1]
      refine ih (j + 1) B a w' w (by omega) ha i1 i2 (fun hd => ?_) hr hk
      have y := hs j (by omega)
      rw [if_pos y] at t
      exact t
end CARC
section CARM
variable {A : AL} {c0 : Nat} {r : CTy}
theorem m_carry {m : OV} {j : Nat} {Q : Int32 → OV → Prop} (h : RR (m.1 0) A) (hI : Inv A) (hF : InvF A) (hc : m.2 6 = nI c0) (hc8 : c0 ≤ 8) (hj : j ≤ 30) (td : TDc m j r) (hl : ltr r.2.1) (hr : ∀ rr d, oCmd A r = .inl (rr, d) → ∀ m', RFw m m' rr d → Q 0 m') (hk : ∀ n B, oCmd A r = .inr (n, B) → ∀ m', RR (m'.1 0) B → KOw m m' c0 → Q n m') : wp_X8_carries Q (nI (4 * j)) m := by
  obtain ⟨t4, t5, t6⟩ := td
  have v0 : vp_in (nI (4 * j)) 124 := vp_in_nI (by omega) (by omega)
  have v1 : vp_in (nI (4 * j) + (1 : Int32)) 124 := by rw [nI_1]; exact vp_in_nI (by omega) (by omega)
  have v2 : vp_in (nI (4 * j) + (2 : Int32)) 124 := by
    rw [show nI (4 * j) + (2 : Int32) = nI (4 * j + 2) from nI_add _ 2]; exact vp_in_nI (by omega) (by omega)
  have i1 : (nI (4 * j) + (1 : Int32)).toNatClampNeg = 4 * j + 1 := by rw [nI_1]; exact nI_clamp (by omega)
  have i2 : (nI (4 * j) + (2 : Int32)).toNatClampNeg = 4 * j + 2 := by
    rw [show nI (4 * j) + (2 : Int32) = nI (4 * j + 2) from nI_add _ 2]; exact nI_clamp (by omega)
  unfold wp_X8_carries wp_X8_carries_0
  refine ⟨v0, ?_⟩
  rw [nI_clamp (by omega), t4, nI_toInt (by omega), i1, i2]
  unfold oCmd at hr hk
  generalize r.2.1 = l at hl t4 t5 t6 hr hk
  refine ⟨fun z => absurd hl (by omega), fun z => ⟨v1, v2, ?_⟩, fun z => ⟨v1, v2, ?_⟩, fun z => absurd hl (by omega), fun z => absurd hl (by omega), fun z => absurd hl (by omega), fun z => absurd hl (by omega), fun z => absurd hl (by omega), fun z => absurd hl (by omega), fun z => absurd hl (by omega), fun z => ⟨v1, v2, ?_⟩, fun z => ⟨v1, ?_⟩, fun z => absurd hl (by omega), fun z => absurd hl (by omega), fun z => absurd hl (by omega), fun z => ⟨v1, v2, ?_⟩, fun z => absurd hl (by omega), fun z => absurd hl (by omega), fun z => ⟨v1, ?_⟩, fun z => ⟨v1, ?_⟩, fun z => ⟨v1, v2, ?_⟩, fun z => absurd hl (by omega), fun z => ?_⟩
  · have el : l = 98 := by omega
    subst el
    rw [t5 (by decide), t6 (by decide) (by decide) (by decide) (by decide)]
    exact m_bar (b := 1) h hI (by omega) hc hc8 (fun rr d e m' f => hr rr d e m' f.w) (fun n B e m' a b => hk n B e m' a b.w)
  · have el : l = 99 := by omega
    subst el
    rw [t5 (by decide), t6 (by decide) (by decide) (by decide) (by decide)]
    exact m_cut h hI hc hc8 (fun rr d e m' f => hr rr d e m' f.w) (fun n B e m' a b => hk n B e m' a b.w)
  · have el : l = 107 := by omega
    subst el
    rw [t5 (by decide), t6 (by decide) (by decide) (by decide) (by decide)]
    exact m_key h hI hc hc8 (fun rr d e m' f => hr rr d e m' f.w) (fun n B e m' a b => hk n B e m' a b.w)
  · have el : l = 108 := by omega
    subst el
    rw [t5 (by decide)]
    exact m_lock h hI hc hc8 (fun rr d e m' f => hr rr d e m' f.w) (fun n B e m' a b => hk n B e m' a b.w)
  · have el : l = 112 := by omega
    subst el
    rw [t5 (by decide), t6 (by decide) (by decide) (by decide) (by decide)]
    exact m_put h hI hc hc8 (fun rr d e m' f => hr rr d e m' f.w) (fun n B e m' a b => hk n B e m' a b.w)
  · have el : l = 115 := by omega
    subst el
    rw [i1, t5 (by decide)]
    exact m_slack h hI hc hc8 (fun rr d e m' f => hr rr d e m' f.w) (fun n B e m' a b => hk n B e m' a b.w)
  · have el : l = 116 := by omega
    subst el
    rw [t5 (by decide)]
    exact m_take h hI hc hc8 (fun rr d e m' f => hr rr d e m' f.w) (fun n B e m' a b => hk n B e m' a b.w)
  · have el : l = 117 := by omega
    subst el
    rw [t5 (by decide), t6 (by decide) (by decide) (by decide) (by decide)]
    exact m_bar (b := 0) h hI (by omega) hc hc8 (fun rr d e m' f => hr rr d e m' f.w) (fun n B e m' a b => hk n B e m' a b.w)
  · have el : l = 119 := by omega
    subst el
    exact m_wave h hI hF hc hc8 (fun rr d e m' f => hr rr d e m' f) (fun n B e m' a b => hk n B e m' a b)
/-- what a run of commands leaves as it was (in the loop) -/
def FCm (m m' : OV) : Prop := (∀ j, j ≠ 0 → j ≠ 18 → j ≠ 19 → m'.1 j = m.1 j) ∧ ∀ j, j ≠ 8 → j ≠ 9 → j ≠ 10 → j ≠ 11 → j ≠ 12 → j ≠ 20 → m'.2 j = m.2 j
theorem FCm.rfl' {m : OV} : FCm m m := ⟨fun _ _ _ _ => rfl, fun _ _ _ _ _ _ _ => rfl⟩
theorem FCm.tr {m m' m'' : OV} (h : FCm m m') (h' : FCm m' m'') : FCm m m'' := ⟨fun j a b c => (h'.1 j a b c).trans (h.1 j a b c), fun j a b c d e f => (h'.2 j a b c d e f).trans (h.2 j a b c d e f)⟩
theorem m_cmdLoop {m : OV} {T : TT0} {c : Nat} {Q : Int32 → OV → Prop} (hc6 : m.2 6 = nI c0) (hc8 : c0 ≤ 8) (h7 : m.2 7 = 1) (h23 : m.2 23 = nI c) (hc : c ≤ 31) (td : TDs m T c) (hok : ∀ j, j < c → (cmd T (stp T j)).1 = 1 ∧ stp T j ≤ T.1) : ∀ d j A got m', j + d = c → RR (m'.1 0) A → Inv A → InvF A → m'.2 8 = nI j → m'.2 9 = 0 → FCm m m' → m'.2 10 = m.2 10 → m'.2 11 = m.2 11 → m'.2 12 = m.2 12 →
    (∀ rr dd i, crn T d j A = .inl (rr, dd, i) → ∀ g m'', FCm m m'' → m''.2 9 = 1 → m''.2 10 = rr → m''.2 11 = dd → m''.2 12 = nI i → wp_X8_commands_118 Q g m'') → (∀ B, crn T d j A = .inr B → ∀ g m'', RR (m''.1 0) B → FCm m m'' → m''.2 9 = 0 → m''.2 10 = m.2 10 → m''.2 11 = m.2 11 → m''.2 12 = m.2 12 → Inv B → InvF B → wp_X8_commands_118 Q g m'') → wp_X8_commands_69_loop Q (d + 2) got m' := by
  intro d
  induction d with
  | zero =>
    intro j A got m' hj hA hI hF e8 e9 f e10 e11 e12 hr hk
    have hj : j = c := by omega
    subst hj
    refine br_t ?_ (hk A rfl got m' hA f e9 e10 e11 e12 hI hF)
    rw [f.2 23 (by decide) (by decide) (by decide) (by decide) (by decide) (by decide), h23, e8]
    exact nI_le (Nat.le_refl _) (by omega)
  | succ d ih =>
    intro j A got m' hj hA hI hF e8 e9 f e10 e11 e12 hr hk
    obtain ⟨o1, o2⟩ := hok j (by omega)
    have f23 : m'.2 23 = nI c := by rw [f.2 23 (by decide) (by decide) (by decide) (by decide) (by decide) (by decide), h23]
    have f6 : m'.2 6 = nI c0 := by rw [f.2 6 (by decide) (by decide) (by decide) (by decide) (by decide) (by decide), hc6]
    have f7 : m'.2 7 = 1 := by rw [f.2 7 (by decide) (by decide) (by decide) (by decide) (by decide) (by decide), h7]
    have n7 : ¬ m'.2 7 = 0 := by rw [f7]; decide
    have tdj : TDc m' j (cmd T (stp T j)) := by
      have t := td j (by omega)
      unfold TDc at t ⊢
      rw [f.1 22 (by decide) (by decide) (by decide)]
      exact t
    have ec : crn T (d + 1) j A = crnN (crn T d (j + 1)) j (oCmd A (cmd T (stp T j))) := rfl
    rw [ec] at hr hk
    have j30 : j ≤ 30 := by omega
    refine br_f (by rw [f23, e8]; exact nI_ge (by omega) (by omega)) ⟨fun z => absurd e9 z, fun _ => ?_⟩
    rw [e8, show (4 : Int32) = nI 4 by decide, pk_mul]
    refine m_carry hA hI hF f6 hc8 j30 tdj (cmd_l o1) (fun rr dd e m2 rf => ?_) (fun n B e m2 a ko => ?_)
    · rw [e] at hr
      obtain ⟨k1, k2, k3, k4, k5, k6⟩ := rf
      rw [if_neg n7, e8] at k5
      have f2 : FCm m m2 := f.tr ⟨fun i a b c => k1 i b c, fun i a b c d e g => k6 i b c d e g⟩
      refine ⟨fun _ => ?_, fun z => absurd z (by rw [k2]; decide)⟩
      have f23' : m2.2 23 = nI c := by rw [f2.2 23 (by decide) (by decide) (by decide) (by decide) (by decide) (by decide), h23]
      have e8' : m2.2 8 = nI j := by rw [k6 8 (by decide) (by decide) (by decide) (by decide) (by decide), e8]
      refine br_f (by rw [f23', e8']; exact nI_ge (by omega) (by omega)) ⟨fun _ => ?_, fun z => absurd z (by rw [k2]; decide)⟩
      exact hr rr dd j rfl _ m2 f2 k2 k3 k4 k5
    · rw [e] at hr hk
      obtain ⟨k1, k2, k3, k4, k5⟩ := ko
      obtain ⟨u1, u2⟩ := k2 n7
      obtain ⟨i1, i2⟩ := oCmd_inv hI hF e
      refine ⟨fun z => absurd k3 z, fun _ => ?_⟩
      rintro _ rfl
      have f2 : FCm m (sI m2 8 (m2.2 8 + 1)) := f.tr ⟨fun i a b c => by
        by_cases z : i = 1
        · rw [z]; exact u1
        · exact k4 i a z b c, fun i a b c d e g => by
        rw [sI_oth a]
        by_cases z : i = 6
        · rw [z]; exact u2
        · exact k5 i z b g⟩
      have e8' : (sI m2 8 (m2.2 8 + 1)).2 8 = nI (j + 1) := by
        rw [sI_at, k5 8 (by decide) (by decide) (by decide), e8, nI_1]
      refine ih (j + 1) B n _ (by omega) a i1 i2 e8' (by rw [sI_oth (by decide)]; exact k3) f2 ?_ ?_ ?_ hr hk
      · rw [sI_oth (by decide), k5 10 (by decide) (by decide) (by decide)]; exact e10
      · rw [sI_oth (by decide), k5 11 (by decide) (by decide) (by decide)]; exact e11
      · rw [sI_oth (by decide), k5 12 (by decide) (by decide) (by decide)]; exact e12
end CARM
