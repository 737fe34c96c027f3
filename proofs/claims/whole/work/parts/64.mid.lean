/-! rows over a lodge in the midst of a way: of the mutual knowledge of keys and locks the ranges alone hold (made by gen_p64.py) -/
def InvW (A : AL) : Prop := aNk A ≤ 10 ∧ aNl A ≤ 10 ∧ aSl A ≤ 6 ∧ (∀ k, k < aNk A → aWd A k < 64 ∧ aPo A k < 4 ∧ aIk A k ≤ aNl A ∧ True) ∧ (∀ l, l < aNl A → aPn A l < 64 ∧ aHk A l ≤ aNk A ∧ True) ∧ (∀ k l, aBr A k l ≤ 1) ∧ ∀ k l, ¬ (k < aNk A ∧ l < aNl A) → aBr A k l = 0
section MIDC
variable {v : OV} {A : AL} {Q : Int32 → Prop}
theorem cw_hasKey_t (h : CR v A) (hI : InvW A) {k : Nat} (hk : k < aNk A) (hq : Q 1) : wp_X3_hasKey Q (nI k) v := by
  have h10 : aNk A ≤ 10 := hI.1
  refine br_f (nI_pos (by omega)) (br_f (by rw [h.1]; exact nI_ge hk (by omega)) (br_f (by rw [ten]; exact nI_ge (by omega) (by omega)) ⟨rfl, hq⟩))
theorem cw_hasKey_f (h : CR v A) (hI : InvW A) {x : Int32} (hx : ¬ ∃ k, k < aNk A ∧ x = nI k) (hq : Q 0) : wp_X3_hasKey Q x v := by
  have h10 : aNk A ≤ 10 := hI.1
  refine br_c (fun _ => ⟨rfl, hq⟩) (fun c1 => br_c (fun _ => ⟨rfl, hq⟩) (fun c2 => ?_))
  rcases pk_ix x (n := aNk A) (by omega) with c | c | c
  · exact absurd c c1
  · exact absurd (by rw [h.1]; exact c) c2
  · exact absurd c hx
theorem cw_hasLock_t (h : CR v A) (hI : InvW A) {l : Nat} (hl : l < aNl A) (hq : Q 1) : wp_X3_hasLock Q (nI l) v := by
  have h10 : aNl A ≤ 10 := hI.2.1
  refine br_f (nI_pos (by omega)) (br_f (by rw [h.2.1]; exact nI_ge hl (by omega)) (br_f (by rw [ten]; exact nI_ge (by omega) (by omega)) ⟨rfl, hq⟩))
theorem cw_keyIn (h : CR v A) (hI : InvW A) {l : Nat} (hl : l < aNl A) (hq : Q (nI (aHk A l) - 1)) : wp_X3_keyIn Q (nI l) v := by
  have h10 : aNl A ≤ 10 := hI.2.1
  refine cw_hasLock_t h hI hl (br_c (fun c => absurd c (by decide)) (fun _ => ⟨vp_in_nI (by omega) (by omega), ?_⟩))
  show Q _
  rw [nI_clamp (by omega), (h.2.2.2.2.2.2.2 l hl).2.1]; exact hq
theorem cw_isFit (h : CR v A) (hI : InvW A) {k l : Nat} (hk : k < aNk A) (hl : l < aNl A) (hq : Q (nI (b01 (fit A k l)))) : wp_X3_isFit Q (nI k) (nI l) v := by
  have h10 : aNl A ≤ 10 := hI.2.1
  have h11 : aNk A ≤ 10 := hI.1
  have hw := (hI.2.2.2.1 k hk).1
  have hp := (hI.2.2.2.2.1 l hl).1
  obtain ⟨e, he⟩ := tb_lk _ hp _ hw
  obtain ⟨b1, b2⟩ := bm_ok (A := A) (k := k) (fun l => hI.2.2.2.2.2.1 k l)
  have t := tb_bit l (by omega) _ b1
  rw [b2 l (by omega)] at t
  have hck := h.2.2.2.2.2.2.1 k hk
  have hcl := h.2.2.2.2.2.2.2 l hl
  have p1 := pop_le (aWd A k); have p2 := pop_le (aPn A l); have hs := hI.2.2.1
  -- the end, by the two answers before
  have fin : ∀ (x3 s0 : Int32), (x3 = 0 → ¬ fit A k l) → (s0 = 0 → ¬ fit A k l) → (¬ x3 = 0 → ¬ s0 = 0 → aBr A k l = 0 → fit A k l) → wp_X3_isFit_73 Q v (nI k) (nI l) x3 s0 := fun x3 s0 g1 g2 g3 => by
    have no : ¬ fit A k l → wp_X3_isFit_101 Q v := fun hn => by
      rw [b01, if_neg hn] at hq; exact ⟨rfl, hq⟩
    refine br_c (fun c => no (g1 c)) (fun c => br_c (fun c2 => no (g2 c2)) (fun c2 => ⟨vp_in_nI (by omega) (by omega), ?_⟩))
    rw [nI_clamp (by omega), hck.2.2.1]
    refine ⟨fun c3 => no (fun hf => c3 (t.mpr hf.2.2)), fun c3 => ?_⟩
    have hf := g3 c c2 (t.mp c3)
    rw [b01, if_pos hf] at hq; exact ⟨rfl, hq⟩
  have mid : ∀ s0 : Int32, (s0 = 0 ↔ ¬ lk (aPn A l) (aWd A k) = 0) → wp_X3_isFit_41 Q v (nI k) (nI l) s0 := fun s0 g => by
    refine ⟨vp_in_nI (by omega) (by omega), ?_⟩
    rw [nI_clamp (show k < 2 ^ 31 by omega), hck.1]
    refine c_bitCountN (by omega) ⟨vp_in_nI (by omega) (by omega), ?_⟩
    rw [nI_clamp (by omega), hcl.1]
    refine c_bitCountN (by omega) ?_
    rw [h.2.2.1, nI_add]
    refine ⟨fun c => ?_, fun c => ?_⟩
    · have c' := (nI_ltI (by omega) (by omega)).mp c
      exact fin _ _ (fun e0 hf => g.mp e0 hf.1) (fun _ hf => absurd hf.2.1 (by omega)) (fun _ e0 => absurd rfl e0)
    · have c' : ¬ _ < _ := fun z => c ((nI_ltI (by omega) (by omega)).mpr z)
      exact fin _ _ (fun e0 hf => g.mp e0 hf.1) (fun e0 => absurd e0 (by decide)) (fun e0 _ hb => ⟨Classical.not_not.mp (fun z => e0 (g.mpr z)), by omega, hb⟩)
  refine cw_hasKey_t h hI hk (br_c (fun c => absurd c (by decide)) (fun _ => cw_hasLock_t h hI hl ⟨fun _ => ⟨vp_in_nI (by omega) (by omega), vp_in_nI (by omega) (by omega), ?_⟩, fun c => absurd c (by decide)⟩))
  rw [nI_clamp (by omega), nI_clamp (by omega), hck.1, hcl.1, e]
  have z : nI (lk (aPn A l) (aWd A k)) = 0 ↔ lk (aPn A l) (aWd A k) = 0 := by
    rw [← nI_0]; exact nI_eq (by omega) (by omega)
  refine ⟨fun c => mid 0 ⟨fun _ hh => c (z.mpr hh), fun _ => rfl⟩, fun c => mid 1 ⟨fun hh => absurd hh (by decide), fun hh => absurd (z.mp c) hh⟩⟩
end MIDC
theorem cw_place {v : OV} {A : AL} {Q : OV → Prop} (h : CR v A) (hI : InvW A) {k l : Nat} (hk : k < aNk A) (hl : l < aNl A) (hq : ∀ v', CR v' (aPut A k l) → Q v') : wp_X3_place Q (nI k) (nI l) v := by
  have n1 := hI.1; have n2 := hI.2.1
  refine cw_hasKey_t h hI hk (br_c (fun c => absurd c (by decide)) (fun _ => cw_hasLock_t h hI hl (br_c (fun c => absurd c (by decide)) (fun _ => ⟨vp_in_nI (by omega) (by omega), ?_⟩))))
  rintro _ rfl
  refine ⟨vp_in_nI (by omega) (by omega), ?_⟩
  rintro _ rfl
  refine ⟨vp_in_nI (by omega) (by omega), vp_in_nI (by omega) (by omega), ?_⟩
  rintro _ rfl
  rw [nI_clamp (show k < 2 ^ 31 by omega), nI_clamp (show l < 2 ^ 31 by omega)]
  refine hq _ ?_
  have e1 : nI l = nI (l + 1) - 1 := (nI_pred l).symm
  have e2 : nI k = nI (k + 1) - 1 := (nI_pred k).symm
  have h1 : CR (sA (sA v 4 k (nI l)) 6 l (nI k)) (aS (aS A 3 k (l + 1)) 6 l (k + 1)) := by
    rw [e1, e2]; exact CR_s6 (CR_s4 h k (l + 1)) l (k + 1)
  have e3 : (sA (sA v 4 k (nI l)) 6 l (nI k)).1 7 l + 1 = nI (aTm A l + 1) := by
    have := (h.2.2.2.2.2.2.2 l hl).2.2
    simp [sA, this, nI_1]
  rw [e3]
  exact CR_s7 h1 l (aTm A l + 1)
section MIDM
variable {m : OV} {A : AL} {Q : Int32 → Prop}
theorem mw_Wd (h : RR (m.1 0) A) (hI : InvW A) {k : Nat} (hk : k < aNk A) (hq : Q (nI (aWd A k))) : wp_X8_ofKey Q (nI k) (0 : Int32) m := by
  have n1 := hI.1
  show vp_in (((7 : Int32) + ((4 : Int32) * nI k)) + (0 : Int32)) 177 ∧ Q (m.1 0 (((7 : Int32) + ((4 : Int32) * nI k)) + (0 : Int32)).toNatClampNeg)
  rw [ix_k0]
  refine ⟨vi _ (by omega), ?_⟩
  rw [nI_clamp (by omega), (h.2.2.2.2.2.2.2.1 k hk).1]; exact hq
theorem mw_Pn (h : RR (m.1 0) A) (hI : InvW A) {l : Nat} (hl : l < aNl A) (hq : Q (nI (aPn A l))) : wp_X8_ofLock Q (nI l) (0 : Int32) m := by
  have n1 := hI.2.1
  show vp_in (((47 : Int32) + ((3 : Int32) * nI l)) + (0 : Int32)) 177 ∧ Q (m.1 0 (((47 : Int32) + ((3 : Int32) * nI l)) + (0 : Int32)).toNatClampNeg)
  rw [ix_l0]
  refine ⟨vi _ (by omega), ?_⟩
  rw [nI_clamp (by omega), (h.2.2.2.2.2.2.2.2.1 l hl).1]; exact hq
theorem mw_Hk (h : RR (m.1 0) A) (hI : InvW A) {l : Nat} (hl : l < aNl A) (hq : Q (nI (aHk A l) - 1)) : wp_X8_ofLock Q (nI l) (1 : Int32) m := by
  have n1 := hI.2.1
  show vp_in (((47 : Int32) + ((3 : Int32) * nI l)) + (1 : Int32)) 177 ∧ Q (m.1 0 (((47 : Int32) + ((3 : Int32) * nI l)) + (1 : Int32)).toNatClampNeg)
  rw [ix_l1]
  refine ⟨vi _ (by omega), ?_⟩
  rw [nI_clamp (by omega), (h.2.2.2.2.2.2.2.2.1 l hl).2.1]; exact hq
theorem mw_lacks (h : RR (m.1 0) A) (hI : InvW A) {k l : Nat} (hk : k < aNk A) (hl : l < aNl A) (hq : Q (nI (pop (lk (aPn A l) (aWd A k))))) : wp_X8_lacks Q (nI k) (nI l) m := by
  obtain ⟨e, he⟩ := tb_lk _ (hI.2.2.2.2.1 l hl).1 _ (hI.2.2.2.1 k hk).1
  unfold wp_X8_lacks wp_X8_lacks_0
  refine mw_Pn h hI hl (mw_Wd h hI hk ?_)
  rw [e]
  exact m_many he hq
theorem mw_isFit (h : RR (m.1 0) A) (hI : InvW A) {k l : Nat} (hk : k < aNk A) (hl : l < aNl A) (hq : Q (nI (b01 (fit A k l)))) : wp_X8_isFit Q (nI k) (nI l) m := by
  have n1 := hI.1; have n2 := hI.2.1
  have hw := (hI.2.2.2.1 k hk).1
  have hp := (hI.2.2.2.2.1 l hl).1
  have hb := hI.2.2.2.2.2.1 k l
  obtain ⟨e, he⟩ := tb_lk _ hp _ hw
  have p1 := pop_le (aWd A k); have p2 := pop_le (aPn A l); have hs := hI.2.2.1; have p3 := pop_le (lk (aPn A l) (aWd A k))
  have no : ¬ fit A k l → wp_X8_isFit_58 Q m := fun hn => by
    rw [b01_f hn] at hq; exact ⟨rfl, hq⟩
  unfold wp_X8_isFit wp_X8_isFit_0
  refine mw_lacks h hI hk hl ⟨fun c => no fun z => c ?_, fun c => mw_Wd h hI hk (m_many hw (mw_Pn h hI hl (m_many hp ⟨v2i, ?_⟩)))⟩
  · rw [(tb_pop0 _ he).mpr z.1]; rfl
  have c' : lk (aPn A l) (aWd A k) = 0 := (tb_pop0 _ he).mp ((nI_eq (by omega) (by omega)).mp (by rw [nI_0]; exact c))
  rw [cn2, h.2.2.1, nI_add]
  refine ⟨fun d => no fun z => ?_, fun d => ?_⟩
  · have d' := (nI_ltI (by omega) (by omega)).mp d
    exact absurd z.2.1 (by omega)
  · have d' : ¬ _ < _ := fun z => d ((nI_ltI (by omega) (by omega)).mpr z)
    rw [ix_b]
    refine ⟨vi _ (by omega), ?_⟩
    rw [nI_clamp (by omega), h.2.2.2.2.2.2.2.2.2 k (by omega) l (by omega)]
    refine ⟨fun f => no fun z => f ?_, fun f => ?_⟩
    · rw [z.2.2]; rfl
    · have f' : aBr A k l = 0 := (nI_eq (by omega) (by omega)).mp (by rw [nI_0]; exact f)
      rw [b01_t (show fit A k l from ⟨c', by omega, f'⟩)] at hq; exact ⟨rfl, hq⟩
end MIDM
theorem mw_puts {m : OV} {A : AL} {Q : OV → Prop} (h : RR (m.1 0) A) (hI : InvW A) {k l : Nat} (hk : k < aNk A) (hl : l < aNl A) (hq : ∀ m', RR (m'.1 0) (aPut A k l) → MG m m' → Q m') : wp_X8_puts Q (nI k) (nI l) m := by
  have n1 := hI.1; have n2 := hI.2.1
  unfold wp_X8_puts wp_X8_puts_0
  rw [ix_k2, ix_l1, ix_l2]
  refine ⟨vi _ (by omega), ?_⟩
  rintro _ rfl
  refine ⟨vi _ (by omega), ?_⟩
  rintro _ rfl
  refine ⟨vi _ (by omega), vi _ (by omega), ?_⟩
  rintro _ rfl
  rw [nI_clamp (show 9 + 4 * k < 2 ^ 31 by omega), nI_clamp (show 48 + 3 * l < 2 ^ 31 by omega), nI_clamp (show 49 + 3 * l < 2 ^ 31 by omega)]
  refine hq _ ?_ (((MG.sA0 _ _).tr (MG.sA0 _ _)).tr (MG.sA0 _ _))
  rw [sA00, sA00, sA00]
  have r1 := RR_3 h n1 n2 (show k < 10 by omega) (l + 1)
  have r2 := RR_6 r1 (by simpa [aS] using n1) (by simpa [aS] using n2) (show l < 10 by omega) (k + 1)
  rw [nI_pred] at r1 r2
  have e : upd (upd (m.1 0) (9 + 4 * k) (nI l)) (48 + 3 * l) (nI k) (49 + 3 * l) + 1 = nI (aTm A l + 1) := by
    rw [pk_un (by omega), pk_un (by omega), (h.2.2.2.2.2.2.2.2.1 l hl).2.2, nI_1]
  rw [nI_pred] at r2
  rw [e]
  exact RR_7 r2 (by simpa [aS] using n1) (by simpa [aS] using n2) (show l < 10 by omega) _
theorem hkw_lt {A : AL} (hI : InvW A) {l : Nat} (hl : l < aNl A) : aHk A l < 2 ^ 30 := by have := (hI.2.2.2.2.1 l hl).2.1; have := hI.1; omega
/-- the ranges of a matching -/
def MW (nk nl : Nat) (M : MT) : Prop := (∀ k, k < nk → M.1 k ≤ nl) ∧ ∀ l, l < nl → M.2.1 l ≤ nk
theorem MI.w {G : GT} {nk nl : Nat} {M : MT} (h : MI G nk nl M) : MW nk nl M := by
  refine ⟨fun k hk => ?_, fun l hl => ?_⟩
  · by_cases c : M.1 k = 0
    · omega
    · have := (h.1 k (M.1 k - 1) hk (by omega)).1
      omega
  · by_cases c : M.2.1 l = 0
    · omega
    · have := (h.2 l (M.2.1 l - 1) hl (by omega)).1
      omega
theorem Suc.w {G : GT} {nk nl k : Nat} {D : Nat → Prop} {M M' : MT} (h : Suc G nk nl k D M M') : MW nk nl M' := by
  obtain ⟨s1, s2, s3, s4, s5, s6, s7⟩ := h
  refine ⟨fun k hk => ?_, fun l hl => ?_⟩
  · by_cases c : M'.1 k = 0
    · omega
    · have := (s6 k (M'.1 k - 1) hk (by omega)).1
      omega
  · by_cases c : M'.2.1 l = 0
    · omega
    · have := (s5 l (M'.2.1 l - 1) hl (by omega)).1
      omega
theorem InvW_mS {A : AL} {M : MT} (hI : Inv A) (h : MW (aNk A) (aNl A) M) : InvW (mS A M) := by
  obtain ⟨h1, h2, h3, h4, h5, h6, h7⟩ := hI
  have hb : ∀ k l, aBr (mS A M) k l = aBr A k l := fun k l => mS_o (by omega) (by omega) (by omega)
  exact ⟨h1, h2, h3, fun k hk => ⟨(h4 k hk).1, (h4 k hk).2.1, h.1 k hk, trivial⟩, fun l hl => ⟨(h5 l hl).1, h.2 l hl, trivial⟩, fun k l => by rw [hb]; exact h6 k l, fun k l hkl => by rw [hb]; exact h7 k l hkl⟩
