/-! the class's second way is kul -/
def gX (A : AL) (o1 o2 : Nat) : GT := fun k l => decide (fit A k l ∧ k + 1 ≠ o1 ∧ l + 1 ≠ o2)
theorem gX_t {A : AL} {o1 o2 k l : Nat} : gX A o1 o2 k l = true ↔ fit A k l ∧ k + 1 ≠ o1 ∧ l + 1 ≠ o2 := ⟨of_decide_eq_true, decide_eq_true⟩
def PRr (row : Nat → Int32) (M : MT) : Prop := ∀ l, l < 10 → row l = nI (M.2.1 l) - 1
theorem PRr_put {row : Nat → Int32} {M : MT} (h : PRr row M) (k l : Nat) : PRr (upd row l (nI k)) (put M k l) := fun j hj => by
  by_cases c : j = l
  · rw [c, pk_us, put_l, nI_pred]
  · rw [pk_un c, put_l' c]; exact h j hj
theorem twl_n {G : GT} {Rc : Nat → (Nat → Nat) → MT → RT} {k d l : Nat} {X : Nat → Nat} {M : MT} (g : ¬ (X l = 0 ∧ G k l = true)) : twl G Rc k (d + 1) l X M = twl G Rc k d (l + 1) X M := by
  rw [twl, if_neg g]
theorem twl_0 {G : GT} {Rc : Nat → (Nat → Nat) → MT → RT} {k d l : Nat} {X : Nat → Nat} {M : MT} (g : X l = 0 ∧ G k l = true) (h : M.2.1 l = 0) : twl G Rc k (d + 1) l X M = (1, mk1 X l, put M k l) := by
  rw [twl, if_pos g, if_pos h]
theorem twl_r {G : GT} {Rc : Nat → (Nat → Nat) → MT → RT} {k d l m : Nat} {X : Nat → Nat} {M : MT} (g : X l = 0 ∧ G k l = true) (h : M.2.1 l = m + 1) : twl G Rc k (d + 1) l X M = tke k l (Rc m (mk1 X l) M) (twl G Rc k d (l + 1) (Rc m (mk1 X l) M).2.1 (Rc m (mk1 X l) M).2.2) := by
  have h1 : M.2.1 l - 1 = m := by omega
  rw [twl, if_pos g, if_neg (by omega), h1]
theorem ct_mk1 {X : Nat → Nat} {l nl : Nat} (hl : l < nl) (h : X l = 0) : ct (fun a => X a ≠ 0) nl + 1 ≤ ct (fun a => mk1 X l a ≠ 0) nl := by
  rw [ct_rm (P := fun a => mk1 X l a ≠ 0) hl (show mk1 X l l ≠ 0 by rw [mk1_l]; omega)]
  have : ct (fun l => X l ≠ 0) nl ≤ ct (fun i => mk1 X l i ≠ 0 ∧ i ≠ l) nl := ct_le fun i _ z => ⟨mk1_up z, fun y => z (by rw [y]; exact h)⟩
  omega
section KUHN
variable {v : OV} {A : AL}
theorem c_takeAnyWay (h : CR v A) (hI : Inv A) {out : Nat} : ∀ n k t X M w (Q : Int32 → OV → Prop), MI (gX A out 0) (aNk A) (aNl A) M → k < aNk A → k + 1 ≠ out → (∀ l, M.1 k = l + 1 → X l ≠ 0) → 13 ≤ n + ct (fun a => X a ≠ 0) (aNl A) → t ≤ ct (fun a => X a ≠ 0) (aNl A) → PRr (w.1 0) M → WU (w.1 1) X → (∀ w', PRr (w'.1 0) (tw (gX A out 0) (aNl A) n k X M).2.2 → WU (w'.1 1) (tw (gX A out 0) (aNl A) n k X M).2.1 → Q (nI (tw (gX A out 0) (aNl A) n k X M).1) w') → wp_X4_takeAnyWay n Q (nI k) (nI t) w v := by
  have n1 := hI.1; have n2 := hI.2.1
  intro n
  induction n with
  | zero =>
    intro k t X M w Q _ _ _ _ h3
    have : ct (fun a => X a ≠ 0) (aNl A) ≤ aNl A := ct_n
    exact absurd h3 (by omega)
  | succ n ih =>
    intro k t X M w Q hM hk hko hx hn ht hp hu hq
    have inner : ∀ d l X w, l + d = aNl A → (∀ l, M.1 k = l + 1 → X l ≠ 0) → 12 ≤ n + ct (fun a => X a ≠ 0) (aNl A) → t ≤ ct (fun a => X a ≠ 0) (aNl A) → PRr (w.1 0) M → WU (w.1 1) X → (∀ w', PRr (w'.1 0) (twl (gX A out 0) (tw (gX A out 0) (aNl A) n) k d l X M).2.2 → WU (w'.1 1) (twl (gX A out 0) (tw (gX A out 0) (aNl A) n) k d l X M).2.1 → Q (nI (twl (gX A out 0) (tw (gX A out 0) (aNl A) n) k d l X M).1) w') → wp_X4_takeAnyWay_11_loop Q (wp_X4_takeAnyWay n) v (d + 1) (nI k) (nI t) (nI l) w := fun d => by
      induction d with
      | zero =>
        intro l X w hl hx hn ht hp hu hq
        have hl : l = aNl A := by omega
        subst hl
        exact br_t (locksEnd h hI) (hq w hp hu)
      | succ d ihd =>
        intro l X w hl hx hn ht hp hu hq
        have hll : l < aNl A := by omega
        have cont : ∀ X' w', (∀ a, X a ≠ 0 → X' a ≠ 0) → PRr (w'.1 0) M → WU (w'.1 1) X' → (∀ w'', PRr (w''.1 0) (twl (gX A out 0) (tw (gX A out 0) (aNl A) n) k d (l + 1) X' M).2.2 → WU (w''.1 1) (twl (gX A out 0) (tw (gX A out 0) (aNl A) n) k d (l + 1) X' M).2.1 → Q (nI (twl (gX A out 0) (tw (gX A out 0) (aNl A) n) k d (l + 1) X' M).1) w'') → wp_X4_takeAnyWay_96 Q (wp_X4_takeAnyWay n) (wp_X4_takeAnyWay_11_loop Q (wp_X4_takeAnyWay n) v (d + 1)) v (nI k) (nI t) (nI l) w' := fun X' w' a b c e => by
          have le : ct (fun a => X a ≠ 0) (aNl A) ≤ ct (fun a => X' a ≠ 0) (aNl A) := ct_le fun i _ z => a i z
          rintro _ rfl
          rw [nI_1]
          exact ihd (l + 1) X' w' (by omega) (fun l' e' => a l' (hx l' e')) (by omega) (by omega) b c e
        have pl : ∀ M' w', PRr (w'.1 0) M' → (∀ w'', PRr (w''.1 0) (put M' k l) → w''.1 1 = w'.1 1 → Q 1 w'') → wp_X4_takeAnyWay_86 Q (wp_X4_takeAnyWay n) v (nI k) (nI l) w' := fun M' w' b e => by
          refine ⟨vp_in_nI (by omega) (by omega), ?_⟩
          rintro _ rfl
          rw [nI_clamp (by omega)]
          refine e _ ?_ (sA_oth (by decide))
          rw [sA_row]
          exact PRr_put b k l
        have vl : vp_in (nI l) 10 := vp_in_nI (by omega) (by omega)
        have xl := WU_0 hu (show l < 10 by omega)
        refine br_f (locksOn h hI hll) (br_f (by rw [ten]; exact nI_ge (by omega) (by omega)) ⟨vl, ?_⟩)
        rw [nI_clamp (show l < 2 ^ 31 by omega)]
        refine ⟨fun z => ?_, fun z => c_isFit h hI hk hll ⟨fun c => ⟨vl, ?_⟩, fun c => ?_⟩⟩
        · rw [twl_n (fun y => z (xl.mpr y.1))] at hq
          exact cont X w (fun _ y => y) hp hu hq
        · have hf : fit A k l := Classical.not_not.mp fun z => c (b01_0.mpr z)
          have g : X l = 0 ∧ gX A out 0 k l = true := ⟨xl.mp z, gX_t.mpr ⟨hf, hko, Nat.succ_ne_zero l⟩⟩
          have cm := ct_mk1 hll g.1
          rintro _ rfl
          refine ⟨vl, ?_⟩
          rintro _ rfl
          have er : (sA w 1 l (vp_nar .boolean (1 : Int32))).1 0 l = nI (M.2.1 l) - 1 := by
            rw [sA_oth (by decide)]; exact hp l (by omega)
          have hp' : PRr ((sA w 1 l (vp_nar .boolean (1 : Int32))).1 0) M := by
            rw [sA_oth (by decide)]; exact hp
          have hu' : WU ((sA w 1 l (vp_nar .boolean (1 : Int32))).1 1) (mk1 X l) := by
            rw [sA_row, nar1]
            exact WU_set hu l
          rw [er]
          generalize sA w 1 l (vp_nar .boolean (1 : Int32)) = w1 at hp' hu' ⊢
          by_cases e0 : M.2.1 l = 0
          · rw [e0]
            rw [twl_0 g e0] at hq
            exact ⟨fun _ => pl M w1 hp' (fun w'' a b => hq w'' a (by rw [b]; exact hu')), fun y => absurd (show nI 0 - 1 = (-1 : Int32) by decide) y⟩
          · obtain ⟨m, hm⟩ : ∃ m, M.2.1 l = m + 1 := ⟨M.2.1 l - 1, by omega⟩
            obtain ⟨hmk, hml⟩ := hM.2 l m hll hm
            have hmo := (gX_t.mp (hM.1 m l hmk hml).2.2).2.1
            have hx' : ∀ l', M.1 m = l' + 1 → mk1 X l l' ≠ 0 := fun l' e => by
              have : l' = l := by omega
              rw [this, mk1_l]; omega
            rw [hm, nI_pred, nI_1]
            refine ⟨fun y => absurd (show nI m < 0 by rw [y]; decide) (nI_pos (by omega)), fun _ => ?_⟩
            rw [twl_r g hm] at hq
            have tr := tw_ok hM n2 n m (mk1 X l) hmk hx' (by omega)
            refine ih m (t + 1) (mk1 X l) M w1 _ hM hmk hmo hx' (by omega) (by omega) hp' hu' (fun w' a b => ?_)
            generalize tw (gX A out 0) (aNl A) n m (mk1 X l) M = r at hq tr a b ⊢
            rcases tr with ⟨r1, r2, r3, r4⟩ | ⟨r1, r2, r3⟩
            · rw [r1]
              unfold tke at hq
              rw [if_pos r1, r2] at hq
              rw [r2] at a
              exact ⟨fun _ => cont r.2.1 w' (fun i y => r3.1 i (mk1_up y)) a b hq, fun y => absurd rfl y⟩
            · rw [r1]
              unfold tke at hq
              rw [if_neg (by omega)] at hq
              exact ⟨fun y => absurd y (by decide), fun _ => pl r.2.2 w' a (fun w'' x y => hq w'' x (by rw [y]; exact b))⟩
        · have hf : ¬ fit A k l := b01_0.mp c
          rw [twl_n (fun y => hf (gX_t.mp y.2).1)] at hq
          exact cont X w (fun _ y => y) hp hu hq
    have cn : ct (fun a => X a ≠ 0) (aNl A) ≤ aNl A := ct_n
    unfold wp_X4_takeAnyWay wp_X4_takeAnyWay_0
    exact br_t (by rw [ten]; exact nI_le (by omega) (by omega)) ⟨aNl A + 1, inner (aNl A) 0 X w (by omega) hx (by omega) ht hp hu hq⟩
theorem c_startFrom (h : CR v A) (hI : Inv A) {out k : Nat} {M : MT} {w : OV} {Q : Int32 → OV → Prop} (hM : MI (gX A out 0) (aNk A) (aNl A) M) (hk : k < aNk A) (hko : k + 1 ≠ out) (h0 : M.1 k = 0) (hp : PRr (w.1 0) M) (hq : ∀ w', PRr (w'.1 0) (tw (gX A out 0) (aNl A) 13 k (fun _ => 0) M).2.2 → Q (nI (tw (gX A out 0) (aNl A) 13 k (fun _ => 0) M).1) w') : wp_X4_startFrom Q (nI k) w v := by
  have n1 := hI.1; have n2 := hI.2.1
  have key : ∀ d i w, i + d = 10 → PRr (w.1 0) M → (∀ a, a < i → w.1 1 a = nI 0) → wp_X4_startFrom_2_loop Q v (d + 1) (nI k) (nI i) w := fun d => by
    induction d with
    | zero =>
      intro i w hi hp hu
      have hi : i = 10 := by omega
      subst hi
      have tr := tw_ok hM n2 13 k (fun _ => 0) hk (fun l e => by omega) (by omega)
      refine br_t (by decide) (c_takeAnyWay h hI 13 k 0 (fun _ => 0) M w _ hM hk hko (fun l e => by omega) (by omega) (Nat.zero_le _) hp (fun a ha => ⟨hu a ha, Nat.zero_le _⟩) (fun w' a b => ⟨?_, hq w' a⟩))
      rcases tr with ⟨r1, _⟩ | ⟨r1, _⟩
      · rw [r1]; rfl
      · rw [r1]; rfl
    | succ d ih =>
      intro i w hi hp hu
      refine br_f (by rw [ten]; exact nI_ge (by omega) (by omega)) ⟨vp_in_nI (by omega) (by omega), ?_⟩
      rintro _ rfl
      rintro _ rfl
      rw [nI_1, nI_clamp (by omega), nar0]
      refine ih (i + 1) _ (by omega) (by rw [sA_oth (by decide)]; exact hp) (fun a ha => ?_)
      rw [sA_row]
      by_cases c : a = i
      · rw [c, pk_us]
      · rw [pk_un c]; exact hu a (by omega)
  exact ⟨11, key 10 0 w (by omega) hp (fun a ha => absurd ha (Nat.not_lt_zero a))⟩
theorem c_countMostWithout (h : CR v A) (hI : Inv A) {out : Nat} (ho : out ≤ 10) {w : OV} {Q : Int32 → OV → Prop} (hq : ∀ s w', MX (gX A out 0) (aNk A) (aNl A) s → Q (nI s) w') : wp_X4_countMostWithout Q (nI out - 1) w v := by
  have n1 := hI.1; have n2 := hI.2.1
  have hout : ∀ k l, k + 1 = out → gX A out 0 k l = false := fun k l e => by
    have : ¬ gX A out 0 k l = true := fun z => (gX_t.mp z).2.1 e
    exact Bool.eq_false_iff.mpr this
  obtain ⟨W, hW⟩ : ∃ W : Nat → Nat × MT, ∀ i, W i = kul (gX A out 0) (aNl A) out i := ⟨_, fun _ => rfl⟩
  have Ws : ∀ i, W (i + 1) = kus (gX A out 0) (aNl A) out i (W i) := fun i => by rw [hW, hW]; rfl
  have Wok : ∀ i, i ≤ aNk A → MI (gX A out 0) (aNk A) (aNl A) (W i).2 ∧ ∀ k, i ≤ k → (W i).2.1 k = 0 := fun i hi => by
    rw [hW]
    obtain ⟨g1, _, g3, _⟩ := kul_ok (nk := aNk A) n2 hout i hi
    exact ⟨g1, g3⟩
  have mx : MX (gX A out 0) (aNk A) (aNl A) (W (aNk A)).1 := by rw [hW]; exact kul_MX n2 hout
  have key : ∀ d i w, i + d = aNk A → PRr (w.1 0) (W i).2 → wp_X4_countMostWithout_26_loop Q v (d + 1) (nI out - 1) (nI (W i).1) (nI i) w := fun d => by
    induction d with
    | zero =>
      intro i w hi hp
      have hi : i = aNk A := by omega
      subst hi
      exact br_t (keysEnd h hI) (hq _ w mx)
    | succ d ih =>
      intro i w hi hp
      have hik : i < aNk A := by omega
      obtain ⟨hM, h0⟩ := Wok i (by omega)
      have next : ∀ w, PRr (w.1 0) (W (i + 1)).2 → wp_X4_countMostWithout_54 Q (wp_X4_countMostWithout_26_loop Q v (d + 1)) v (nI out - 1) (nI (W (i + 1)).1) (nI i) w := fun w a => by
        rintro _ rfl
        rw [nI_1]
        exact ih (i + 1) w (by omega) a
      rw [Ws i] at next
      have e := lv_eq (show out ≤ 12 by omega) (show i ≤ 12 by omega)
      refine br_f (keysOn h hI hik) ⟨fun z => ?_, fun z => ?_⟩
      · have eo := e.mp z.symm
        unfold kus at next
        rw [if_pos eo.symm] at next
        exact next w hp
      · have eo : ¬ i + 1 = out := fun y => z (e.mpr y.symm).symm
        unfold kus at next
        rw [if_neg eo] at next
        have tr := tw_ok hM n2 13 i (fun _ => 0) hik (fun l e => by have := h0 i (Nat.le_refl _); omega) (by omega)
        refine c_startFrom h hI hM hik eo (h0 i (Nat.le_refl _)) hp (fun w' a => ?_)
        generalize tw (gX A out 0) (aNl A) 13 i (fun _ => 0) (W i).2 = q at next tr a ⊢
        have e1 : (kua (W i) q).1 = (W i).1 + q.1 := rfl
        rw [e1] at next
        rcases tr with ⟨r1, _⟩ | ⟨r1, _⟩
        · rw [r1] at next ⊢
          exact ⟨fun _ => next w' a, fun y => absurd rfl y⟩
        · rw [r1] at next ⊢
          refine ⟨fun y => absurd y (by decide), fun _ => ?_⟩
          rintro _ rfl
          rw [nI_1]
          exact next w' a
  have beg : ∀ d i w, i + d = 10 → (∀ a, a < i → w.1 0 a = -1) → wp_X4_countMostWithout_2_loop Q v (d + 1) (nI out - 1) (nI i) w := fun d => by
    induction d with
    | zero =>
      intro i w hi hp
      have hi : i = 10 := by omega
      subst hi
      have k0 := key (aNk A) 0 w (by omega)
      have W0 : W 0 = (0, emM) := by rw [hW]; rfl
      rw [W0] at k0
      exact br_t (by decide) ⟨aNk A + 1, k0 (fun a ha => by
        rw [hp a ha]
        show (-1 : Int32) = nI 0 - 1
        decide)⟩
    | succ d ih =>
      intro i w hi hp
      refine br_f (by rw [ten]; exact nI_ge (by omega) (by omega)) ⟨vp_in_nI (by omega) (by omega), ?_⟩
      rintro _ rfl
      rintro _ rfl
      rw [nI_1, nI_clamp (by omega)]
      refine ih (i + 1) _ (by omega) (fun a ha => ?_)
      rw [sA_row]
      by_cases c : a = i
      · rw [c, pk_us]
      · rw [pk_un c]; exact hp a (by omega)
  exact ⟨11, beg 10 0 w (by omega) (fun a ha => absurd ha (Nat.not_lt_zero a))⟩
end KUHN
