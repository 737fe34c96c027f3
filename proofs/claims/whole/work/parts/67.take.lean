/-! taking ways by levels: the class's row and the reference's row are tk -/
def WU (row : Nat → Int32) (U : Nat → Nat) : Prop := ∀ k, k < 10 → row k = nI (U k) ∧ U k ≤ 1
theorem nar1 : vp_nar .boolean (1 : Int32) = nI 1 := by decide +kernel
theorem nar0 : vp_nar .boolean (0 : Int32) = nI 0 := by decide +kernel
theorem WU_set {row : Nat → Int32} {U : Nat → Nat} (h : WU row U) (k : Nat) : WU (upd row k (nI 1)) (fun a => if a = k then 1 else U a) := fun j hj => by
  show upd row k (nI 1) j = nI (if j = k then 1 else U j) ∧ (if j = k then 1 else U j) ≤ 1
  by_cases c : j = k
  · rw [c, pk_us, if_pos rfl]; exact ⟨rfl, Nat.le_refl _⟩
  · rw [pk_un c, if_neg c]; exact h j hj
theorem WU_0 {row : Nat → Int32} {U : Nat → Nat} (h : WU row U) {k : Nat} (hk : k < 10) : row k = 0 ↔ U k = 0 := by
  have e := h k hk
  rw [e.1, ← nI_0]
  exact nI_eq (by omega) (by omega)
theorem lvl_lt {n t : Nat} (hn : n ≤ 12) (ht : t ≤ 12) : nI n - 1 < nI t ↔ n ≤ t := by
  cases n with
  | zero =>
    refine ⟨fun _ => Nat.zero_le t, fun _ => ?_⟩
    have h := nI_pos' (show t < 2 ^ 31 by omega)
    exact Int32.lt_of_lt_of_le (show nI 0 - 1 < 0 by decide) h
  | succ n =>
    rw [nI_pred, nI_ltI (by omega) (by omega)]
    omega
theorem tkl_n {G : GT} {L : Nat → Nat} {last : Nat} {Rc : Nat → (Nat → Nat) → MT → RT} {k d l : Nat} {U : Nat → Nat} {M : MT} (g : ¬ G k l = true) : tkl G L last Rc k (d + 1) l U M = tkl G L last Rc k d (l + 1) U M := by
  rw [tkl, if_neg g]
theorem tkl_0 {G : GT} {L : Nat → Nat} {last : Nat} {Rc : Nat → (Nat → Nat) → MT → RT} {k d l : Nat} {U : Nat → Nat} {M : MT} (g : G k l = true) (h : M.2.1 l = 0) : tkl G L last Rc k (d + 1) l U M = (1, U, put M k l) := by
  rw [tkl, if_pos g, if_pos h]
theorem tkl_x {G : GT} {L : Nat → Nat} {last : Nat} {Rc : Nat → (Nat → Nat) → MT → RT} {k d l m : Nat} {U : Nat → Nat} {M : MT} (g : G k l = true) (h : M.2.1 l = m + 1) (e : ¬ (L m = L k + 1 ∧ L m ≤ last ∧ U m = 0)) : tkl G L last Rc k (d + 1) l U M = tkl G L last Rc k d (l + 1) U M := by
  have h1 : M.2.1 l - 1 = m := by omega
  rw [tkl, if_pos g, if_neg (by omega), h1, if_neg e]
theorem tkl_r {G : GT} {L : Nat → Nat} {last : Nat} {Rc : Nat → (Nat → Nat) → MT → RT} {k d l m : Nat} {U : Nat → Nat} {M : MT} (g : G k l = true) (h : M.2.1 l = m + 1) (e : L m = L k + 1 ∧ L m ≤ last ∧ U m = 0) : tkl G L last Rc k (d + 1) l U M = tke k l (Rc m U M) (tkl G L last Rc k d (l + 1) (Rc m U M).2.1 (Rc m U M).2.2) := by
  have h1 : M.2.1 l - 1 = m := by omega
  rw [tkl, if_pos g, if_neg (by omega), h1, if_pos e]
theorem c_canGoOn {w : OV} {Q : Int32 → Prop} {L U : Nat → Nat} {last m t : Nat} (hm : m < 10) (ht : t ≤ 10) (hw : WRr (w.1 0) (w.2 2) (L, last)) (hu : WU (w.1 1) U) (h1 : L m = t + 1 ∧ L m ≤ last ∧ U m = 0 → Q 1) (h0 : ¬ (L m = t + 1 ∧ L m ≤ last ∧ U m = 0) → Q 0) : wp_X6_canGoOn Q (nI m) (nI t) w := by
  have em := hw.1 m hm
  have e1 := lv_eq em.2 (show t ≤ 12 by omega)
  rw [← em.1] at e1
  have e2 := lvl_lt hw.2.2 (show t ≤ 12 by omega)
  rw [← hw.2.1] at e2
  have e3 := WU_0 hu hm
  have no : ¬ (L m = t + 1 ∧ L m ≤ last ∧ U m = 0) → wp_X6_canGoOn_30 Q w := fun z => ⟨rfl, h0 z⟩
  have e1' : w.1 0 m = nI t ↔ L m = t + 1 := e1
  have e2' : w.2 2 < nI t ↔ last ≤ t := e2
  unfold wp_X6_canGoOn wp_X6_canGoOn_0
  refine c_levelAt hm ⟨fun z => no fun y => z (e1'.mpr y.1), fun z => ⟨fun y => no fun x => ?_, fun y => ⟨vp_in_nI hm (by omega), ?_⟩⟩⟩
  · have := e2'.mp y
    omega
  · rw [nI_clamp (by omega)]
    refine ⟨fun x => no fun u => x (e3.mpr u.2.2), fun x => ⟨rfl, h1 ⟨e1'.mp z, ?_, e3.mp x⟩⟩⟩
    have a := e1'.mp z
    have b : ¬ last ≤ t := fun u => y (e2'.mpr u)
    omega
theorem c_takeWay {A : AL} (hI : Inv A) {L : Nat → Nat} {last : Nat} (hb : last ≤ 10) : ∀ n k t U M w v (Q : Int32 → OV → OV → Prop), MI (gA A) (aNk A) (aNl A) M → k < aNk A → L k = t + 1 → t ≤ 9 → 13 ≤ n + L k → CR v (mS A M) → WRr (w.1 0) (w.2 2) (L, last) → WU (w.1 1) U → (∀ w' v', CR v' (mS A (tk (gA A) (aNl A) L last n k U M).2.2) → WRr (w'.1 0) (w'.2 2) (L, last) → WU (w'.1 1) (tk (gA A) (aNl A) L last n k U M).2.1 → Q (nI (tk (gA A) (aNl A) L last n k U M).1) w' v') → wp_X6_takeWay n Q (nI k) (nI t) w v := by
  intro n
  induction n with
  | zero => intro k t U M w v Q _ _ h1 h2 h3; exact absurd h3 (by omega)
  | succ n ih =>
    intro k t U M w v Q hM hk hL ht hn hv hw hu hq
    have n1 := hI.1; have n2 := hI.2.1
    have inner : ∀ d l U w v, l + d = aNl A → CR v (mS A M) → WRr (w.1 0) (w.2 2) (L, last) → WU (w.1 1) U → (∀ w' v', CR v' (mS A (tkl (gA A) L last (tk (gA A) (aNl A) L last n) k d l U M).2.2) → WRr (w'.1 0) (w'.2 2) (L, last) → WU (w'.1 1) (tkl (gA A) L last (tk (gA A) (aNl A) L last n) k d l U M).2.1 → Q (nI (tkl (gA A) L last (tk (gA A) (aNl A) L last n) k d l U M).1) w' v') → wp_X6_takeWay_21_loop Q (wp_X6_takeWay n) (d + 1) (nI k) (nI t) (nI l) w v := fun d => by
      induction d with
      | zero =>
        intro l U w v hl hv hw hu hq
        have hl : l = aNl A := by omega
        subst hl
        have e9 : v.2 9 = nI (aNl A) := hv.2.1
        refine br_t (by rw [e9]; exact nI_le (Nat.le_refl _) (by omega)) ⟨vp_in_nI (by omega) (by omega), ?_⟩
        rintro _ rfl
        rw [nI_clamp (by omega), nar1]
        refine hq _ v hv (by rw [sA_oth (by decide)]; exact hw) ?_
        rw [sA_row]
        exact WU_set hu k
      | succ d ihd =>
        intro l U w v hl hv hw hu hq
        have hll : l < aNl A := by omega
        have e9 : v.2 9 = nI (aNl A) := hv.2.1
        have hIW := InvW_mS hI hM.w
        have cont : ∀ U' w' v', CR v' (mS A M) → WRr (w'.1 0) (w'.2 2) (L, last) → WU (w'.1 1) U' → (∀ w'' v'', CR v'' (mS A (tkl (gA A) L last (tk (gA A) (aNl A) L last n) k d (l + 1) U' M).2.2) → WRr (w''.1 0) (w''.2 2) (L, last) → WU (w''.1 1) (tkl (gA A) L last (tk (gA A) (aNl A) L last n) k d (l + 1) U' M).2.1 → Q (nI (tkl (gA A) L last (tk (gA A) (aNl A) L last n) k d (l + 1) U' M).1) w'' v'') → wp_X6_takeWay_103 Q (wp_X6_takeWay n) (wp_X6_takeWay_21_loop Q (wp_X6_takeWay n) (d + 1)) (nI k) (nI t) (nI l) w' v' := fun U' w' v' a b c e => by
          rintro _ rfl
          rw [nI_1]
          exact ihd (l + 1) U' w' v' (by omega) a b c e
        have pl : ∀ M' w' v', MW (aNk A) (aNl A) M' → CR v' (mS A M') → (∀ v'', CR v'' (mS A (put M' k l)) → Q 1 w' v'') → wp_X6_takeWay_94 Q (wp_X6_takeWay n) (nI k) (nI l) w' v' := fun M' w' v' a b e =>
          cw_place b (InvW_mS hI a) hk hll (fun v'' z => e v'' (by rw [← mS_put]; exact z))
        refine br_f (by rw [e9]; exact nI_ge hll (by omega)) (cw_isFit hv hIW hk hll ⟨fun c => ?_, fun c => ?_⟩)
        · have g : gA A k l = true := gA_t.mpr (fit_mS.mp (Classical.not_not.mp fun z => c (b01_0.mpr z)))
          refine cw_keyIn hv hIW hll ?_
          by_cases e0 : M.2.1 l = 0
          · have ek : aHk (mS A M) l = 0 := e0
            rw [ek]
            refine ⟨fun z => absurd (show nI 0 - 1 = (-1 : Int32) by decide) z, fun _ => ⟨fun _ => pl M w v hM.w hv (fun v'' z => ?_), fun z => absurd z (by decide)⟩⟩
            rw [tkl_0 g e0] at hq
            exact hq w v'' z hw hu
          · obtain ⟨m, hm⟩ : ∃ m, M.2.1 l = m + 1 := ⟨M.2.1 l - 1, by omega⟩
            have hmk := (hM.2 l m hll hm).1
            have ek : aHk (mS A M) l = m + 1 := hm
            rw [ek, nI_pred]
            refine ⟨fun _ => ⟨fun z => absurd rfl z, fun _ => ?_⟩, fun z => absurd (show nI m < 0 by rw [z]; decide) (nI_pos (by omega))⟩
            rw [nI_1]
            refine c_canGoOn (by omega) (by omega) hw hu (fun e => ⟨fun z => absurd z (by decide), fun _ => ?_⟩) (fun e => ⟨fun _ => ?_, fun z => absurd rfl z⟩)
            · have e' : L m = L k + 1 ∧ L m ≤ last ∧ U m = 0 := ⟨by omega, e.2⟩
              rw [tkl_r g hm e'] at hq
              have tr := tk_ok (L := L) hM hb n m U hmk (by omega) (by omega)
              refine ih m (t + 1) U M w v _ hM hmk e.1 (by omega) (by omega) hv hw hu (fun w' v' a b c => ?_)
              generalize tk (gA A) (aNl A) L last n m U M = r at hq tr a b c ⊢
              rcases tr with ⟨r1, r2, r3, r4, r5⟩ | ⟨r1, r2⟩
              · rw [r1]
                unfold tke at hq
                rw [if_pos r1, r2] at hq
                rw [r2] at a
                exact ⟨fun _ => cont r.2.1 w' v' a b c hq, fun z => absurd rfl z⟩
              · rw [r1]
                unfold tke at hq
                rw [if_neg (by omega)] at hq
                exact ⟨fun z => absurd z (by decide), fun _ => pl r.2.2 w' v' r2.w a (fun v'' z => hq w' v'' z b c)⟩
            · rw [tkl_x g hm (fun z => e ⟨by omega, z.2⟩)] at hq
              exact cont U w v hv hw hu hq
        · have g : ¬ gA A k l = true := fun z => (b01_0.mp c) (fit_mS.mpr (gA_t.mp z))
          rw [tkl_n g] at hq
          exact cont U w v hv hw hu hq
    unfold wp_X6_takeWay wp_X6_takeWay_0
    exact br_f (nI_pos (by omega)) (br_f (by rw [ten]; exact nI_ge (by omega) (by omega)) (br_t (by rw [ten]; exact nI_lt (by omega) (by omega)) ⟨aNl A + 1, inner (aNl A) 0 U w v (by omega) hv hw hu hq⟩))
