/-! cover: the class's rows and the reference's row -/
section COVC
variable {v : OV} {A : AL} {Q : Int32 → OV → Prop}
theorem c_isReached {w : OV} {B : AL} {s : LVS} {l : Nat} {Q : Int32 → Prop} (h : CR v B) (hI : Inv B) (hw : WRr (w.1 0) (w.2 2) s) (hl : l < aNl B) (h1 : (∃ k, k < aNk B ∧ ¬ s.1 k = 0 ∧ fit B k l ∧ ¬ aHk B l = k + 1) → Q 1) (h0 : (¬ ∃ k, k < aNk B ∧ ¬ s.1 k = 0 ∧ fit B k l ∧ ¬ aHk B l = k + 1) → Q 0) : wp_X6_isReached Q (nI l) w v := by
  have n1 := hI.1; have n2 := hI.2.1
  refine fndloop2 (fun n a => wp_X6_isReached_2_loop Q w v n (nI l) a) (fun k => ¬ s.1 k = 0 ∧ fit B k l ∧ ¬ aHk B l = k + 1) (N := aNk B) (fun hn n => br_t (keysEnd h hI) (h0 fun z => ?_)) (fun n k hk hj K => br_f (keysOn h hI hk) (c_levelAt (by omega) ?_))
  · obtain ⟨k, hk, z⟩ := z
    exact hn k hk z
  · have ek := hw.1 k (by omega)
    have no : ¬ (¬ s.1 k = 0 ∧ fit B k l ∧ ¬ aHk B l = k + 1) → wp_X6_isReached_39 Q (wp_X6_isReached_2_loop Q w v n) w v (nI l) (nI k) := fun hn => by
      rintro _ rfl
      rw [nI_1]; exact K hn
    rw [ek.1]
    refine ⟨fun z => no fun y => y.1 ((lv_0 ek.2).1.mp z), fun z => c_isFit h hI hk hl ⟨fun y => no fun u => (b01_0.mp y) u.2.1, fun y => c_keyIn h hI hl ⟨fun u => no fun t => t.2.2 ((lv_eq (show aHk B l ≤ 12 by have := (hI.2.2.2.2.1 l hl).2.1; omega) (by omega)).mp u), fun u => h1 ⟨k, hk, fun t => z ((lv_0 ek.2).1.mpr t), Classical.not_not.mp fun t => y (b01_0.mpr t), fun t => u ?_⟩⟩⟩⟩
    exact (lv_eq (show aHk B l ≤ 12 by have := (hI.2.2.2.2.1 l hl).2.1; omega) (by omega)).mpr t
theorem c_findReached {M : MT} {x y : Nat} (h : CR v (cS A M x y)) (hI : Inv A) (hM : MI (gA A) (aNk A) (aNl A) M) {w : OV} (hq : ∀ w', Q (orS (fun l => ∃ k, k < aNk A ∧ ¬ (LV (gA A) (aNk A) (aNl A) M).1 k = 0 ∧ fit A k l ∧ ¬ M.2.1 l = k + 1) (aNl A)) w') : wp_X6_findReachedLocks Q w v := by
  have n1 := hI.1; have n2 := hI.2.1
  obtain ⟨i1, i2⟩ := Inv_cS (x := x) (y := y) hI hM
  refine c_findLevels h i1 (fun w' hw => ?_)
  rw [gA_cS, mO_cS, cS_nk, cS_nl] at hw
  have P1 : ∀ l, (∃ k, k < aNk (cS A M x y) ∧ ¬ (LV (gA A) (aNk A) (aNl A) M).1 k = 0 ∧ fit (cS A M x y) k l ∧ ¬ aHk (cS A M x y) l = k + 1) ↔ ∃ k, k < aNk A ∧ ¬ (LV (gA A) (aNk A) (aNl A) M).1 k = 0 ∧ fit A k l ∧ ¬ M.2.1 l = k + 1 := fun l => by
    rw [cS_nk, cS_hk]
    exact ⟨fun ⟨k, a, b, c, d⟩ => ⟨k, a, b, fit_cS.mp c, d⟩, fun ⟨k, a, b, c, d⟩ => ⟨k, a, b, fit_cS.mpr c, d⟩⟩
  refine orloop (fun n a b => wp_X6_findReachedLocks_9_loop Q v n a b w') (N := aNl A) _ (fun n => br_t ?_ (hq w')) (fun n i hi K => br_f ?_ (c_isReached h i1 hw (by rw [cS_nl]; exact hi) (fun z => ⟨fun y => absurd y (by decide), fun _ => ?_⟩) (fun z => ⟨fun _ => ?_, fun y => absurd rfl y⟩)))
  · rw [h.2.1, cS_nl]; exact nI_le (Nat.le_refl _) (by omega)
  · rw [h.2.1, cS_nl]; exact nI_ge hi (by omega)
  · rw [orS_t ((P1 i).mp z)] at K
    rintro _ rfl
    rintro _ rfl
    rw [nI_1]; exact K
  · rw [orS_f (fun y => z ((P1 i).mpr y))] at K
    rintro _ rfl
    rw [nI_1]; exact K
theorem c_findUnreached {M : MT} {x y : Nat} (h : CR v (cS A M x y)) (hI : Inv A) (hM : MI (gA A) (aNk A) (aNl A) M) {w : OV} (hq : ∀ w', Q (orS (fun k => (LV (gA A) (aNk A) (aNl A) M).1 k = 0) (aNk A)) w') : wp_X6_findUnreachedKeys Q w v := by
  have n1 := hI.1; have n2 := hI.2.1
  obtain ⟨i1, i2⟩ := Inv_cS (x := x) (y := y) hI hM
  refine c_findLevels h i1 (fun w' hw => ?_)
  rw [gA_cS, mO_cS, cS_nk, cS_nl] at hw
  refine orloop (fun n a b => wp_X6_findUnreachedKeys_9_loop Q v n a b w') (N := aNk A) _ (fun n => br_t ?_ (hq w')) (fun n i hi K => br_f ?_ (c_levelAt (by omega) ?_))
  · rw [h.1, cS_nk]; exact nI_le (Nat.le_refl _) (by omega)
  · rw [h.1, cS_nk]; exact nI_ge hi (by omega)
  · have ei := hw.1 i (by omega)
    rw [ei.1]
    refine ⟨fun z => ?_, fun z => ?_⟩
    · rw [orS_f (P := fun k => (LV (gA A) (aNk A) (aNl A) M).1 k = 0) (fun y => z ((lv_0 ei.2).1.mpr y))] at K
      rintro _ rfl
      rw [nI_1]; exact K
    · rw [orS_t (P := fun k => (LV (gA A) (aNk A) (aNl A) M).1 k = 0) ((lv_0 ei.2).1.mp z)] at K
      rintro _ rfl
      rintro _ rfl
      rw [nI_1]; exact K
end COVC
section COVM
variable {A : AL} {Q : Int32 → OV → Prop} {x : Int32}
theorem m_cover {m : OV} (h : RR (m.1 0) A) (hI : Inv A) (hF : InvF A) (hq : QR Q A m (0, covS A (¬ x = 0))) : wp_X8_cover Q x m := by
  have n1 := hI.1; have n2 := hI.2.1
  have hM := MI_of hI hF
  rintro _ rfl
  refine m_copies (a := 0) (b := 0) (by omega) (by omega) (by omega) (by omega) ?_
  rintro _ rfl
  have r1 : RR ((sF (sI m 9 0) 4 (va_cpy ((sI m 9 0).1 0) ((sI m 9 0).1 4) 0 0 177)).1 0) A := by
    rw [sF_oth (by decide)]; exact h
  have r4 : (sF (sI m 9 0) 4 (va_cpy ((sI m 9 0).1 0) ((sI m 9 0).1 4) 0 0 177)).1 4 = va_cpy (m.1 0) (m.1 4) 0 0 177 := sF_row
  have ro : ∀ j, j ≠ 4 → (sF (sI m 9 0) 4 (va_cpy ((sI m 9 0).1 0) ((sI m 9 0).1 4) 0 0 177)).1 j = m.1 j := fun j hj => sF_oth hj
  have r2 : (sF (sI m 9 0) 4 (va_cpy ((sI m 9 0).1 0) ((sI m 9 0).1 4) 0 0 177)).2 = (sI m 9 0).2 := rfl
  generalize sF (sI m 9 0) 4 (va_cpy ((sI m 9 0).1 0) ((sI m 9 0).1 4) 0 0 177) = m1 at r1 r4 ro r2
  obtain ⟨w1, w2, w3⟩ := wvE_ok n1 11 _ hM (by omega)
  refine m_comesToEnd (A := A) (M := mO A) (by rw [mS_mO]; exact r1) hI hM (fun m2 hr2 hg2 => ?_)
  obtain ⟨j1, j2⟩ := Inv_mS hI w1
  refine m_levels hr2 j1 (fun m3 hr3 hw hg3 => ?_)
  have eL : LV (gA (mS A (MEnd A))) (aNk (mS A (MEnd A))) (aNl (mS A (MEnd A))) (mO (mS A (MEnd A))) = LEnd A := by
    rw [gA_mS]; rfl
  rw [eL] at hw
  have fin : ∀ a, QR Q A m (0, a) → wp_X8_cover_205 Q a m3 := fun a t => by
    refine m_copies (a := 0) (b := 0) (by omega) (by omega) (by omega) (by omega) ?_
    rintro _ rfl
    refine t.ok ?_ ⟨fun j a b c d => ?_, fun j a b => ?_⟩ ?_
    · rw [sF_row]
      refine RR_eq h n1 n2 (fun i hi => ?_)
      rw [pk_cpy_in (by omega) (by omega), hg3.1 4 (by decide), hg2.1 4 (by decide) (by decide) (by decide), r4, pk_cpy_in (by omega) (by omega), show 0 + (0 + (i - 0) - 0) = i by omega]
    · rw [sF_oth a, hg3.1 j c, hg2.1 j a c d, ro j b]
    · show m3.2 j = m.2 j
      rw [hg3.2 j b, hg2.2 j b, r2, sI_oth a]
    · show m3.2 9 = nI 0
      rw [hg3.2 9 (by decide), hg2.2 9 (by decide), r2, sI_at]; rfl
  have e8 : m3.1 0 0 = nI (aNk A) := hr3.1
  have e9 : m3.1 0 1 = nI (aNl A) := hr3.2.1
  have go : wp_X8_cover_40 Q x (0 : Int32) m3 := by
    by_cases hx : x = 0
    · rw [covS_f (fun z => z hx)] at hq
      refine ⟨1, br_t hx ?_⟩
      rw [hx]
      refine orloop (fun n a b => wp_X8_cover_153_loop Q n (0 : Int32) a b m3) (unrP A) (N := aNk A) (fun n => ⟨fun z => absurd rfl z, fun _ => ⟨v0i, br_t (by rw [cn0, e8]; exact nI_le (Nat.le_refl _) (by omega)) (fin _ hq)⟩⟩) (fun n i hi K => ⟨fun z => absurd rfl z, fun _ => ⟨v0i, br_f (by rw [cn0, e8]; exact nI_ge hi (by omega)) (m_Ik hr3 j1 hi ?_)⟩⟩)
      have ei := hw.1 i (by omega)
      have e0 := (lv_0 ei.2).2
      have sk : ¬ unrP A i → wp_X8_cover_196 Q (wp_X8_cover_153_loop Q n) (0 : Int32) (nI i) (orS (unrP A) i) m3 := fun hn => by
        rw [orS_f hn] at K
        rintro _ rfl
        rintro _ rfl
        rw [Int32.or_zero, nI_1]; exact K
      refine ⟨fun z => sk fun y => ?_, fun z => ⟨vp_in_nI (by omega) (by omega), ?_⟩⟩
      · have c : (MEnd A).1 i = 0 := (nI_m1 (ik_lt j1 hi)).2.mp z
        obtain ⟨v1, _⟩ := LV_ok w1 n1
        have := (v1.1 i).mpr ⟨hi, c⟩
        have y' : (LEnd A).1 i = 0 := y
        exact absurd (show (LEnd A).1 i = 1 from this) (by omega)
      · rw [nI_clamp (by omega), ei.1]
        refine ⟨fun y => sk (e0.mp y), fun y => ?_⟩
        rw [orS_t (P := unrP A) (Classical.not_not.mp fun u => y (e0.mpr u))] at K
        rintro _ rfl
        rintro _ rfl
        rw [nI_1]; exact K
    · rw [covS_t hx] at hq
      refine orloop (fun n a b => wp_X8_cover_46_loop Q n x a (0 : Int32) b m3) (rchP A) (N := aNl A) (fun n => br_f hx ⟨v1i, br_t (by rw [cn1, e9]; exact nI_le (Nat.le_refl _) (by omega)) ⟨1, ⟨fun _ => fin _ hq, fun z => absurd z hx⟩⟩⟩) (fun n l hl K => br_f hx ⟨v1i, br_f (by rw [cn1, e9]; exact nI_ge hl (by omega)) ?_⟩)
      have nxt1 : rchP A l → wp_X8_cover_142 Q (wp_X8_cover_46_loop Q n) x (0 : Int32) (nI l) (orS (rchP A) l) ((1 : Int32) <<< (nI l &&& 31)) m3 := fun hp => by
        rw [orS_t hp] at K
        rintro _ rfl
        rintro _ rfl
        rw [nI_1]; exact K
      have nxt0 : ¬ rchP A l → wp_X8_cover_142 Q (wp_X8_cover_46_loop Q n) x (0 : Int32) (nI l) (orS (rchP A) l) (0 : Int32) m3 := fun hp => by
        rw [orS_f hp] at K
        rintro _ rfl
        rintro _ rfl
        rw [Int32.or_zero, nI_1]; exact K
      have key : ∀ d i (c : Int32), i + d = aNk A → (c = 0 ∧ (∀ k, k < i → ¬ (¬ (LEnd A).1 k = 0 ∧ fit A k l ∧ ¬ (MEnd A).2.1 l = k + 1)) ∨ c = 1 ∧ rchP A l) → wp_X8_cover_68_loop Q (wp_X8_cover_46_loop Q n) (d + 1) x (orS (rchP A) l) (0 : Int32) (nI l) c (nI i) m3 := fun d => by
        induction d with
        | zero =>
          intro i c hi hc
          have hi : i = aNk A := by omega
          subst hi
          refine ⟨v0i, br_t (by rw [cn0, e8]; exact nI_le (Nat.le_refl _) (by omega)) ?_⟩
          rcases hc with ⟨rfl, hc⟩ | ⟨rfl, hc⟩
          · exact ⟨fun _ => nxt0 fun ⟨k, hk, z⟩ => hc k hk z, fun z => absurd rfl z⟩
          · exact ⟨fun z => absurd z (by decide), fun _ => nxt1 hc⟩
        | succ d ih =>
          intro i c hi hc
          have hik : i < aNk A := by omega
          have ei := hw.1 i (by omega)
          have e0 := (nI_m1 (show (LEnd A).1 i < 2 ^ 30 by have := ei.2; omega)).2
          have sk : ¬ (¬ (LEnd A).1 i = 0 ∧ fit A i l ∧ ¬ (MEnd A).2.1 l = i + 1) → wp_X8_cover_118 Q (wp_X8_cover_46_loop Q n) (wp_X8_cover_68_loop Q (wp_X8_cover_46_loop Q n) (d + 1)) x (orS (rchP A) l) (0 : Int32) (nI l) (nI i) c m3 := fun hn => by
            rintro _ rfl
            rintro _ rfl
            rw [Int32.or_zero, nI_1]
            refine ih (i + 1) c (by omega) ?_
            rcases hc with ⟨hc0, hc⟩ | hc
            · refine Or.inl ⟨hc0, fun k hk => ?_⟩
              by_cases y : k = i
              · rw [y]; exact hn
              · exact hc k (by omega)
            · exact Or.inr hc
          refine ⟨v0i, br_f (by rw [cn0, e8]; exact nI_ge hik (by omega)) ⟨vp_in_nI (by omega) (by omega), ?_⟩⟩
          rw [nI_clamp (by omega), ei.1]
          refine ⟨fun z => sk fun y => y.1 (e0.mp z), fun z => m_isFit hr3 j1 hik hl ⟨fun y => sk fun u => (b01_0.mp y) (fit_mS.mpr u.2.1), fun y => m_Ik hr3 j1 hik ⟨fun u => sk fun t => ?_, fun u => ?_⟩⟩⟩
          · have c1 : (MEnd A).1 i = l + 1 := (lv_eq (show aIk (mS A (MEnd A)) i ≤ 12 by have h1 : aIk (mS A (MEnd A)) i ≤ aNl A := (j1.2.2.2.1 i hik).2.2.1; omega) (by omega)).mp u
            exact t.2.2 (w1.1 i l hik c1).2.1
          · have c1 : ¬ (MEnd A).2.1 l = i + 1 := fun t => u ((lv_eq (show aIk (mS A (MEnd A)) i ≤ 12 by have h1 : aIk (mS A (MEnd A)) i ≤ aNl A := (j1.2.2.2.1 i hik).2.2.1; omega) (by omega)).mpr (w1.2 l i hl t).2)
            have hp : rchP A l := ⟨i, hik, fun t => z (e0.mpr t), fit_mS.mp (Classical.not_not.mp fun t => y (b01_0.mpr t)), c1⟩
            rintro _ rfl
            rintro _ rfl
            rw [nI_1]
            refine ih (i + 1) _ (by omega) (Or.inr ⟨?_, hp⟩)
            rcases hc with ⟨rfl, _⟩ | ⟨rfl, _⟩
            · decide
            · decide
      exact ⟨aNk A + 1, key (aNk A) 0 0 (by omega) (Or.inl ⟨rfl, fun k hk => absurd hk (Nat.not_lt_zero k)⟩)⟩
  have nn : ¬ ¬ (0 : Int32) ≤ nI (wvE (gA A) (aNk A) (aNl A) 11 (mO A)).1 := fun z => z (nI_pos' (by
    have : sz (aNl A) (wvE (gA A) (aNk A) (aNl A) 11 (mO A)).2 ≤ aNl A := ct_n
    omega))
  exact ⟨fun _ => go, fun _ => ⟨fun _ => go, fun z => absurd z nn⟩⟩
end COVM
