/-! levels: the class's row and the reference's row are LV -/
def WRr (row : Nat → Int32) (x : Int32) (s : LVS) : Prop := (∀ k, k < 10 → row k = nI (s.1 k) - 1 ∧ s.1 k ≤ 12) ∧ x = nI s.2 - 1 ∧ s.2 ≤ 12
theorem WRr_a {row : Nat → Int32} {x : Int32} {s : LVS} (h : WRr row x s) {t : Nat} (ht : t ≤ 9) (m : Nat) : WRr (upd row m (nI t + 1)) x (fun a => if a = m then t + 2 else s.1 a, s.2) := by
  refine ⟨fun k hk => ?_, h.2⟩
  show upd row m (nI t + 1) k = nI (if k = m then t + 2 else s.1 k) - 1 ∧ (if k = m then t + 2 else s.1 k) ≤ 12
  by_cases c : k = m
  · rw [c, pk_us, if_pos rfl, nI_pred, nI_1]
    exact ⟨rfl, by omega⟩
  · rw [pk_un c, if_neg c]
    exact h.1 k hk
theorem WRr_l {row : Nat → Int32} {x : Int32} {s : LVS} (h : WRr row x s) {t : Nat} (ht : t ≤ 9) : WRr row (nI t) (s.1, t + 1) := by
  refine ⟨h.1, ?_, by show t + 1 ≤ 12; omega⟩
  show nI t = nI (t + 1) - 1
  rw [nI_pred]
theorem lv_eq {n t : Nat} (hn : n ≤ 12) (ht : t ≤ 12) : nI n - 1 = nI t ↔ n = t + 1 := by
  cases n with
  | zero =>
    refine ⟨fun e => ?_, fun e => by omega⟩
    exact absurd (show nI t < 0 by rw [← e]; decide) (nI_pos (by omega))
  | succ n =>
    rw [nI_pred, nI_eq (by omega) (by omega)]
    omega
theorem lv_0 {n : Nat} (hn : n ≤ 12) : (nI n - 1 = (-1 : Int32) ↔ n = 0) ∧ (0 ≤ nI n - 1 ↔ n ≠ 0) := by
  refine ⟨(nI_m1 (by omega)).1, ?_⟩
  have h := (nI_m1 (show n < 2 ^ 30 by omega)).2
  refine ⟨fun z e => absurd (h.mpr e) (Int32.not_lt.mpr z), fun z => Int32.not_lt.mp fun y => z (h.mp y)⟩
theorem lstp_n {G : GT} {M : MT} {t k l : Nat} {s : LVS} (g : ¬ G k l = true) : lstp G M t k l s = s := if_neg g
theorem lstp_0 {G : GT} {M : MT} {t k l : Nat} {s : LVS} (g : G k l = true) (h : M.2.1 l = 0) : lstp G M t k l s = (s.1, if s.2 = 0 then t + 1 else s.2) := by
  unfold lstp
  rw [if_pos g, if_pos h]
theorem lstp_a {G : GT} {M : MT} {t k l m : Nat} {s : LVS} (g : G k l = true) (h : M.2.1 l = m + 1) (d : s.1 m = 0) : lstp G M t k l s = (fun a => if a = m then t + 2 else s.1 a, s.2) := by
  unfold lstp
  rw [if_pos g, h, if_neg (by omega), Nat.add_sub_cancel, if_pos d]
theorem lstp_b {G : GT} {M : MT} {t k l m : Nat} {s : LVS} (g : G k l = true) (h : M.2.1 l = m + 1) (d : ¬ s.1 m = 0) : lstp G M t k l s = s := by
  unfold lstp
  rw [if_pos g, h, if_neg (by omega), Nat.add_sub_cancel, if_neg d]
theorem sA_row {v : OV} {j i : Nat} {x : Int32} : (sA v j i x).1 j = upd (v.1 j) i x := by simp [sA]
theorem sA_oth {v : OV} {j i a : Nat} {x : Int32} (h : a ≠ j) : (sA v j i x).1 a = v.1 a := by simp [sA, h]
theorem sI_at {v : OV} {j : Nat} {x : Int32} : (sI v j x).2 j = x := pk_us
theorem sI_oth {v : OV} {j a : Nat} {x : Int32} (h : a ≠ j) : (sI v j x).2 a = v.2 a := pk_un h
section LEVC
variable {v : OV} {A : AL} {Q : OV → Prop}
theorem c_levelAt {w : OV} {Q : Int32 → Prop} {k : Nat} (hk : k < 10) (hq : Q (w.1 0 k)) : wp_X6_levelAt Q (nI k) w := by
  refine br_f (nI_pos (by omega)) (br_f (by rw [ten]; exact nI_ge hk (by omega)) ⟨vp_in_nI hk (by omega), ?_⟩)
  rw [nI_clamp (by omega)]; exact hq
theorem c_spreadLevel (h : CR v A) (hI : Inv A) {k t : Nat} (hk : k < aNk A) (ht : t ≤ 9) {w : OV} {s : LVS} (hw : WRr (w.1 0) (w.2 2) s) (hq : ∀ w', WRr (w'.1 0) (w'.2 2) (lvl (gA A) (mO A) t k (aNl A) s) → Q w') : wp_X6_spreadLevel Q (nI k) (nI t) w v := by
  have n1 := hI.1; have n2 := hI.2.1
  have key : ∀ d i w, i + d = aNl A → WRr (w.1 0) (w.2 2) (lvl (gA A) (mO A) t k i s) → wp_X6_spreadLevel_3_loop Q v (d + 1) (nI k) (nI t) (nI i) w := fun d => by
    induction d with
    | zero =>
      intro i w hi hw
      have hi : i = aNl A := by omega
      subst hi
      exact br_t (locksEnd h hI) (hq w hw)
    | succ d ih =>
      intro i w hi hw
      have hil : i < aNl A := by omega
      have next : ∀ w', WRr (w'.1 0) (w'.2 2) (lstp (gA A) (mO A) t k i (lvl (gA A) (mO A) t k i s)) → wp_X6_spreadLevel_86 Q (wp_X6_spreadLevel_3_loop Q v (d + 1)) v (nI k) (nI t) (nI i) w' := fun w' hw' => by
        rintro _ rfl
        rw [nI_1]
        exact ih (i + 1) w' (by omega) hw'
      generalize lvl (gA A) (mO A) t k i s = s1 at hw next
      refine br_f (locksOn h hI hil) (c_isFit h hI hk hil ⟨fun c => ?_, fun c => ?_⟩)
      · have g : gA A k i = true := gA_t.mpr (Classical.not_not.mp fun z => c (b01_0.mpr z))
        refine c_keyIn h hI hil ?_
        by_cases e : aHk A i = 0
        · rw [e]
          refine c_hasKey_f h hI ?_ ⟨fun z => absurd rfl z, fun _ => ?_⟩
          · rintro ⟨m, hm, e2⟩
            exact absurd (show nI m < 0 by rw [← e2]; decide) (nI_pos (by omega))
          · rw [lstp_0 (M := mO A) g e] at next
            have fin : ∀ x, WRr (w.1 0) x (s1.1, if s1.2 = 0 then t + 1 else s1.2) → wp_X6_spreadLevel_59 Q (wp_X6_spreadLevel_3_loop Q v (d + 1)) v (nI k) (nI t) (nI i) x w := fun x hx => by
              rintro _ rfl
              exact next _ (by rw [sI_at]; exact hx)
            have e3 := (lv_0 hw.2.2).1
            rw [← hw.2.1] at e3
            refine ⟨fun z => fin _ ?_, fun z => fin _ ?_⟩
            · rw [if_neg fun y => z (e3.mpr y)]; exact hw
            · rw [if_pos (e3.mp z)]; exact WRr_l hw ht
        · obtain ⟨m, hm⟩ : ∃ m, aHk A i = m + 1 := ⟨aHk A i - 1, by omega⟩
          have hmk : m < aNk A := by have := (hI.2.2.2.2.1 i hil).2.1; omega
          rw [hm, nI_pred]
          have vm : vp_in (nI m) 10 := vp_in_nI (by omega) (by omega)
          have hm10 : m < 10 := by omega
          have em := hw.1 m hm10
          refine c_hasKey_t h hI hmk ⟨fun _ => ⟨vm, ?_⟩, fun z => absurd z (by decide)⟩
          rw [nI_clamp (by omega), em.1]
          refine ⟨fun z => ?_, fun z => ⟨vm, ?_⟩⟩
          · rw [lstp_b (M := mO A) g hm (fun y => z ((lv_0 em.2).1.mpr y))] at next
            exact next w hw
          · rw [lstp_a (M := mO A) g hm ((lv_0 em.2).1.mp z)] at next
            rintro _ rfl
            refine next _ ?_
            rw [sA_row]
            exact WRr_a hw ht m
      · have g : ¬ gA A k i = true := fun z => (b01_0.mp c) (gA_t.mp z)
        rw [lstp_n g] at next
        exact next w hw
  exact ⟨aNl A + 1, key (aNl A) 0 w (by omega) hw⟩
theorem c_findLevels (h : CR v A) (hI : Inv A) {w : OV} (hq : ∀ w', WRr (w'.1 0) (w'.2 2) (LV (gA A) (aNk A) (aNl A) (mO A)) → Q w') : wp_X6_findLevels Q w v := by
  have n1 := hI.1; have n2 := hI.2.1
  -- the levels, one after the other
  have key : ∀ d t w, t + d = 10 → WRr (w.1 0) (w.2 2) (lvt (gA A) (aNk A) (aNl A) (mO A) t) → wp_X6_findLevels_59_loop Q v (d + 1) (nI t) w := fun d => by
    induction d with
    | zero =>
      intro t w ht hw
      have ht : t = 10 := by omega
      subst ht
      exact br_t (by decide) (hq w hw)
    | succ d ih =>
      intro t w ht hw
      have inner : ∀ d' i w, i + d' = aNk A → WRr (w.1 0) (w.2 2) (lvk (gA A) (mO A) (aNl A) t i (lvt (gA A) (aNk A) (aNl A) (mO A) t)) → wp_X6_findLevels_67_loop Q (wp_X6_findLevels_59_loop Q v (d + 1)) v (d' + 1) (nI t) (nI i) w := fun d' => by
        induction d' with
        | zero =>
          intro i w hi hw
          have hi : i = aNk A := by omega
          subst hi
          refine br_t (keysEnd h hI) ?_
          rintro _ rfl
          rw [nI_1]
          exact ih (t + 1) w (by omega) hw
        | succ d' ih' =>
          intro i w hi hw
          have hik : i < aNk A := by omega
          have next : ∀ w', WRr (w'.1 0) (w'.2 2) (lvs (gA A) (mO A) (aNl A) t i (lvk (gA A) (mO A) (aNl A) t i (lvt (gA A) (aNk A) (aNl A) (mO A) t))) → wp_X6_findLevels_91 Q (wp_X6_findLevels_59_loop Q v (d + 1)) (wp_X6_findLevels_67_loop Q (wp_X6_findLevels_59_loop Q v (d + 1)) v (d' + 1)) v (nI t) (nI i) w' := fun w' hw' => by
            rintro _ rfl
            rw [nI_1]
            exact ih' (i + 1) w' (by omega) hw'
          generalize lvk (gA A) (mO A) (aNl A) t i (lvt (gA A) (aNk A) (aNl A) (mO A) t) = s1 at hw next
          have ei := hw.1 i (by omega)
          have eq := lv_eq ei.2 (show t ≤ 12 by omega)
          rw [← ei.1] at eq
          refine br_f (keysOn h hI hik) (c_levelAt (by omega) ⟨fun z => ?_, fun z => ?_⟩)
          · refine next w ?_
            unfold lvs
            rw [if_neg fun y => z (eq.mpr y)]; exact hw
          · refine c_spreadLevel h hI hik (by omega) hw (fun w' hw' => next w' ?_)
            unfold lvs
            rw [if_pos (eq.mp z)]; exact hw'
      exact br_f (by rw [ten]; exact nI_ge (by omega) (by omega)) ⟨aNk A + 1, inner (aNk A) 0 w (by omega) hw⟩
  -- the keys in no lock
  have beg : ∀ d i w, i + d = 10 → (∀ k, k < i → w.1 0 k = nI ((lv0 (aNk A) (mO A)).1 k) - 1) → wp_X6_findLevels_2_loop Q v (d + 1) (nI i) w := fun d => by
    induction d with
    | zero =>
      intro i w hi hw
      have hi : i = 10 := by omega
      subst hi
      refine br_t (by decide) ?_
      rintro _ rfl
      refine ⟨11, key 10 0 _ (by omega) ⟨fun k hk => ⟨hw k hk, ?_⟩, ?_, Nat.zero_le _⟩⟩
      · show (if k < aNk A ∧ (mO A).1 k = 0 then 1 else 0) ≤ 12
        split <;> omega
      · show (sI w 2 (-1 : Int32)).2 2 = nI 0 - 1
        rw [sI_at]; decide
    | succ d ih =>
      intro i w hi hw
      have next : ∀ x, x = nI ((lv0 (aNk A) (mO A)).1 i) - 1 → wp_X6_findLevels_45 Q (wp_X6_findLevels_2_loop Q v (d + 1)) v (nI i) (nI i) x w := fun x hx => by
        refine ⟨vp_in_nI (by omega) (by omega), ?_⟩
        rintro _ rfl
        rintro _ rfl
        rw [nI_1, nI_clamp (by omega)]
        refine ih (i + 1) _ (by omega) (fun k hk => ?_)
        rw [sA_row]
        by_cases c : k = i
        · rw [c, pk_us]; exact hx
        · rw [pk_un c]; exact hw k (by omega)
      have no : ¬ (i < aNk A ∧ (mO A).1 i = 0) → wp_X6_findLevels_29 Q (wp_X6_findLevels_2_loop Q v (d + 1)) v (nI i) w := fun hn => by
        refine ⟨fun _ => next _ ?_, fun z => absurd rfl z⟩
        show (-1 : Int32) = nI (if i < aNk A ∧ (mO A).1 i = 0 then 1 else 0) - 1
        rw [if_neg hn]; decide
      refine br_f (by rw [ten]; exact nI_ge (by omega) (by omega)) ?_
      by_cases c : i < aNk A
      · refine c_hasKey_t h hI c ⟨fun z => absurd z (by decide), fun _ => c_lockWith h hI c ⟨fun z => no fun y => z ((nI_m1 (ik_lt hI c)).1.mpr y.2), fun z => ⟨fun y => absurd y (by decide), fun _ => next _ ?_⟩⟩⟩
        show (0 : Int32) = nI (if i < aNk A ∧ (mO A).1 i = 0 then 1 else 0) - 1
        rw [if_pos ⟨c, (nI_m1 (ik_lt hI c)).1.mp z⟩]; decide
      · refine c_hasKey_f h hI ?_ ⟨fun _ => no fun y => c y.1, fun z => absurd rfl z⟩
        rintro ⟨m, hm, e⟩
        have := (nI_eq (show i < 2 ^ 31 by omega) (show m < 2 ^ 31 by omega)).mp e
        omega
  exact ⟨11, beg 10 0 w (by omega) (fun k hk => absurd hk (Nat.not_lt_zero k))⟩
end LEVC
