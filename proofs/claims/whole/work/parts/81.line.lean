/-! the line: what is written, on both sides -/
abbrev WT : Type := Nat × (Nat → Nat)
def ps (W : WT) (c : Nat) : WT := (W.1 + 1, fun i => if i = W.1 then c else W.2 i)
def pnu (W : WT) (n : Nat) : WT := ps (if n < 10 then W else ps W (48 + n / 10)) (48 + n % 10)
def pon (W : WT) (k s p : Nat) : WT := if p = 0 then pnu (ps (pnu W k) 35) s else pnu (ps (pnu (ps (pnu W k) 35) s) 45) (p - 1)
def pln (f g : Nat → Nat) : Nat → WT
  | 0 => (0, fun _ => 0)
  | k + 1 => pon (if k = 0 then pln f g k else ps (pln f g k) 32) k (f k) (g k)
theorem pnu_1 {W : WT} {n : Nat} (h : n < 10) : (pnu W n).1 = W.1 + 1 := by
  unfold pnu
  rw [if_pos h]; rfl
theorem pnu_2 {W : WT} {n : Nat} : W.1 + 1 ≤ (pnu W n).1 ∧ (pnu W n).1 ≤ W.1 + 2 := by
  unfold pnu
  by_cases h : n < 10
  · rw [if_pos h]
    exact ⟨Nat.le_refl _, Nat.le_succ _⟩
  · rw [if_neg h]
    exact ⟨Nat.le_succ _, Nat.le_refl _⟩
theorem pon_len {W : WT} {k s p : Nat} (hk : k < 10) (hp : p ≤ 10) : W.1 + 3 ≤ (pon W k s p).1 ∧ (pon W k s p).1 ≤ W.1 + 6 := by
  have a := pnu_1 (W := W) hk
  have b := pnu_2 (W := ps (pnu W k) 35) (n := s)
  have b0 : (ps (pnu W k) 35).1 = (pnu W k).1 + 1 := rfl
  unfold pon
  by_cases c : p = 0
  · rw [if_pos c]; omega
  · rw [if_neg c]
    have d := pnu_1 (W := ps (pnu (ps (pnu W k) 35) s) 45) (show p - 1 < 10 by omega)
    have d0 : (ps (pnu (ps (pnu W k) 35) s) 45).1 = (pnu (ps (pnu W k) 35) s).1 + 1 := rfl
    omega
theorem pln_len {f g : Nat → Nat} {N : Nat} (hN : N ≤ 10) (hg : ∀ k, k < N → g k ≤ 10) : ∀ k, k ≤ N → (pln f g k).1 ≤ 7 * k ∧ (k ≠ 0 → (pln f g k).1 ≠ 0) := by
  intro k
  induction k with
  | zero => intro _; exact ⟨Nat.le_refl _, fun z => absurd rfl z⟩
  | succ k ih =>
    intro hk
    obtain ⟨i1, i2⟩ := ih (by omega)
    have e : pln f g (k + 1) = pon (if k = 0 then pln f g k else ps (pln f g k) 32) k (f k) (g k) := rfl
    rw [e]
    have hl : (if k = 0 then pln f g k else ps (pln f g k) 32).1 ≤ (pln f g k).1 + 1 := by
      by_cases c : k = 0
      · rw [if_pos c]; omega
      · rw [if_neg c]; exact Nat.le_refl _
    have t := pon_len (W := if k = 0 then pln f g k else ps (pln f g k) 32) (k := k) (s := f k) (p := g k) (by omega) (hg k (by omega))
    exact ⟨by omega, fun _ => by omega⟩
def LNw (row : Nat → Int32) (x : Int32) (W : WT) : Prop := x = nI W.1 ∧ ∀ i, i < W.1 → row i = nI (W.2 i) ∧ W.2 i < 65536
theorem LNw_ps {row : Nat → Int32} {x : Int32} {W : WT} {c : Nat} (h : LNw row x W) (hc : c < 65536) : LNw (upd row W.1 (nI c)) (nI (W.1 + 1)) (ps W c) := by
  refine ⟨rfl, fun i hi => ?_⟩
  show upd row W.1 (nI c) i = nI (if i = W.1 then c else W.2 i) ∧ (if i = W.1 then c else W.2 i) < 65536
  by_cases d : i = W.1
  · rw [if_pos d, d, pk_us]; exact ⟨rfl, hc⟩
  · rw [if_neg d, pk_un d]
    have hi' : i < W.1 + 1 := hi
    exact h.2 i (by omega)
theorem tb_d1 : ∀ n : Nat, n < 100 → ((48 : Int32) + (nI n - nI n / (10 : Int32) * (10 : Int32))) = nI (48 + n % 10) ∧ ((48 : Int32) + (nI n / (10 : Int32))) = nI (48 + n / 10) := by decide +kernel
theorem tb_c : ∀ c : Nat, c < 128 → ((nI c).toUInt32 % 65536).toInt32 = nI c := by decide +kernel
theorem c_add2 {w : OV} {Q : OV → Prop} {W : WT} {c : Nat} (h : LNw (w.1 0) (w.2 1) W) (hn : W.1 < 80) (hc : c < 65536) (hq : ∀ w' : OV, LNw (w'.1 0) (w'.2 1) (ps W c) → Q w') : wp_X2_add Q (nI c) w := by
  unfold wp_X2_add wp_X2_add_0
  rw [h.1]
  refine br_f (nI_pos (by omega)) (br_f (show ¬ nI 80 ≤ nI W.1 from nI_ge hn (by omega)) ⟨vp_in_nI hn (by omega), ?_⟩)
  rintro _ rfl
  rintro _ rfl
  rw [nI_clamp (by omega), nar_ch hc]
  refine hq _ ?_
  have e : (sA w 0 W.1 (nI c)).2 1 + 1 = nI (W.1 + 1) := by
    show w.2 1 + 1 = _
    rw [h.1, nI_1]
  rw [e, sI_at]
  show LNw ((sA w 0 W.1 (nI c)).1 0) (nI (W.1 + 1)) (ps W c)
  rw [sA_row]
  exact LNw_ps h hc
theorem c_addNu {w : OV} {Q : OV → Prop} {W : WT} {n : Nat} (h : LNw (w.1 0) (w.2 1) W) (hn : W.1 + 1 < 80) (h1 : n < 100) (hq : ∀ w' : OV, LNw (w'.1 0) (w'.2 1) (pnu W n) → Q w') : wp_X2_addNumber Q (nI n) w := by
  obtain ⟨d1, d2⟩ := tb_d1 n h1
  have fin : ∀ (w : OV) W', LNw (w.1 0) (w.2 1) W' → W'.1 < 80 → (∀ w' : OV, LNw (w'.1 0) (w'.2 1) (ps W' (48 + n % 10)) → Q w') → wp_X2_addNumber_18 Q (nI n) w := fun w W' a b e => by
    unfold wp_X2_addNumber_18
    rw [d1, tb_c _ (by omega)]
    exact c_add2 a b (by omega) e
  unfold pnu at hq
  unfold wp_X2_addNumber wp_X2_addNumber_0
  by_cases c : n < 10
  · rw [if_pos c] at hq
    exact br_t (show nI n < nI 10 from nI_lt c (by omega)) (fin w W h (by omega) hq)
  · rw [if_neg c] at hq
    refine br_f (fun z => c ((nI_ltI (a := n) (b := 10) (by omega) (by omega)).mp z)) ?_
    rw [d2, tb_c _ (by omega)]
    exact c_add2 h (by omega) (by omega) (fun w' a => fin w' _ a hn hq)
theorem c_writeOne {w : OV} {Q : OV → Prop} {W : WT} {k s p : Nat} (h : LNw (w.1 0) (w.2 1) W) (hn : W.1 + 7 < 80) (hW : W.1 = 0 ↔ k = 0) (hk : k < 10) (hs : s < 64) (hp : p ≤ 10) (hq : ∀ w' : OV, LNw (w'.1 0) (w'.2 1) (pon (if k = 0 then W else ps W 32) k s p) → Q w') : wp_X2_writeOne Q (nI k) (nI s) (nI p - 1) w := by
  have body : ∀ (w : OV) W', LNw (w.1 0) (w.2 1) W' → W'.1 + 6 < 80 → (∀ w' : OV, LNw (w'.1 0) (w'.2 1) (pon W' k s p) → Q w') → wp_X2_writeOne_13 Q (nI k) (nI s) (nI p - 1) w := fun w W' a b e => by
    have l1 := pnu_1 (W := W') hk
    have l2 : (ps (pnu W' k) 35).1 = (pnu W' k).1 + 1 := rfl
    have l3 := pnu_2 (W := ps (pnu W' k) 35) (n := s)
    unfold pon at e
    refine c_addNu a (by omega) (by omega) (fun w1 a1 => c_add2 (c := 35) a1 (by omega) (by omega) (fun w2 a2 => c_addNu a2 (by omega) (by omega) (fun w3 a3 => ⟨fun z => ?_, fun z => ?_⟩)))
    · rw [if_pos ((nI_m1 (by omega)).1.mp z)] at e
      exact e w3 a3
    · have z' : ¬ p = 0 := fun y => z ((nI_m1 (by omega)).1.mpr y)
      rw [if_neg z'] at e
      obtain ⟨q, hq'⟩ : ∃ q, p = q + 1 := ⟨p - 1, by omega⟩
      rw [hq', Nat.add_sub_cancel] at e
      rw [hq', nI_pred]
      exact c_add2 (c := 45) a3 (by omega) (by omega) (fun w4 a4 => c_addNu a4 (by show (pnu (ps (pnu W' k) 35) s).1 + 1 + 1 < 80; omega) (by omega) e)
  unfold wp_X2_writeOne wp_X2_writeOne_0
  rw [h.1]
  by_cases c : k = 0
  · rw [if_pos c] at hq
    have w0 := hW.mpr c
    exact br_t (by rw [w0]; decide) (body w W h (by omega) hq)
  · rw [if_neg c] at hq
    have w0 : ¬ W.1 = 0 := fun z => c (hW.mp z)
    refine br_f (fun z => w0 ?_) (c_add2 (c := 32) h (by omega) (by omega) (fun w1 a1 => body w1 _ a1 (by show W.1 + 1 + 6 < 80; omega) hq))
    have := (nI_leI (a := W.1) (b := 0) (by omega) (by omega)).mp (by rw [nI_0]; exact z)
    omega
section LINEC
variable {v : OV} {A : AL} {Q : OV → Prop}
theorem pl_fact {f g : Nat → Nat} {N : Nat} (hN : N ≤ 10) (hg : ∀ k, k < N → g k ≤ 10) {k : Nat} (hk : k < N) : (pln f g k).1 + 7 < 80 ∧ ((pln f g k).1 = 0 ↔ k = 0) := by
  obtain ⟨a, b⟩ := pln_len (f := f) hN hg k (by omega)
  exact ⟨by omega, fun z => Classical.byContradiction fun y => b y z, fun z => by rw [z]; rfl⟩
theorem c_writeKeys (h : CR v A) (hI : Inv A) {w : OV} (h0 : w.2 1 = 0) (hq : ∀ w' : OV, LNw (w'.1 0) (w'.2 1) (pln (aWd A) (aIk A) (aNk A)) → Q w') : wp_X2_writeKeys Q w v := by
  have n1 := hI.1; have n2 := hI.2.1
  have hg : ∀ k, k < aNk A → aIk A k ≤ 10 := fun k hk => by have := (hI.2.2.2.1 k hk).2.2.1; omega
  have key : ∀ d i w, i + d = aNk A → LNw (w.1 0) (w.2 1) (pln (aWd A) (aIk A) i) → wp_X2_writeKeys_2_loop Q v (d + 1) (nI i) w := fun d => by
    induction d with
    | zero =>
      intro i w hi hw
      have hi : i = aNk A := by omega
      subst hi
      exact br_t (keysEnd h hI) (hq w hw)
    | succ d ih =>
      intro i w hi hw
      have hik : i < aNk A := by omega
      obtain ⟨p1, p2⟩ := pl_fact (f := aWd A) n1 hg hik
      refine br_f (keysOn h hI hik) (c_wardsOf h hI hik (c_lockWith h hI hik (c_writeOne hw p1 p2 (by omega) (hI.2.2.2.1 i hik).1 (hg i hik) (fun w' hw' => ?_))))
      rintro _ rfl
      rw [nI_1]
      exact ih (i + 1) w' (by omega) hw'
  exact ⟨aNk A + 1, key (aNk A) 0 w (by omega) ⟨h0, fun i hi => absurd hi (Nat.not_lt_zero i)⟩⟩
theorem c_writeLocks (h : CR v A) (hI : Inv A) {w : OV} (h0 : w.2 1 = 0) (hq : ∀ w' : OV, LNw (w'.1 0) (w'.2 1) (pln (aPn A) (aHk A) (aNl A)) → Q w') : wp_X2_writeLocks Q w v := by
  have n1 := hI.1; have n2 := hI.2.1
  have hg : ∀ k, k < aNl A → aHk A k ≤ 10 := fun k hk => by have := (hI.2.2.2.2.1 k hk).2.1; omega
  have key : ∀ d i w, i + d = aNl A → LNw (w.1 0) (w.2 1) (pln (aPn A) (aHk A) i) → wp_X2_writeLocks_2_loop Q v (d + 1) (nI i) w := fun d => by
    induction d with
    | zero =>
      intro i w hi hw
      have hi : i = aNl A := by omega
      subst hi
      exact br_t (locksEnd h hI) (hq w hw)
    | succ d ih =>
      intro i w hi hw
      have hik : i < aNl A := by omega
      obtain ⟨p1, p2⟩ := pl_fact (f := aPn A) n2 hg hik
      refine br_f (locksOn h hI hik) (c_pinsOf h hI hik (c_keyIn h hI hik (c_writeOne hw p1 p2 (by omega) (hI.2.2.2.2.1 i hik).1 (hg i hik) (fun w' hw' => ?_))))
      rintro _ rfl
      rw [nI_1]
      exact ih (i + 1) w' (by omega) hw'
  exact ⟨aNl A + 1, key (aNl A) 0 w (by omega) ⟨h0, fun i hi => absurd hi (Nat.not_lt_zero i)⟩⟩
end LINEC
/-- only the line is another -/
def MLn (m m' : OV) : Prop := (∀ j, j ≠ 16 → m'.1 j = m.1 j) ∧ ∀ j, j ≠ 17 → m'.2 j = m.2 j
theorem MLn.rfl' {m : OV} : MLn m m := ⟨fun _ _ => rfl, fun _ _ => rfl⟩
theorem MLn.tr {m m' m'' : OV} (h : MLn m m') (h' : MLn m' m'') : MLn m m'' := ⟨fun j hj => (h'.1 j hj).trans (h.1 j hj), fun j hj => (h'.2 j hj).trans (h.2 j hj)⟩
theorem m_writes {m : OV} {Q : OV → Prop} {W : WT} {c : Nat} (h : LNw (m.1 16) (m.2 17) W) (hn : W.1 < 90) (hc : c < 128) (hq : ∀ m' : OV, LNw (m'.1 16) (m'.2 17) (ps W c) → MLn m m' → Q m') : wp_X8_writes Q (nI c) m := by
  unfold wp_X8_writes wp_X8_writes_0
  rw [h.1, tb_c c hc, nar_ch (by omega)]
  refine ⟨vp_in_nI hn (by omega), ?_⟩
  rintro _ rfl
  rintro _ rfl
  rw [nI_clamp (by omega)]
  have e : (sA m 16 W.1 (nI c)).2 17 + 1 = nI (W.1 + 1) := by
    show m.2 17 + 1 = _
    rw [h.1, nI_1]
  rw [e]
  refine hq _ ?_ ⟨fun j hj => ?_, fun j hj => ?_⟩
  · rw [sI_at]
    show LNw ((sA m 16 W.1 (nI c)).1 16) (nI (W.1 + 1)) (ps W c)
    rw [sA_row]
    exact LNw_ps h (by omega)
  · show (sA m 16 W.1 (nI c)).1 j = m.1 j
    exact sA_oth hj
  · rw [sI_oth hj]; rfl
theorem m_writesNu {m : OV} {Q : OV → Prop} {W : WT} {n : Nat} (h : LNw (m.1 16) (m.2 17) W) (hn : W.1 + 1 < 90) (h1 : n < 100) (hq : ∀ m' : OV, LNw (m'.1 16) (m'.2 17) (pnu W n) → MLn m m' → Q m') : wp_X8_writesNumber Q (nI n) m := by
  obtain ⟨d1, d2⟩ := tb_d1 n h1
  have fin : ∀ (m1 : OV) W', LNw (m1.1 16) (m1.2 17) W' → W'.1 < 90 → MLn m m1 → (∀ m' : OV, LNw (m'.1 16) (m'.2 17) (ps W' (48 + n % 10)) → MLn m m' → Q m') → wp_X8_writesNumber_17 Q (nI n) m1 := fun m1 W' a b g e => by
    unfold wp_X8_writesNumber_17
    rw [d1]
    exact m_writes a b (by omega) (fun m' a' g' => e m' a' (g.tr g'))
  unfold pnu at hq
  unfold wp_X8_writesNumber wp_X8_writesNumber_0
  by_cases c : n < 10
  · rw [if_pos c] at hq
    exact br_t (show nI n ≤ nI 9 from nI_le (by omega) (by omega)) (fin m W h (by omega) MLn.rfl' hq)
  · rw [if_neg c] at hq
    refine br_f (fun z => c ?_) ?_
    · have := (nI_leI (a := n) (b := 9) (by omega) (by omega)).mp z
      omega
    rw [d2]
    exact m_writes h (by omega) (by omega) (fun m' a g => fin m' _ a hn g hq)
theorem le0 {k : Nat} (h : k < 2 ^ 31) : nI k ≤ (0 : Int32) ↔ k = 0 := by
  rw [← nI_0, nI_leI h (by omega)]
  omega
section LINEM
variable {A : AL} {Q : Int32 → OV → Prop}
theorem m_lineS {m : OV} (h : RR (m.1 0) A) (hI : Inv A) {x : Int32} (f g : Nat → Nat) (N : Nat) (hN : N ≤ 10) (hf : ∀ k, k < N → f k < 64) (hg : ∀ k, k < N → g k ≤ 10)
    (hend : ∀ m' k, k ≤ N → RR (m'.1 0) A → ∀ K12, (k < N → (k = 0 → wp_X8_line_40 Q K12 x (nI k) m') ∧ (¬ k = 0 → wp_X8_writes (fun (v_20 : OV) => (wp_X8_line_40 Q K12 x (nI k) v_20)) (32 : Int32) m')) → (¬ k < N → Q (m'.2 17) m') → wp_X8_line_12 Q K12 x (nI k) m')
    (hset : ∀ m' k, k < N → RR (m'.1 0) A → ∀ P : Int32 → Prop, P (nI (f k)) → (x = 0 → wp_X8_ofKey P (nI k) (0 : Int32) m') ∧ (¬ (x = 0) → wp_X8_ofLock P (nI k) (0 : Int32) m'))
    (hpar : ∀ m' k, k < N → RR (m'.1 0) A → ∀ P : Int32 → Prop, P (nI (g k) - 1) → (x = 0 → wp_X8_ofKey P (nI k) (2 : Int32) m') ∧ (¬ (x = 0) → wp_X8_ofLock P (nI k) (1 : Int32) m'))
    (h0 : m.2 17 = 0) (hq : ∀ m', LNw (m'.1 16) (m'.2 17) (pln f g N) → MLn m m' → Q (nI (pln f g N).1) m') : ∃ n, wp_X8_line_12_loop Q n x (0 : Int32) m := by
  have key : ∀ d k m', k + d = N → LNw (m'.1 16) (m'.2 17) (pln f g k) → MLn m m' → wp_X8_line_12_loop Q (d + 1) x (nI k) m' := fun d => by
    induction d with
    | zero =>
      intro k m' hk hw hm
      have hk : k = N := by omega
      subst hk
      have r' : RR (m'.1 0) A := by rw [hm.1 0 (by decide)]; exact h
      refine hend m' k (by omega) r' _ (fun z => absurd z (by omega)) (fun _ => ?_)
      rw [hw.1]
      exact hq m' hw hm
    | succ d ih =>
      intro k m' hk hw hm
      have hkN : k < N := by omega
      obtain ⟨p1, p2⟩ := pl_fact (f := f) hN hg hkN
      have r' : RR (m'.1 0) A := by rw [hm.1 0 (by decide)]; exact h
      have body : ∀ m1 W', LNw (m1.1 16) (m1.2 17) W' → W'.1 + 6 < 90 → MLn m m1 → (∀ m2, LNw (m2.1 16) (m2.2 17) (pon W' k (f k) (g k)) → MLn m m2 → wp_X8_line_12_loop Q (d + 1) x (nI (k + 1)) m2) → wp_X8_line_40 Q (wp_X8_line_12_loop Q (d + 1)) x (nI k) m1 := fun m1 W' a b gm e => by
        have l1 := pnu_1 (W := W') (show k < 10 by omega)
        have l2 : (ps (pnu W' k) 35).1 = (pnu W' k).1 + 1 := rfl
        have l3 := pnu_2 (W := ps (pnu W' k) 35) (n := f k)
        have fk := hf k hkN
        have gk := hg k hkN
        have rr : ∀ m2, MLn m m2 → RR (m2.1 0) A := fun m2 z => by rw [z.1 0 (by decide)]; exact h
        unfold pon at e
        refine m_writesNu a (by omega) (by omega) (fun m2 a2 g2 => m_writes (c := 35) a2 (by omega) (by omega) (fun m3 a3 g3 => hset m3 k hkN (rr m3 (gm.tr (g2.tr g3))) _ ?_))
        refine m_writesNu a3 (by omega) (by omega) (fun m4 a4 g4 => hpar m4 k hkN (rr m4 (gm.tr (g2.tr (g3.tr g4)))) _ ?_)
        have g5 := gm.tr (g2.tr (g3.tr g4))
        refine ⟨fun z => ?_, fun z => ?_⟩
        · have z' : ¬ g k = 0 := fun y => absurd ((nI_m1 (show g k < 2 ^ 30 by omega)).2.mpr y) (Int32.not_lt.mpr z)
          rw [if_neg z'] at e
          obtain ⟨q, hq'⟩ : ∃ q, g k = q + 1 := ⟨g k - 1, by omega⟩
          rw [hq', Nat.add_sub_cancel] at e
          rw [hq', nI_pred]
          refine m_writes (c := 45) a4 (by omega) (by omega) (fun m5 a5 g6 => m_writesNu a5 (by show (pnu (ps (pnu W' k) 35) (f k)).1 + 1 + 1 < 90; omega) (by omega) (fun m6 a6 g7 => ?_))
          rintro _ rfl
          rw [nI_1]
          exact e m6 a6 (g5.tr (g6.tr g7))
        · have z' : g k = 0 := Classical.byContradiction fun y => z (Int32.not_lt.mp fun u => y ((nI_m1 (show g k < 2 ^ 30 by omega)).2.mp u))
          rw [if_pos z'] at e
          rintro _ rfl
          rw [nI_1]
          exact e m4 a4 g5
      have nx : ∀ m2, LNw (m2.1 16) (m2.2 17) (pon (if k = 0 then pln f g k else ps (pln f g k) 32) k (f k) (g k)) → MLn m m2 → wp_X8_line_12_loop Q (d + 1) x (nI (k + 1)) m2 := fun m2 a b => ih (k + 1) m2 (by omega) a b
      refine hend m' k (by omega) r' _ (fun _ => ⟨fun c => ?_, fun c => ?_⟩) (fun z => absurd hkN z)
      · rw [if_pos c] at nx
        exact body m' _ hw (by omega) hm nx
      · rw [if_neg c] at nx
        exact m_writes (c := 32) hw (by omega) (by omega) (fun m1 a1 g1 => body m1 _ a1 (by show (pln f g k).1 + 1 + 6 < 90; omega) (hm.tr g1) nx)
  exact ⟨N + 1, key N 0 m (by omega) ⟨h0, fun i hi => absurd hi (Nat.not_lt_zero i)⟩ MLn.rfl'⟩
theorem m_line {m : OV} (h : RR (m.1 0) A) (hI : Inv A) {x : Int32} (hq : ∀ m' W, W = (if x = 0 then pln (aWd A) (aIk A) (aNk A) else pln (aPn A) (aHk A) (aNl A)) → LNw (m'.1 16) (m'.2 17) W → (∀ j, j ≠ 16 → m'.1 j = m.1 j) → m'.2 9 = 0 → (∀ j, j ≠ 9 → j ≠ 17 → m'.2 j = m.2 j) → Q (nI W.1) m') : wp_X8_line Q x m := by
  have n1 := hI.1; have n2 := hI.2.1
  unfold wp_X8_line wp_X8_line_0
  rintro _ rfl
  rintro _ rfl
  have h' : RR ((sI (sI m 9 0) 17 0).1 0) A := h
  have hz : (sI (sI m 9 0) 17 0).2 17 = 0 := sI_at
  have fr : ∀ m', MLn (sI (sI m 9 0) 17 0) m' → (∀ j, j ≠ 16 → m'.1 j = m.1 j) ∧ m'.2 9 = 0 ∧ ∀ j, j ≠ 9 → j ≠ 17 → m'.2 j = m.2 j := fun m' g => by
    refine ⟨fun j hj => g.1 j hj, ?_, fun j a b => ?_⟩
    · rw [g.2 9 (by decide), sI_oth (by decide), sI_at]
    · rw [g.2 j b, sI_oth b, sI_oth a]
  by_cases hx : x = 0
  · refine m_lineS h' hI (aWd A) (aIk A) (aNk A) n1 (fun k hk => (hI.2.2.2.1 k hk).1) (fun k hk => by have := (hI.2.2.2.1 k hk).2.2.1; omega) (fun m' k hkN hr K12 a b => ?_) (fun m' k hk hr P hp => ⟨fun _ => m_Wd hr hI hk hp, fun z => absurd hx z⟩) (fun m' k hk hr P hp => ⟨fun _ => m_Ik hr hI hk hp, fun z => absurd hx z⟩) hz (fun m' a b => ?_)
    · refine br_t hx ⟨v0i, ?_⟩
      have e8 : m'.1 0 0 = nI (aNk A) := hr.1
      rw [cn0, e8]
      refine ⟨fun z => b fun y => nI_ge y (by omega) z, fun z => ?_⟩
      have y : k < aNk A := Classical.byContradiction fun u => z (nI_le (by omega) (by omega))
      exact ⟨fun u => (a y).1 ((le0 (by omega)).mp u), fun u => (a y).2 fun w => u ((le0 (by omega)).mpr w)⟩
    · obtain ⟨f1, f2, f3⟩ := fr m' b
      exact hq m' _ (by rw [if_pos hx]) a f1 f2 f3
  · refine m_lineS h' hI (aPn A) (aHk A) (aNl A) n2 (fun k hk => (hI.2.2.2.2.1 k hk).1) (fun k hk => by have := (hI.2.2.2.2.1 k hk).2.1; omega) (fun m' k hkN hr K12 a b => ?_) (fun m' k hk hr P hp => ⟨fun z => absurd z hx, fun _ => m_Pn hr hI hk hp⟩) (fun m' k hk hr P hp => ⟨fun z => absurd z hx, fun _ => m_Hk hr hI hk hp⟩) hz (fun m' a b => ?_)
    · refine br_f hx ⟨v1i, ?_⟩
      have e9 : m'.1 0 1 = nI (aNl A) := hr.2.1
      rw [cn1, e9]
      refine ⟨fun z => b fun y => nI_ge y (by omega) z, fun z => ?_⟩
      have y : k < aNl A := Classical.byContradiction fun u => z (nI_le (by omega) (by omega))
      exact ⟨fun u => (a y).1 ((le0 (by omega)).mp u), fun u => (a y).2 fun w => u ((le0 (by omega)).mpr w)⟩
    · obtain ⟨f1, f2, f3⟩ := fr m' b
      exact hq m' _ (by rw [if_neg hx]) a f1 f2 f3
end LINEM
