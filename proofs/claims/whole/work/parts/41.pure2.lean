theorem cntloop (W : Nat → Int32 → Int32 → Prop) {N : Nat} (f : Nat → Nat) (hx : ∀ n, W (n + 1) (nI (sm f N)) (nI N)) (hs : ∀ n i, i < N → W n (nI (sm f (i + 1))) (nI (i + 1)) → W (n + 1) (nI (sm f i)) (nI i)) : ∃ n, W n 0 0 := by
  have key : ∀ d i, i + d = N → W (d + 1) (nI (sm f i)) (nI i) := fun d => by
    induction d with
    | zero =>
      intro i hi
      have hi : i = N := by omega
      subst hi
      exact hx 0
    | succ d ih => exact fun i hi => hs (d + 1) i (by omega) (ih (i + 1) (by omega))
  exact ⟨N + 1, key N 0 (by omega)⟩
/-- a loop that looks for the first place -/
theorem fndloop (W : Nat → Int32 → Prop) {N : Nat} (hx : (∀ i, i < N → True) → ∀ n, W (n + 1) (nI N)) (hs : ∀ n i, i < N → W n (nI (i + 1)) → W (n + 1) (nI i)) : ∃ n, W n 0 := by
  have key : ∀ d i, i + d = N → W (d + 1) (nI i) := fun d => by
    induction d with
    | zero =>
      intro i hi
      have hi : i = N := by omega
      subst hi
      exact hx (fun _ _ => trivial) 0
    | succ d ih => exact fun i hi => hs (d + 1) i (by omega) (ih (i + 1) (by omega))
  exact ⟨N + 1, key N 0 (by omega)⟩
theorem b01_t {p : Prop} [Decidable p] (h : p) : b01 p = 1 := if_pos h
theorem b01_f {p : Prop} [Decidable p] (h : ¬ p) : b01 p = 0 := if_neg h
theorem b01_le {p : Prop} [Decidable p] : b01 p ≤ 1 := by unfold b01; split <;> omega
theorem b01_0 {p : Prop} [Decidable p] : nI (b01 p) = 0 ↔ ¬ p := by
  by_cases h : p
  · rw [b01_t h]; exact ⟨fun e => absurd e (by decide), fun n => absurd h n⟩
  · rw [b01_f h]; exact ⟨fun _ => h, fun _ => by decide⟩
def sOpen (A : AL) : Nat := sm (fun l => b01 (¬ aHk A l = 0)) (aNl A)
def sFor (A : AL) (k : Nat) : Nat := sm (fun l => b01 (fit A k l)) (aNl A)
def sKeys (A : AL) (l : Nat) : Nat := sm (fun k => b01 (fit A k l)) (aNk A)
def sFits (A : AL) : Nat := sm (sFor A) (aNk A)
def sBars (A : AL) : Nat := sm (fun k => pop (bm A k)) (aNk A)
def sCo (A : AL) : Nat := sm (aCo A) (aNk A)
def sOn (A : AL) (p : Nat) : Nat := sm (fun k => b01 (aPo A k = p)) (aNk A)
def sOnIn (A : AL) (p : Nat) : Nat := sm (fun k => b01 (aPo A k = p ∧ ¬ aIk A k = 0)) (aNk A)
def sOnCo (A : AL) (p : Nat) : Nat := sm (fun k => if aPo A k = p then aCo A k else 0) (aNk A)
def costA (A : AL) (k l : Nat) : Nat := pop (lk (aPn A l) (aWd A k)) + (pop (aWd A k) + pop (lk (aPn A l) (aWd A k)) - (pop (aPn A l) + aSl A))
section CLS2
variable {v : OV} {A : AL} {Q : Int32 → Prop}
theorem keysEnd (h : CR v A) (hI : Inv A) : v.2 8 ≤ nI (aNk A) := by rw [h.1]; exact nI_le (Nat.le_refl _) (by have := hI.1; omega)
theorem keysOn (h : CR v A) (hI : Inv A) {i : Nat} (hi : i < aNk A) : ¬ v.2 8 ≤ nI i := by rw [h.1]; exact nI_ge hi (by have := hI.1; omega)
theorem locksEnd (h : CR v A) (hI : Inv A) : v.2 9 ≤ nI (aNl A) := by rw [h.2.1]; exact nI_le (Nat.le_refl _) (by have := hI.2.1; omega)
theorem locksOn (h : CR v A) (hI : Inv A) {i : Nat} (hi : i < aNl A) : ¬ v.2 9 ≤ nI i := by rw [h.2.1]; exact nI_ge hi (by have := hI.2.1; omega)
theorem hk_lt (hI : Inv A) {l : Nat} (hl : l < aNl A) : aHk A l < 2 ^ 30 := by have := (hI.2.2.2.2.1 l hl).2.1; have := hI.1; omega
theorem ik_lt (hI : Inv A) {k : Nat} (hk : k < aNk A) : aIk A k < 2 ^ 30 := by have := (hI.2.2.2.1 k hk).2.2.1; have := hI.2.1; omega
theorem c_countOpen (h : CR v A) (hI : Inv A) (hq : Q (nI (sOpen A))) : wp_X3_countOpen Q v := by
  refine cntloop (wp_X3_countOpen_4_loop Q v) (N := aNl A) (fun l => b01 (¬ aHk A l = 0)) (fun n => br_t (locksEnd h hI) hq) (fun n i hi K => br_f (locksOn h hI hi) (c_keyIn h hI hi ⟨fun c => ?_, fun c => ?_⟩))
  · have e := (nI_m1 (hk_lt hI hi)).1.mp c
    rw [sm, b01_f (fun z => z e), Nat.add_zero] at K
    rintro _ rfl
    rw [nI_1]; exact K
  · have e : ¬ aHk A i = 0 := fun z => c ((nI_m1 (hk_lt hI hi)).1.mpr z)
    rw [sm, b01_t e] at K
    rintro _ rfl _ rfl
    rw [nI_1, nI_1]; exact K
theorem c_countLocksFor (h : CR v A) (hI : Inv A) {k : Nat} (hk : k < aNk A) (hq : Q (nI (sFor A k))) : wp_X3_countLocksFor Q (nI k) v := by
  refine cntloop (fun n a b => wp_X3_countLocksFor_4_loop Q v n (nI k) a b) (N := aNl A) (fun l => b01 (fit A k l)) (fun n => br_t (locksEnd h hI) hq) (fun n i hi K => br_f (locksOn h hI hi) (c_isFit h hI hk hi ⟨fun c => ?_, fun c => ?_⟩))
  · rw [sm, b01_f (b01_0.mp c), Nat.add_zero] at K
    rintro _ rfl
    rw [nI_1]; exact K
  · rw [sm, b01_t (Classical.not_not.mp fun z => c (b01_0.mpr z))] at K
    rintro _ rfl _ rfl
    rw [nI_1, nI_1]; exact K
theorem c_countKeysFor (h : CR v A) (hI : Inv A) {l : Nat} (hl : l < aNl A) (hq : Q (nI (sKeys A l))) : wp_X3_countKeysFor Q (nI l) v := by
  refine cntloop (fun n a b => wp_X3_countKeysFor_4_loop Q v n (nI l) a b) (N := aNk A) (fun k => b01 (fit A k l)) (fun n => br_t (keysEnd h hI) hq) (fun n i hi K => br_f (keysOn h hI hi) (c_isFit h hI hi hl ⟨fun c => ?_, fun c => ?_⟩))
  · rw [sm, b01_f (b01_0.mp c), Nat.add_zero] at K
    rintro _ rfl
    rw [nI_1]; exact K
  · rw [sm, b01_t (Classical.not_not.mp fun z => c (b01_0.mpr z))] at K
    rintro _ rfl _ rfl
    rw [nI_1, nI_1]; exact K
theorem c_countFits (h : CR v A) (hI : Inv A) (hq : Q (nI (sFits A))) : wp_X3_countFits Q v := by
  refine cntloop (wp_X3_countFits_4_loop Q v) (N := aNk A) (sFor A) (fun n => br_t (keysEnd h hI) hq) (fun n i hi K => br_f (keysOn h hI hi) (c_countLocksFor h hI hi ?_))
  rw [sm] at K
  rintro _ rfl _ rfl
  rw [nI_add, nI_1]; exact K
theorem c_countBars (h : CR v A) (hI : Inv A) (hq : Q (nI (sBars A))) : wp_X3_countBars Q v := by
  refine cntloop (wp_X3_countBars_4_loop Q v) (N := aNk A) (fun k => pop (bm A k)) (fun n => br_t (keysEnd h hI) hq) (fun n i hi K => br_f (keysOn h hI hi) (c_barsOf h hI hi (c_bitCountN (bm_ok fun l => hI.2.2.2.2.2.1 i l).1 ?_)))
  rw [sm] at K
  rintro _ rfl _ rfl
  rw [nI_add, nI_1]; exact K
theorem c_sumCosts (h : CR v A) (hI : Inv A) (hq : Q (nI (sCo A))) : wp_X3_sumCosts Q v := by
  refine cntloop (wp_X3_sumCosts_4_loop Q v) (N := aNk A) (aCo A) (fun n => br_t (keysEnd h hI) hq) (fun n i hi K => br_f (keysOn h hI hi) (c_cutCostOf h hI hi ?_))
  rw [sm] at K
  rintro _ rfl _ rfl
  rw [nI_add, nI_1]; exact K
theorem po_eq (hI : Inv A) {k p : Nat} (hk : k < aNk A) (hp : p < 4) : nI (aPo A k) = nI p ↔ aPo A k = p := nI_eq (by have := (hI.2.2.2.1 k hk).2.1; omega) (by omega)
theorem c_countKeysOn (h : CR v A) (hI : Inv A) {p : Nat} (hp : p < 4) (hq : Q (nI (sOn A p))) : wp_X3_countKeysOn Q (nI p) v := by
  refine cntloop (fun n a b => wp_X3_countKeysOn_4_loop Q v n (nI p) a b) (N := aNk A) (fun k => b01 (aPo A k = p)) (fun n => br_t (keysEnd h hI) hq) (fun n i hi K => br_f (keysOn h hI hi) (c_porterWith h hI hi ⟨fun c => ?_, fun c => ?_⟩))
  · rw [sm, b01_f (fun z => c ((po_eq hI hi hp).mpr z)), Nat.add_zero] at K
    rintro _ rfl
    rw [nI_1]; exact K
  · rw [sm, b01_t ((po_eq hI hi hp).mp c)] at K
    rintro _ rfl _ rfl
    rw [nI_1, nI_1]; exact K
theorem c_countKeysInLocks (h : CR v A) (hI : Inv A) {p : Nat} (hp : p < 4) (hq : Q (nI (sOnIn A p))) : wp_X3_countKeysInLocks Q (nI p) v := by
  refine cntloop (fun n a b => wp_X3_countKeysInLocks_4_loop Q v n (nI p) a b) (N := aNk A) (fun k => b01 (aPo A k = p ∧ ¬ aIk A k = 0)) (fun n => br_t (keysEnd h hI) hq) (fun n i hi K => br_f (keysOn h hI hi) (c_porterWith h hI hi ⟨fun c => ?_, fun c => c_lockWith h hI hi ⟨fun c2 => ?_, fun c2 => ?_⟩⟩))
  · rw [sm, b01_f (fun z => c ((po_eq hI hi hp).mpr z.1)), Nat.add_zero] at K
    rintro _ rfl
    rw [nI_1]; exact K
  · rw [sm, b01_f (fun z => z.2 ((nI_m1 (ik_lt hI hi)).1.mp c2)), Nat.add_zero] at K
    rintro _ rfl
    rw [nI_1]; exact K
  · rw [sm, b01_t ⟨(po_eq hI hi hp).mp c, fun z => c2 ((nI_m1 (ik_lt hI hi)).1.mpr z)⟩] at K
    rintro _ rfl _ rfl
    rw [nI_1, nI_1]; exact K
theorem c_sumCostsOn (h : CR v A) (hI : Inv A) {p : Nat} (hp : p < 4) (hq : Q (nI (sOnCo A p))) : wp_X3_sumCostsOn Q (nI p) v := by
  refine cntloop (fun n a b => wp_X3_sumCostsOn_4_loop Q v n (nI p) a b) (N := aNk A) (fun k => if aPo A k = p then aCo A k else 0) (fun n => br_t (keysEnd h hI) hq) (fun n i hi K => br_f (keysOn h hI hi) (c_porterWith h hI hi ⟨fun c => ?_, fun c => c_cutCostOf h hI hi ?_⟩))
  · rw [sm, if_neg (fun z => c ((po_eq hI hi hp).mpr z)), Nat.add_zero] at K
    rintro _ rfl
    rw [nI_1]; exact K
  · rw [sm, if_pos ((po_eq hI hi hp).mp c)] at K
    rintro _ rfl _ rfl
    rw [nI_add, nI_1]; exact K
theorem mx0 {a b : Nat} (ha : a < 2 ^ 30) (hb : b < 2 ^ 30) : (if (0 : Int32) < nI a - nI b then nI a - nI b else (0 : Int32)) = nI (a - b) := by
  by_cases c : b ≤ a
  · rw [pk_sub c]
    by_cases c2 : a - b = 0
    · rw [c2]; decide
    · rw [if_pos]
      rw [← nI_0]; exact nI_lt (by omega) (by omega)
  · have h1 := pk_sneg hb (show a < b by omega)
    rw [if_neg (fun z => absurd (Int32.lt_trans z h1) (by decide)), show a - b = 0 by omega]
    rfl
theorem c_costToFit (h : CR v A) (hI : Inv A) {k l : Nat} (hk : k < aNk A) (hl : l < aNl A) (hq : Q (nI (costA A k l))) : wp_X3_costToFit Q (nI k) (nI l) v := by
  have hw := (hI.2.2.2.1 k hk).1
  have hp := (hI.2.2.2.2.1 l hl).1
  have p1 := pop_le (aWd A k); have p2 := pop_le (aPn A l); have p3 := pop_le (lk (aPn A l) (aWd A k)); have hs := hI.2.2.1
  refine c_countMissing h hI hk hl (c_wardsOf h hI hk (c_bitCountN (by omega) ?_))
  rintro _ rfl
  refine c_pinsOf h hI hl (c_bitCountN (by omega) ?_)
  rintro _ rfl
  rw [h.2.2.1, nI_add, nI_add, mx0 (by omega) (by omega), nI_add]
  exact hq
end CLS2
