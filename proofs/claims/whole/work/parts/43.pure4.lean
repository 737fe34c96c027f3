theorem aLet_o {A : AL} {k l i j : Nat} (h3 : i ≠ 3) (h6 : i ≠ 6) : aLet A k l i j = A i j := by simp [aLet, aS, h3, h6]
theorem aLet_ik {A : AL} {k l j : Nat} : aIk (aLet A k l) j = if j = k then 0 else aIk A j := by simp [aLet, aS, aIk]
theorem aLet_hk {A : AL} {k l j : Nat} : aHk (aLet A k l) j = if j = l then 0 else aHk A j := by simp [aLet, aS, aHk]
theorem fit_let {A : AL} {k l a b : Nat} : fit (aLet A k l) a b ↔ fit A a b := by
  show (lk (aLet A k l 5 b) (aLet A k l 1 a) = 0 ∧ pop (aLet A k l 1 a) ≤ pop (aLet A k l 5 b) + aLet A k l 0 2 ∧ aLet A k l (8 + a) b = 0) ↔ _
  rw [aLet_o (by decide) (by decide), aLet_o (by decide) (by decide), aLet_o (by decide) (by decide), aLet_o (by omega) (by omega)]
theorem Inv_let {A : AL} (hI : Inv A) {k l : Nat} (hk : k < aNk A) (hl : aIk A k = l + 1) : Inv (aLet A k l) := by
  obtain ⟨h1, h2, h3, h4, h5, h6, h7⟩ := hI
  have e1 : aNk (aLet A k l) = aNk A := aLet_o (by decide) (by decide)
  have e2 : aNl (aLet A k l) = aNl A := aLet_o (by decide) (by decide)
  have e3 : aSl (aLet A k l) = aSl A := aLet_o (by decide) (by decide)
  have e4 : ∀ a b, aBr (aLet A k l) a b = aBr A a b := fun a b => aLet_o (by omega) (by omega)
  refine ⟨by rw [e1]; exact h1, by rw [e2]; exact h2, by rw [e3]; exact h3, fun j hj => ?_, fun m hm => ?_, fun a b => by rw [e4]; exact h6 a b, fun a b hab => by rw [e4]; exact h7 a b (by rw [e1, e2] at hab; exact hab)⟩
  · rw [e1] at hj
    obtain ⟨g1, g2, g3, g4⟩ := h4 j hj
    refine ⟨by rw [show aWd (aLet A k l) j = aWd A j from aLet_o (by decide) (by decide)]; exact g1, by rw [show aPo (aLet A k l) j = aPo A j from aLet_o (by decide) (by decide)]; exact g2, ?_, fun m hm => ?_⟩
    · rw [e2, aLet_ik]; split <;> omega
    · rw [aLet_ik] at hm
      by_cases c : j = k
      · rw [if_pos c] at hm; omega
      · rw [if_neg c] at hm
        rw [aLet_hk, if_neg]
        · exact g4 m hm
        · intro z
          have := g4 m hm
          have := (h4 k hk).2.2.2 l hl
          subst z; omega
  · rw [e2] at hm
    obtain ⟨g1, g2, g3⟩ := h5 m hm
    refine ⟨by rw [show aPn (aLet A k l) m = aPn A m from aLet_o (by decide) (by decide)]; exact g1, ?_, fun j hj => ?_⟩
    · rw [e1, aLet_hk]; split <;> omega
    · rw [aLet_hk] at hj
      by_cases c : m = l
      · rw [if_pos c] at hj; omega
      · rw [if_neg c] at hj
        have := g3 j hj
        rw [aLet_ik, if_neg]
        · exact this
        · intro z; subst z; omega
/-- whether a key falls out, and what there is then -/
abbrev drP (A : AL) (k : Nat) : Prop := ¬ aIk A k = 0 ∧ ¬ fit A k (aIk A k - 1)
def drA (A : AL) : Nat → AL
  | 0 => A
  | n + 1 => if drP (drA A n) n then aLet (drA A n) n (aIk (drA A n) n - 1) else drA A n
def drN (A : AL) : Nat → Nat
  | 0 => 0
  | n + 1 => drN A n + b01 (drP (drA A n) n)
def aDrop (A : AL) : AL := aS (drA A (aNk A)) 0 5 (aFl A + drN A (aNk A))
theorem drA_o {A : AL} {n i j : Nat} (h3 : i ≠ 3) (h6 : i ≠ 6) : drA A n i j = A i j := by
  induction n with
  | zero => rfl
  | succ n ih =>
    rw [drA]
    split
    · rw [aLet_o h3 h6, ih]
    · exact ih
theorem Inv_dr {A : AL} (hI : Inv A) : ∀ n, n ≤ aNk A → Inv (drA A n) := by
  intro n
  induction n with
  | zero => exact fun _ => hI
  | succ n ih =>
    intro hn
    have h := ih (by omega)
    have e : aNk (drA A n) = aNk A := drA_o (by decide) (by decide)
    rw [drA]
    split
    · rename_i c
      have c1 := c.1
      exact Inv_let h (by rw [e]; omega) (by omega)
    · exact h
theorem Inv_fl {A : AL} (hI : Inv A) (n : Nat) : Inv (aS A 0 5 n) := by
  obtain ⟨h1, h2, h3, h4, h5, h6, h7⟩ := hI
  have e : ∀ a b, aBr (aS A 0 5 n) a b = aBr A a b := fun a b => by
    have : ¬ (8 + a = 0 ∧ b = 5) := by omega
    simp [aBr, aS, this]
  refine ⟨by simpa [aS] using h1, by simpa [aS] using h2, by simpa [aS] using h3, by simpa [aS] using h4, by simpa [aS] using h5, fun a b => by rw [e]; exact h6 a b, fun a b hab => by rw [e]; exact h7 a b (by simpa [aS] using hab)⟩
theorem Inv_drop {A : AL} (hI : Inv A) : Inv (aDrop A) := Inv_fl (Inv_dr hI _ (Nat.le_refl _)) _
theorem c_dropUnfit {v : OV} {A : AL} {Q : Int32 → OV → Prop} (h : CR v A) (hI : Inv A) (hq : ∀ v', CR v' (aDrop A) → Q (nI (drN A (aNk A))) v') : wp_X3_dropUnfit Q v := by
  have n1 := hI.1; have n2 := hI.2.1
  have key : ∀ d i v', i + d = aNk A → CR v' (drA A i) → wp_X3_dropUnfit_4_loop Q (d + 1) (nI (drN A i)) (nI i) v' := fun d => by
    induction d with
    | zero =>
      intro i v' hi hv
      have hi : i = aNk A := by omega
      subst hi
      refine br_t (by rw [hv.1, show aNk (drA A (aNk A)) = aNk A from drA_o (by decide) (by decide)]; exact nI_le (Nat.le_refl _) (by omega)) ?_
      rintro _ rfl
      refine hq _ ?_
      rw [hv.2.2.2.2.2.1, nI_add, show aFl (drA A (aNk A)) = aFl A from drA_o (by decide) (by decide)]
      exact CR_i13 hv _
    | succ d ih =>
      intro i v' hi hv
      have e1 : aNk (drA A i) = aNk A := drA_o (by decide) (by decide)
      have e2 : aNl (drA A i) = aNl A := drA_o (by decide) (by decide)
      have hB := Inv_dr hI i (by omega)
      have hiB : i < aNk (drA A i) := by omega
      have next : ∀ v'', CR v'' (drA A (i + 1)) → ∀ x1, x1 = nI (drN A (i + 1)) → wp_X3_dropUnfit_52 Q (wp_X3_dropUnfit_4_loop Q (d + 1)) x1 (nI i) v'' := fun v'' hc x1 hx => by
        subst hx
        rintro _ rfl
        rw [nI_1]
        exact ih (i + 1) v'' (by omega) hc
      have stay : ¬ drP (drA A i) i → wp_X3_dropUnfit_52 Q (wp_X3_dropUnfit_4_loop Q (d + 1)) (nI (drN A i)) (nI i) v' := fun hn => next v' (by rw [drA, if_neg hn]; exact hv) _ (by rw [drN, b01_f hn, Nat.add_zero])
      refine br_f (by rw [hv.1, e1]; exact nI_ge (by omega) (by omega)) (c_lockWith hv hB hiB ?_)
      by_cases c : aIk (drA A i) i = 0
      · rw [c]
        refine c_hasLock_f hv hB ?_ ⟨fun _ => stay (fun z => z.1 c), fun z => absurd rfl z⟩
        rintro ⟨l, hl, e⟩
        exact absurd (show nI l < 0 by rw [← e]; decide) (nI_pos (by omega))
      · obtain ⟨l, hl⟩ : ∃ l, aIk (drA A i) i = l + 1 := ⟨aIk (drA A i) i - 1, by omega⟩
        have hll : l < aNl (drA A i) := by have := (hB.2.2.2.1 i hiB).2.2.1; omega
        rw [hl, nI_pred]
        refine c_hasLock_t hv hB hll ⟨fun z => absurd z (by decide), fun _ => c_isFit hv hB hiB hll ⟨fun z => stay (fun y => ?_), fun z => ?_⟩⟩
        · have y2 := y.2
          rw [hl, Nat.add_sub_cancel] at y2
          exact z (b01_0.mpr y2)
        · have hn : ¬ fit (drA A i) i l := b01_0.mp z
          have hp : drP (drA A i) i := ⟨c, by rw [hl, Nat.add_sub_cancel]; exact hn⟩
          refine ⟨vp_in_nI (by omega) (by omega), ?_⟩
          rintro _ rfl
          refine ⟨vp_in_nI (by omega) (by omega), ?_⟩
          rintro _ rfl
          rintro _ rfl
          rw [nI_clamp (show i < 2 ^ 31 by omega), nI_clamp (show l < 2 ^ 31 by omega)]
          refine next _ ?_ _ (by rw [drN, b01_t hp, nI_1])
          rw [drA, if_pos hp, hl, Nat.add_sub_cancel]
          exact CR_s6 (CR_s4 hv i 0) l 0
  exact ⟨aNk A + 1, key (aNk A) 0 v (by omega) h⟩
