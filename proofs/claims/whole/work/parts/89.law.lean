/-! the law: what is asked after each call holds, in its own state after it -/
theorem lcm3_self {x : Int64} : lcm3 x x = 0 := by simp [lcm3]
theorem up_D0 {f : Nat → UInt64} {k : Nat} {x : UInt64} : va_up f k x k = x := if_pos rfl
theorem rf3_R {v m : OV} {r d i : Int32} (h1 : m.2 10 = r) (h2 : m.2 11 = d) (h3 : m.2 12 = i) : RFR (rf3 v r d i) m := by
  refine ⟨?_, ?_, ?_⟩
  · rw [h1, sI_oth (by decide), sI_oth (by decide), sI_at]
  · rw [h2, sI_oth (by decide), sI_at]
  · rw [h3, sI_at]
theorem cl_t {t r r2 : Int32} {y : Int64} {P : Prop} (ht : t = r) (hv : r = 0 → y = r2.toInt64) (hP : P) : (t = r → ((¬ r = 0 → P) ∧ (r = 0 → ((lcm3 y r2.toInt64 = 0 → P) ∧ (¬ (lcm3 y r2.toInt64 = 0) → ((0 : Int32) = 1)))))) ∧ (¬ (t = r) → ((0 : Int32) = 1)) := by
  refine ⟨fun _ => ⟨fun _ => hP, fun z => ⟨fun _ => hP, fun n => absurd ?_ n⟩⟩, fun z => absurd ht z⟩
  rw [hv z]
  exact lcm3_self
theorem cl_b {t r r2 : Int32} {y : Int64} {P : Prop} (ht : t = r) (hv : r = 0 → y = r2.toInt64) (h01 : r = 0 → r2 = 0 ∨ r2 = 1) (hP : P) : (t = r → ((¬ r = 0 → P) ∧ (r = 0 → ((r2 = 0 → ((lcm3 y (0 : Int64) = 0 → P) ∧ (¬ (lcm3 y (0 : Int64) = 0) → ((0 : Int32) = 1)))) ∧ (¬ (r2 = 0) → ((lcm3 y (1 : Int64) = 0 → P) ∧ (¬ (lcm3 y (1 : Int64) = 0) → ((0 : Int32) = 1)))))))) ∧ (¬ (t = r) → ((0 : Int32) = 1)) := by
  refine ⟨fun _ => ⟨fun _ => hP, fun z => ⟨fun a => ⟨fun _ => hP, fun n => absurd ?_ n⟩, fun a => ⟨fun _ => hP, fun n => absurd ?_ n⟩⟩⟩, fun z => absurd ht z⟩
  · rw [hv z, a]
    exact lcm3_self
  · rw [hv z, (h01 z).resolve_left a]
    exact lcm3_self
theorem cl_e {r r2 : Int32} {P : Prop} (h : r = r2) (hP : P) : (r = r2 → P) ∧ (¬ (r = r2) → ((0 : Int32) = 1)) := ⟨fun _ => hP, fun z => absurd h z⟩
theorem q_n {a : Nat} (h : a ≤ 2) (z : nI a = 0) : a = 0 := by
  have := nI_eq (a := a) (b := 0) (by omega) (by omega)
  exact this.mp (z.trans nI_0.symm)
theorem q_l {p : Prop} [Decidable p] {a b : QT} (h : a.1 ≤ 2) (g : b.1 ≤ 2) : (if p then a else b).1 ≤ 2 := by
  split
  · exact h
  · exact g
theorem q_i {x : Int32} {n : Nat} (h : n ≤ 2) : ((n, x) : QT).1 ≤ 2 := h
theorem q_f {p : Nat → Prop} {n b : Nat} (h : b ≤ 2) : (qFst b p n).1 ≤ 2 := q_l (q_i h) (q_i (Nat.zero_le _))
theorem b01_i {p : Prop} [Decidable p] : nI (b01 p) = 0 ∨ nI (b01 p) = 1 := by
  unfold b01
  split
  · exact Or.inr (by decide)
  · exact Or.inl (by decide)
theorem nI01 {n : Nat} (h : n ≤ 1) : nI n = 0 ∨ nI n = 1 := by
  rcases (by omega : n = 0 ∨ n = 1) with e | e
  · subst e; exact Or.inl (by decide)
  · subst e; exact Or.inr (by decide)

theorem ql_keyOf {A : AL} {x y : Int32} : (qKeyOf A x y).1 ≤ 2 := by
  unfold qKeyOf
  repeat' first | exact q_i (by decide) | exact q_f (by decide) | refine q_l ?_ ?_
theorem ql_lockOf {A : AL} {x y : Int32} : (qLockOf A x y).1 ≤ 2 := by
  unfold qLockOf
  repeat' first | exact q_i (by decide) | exact q_f (by decide) | refine q_l ?_ ?_
theorem ql_fits {A : AL} {x y : Int32} : (qFits A x y).1 ≤ 2 := by
  unfold qFits
  repeat' first | exact q_i (by decide) | exact q_f (by decide) | refine q_l ?_ ?_
theorem ql_isBarred {A : AL} {x y : Int32} : (qBarred A x y).1 ≤ 2 := by
  unfold qBarred
  repeat' first | exact q_i (by decide) | exact q_f (by decide) | refine q_l ?_ ?_
theorem ql_costFor {A : AL} {x y : Int32} : (qCost A x y).1 ≤ 2 := by
  unfold qCost
  repeat' first | exact q_i (by decide) | exact q_f (by decide) | refine q_l ?_ ?_
theorem ql_cheapest {A : AL} {x y : Int32} : (qCheap A x y).1 ≤ 2 := by
  unfold qCheap
  repeat' first | exact q_i (by decide) | exact q_f (by decide) | refine q_l ?_ ?_
theorem ql_length {A : AL} : (qLength A).1 ≤ 2 := by
  unfold qLength
  repeat' first | exact q_i (by decide) | exact q_f (by decide) | refine q_l ?_ ?_
theorem ql_canBeOpen {A : AL} {x : Int32} : (qCan A x).1 ≤ 2 := by
  unfold qCan
  repeat' first | exact q_i (by decide) | exact q_f (by decide) | refine q_l ?_ ?_
theorem ql_isNeeded {A : AL} {x : Int32} : (qNeed A x).1 ≤ 2 := by
  unfold qNeed
  repeat' first | exact q_i (by decide) | exact q_f (by decide) | refine q_l ?_ ?_
theorem ql_porterOf {A : AL} {x y : Int32} : (qPort A x y).1 ≤ 2 := by
  unfold qPort
  repeat' first | exact q_i (by decide) | exact q_f (by decide) | refine q_l ?_ ?_
theorem ql_ranked {A : AL} {x : Int32} : (qRank A x).1 ≤ 2 := by
  unfold qRank
  repeat' first | exact q_i (by decide) | exact q_f (by decide) | refine q_l ?_ ?_
theorem ql_account {A : AL} {c n : Nat} {x : Int32} : (qAcc A c n x).1 ≤ 2 := by
  unfold qAcc
  repeat' first | exact q_i (by decide) | refine q_l ?_ ?_
theorem ql_reason {r d i x : Int32} : (qWhy r d i x).1 ≤ 2 := by
  unfold qWhy
  repeat' first | exact q_i (by decide) | refine q_l ?_ ?_
theorem ql_character {f : Nat → Int32} {n : Nat} {x : Int32} : (qChr f n x).1 ≤ 2 := by
  unfold qChr
  repeat' first | exact q_i (by decide) | refine q_l ?_ ?_
theorem qb_fits {A : AL} {x y : Int32} (hI : Inv A) (z : (qFits A x y).1 = 0) : (qFits A x y).2 = 0 ∨ (qFits A x y).2 = 1 := by
  unfold qFits at z ⊢
  split
  · exact b01_i
  · rename_i c
    rw [if_neg c] at z
    exact absurd z (Nat.succ_ne_zero 0)
theorem qb_isBarred {A : AL} {x y : Int32} (hI : Inv A) (z : (qBarred A x y).1 = 0) : (qBarred A x y).2 = 0 ∨ (qBarred A x y).2 = 1 := by
  unfold qBarred at z ⊢
  split
  · exact nI01 (hI.2.2.2.2.2.1 _ _)
  · rename_i c
    rw [if_neg c] at z
    exact absurd z (Nat.succ_ne_zero 0)
theorem qb_canBeOpen {A : AL} {x : Int32} (hI : Inv A) (z : (qCan A x).1 = 0) : (qCan A x).2 = 0 ∨ (qCan A x).2 = 1 := by
  unfold qCan at z ⊢
  split
  · exact b01_i
  · rename_i c
    rw [if_neg c] at z
    exact absurd z (Nat.succ_ne_zero 0)
theorem qb_isNeeded {A : AL} {x : Int32} (hI : Inv A) (z : (qNeed A x).1 = 0) : (qNeed A x).2 = 0 ∨ (qNeed A x).2 = 1 := by
  unfold qNeed at z ⊢
  split
  · exact b01_i
  · rename_i c
    rw [if_neg c] at z
    exact absurd z (Nat.succ_ne_zero 0)
section LWX
variable {A : AL} {c : Nat} {K : Nat → AL} {S : AL} {vKW vLg vLg2 vLg3 vLg4 vWv vPr vRf vTx vLn : OV} {vHs : HV} {m : OV} {vLa : Nat → Int64} {vDa : Nat → UInt64} {x y : Int32}
theorem lw_key (G : GIs A c K S vKW vLg vLg3 vRf vTx vLn vHs m) {V1 : Prop} {V2 : Prop} {P : OV → OV → OV → HV → OV → (Nat → Int64) → Prop} (v1 : V1) (v2 : V2) (hP : ∀ a b f e m2 v, GIx vKW a vLg3 f vTx vLn e m2 → P a b f e m2 v) : wp_L_key (fun r a b f e v => V1 ∧ V2 ∧ wp_X8_key (fun r2 m2 => wp_X8_thrown (fun (t : Int32) => ((t = r → ((¬ r = 0 → P a b f e m2 v) ∧ (r = 0 → (((lcm3 (v (0 : Int32).toNatClampNeg) (r2).toInt64) = 0 → P a b f e m2 v) ∧ (¬ ((lcm3 (v (0 : Int32).toNatClampNeg) (r2).toInt64) = 0) → ((0 : Int32) = 1)))))) ∧ (¬ (t = r) → ((0 : Int32) = 1)))) m2) x y m) x y vKW vLg vLg2 vLg3 vLg4 vWv vPr vRf vTx vLn vHs vLa := by
  have hI := G.1
  have H := G.2.2.2.2.1
  refine L_key G.2.2.1 hI H (fun r d e a b ha => ⟨v1, v2, m_key G.2.2.2.1 hI G.2.2.2.2.2.1.1 H.2.2.1 (fun r' d' e' m2 rf => ?_) (fun n' B' e' m2 rr ko => ?_)⟩) (fun n B e a b g ha hg => ⟨v1, v2, m_key G.2.2.2.1 hI G.2.2.2.2.2.1.1 H.2.2.1 (fun r' d' e' m2 rf => ?_) (fun n' B' e' m2 rr ko => ?_)⟩)
  · cases e.symm.trans e'
    exact cl_t rf.2.1 (fun z => absurd z (by decide)) (hP _ _ _ _ _ _ (G.no ha rf.w).x)
  · cases e.symm.trans e'
  · cases e.symm.trans e'
  · cases e.symm.trans e'
    obtain ⟨i1, i2⟩ := oKey_inv hI G.2.1 e
    exact cl_t ko.2.2.1 (fun _ => pk_uLs) (hP _ _ _ _ _ _ (G.op i1 i2 ha rr ko.w hg).x)
theorem lw_lock (G : GIs A c K S vKW vLg vLg3 vRf vTx vLn vHs m) {V1 : Prop} {P : OV → OV → OV → HV → OV → (Nat → Int64) → Prop} (v1 : V1) (hP : ∀ a b f e m2 v, GIx vKW a vLg3 f vTx vLn e m2 → P a b f e m2 v) : wp_L_lock (fun r a b f e v => V1 ∧ wp_X8_lock (fun r2 m2 => wp_X8_thrown (fun (t : Int32) => ((t = r → ((¬ r = 0 → P a b f e m2 v) ∧ (r = 0 → (((lcm3 (v (0 : Int32).toNatClampNeg) (r2).toInt64) = 0 → P a b f e m2 v) ∧ (¬ ((lcm3 (v (0 : Int32).toNatClampNeg) (r2).toInt64) = 0) → ((0 : Int32) = 1)))))) ∧ (¬ (t = r) → ((0 : Int32) = 1)))) m2) x m) x vKW vLg vLg2 vLg3 vLg4 vWv vPr vRf vTx vLn vHs vLa := by
  have hI := G.1
  have H := G.2.2.2.2.1
  refine L_lock G.2.2.1 hI H (fun r d e a b ha => ⟨v1, m_lock G.2.2.2.1 hI G.2.2.2.2.2.1.1 H.2.2.1 (fun r' d' e' m2 rf => ?_) (fun n' B' e' m2 rr ko => ?_)⟩) (fun n B e a b g ha hg => ⟨v1, m_lock G.2.2.2.1 hI G.2.2.2.2.2.1.1 H.2.2.1 (fun r' d' e' m2 rf => ?_) (fun n' B' e' m2 rr ko => ?_)⟩)
  · cases e.symm.trans e'
    exact cl_t rf.2.1 (fun z => absurd z (by decide)) (hP _ _ _ _ _ _ (G.no ha rf.w).x)
  · cases e.symm.trans e'
  · cases e.symm.trans e'
  · cases e.symm.trans e'
    obtain ⟨i1, i2⟩ := oLock_inv hI G.2.1 e
    exact cl_t ko.2.2.1 (fun _ => pk_uLs) (hP _ _ _ _ _ _ (G.op i1 i2 ha rr ko.w hg).x)
theorem lw_cut (G : GIs A c K S vKW vLg vLg3 vRf vTx vLn vHs m) {V1 : Prop} {V2 : Prop} {P : OV → OV → OV → HV → OV → (Nat → Int64) → Prop} (v1 : V1) (v2 : V2) (hP : ∀ a b f e m2 v, GIx vKW a vLg3 f vTx vLn e m2 → P a b f e m2 v) : wp_L_cut (fun r a b f e v => V1 ∧ V2 ∧ wp_X8_cut (fun r2 m2 => wp_X8_thrown (fun (t : Int32) => ((t = r → ((¬ r = 0 → P a b f e m2 v) ∧ (r = 0 → (((lcm3 (v (0 : Int32).toNatClampNeg) (r2).toInt64) = 0 → P a b f e m2 v) ∧ (¬ ((lcm3 (v (0 : Int32).toNatClampNeg) (r2).toInt64) = 0) → ((0 : Int32) = 1)))))) ∧ (¬ (t = r) → ((0 : Int32) = 1)))) m2) x y m) x y vKW vLg vLg2 vLg3 vLg4 vWv vPr vRf vTx vLn vHs vLa := by
  have hI := G.1
  have H := G.2.2.2.2.1
  refine L_cut G.2.2.1 hI H (fun r d e a b ha => ⟨v1, v2, m_cut G.2.2.2.1 hI G.2.2.2.2.2.1.1 H.2.2.1 (fun r' d' e' m2 rf => ?_) (fun n' B' e' m2 rr ko => ?_)⟩) (fun n B e a b g ha hg => ⟨v1, v2, m_cut G.2.2.2.1 hI G.2.2.2.2.2.1.1 H.2.2.1 (fun r' d' e' m2 rf => ?_) (fun n' B' e' m2 rr ko => ?_)⟩)
  · cases e.symm.trans e'
    exact cl_t rf.2.1 (fun z => absurd z (by decide)) (hP _ _ _ _ _ _ (G.no ha rf.w).x)
  · cases e.symm.trans e'
  · cases e.symm.trans e'
  · cases e.symm.trans e'
    obtain ⟨i1, i2⟩ := oCut_inv hI e
    exact cl_t ko.2.2.1 (fun _ => pk_uLs) (hP _ _ _ _ _ _ (G.op i1 i2 ha rr ko.w hg).x)
theorem lw_slack (G : GIs A c K S vKW vLg vLg3 vRf vTx vLn vHs m) {V1 : Prop} {P : OV → OV → OV → HV → OV → (Nat → Int64) → Prop} (v1 : V1) (hP : ∀ a b f e m2 v, GIx vKW a vLg3 f vTx vLn e m2 → P a b f e m2 v) : wp_L_slack (fun r a b f e v => V1 ∧ wp_X8_slack (fun r2 m2 => wp_X8_thrown (fun (t : Int32) => ((t = r → ((¬ r = 0 → P a b f e m2 v) ∧ (r = 0 → (((lcm3 (v (0 : Int32).toNatClampNeg) (r2).toInt64) = 0 → P a b f e m2 v) ∧ (¬ ((lcm3 (v (0 : Int32).toNatClampNeg) (r2).toInt64) = 0) → ((0 : Int32) = 1)))))) ∧ (¬ (t = r) → ((0 : Int32) = 1)))) m2) x m) x vKW vLg vLg2 vLg3 vLg4 vWv vPr vRf vTx vLn vHs vLa := by
  have hI := G.1
  have H := G.2.2.2.2.1
  refine L_slack G.2.2.1 hI H (fun r d e a b ha => ⟨v1, m_slack G.2.2.2.1 hI G.2.2.2.2.2.1.1 H.2.2.1 (fun r' d' e' m2 rf => ?_) (fun n' B' e' m2 rr ko => ?_)⟩) (fun n B e a b g ha hg => ⟨v1, m_slack G.2.2.2.1 hI G.2.2.2.2.2.1.1 H.2.2.1 (fun r' d' e' m2 rf => ?_) (fun n' B' e' m2 rr ko => ?_)⟩)
  · cases e.symm.trans e'
    exact cl_t rf.2.1 (fun z => absurd z (by decide)) (hP _ _ _ _ _ _ (G.no ha rf.w).x)
  · cases e.symm.trans e'
  · cases e.symm.trans e'
  · cases e.symm.trans e'
    obtain ⟨i1, i2⟩ := oSlack_inv hI e
    exact cl_t ko.2.2.1 (fun _ => pk_uLs) (hP _ _ _ _ _ _ (G.op i1 i2 ha rr ko.w hg).x)
theorem lw_put (G : GIs A c K S vKW vLg vLg3 vRf vTx vLn vHs m) {V1 : Prop} {V2 : Prop} {P : OV → OV → OV → HV → OV → (Nat → Int64) → Prop} (v1 : V1) (v2 : V2) (hP : ∀ a b f e m2 v, GIx vKW a vLg3 f vTx vLn e m2 → P a b f e m2 v) : wp_L_put (fun r a b f e v => V1 ∧ V2 ∧ wp_X8_put (fun r2 m2 => wp_X8_thrown (fun (t : Int32) => ((t = r → ((¬ r = 0 → P a b f e m2 v) ∧ (r = 0 → (((lcm3 (v (0 : Int32).toNatClampNeg) (r2).toInt64) = 0 → P a b f e m2 v) ∧ (¬ ((lcm3 (v (0 : Int32).toNatClampNeg) (r2).toInt64) = 0) → ((0 : Int32) = 1)))))) ∧ (¬ (t = r) → ((0 : Int32) = 1)))) m2) x y m) x y vKW vLg vLg2 vLg3 vLg4 vWv vPr vRf vTx vLn vHs vLa := by
  have hI := G.1
  have H := G.2.2.2.2.1
  refine L_put G.2.2.1 hI G.2.1 H (fun r d e a b ha => ⟨v1, v2, m_put G.2.2.2.1 hI G.2.2.2.2.2.1.1 H.2.2.1 (fun r' d' e' m2 rf => ?_) (fun n' B' e' m2 rr ko => ?_)⟩) (fun n B e a b g ha hg => ⟨v1, v2, m_put G.2.2.2.1 hI G.2.2.2.2.2.1.1 H.2.2.1 (fun r' d' e' m2 rf => ?_) (fun n' B' e' m2 rr ko => ?_)⟩)
  · cases e.symm.trans e'
    exact cl_t rf.2.1 (fun z => absurd z (by decide)) (hP _ _ _ _ _ _ (G.no ha rf.w).x)
  · cases e.symm.trans e'
  · cases e.symm.trans e'
  · cases e.symm.trans e'
    obtain ⟨i1, i2⟩ := oPut_inv hI G.2.1 e
    exact cl_t ko.2.2.1 (fun _ => pk_uLs) (hP _ _ _ _ _ _ (G.op i1 i2 ha rr ko.w hg).x)
theorem lw_take (G : GIs A c K S vKW vLg vLg3 vRf vTx vLn vHs m) {V1 : Prop} {P : OV → OV → OV → HV → OV → (Nat → Int64) → Prop} (v1 : V1) (hP : ∀ a b f e m2 v, GIx vKW a vLg3 f vTx vLn e m2 → P a b f e m2 v) : wp_L_take (fun r a b f e v => V1 ∧ wp_X8_take (fun r2 m2 => wp_X8_thrown (fun (t : Int32) => ((t = r → ((¬ r = 0 → P a b f e m2 v) ∧ (r = 0 → (((lcm3 (v (0 : Int32).toNatClampNeg) (r2).toInt64) = 0 → P a b f e m2 v) ∧ (¬ ((lcm3 (v (0 : Int32).toNatClampNeg) (r2).toInt64) = 0) → ((0 : Int32) = 1)))))) ∧ (¬ (t = r) → ((0 : Int32) = 1)))) m2) x m) x vKW vLg vLg2 vLg3 vLg4 vWv vPr vRf vTx vLn vHs vLa := by
  have hI := G.1
  have H := G.2.2.2.2.1
  refine L_take G.2.2.1 hI H (fun r d e a b ha => ⟨v1, m_take G.2.2.2.1 hI G.2.2.2.2.2.1.1 H.2.2.1 (fun r' d' e' m2 rf => ?_) (fun n' B' e' m2 rr ko => ?_)⟩) (fun n B e a b g ha hg => ⟨v1, m_take G.2.2.2.1 hI G.2.2.2.2.2.1.1 H.2.2.1 (fun r' d' e' m2 rf => ?_) (fun n' B' e' m2 rr ko => ?_)⟩)
  · cases e.symm.trans e'
    exact cl_t rf.2.1 (fun z => absurd z (by decide)) (hP _ _ _ _ _ _ (G.no ha rf.w).x)
  · cases e.symm.trans e'
  · cases e.symm.trans e'
  · cases e.symm.trans e'
    obtain ⟨i1, i2⟩ := oTake_inv hI G.2.1 e
    exact cl_t ko.2.2.1 (fun _ => pk_uLs) (hP _ _ _ _ _ _ (G.op i1 i2 ha rr ko.w hg).x)
theorem lw_wave (G : GIs A c K S vKW vLg vLg3 vRf vTx vLn vHs m) {P : OV → OV → OV → OV → HV → OV → (Nat → Int64) → Prop} (hP : ∀ a b w f e m2 v, GIx vKW a vLg3 f vTx vLn e m2 → P a b w f e m2 v) : wp_L_wave (fun r a b w f e v => wp_X8_wave (fun r2 m2 => wp_X8_thrown (fun (t : Int32) => ((t = r → ((¬ r = 0 → P a b w f e m2 v) ∧ (r = 0 → (((lcm3 (v (0 : Int32).toNatClampNeg) (r2).toInt64) = 0 → P a b w f e m2 v) ∧ (¬ ((lcm3 (v (0 : Int32).toNatClampNeg) (r2).toInt64) = 0) → ((0 : Int32) = 1)))))) ∧ (¬ (t = r) → ((0 : Int32) = 1)))) m2) m) vKW vLg vLg2 vLg3 vLg4 vWv vPr vRf vTx vLn vHs vLa := by
  have hI := G.1
  have H := G.2.2.2.2.1
  refine L_wave G.2.2.1 hI G.2.1 H (fun r d e a b w ha => m_wave G.2.2.2.1 hI G.2.1 G.2.2.2.2.2.1.1 H.2.2.1 (fun r' d' e' m2 rf => ?_) (fun n' B' e' m2 rr ko => ?_)) (fun n B e a b w g ha hg => m_wave G.2.2.2.1 hI G.2.1 G.2.2.2.2.2.1.1 H.2.2.1 (fun r' d' e' m2 rf => ?_) (fun n' B' e' m2 rr ko => ?_))
  · cases e.symm.trans e'
    exact cl_t rf.2.1 (fun z => absurd z (by decide)) (hP _ _ _ _ _ _ _ (G.no ha rf).x)
  · cases e.symm.trans e'
  · cases e.symm.trans e'
  · cases e.symm.trans e'
    obtain ⟨i1, i2⟩ := oWave_inv hI G.2.1 e
    exact cl_t ko.2.2.1 (fun _ => pk_uLs) (hP _ _ _ _ _ _ _ (G.op i1 i2 ha rr ko hg).x)
theorem lw_bar1 (G : GIs A c K S vKW vLg vLg3 vRf vTx vLn vHs m) {X z1 : Int32} {b0 : Nat} (hb : b0 ≤ 1) (hz : z1 = nI b0) (h0 : X = 0 → z1 = 0) (h1 : ¬ X = 0 → z1 = 1) {V1 V2 V3 : Prop} {P : OV → OV → OV → HV → OV → (Nat → Int64) → Prop} (v1 : V1) (v2 : V2) (v3 : V3) (hP : ∀ a b f e m2 v, GIx vKW a vLg3 f vTx vLn e m2 → P a b f e m2 v) : wp_L_bar (fun r a b f e v => V1 ∧ V2 ∧ V3 ∧ ((X = 0 → wp_X8_bar (fun r2 m2 => wp_X8_thrown (fun (t : Int32) => ((t = r → ((¬ r = 0 → P a b f e m2 v) ∧ (r = 0 → (((lcm3 (v (0 : Int32).toNatClampNeg) (r2).toInt64) = 0 → P a b f e m2 v) ∧ (¬ ((lcm3 (v (0 : Int32).toNatClampNeg) (r2).toInt64) = 0) → ((0 : Int32) = 1)))))) ∧ (¬ (t = r) → ((0 : Int32) = 1)))) m2) x y (0 : Int32) m) ∧ (¬ (X = 0) → wp_X8_bar (fun r2 m2 => wp_X8_thrown (fun (t : Int32) => ((t = r → ((¬ r = 0 → P a b f e m2 v) ∧ (r = 0 → (((lcm3 (v (0 : Int32).toNatClampNeg) (r2).toInt64) = 0 → P a b f e m2 v) ∧ (¬ ((lcm3 (v (0 : Int32).toNatClampNeg) (r2).toInt64) = 0) → ((0 : Int32) = 1)))))) ∧ (¬ (t = r) → ((0 : Int32) = 1)))) m2) x y (1 : Int32) m))) x y z1 vKW vLg vLg2 vLg3 vLg4 vWv vPr vRf vTx vLn vHs vLa := by
  have hI := G.1
  have H := G.2.2.2.2.1
  have q : ∀ r a b f e v, wp_X8_bar (fun r2 m2 => wp_X8_thrown (fun (t : Int32) => ((t = r → ((¬ r = 0 → P a b f e m2 v) ∧ (r = 0 → (((lcm3 (v (0 : Int32).toNatClampNeg) (r2).toInt64) = 0 → P a b f e m2 v) ∧ (¬ ((lcm3 (v (0 : Int32).toNatClampNeg) (r2).toInt64) = 0) → ((0 : Int32) = 1)))))) ∧ (¬ (t = r) → ((0 : Int32) = 1)))) m2) x y (nI b0) m → V1 ∧ V2 ∧ V3 ∧ ((X = 0 → wp_X8_bar (fun r2 m2 => wp_X8_thrown (fun (t : Int32) => ((t = r → ((¬ r = 0 → P a b f e m2 v) ∧ (r = 0 → (((lcm3 (v (0 : Int32).toNatClampNeg) (r2).toInt64) = 0 → P a b f e m2 v) ∧ (¬ ((lcm3 (v (0 : Int32).toNatClampNeg) (r2).toInt64) = 0) → ((0 : Int32) = 1)))))) ∧ (¬ (t = r) → ((0 : Int32) = 1)))) m2) x y (0 : Int32) m) ∧ (¬ (X = 0) → wp_X8_bar (fun r2 m2 => wp_X8_thrown (fun (t : Int32) => ((t = r → ((¬ r = 0 → P a b f e m2 v) ∧ (r = 0 → (((lcm3 (v (0 : Int32).toNatClampNeg) (r2).toInt64) = 0 → P a b f e m2 v) ∧ (¬ ((lcm3 (v (0 : Int32).toNatClampNeg) (r2).toInt64) = 0) → ((0 : Int32) = 1)))))) ∧ (¬ (t = r) → ((0 : Int32) = 1)))) m2) x y (1 : Int32) m)) := by
    intro r a b f e v w
    rw [← hz] at w
    exact ⟨v1, v2, v3, fun k => h0 k ▸ w, fun k => h1 k ▸ w⟩
  rw [hz]
  refine L_bar G.2.2.1 hI hb H (fun r d e a b ha => q _ _ _ _ _ _ (m_bar G.2.2.2.1 hI hb G.2.2.2.2.2.1.1 H.2.2.1 (fun r' d' e' m2 rf => ?_) (fun n' B' e' m2 rr ko => ?_))) (fun n B e a b g ha hg => q _ _ _ _ _ _ (m_bar G.2.2.2.1 hI hb G.2.2.2.2.2.1.1 H.2.2.1 (fun r' d' e' m2 rf => ?_) (fun n' B' e' m2 rr ko => ?_)))
  · cases e.symm.trans e'
    exact cl_t rf.2.1 (fun z => absurd z (by decide)) (hP _ _ _ _ _ _ (G.no ha rf.w).x)
  · cases e.symm.trans e'
  · cases e.symm.trans e'
  · cases e.symm.trans e'
    obtain ⟨i1, i2⟩ := oBar_inv hI hb e
    exact cl_t ko.2.2.1 (fun _ => pk_uLs) (hP _ _ _ _ _ _ (G.op i1 i2 ha rr ko.w hg).x)
theorem lw_keyOf (G : GIs A c K S vKW vLg vLg3 vRf vTx vLn vHs m) {V1 : Prop} {V2 : Prop} {P : OV → OV → (Nat → Int64) → Prop} (v1 : V1) (v2 : V2) (hP : ∀ w m2 v, GIx vKW vLg vLg3 vRf vTx vLn vHs m2 → P w m2 v) : wp_L_keyOf (fun r w v => V1 ∧ V2 ∧ wp_X8_keyOf (fun r2 m2 => wp_X8_thrown (fun (t : Int32) => ((t = r → ((¬ r = 0 → P w m2 v) ∧ (r = 0 → (((lcm3 (v (0 : Int32).toNatClampNeg) (r2).toInt64) = 0 → P w m2 v) ∧ (¬ ((lcm3 (v (0 : Int32).toNatClampNeg) (r2).toInt64) = 0) → ((0 : Int32) = 1)))))) ∧ (¬ (t = r) → ((0 : Int32) = 1)))) m2) x y m) x y vKW vLg vLg2 vLg3 vLg4 vWv vPr vRf vTx vLn vHs vLa := by
  exact L_keyOf G.2.2.1 G.1 (fun w v hv => ⟨v1, v2, m_keyOf G.2.2.2.1 G.1 (fun r2 m2 rr mq e9 ev => cl_t e9 (fun z => (hv (q_n ql_keyOf z)).trans (congrArg Int32.toInt64 (ev (q_n ql_keyOf z)).symm)) (hP _ _ _ (G.q rr mq).x))⟩)
theorem lw_lockOf (G : GIs A c K S vKW vLg vLg3 vRf vTx vLn vHs m) {V1 : Prop} {V2 : Prop} {P : OV → (Nat → Int64) → Prop} (v1 : V1) (v2 : V2) (hP : ∀ m2 v, GIx vKW vLg vLg3 vRf vTx vLn vHs m2 → P m2 v) : wp_L_lockOf (fun r v => V1 ∧ V2 ∧ wp_X8_lockOf (fun r2 m2 => wp_X8_thrown (fun (t : Int32) => ((t = r → ((¬ r = 0 → P m2 v) ∧ (r = 0 → (((lcm3 (v (0 : Int32).toNatClampNeg) (r2).toInt64) = 0 → P m2 v) ∧ (¬ ((lcm3 (v (0 : Int32).toNatClampNeg) (r2).toInt64) = 0) → ((0 : Int32) = 1)))))) ∧ (¬ (t = r) → ((0 : Int32) = 1)))) m2) x y m) x y vKW vLg vLg2 vLg3 vLg4 vWv vPr vRf vTx vLn vHs vLa := by
  exact L_lockOf G.2.2.1 G.1 (fun v hv => ⟨v1, v2, m_lockOf G.2.2.2.1 G.1 (fun r2 m2 rr mq e9 ev => cl_t e9 (fun z => (hv (q_n ql_lockOf z)).trans (congrArg Int32.toInt64 (ev (q_n ql_lockOf z)).symm)) (hP _ _ (G.q rr mq).x))⟩)
theorem lw_costFor (G : GIs A c K S vKW vLg vLg3 vRf vTx vLn vHs m) {V1 : Prop} {V2 : Prop} {P : OV → (Nat → Int64) → Prop} (v1 : V1) (v2 : V2) (hP : ∀ m2 v, GIx vKW vLg vLg3 vRf vTx vLn vHs m2 → P m2 v) : wp_L_costFor (fun r v => V1 ∧ V2 ∧ wp_X8_costFor (fun r2 m2 => wp_X8_thrown (fun (t : Int32) => ((t = r → ((¬ r = 0 → P m2 v) ∧ (r = 0 → (((lcm3 (v (0 : Int32).toNatClampNeg) (r2).toInt64) = 0 → P m2 v) ∧ (¬ ((lcm3 (v (0 : Int32).toNatClampNeg) (r2).toInt64) = 0) → ((0 : Int32) = 1)))))) ∧ (¬ (t = r) → ((0 : Int32) = 1)))) m2) x y m) x y vKW vLg vLg2 vLg3 vLg4 vWv vPr vRf vTx vLn vHs vLa := by
  exact L_costFor G.2.2.1 G.1 (fun v hv => ⟨v1, v2, m_costFor G.2.2.2.1 G.1 (fun r2 m2 rr mq e9 ev => cl_t e9 (fun z => (hv (q_n ql_costFor z)).trans (congrArg Int32.toInt64 (ev (q_n ql_costFor z)).symm)) (hP _ _ (G.q rr mq).x))⟩)
theorem lw_cheapest (G : GIs A c K S vKW vLg vLg3 vRf vTx vLn vHs m) {V1 : Prop} {V2 : Prop} {P : OV → (Nat → Int64) → Prop} (v1 : V1) (v2 : V2) (hP : ∀ m2 v, GIx vKW vLg vLg3 vRf vTx vLn vHs m2 → P m2 v) : wp_L_cheapest (fun r v => V1 ∧ V2 ∧ wp_X8_cheapest (fun r2 m2 => wp_X8_thrown (fun (t : Int32) => ((t = r → ((¬ r = 0 → P m2 v) ∧ (r = 0 → (((lcm3 (v (0 : Int32).toNatClampNeg) (r2).toInt64) = 0 → P m2 v) ∧ (¬ ((lcm3 (v (0 : Int32).toNatClampNeg) (r2).toInt64) = 0) → ((0 : Int32) = 1)))))) ∧ (¬ (t = r) → ((0 : Int32) = 1)))) m2) x y m) x y vKW vLg vLg2 vLg3 vLg4 vWv vPr vRf vTx vLn vHs vLa := by
  exact L_cheapest G.2.2.1 G.1 (fun v hv => ⟨v1, v2, m_cheapest G.2.2.2.1 G.1 (fun r2 m2 rr mq e9 ev => cl_t e9 (fun z => (hv (q_n ql_cheapest z)).trans (congrArg Int32.toInt64 (ev (q_n ql_cheapest z)).symm)) (hP _ _ (G.q rr mq).x))⟩)
theorem lw_porterOf (G : GIs A c K S vKW vLg vLg3 vRf vTx vLn vHs m) {V1 : Prop} {V2 : Prop} {P : OV → (Nat → Int64) → Prop} (v1 : V1) (v2 : V2) (hP : ∀ m2 v, GIx vKW vLg vLg3 vRf vTx vLn vHs m2 → P m2 v) : wp_L_porterOf (fun r v => V1 ∧ V2 ∧ wp_X8_porterOf (fun r2 m2 => wp_X8_thrown (fun (t : Int32) => ((t = r → ((¬ r = 0 → P m2 v) ∧ (r = 0 → (((lcm3 (v (0 : Int32).toNatClampNeg) (r2).toInt64) = 0 → P m2 v) ∧ (¬ ((lcm3 (v (0 : Int32).toNatClampNeg) (r2).toInt64) = 0) → ((0 : Int32) = 1)))))) ∧ (¬ (t = r) → ((0 : Int32) = 1)))) m2) x y m) x y vKW vLg vLg2 vLg3 vLg4 vWv vPr vRf vTx vLn vHs vLa := by
  exact L_porterOf G.2.2.1 G.1 (fun v hv => ⟨v1, v2, m_porterOf G.2.2.2.1 G.1 (fun r2 m2 rr mq e9 ev => cl_t e9 (fun z => (hv (q_n ql_porterOf z)).trans (congrArg Int32.toInt64 (ev (q_n ql_porterOf z)).symm)) (hP _ _ (G.q rr mq).x))⟩)
theorem lw_fits (G : GIs A c K S vKW vLg vLg3 vRf vTx vLn vHs m) {V1 : Prop} {V2 : Prop} {P : OV → (Nat → Int64) → Prop} (v1 : V1) (v2 : V2) (hP : ∀ m2 v, GIx vKW vLg vLg3 vRf vTx vLn vHs m2 → P m2 v) : wp_L_fits (fun r v => V1 ∧ V2 ∧ wp_X8_fits (fun r2 m2 => wp_X8_thrown (fun (t : Int32) => ((t = r → ((¬ r = 0 → P m2 v) ∧ (r = 0 → ((r2 = 0 → (((lcm3 (v (0 : Int32).toNatClampNeg) (0 : Int64)) = 0 → P m2 v) ∧ (¬ ((lcm3 (v (0 : Int32).toNatClampNeg) (0 : Int64)) = 0) → ((0 : Int32) = 1)))) ∧ (¬ (r2 = 0) → (((lcm3 (v (0 : Int32).toNatClampNeg) (1 : Int64)) = 0 → P m2 v) ∧ (¬ ((lcm3 (v (0 : Int32).toNatClampNeg) (1 : Int64)) = 0) → ((0 : Int32) = 1)))))))) ∧ (¬ (t = r) → ((0 : Int32) = 1)))) m2) x y m) x y vKW vLg vLg2 vLg3 vLg4 vWv vPr vRf vTx vLn vHs vLa := by
  exact L_fits G.2.2.1 G.1 (fun v hv => ⟨v1, v2, m_fits G.2.2.2.1 G.1 (fun r2 m2 rr mq e9 ev => cl_b e9 (fun z => (hv (q_n ql_fits z)).trans (congrArg Int32.toInt64 (ev (q_n ql_fits z)).symm)) (fun z => ev (q_n ql_fits z) ▸ qb_fits G.1 (q_n ql_fits z)) (hP _ _ (G.q rr mq).x))⟩)
theorem lw_isBarred (G : GIs A c K S vKW vLg vLg3 vRf vTx vLn vHs m) {V1 : Prop} {V2 : Prop} {P : OV → (Nat → Int64) → Prop} (v1 : V1) (v2 : V2) (hP : ∀ m2 v, GIx vKW vLg vLg3 vRf vTx vLn vHs m2 → P m2 v) : wp_L_isBarred (fun r v => V1 ∧ V2 ∧ wp_X8_isBarred (fun r2 m2 => wp_X8_thrown (fun (t : Int32) => ((t = r → ((¬ r = 0 → P m2 v) ∧ (r = 0 → ((r2 = 0 → (((lcm3 (v (0 : Int32).toNatClampNeg) (0 : Int64)) = 0 → P m2 v) ∧ (¬ ((lcm3 (v (0 : Int32).toNatClampNeg) (0 : Int64)) = 0) → ((0 : Int32) = 1)))) ∧ (¬ (r2 = 0) → (((lcm3 (v (0 : Int32).toNatClampNeg) (1 : Int64)) = 0 → P m2 v) ∧ (¬ ((lcm3 (v (0 : Int32).toNatClampNeg) (1 : Int64)) = 0) → ((0 : Int32) = 1)))))))) ∧ (¬ (t = r) → ((0 : Int32) = 1)))) m2) x y m) x y vKW vLg vLg2 vLg3 vLg4 vWv vPr vRf vTx vLn vHs vLa := by
  exact L_isBarred G.2.2.1 G.1 (fun v hv => ⟨v1, v2, m_isBarred G.2.2.2.1 G.1 (fun r2 m2 rr mq e9 ev => cl_b e9 (fun z => (hv (q_n ql_isBarred z)).trans (congrArg Int32.toInt64 (ev (q_n ql_isBarred z)).symm)) (fun z => ev (q_n ql_isBarred z) ▸ qb_isBarred G.1 (q_n ql_isBarred z)) (hP _ _ (G.q rr mq).x))⟩)
theorem lw_length (G : GIs A c K S vKW vLg vLg3 vRf vTx vLn vHs m) {P : OV → OV → (Nat → Int64) → Prop} (hP : ∀ w m2 v, GIx vKW vLg vLg3 vRf vTx vLn vHs m2 → P w m2 v) : wp_L_length (fun r w v => wp_X8_length (fun r2 m2 => wp_X8_thrown (fun (t : Int32) => ((t = r → ((¬ r = 0 → P w m2 v) ∧ (r = 0 → (((lcm3 (v (0 : Int32).toNatClampNeg) (r2).toInt64) = 0 → P w m2 v) ∧ (¬ ((lcm3 (v (0 : Int32).toNatClampNeg) (r2).toInt64) = 0) → ((0 : Int32) = 1)))))) ∧ (¬ (t = r) → ((0 : Int32) = 1)))) m2) m) vKW vLg vLg2 vLg3 vLg4 vWv vPr vRf vTx vLn vHs vLa := by
  exact L_length G.2.2.1 G.1 (fun w v hv => m_length G.2.2.2.1 G.1 (fun r2 m2 rr mq e9 ev => cl_t e9 (fun z => (hv (q_n ql_length z)).trans (congrArg Int32.toInt64 (ev (q_n ql_length z)).symm)) (hP _ _ _ (G.q rr mq).x)))
theorem lw_canBeOpen (G : GIs A c K S vKW vLg vLg3 vRf vTx vLn vHs m) {V1 : Prop} {P : OV → (Nat → Int64) → Prop} (v1 : V1) (hP : ∀ m2 v, GIx vKW vLg vLg3 vRf vTx vLn vHs m2 → P m2 v) : wp_L_canBeOpen (fun r v => V1 ∧ wp_X8_canBeOpen (fun r2 m2 => wp_X8_thrown (fun (t : Int32) => ((t = r → ((¬ r = 0 → P m2 v) ∧ (r = 0 → ((r2 = 0 → (((lcm3 (v (0 : Int32).toNatClampNeg) (0 : Int64)) = 0 → P m2 v) ∧ (¬ ((lcm3 (v (0 : Int32).toNatClampNeg) (0 : Int64)) = 0) → ((0 : Int32) = 1)))) ∧ (¬ (r2 = 0) → (((lcm3 (v (0 : Int32).toNatClampNeg) (1 : Int64)) = 0 → P m2 v) ∧ (¬ ((lcm3 (v (0 : Int32).toNatClampNeg) (1 : Int64)) = 0) → ((0 : Int32) = 1)))))))) ∧ (¬ (t = r) → ((0 : Int32) = 1)))) m2) x m) x vKW vLg vLg2 vLg3 vLg4 vWv vPr vRf vTx vLn vHs vLa := by
  exact L_canBeOpen G.2.2.1 G.1 (fun v hv => ⟨v1, m_canBeOpen G.2.2.2.1 G.1 (fun r2 m2 rr mq e9 ev => cl_b e9 (fun z => (hv (q_n ql_canBeOpen z)).trans (congrArg Int32.toInt64 (ev (q_n ql_canBeOpen z)).symm)) (fun z => ev (q_n ql_canBeOpen z) ▸ qb_canBeOpen G.1 (q_n ql_canBeOpen z)) (hP _ _ (G.q rr mq).x))⟩)
theorem lw_isNeeded (G : GIs A c K S vKW vLg vLg3 vRf vTx vLn vHs m) {V1 : Prop} {P : OV → OV → (Nat → Int64) → Prop} (v1 : V1) (hP : ∀ w m2 v, GIx vKW vLg vLg3 vRf vTx vLn vHs m2 → P w m2 v) : wp_L_isNeeded (fun r w v => V1 ∧ wp_X8_isNeeded (fun r2 m2 => wp_X8_thrown (fun (t : Int32) => ((t = r → ((¬ r = 0 → P w m2 v) ∧ (r = 0 → ((r2 = 0 → (((lcm3 (v (0 : Int32).toNatClampNeg) (0 : Int64)) = 0 → P w m2 v) ∧ (¬ ((lcm3 (v (0 : Int32).toNatClampNeg) (0 : Int64)) = 0) → ((0 : Int32) = 1)))) ∧ (¬ (r2 = 0) → (((lcm3 (v (0 : Int32).toNatClampNeg) (1 : Int64)) = 0 → P w m2 v) ∧ (¬ ((lcm3 (v (0 : Int32).toNatClampNeg) (1 : Int64)) = 0) → ((0 : Int32) = 1)))))))) ∧ (¬ (t = r) → ((0 : Int32) = 1)))) m2) x m) x vKW vLg vLg2 vLg3 vLg4 vWv vPr vRf vTx vLn vHs vLa := by
  exact L_isNeeded G.2.2.1 G.1 (fun w v hv => ⟨v1, m_isNeeded G.2.2.2.1 G.1 (fun r2 m2 rr mq e9 ev => cl_b e9 (fun z => (hv (q_n ql_isNeeded z)).trans (congrArg Int32.toInt64 (ev (q_n ql_isNeeded z)).symm)) (fun z => ev (q_n ql_isNeeded z) ▸ qb_isNeeded G.1 (q_n ql_isNeeded z)) (hP _ _ _ (G.q rr mq).x))⟩)
theorem lw_ranked (G : GIs A c K S vKW vLg vLg3 vRf vTx vLn vHs m) {V1 : Prop} {P : OV → (Nat → Int64) → Prop} (v1 : V1) (hP : ∀ m2 v, GIx vKW vLg vLg3 vRf vTx vLn vHs m2 → P m2 v) : wp_L_ranked (fun r v => V1 ∧ wp_X8_ranked (fun r2 m2 => wp_X8_thrown (fun (t : Int32) => ((t = r → ((¬ r = 0 → P m2 v) ∧ (r = 0 → (((lcm3 (v (0 : Int32).toNatClampNeg) (r2).toInt64) = 0 → P m2 v) ∧ (¬ ((lcm3 (v (0 : Int32).toNatClampNeg) (r2).toInt64) = 0) → ((0 : Int32) = 1)))))) ∧ (¬ (t = r) → ((0 : Int32) = 1)))) m2) x m) x vKW vLg vLg2 vLg3 vLg4 vWv vPr vRf vTx vLn vHs vLa := by
  exact L_ranked G.2.2.1 G.1 (fun v hv => ⟨v1, m_ranked G.2.2.2.1 G.1 (fun r2 m2 rr mq e9 ev => cl_t e9 (fun z => (hv (q_n ql_ranked z)).trans (congrArg Int32.toInt64 (ev (q_n ql_ranked z)).symm)) (hP _ _ (G.q rr mq).x))⟩)
theorem lw_reason (G : GIs A c K S vKW vLg vLg3 vRf vTx vLn vHs m) {V1 : Prop} {P : OV → (Nat → Int64) → Prop} (v1 : V1) (hP : ∀ m2 v, GIx vKW vLg vLg3 vRf vTx vLn vHs m2 → P m2 v) : wp_L_reason (fun r v => V1 ∧ wp_X8_reason (fun r2 m2 => wp_X8_thrown (fun (t : Int32) => ((t = r → ((¬ r = 0 → P m2 v) ∧ (r = 0 → (((lcm3 (v (0 : Int32).toNatClampNeg) (r2).toInt64) = 0 → P m2 v) ∧ (¬ ((lcm3 (v (0 : Int32).toNatClampNeg) (r2).toInt64) = 0) → ((0 : Int32) = 1)))))) ∧ (¬ (t = r) → ((0 : Int32) = 1)))) m2) x m) x vKW vLg vLg2 vLg3 vLg4 vWv vPr vRf vTx vLn vHs vLa := by
  exact L_reason  (fun v hv => ⟨v1, m_reason G.2.2.2.1 G.2.2.2.2.2.2.2.1.1.symm G.2.2.2.2.2.2.2.1.2.1.symm G.2.2.2.2.2.2.2.1.2.2.symm (fun r2 m2 rr mq e9 ev => cl_t e9 (fun z => (hv (q_n ql_reason z)).trans (congrArg Int32.toInt64 (ev (q_n ql_reason z)).symm)) (hP _ _ (G.q rr mq).x))⟩)
theorem lw_account (G : GIs A c K S vKW vLg vLg3 vRf vTx vLn vHs m) {V1 : Prop} {P : OV → (Nat → Int64) → Prop} (v1 : V1) (hP : ∀ m2 v, GIx vKW vLg vLg3 vRf vTx vLn vHs m2 → P m2 v) : wp_L_account (fun r v => V1 ∧ wp_X8_account (fun r2 m2 => wp_X8_thrown (fun (t : Int32) => ((t = r → ((¬ r = 0 → P m2 v) ∧ (r = 0 → (((lcm3 (v (0 : Int32).toNatClampNeg) (r2).toInt64) = 0 → P m2 v) ∧ (¬ ((lcm3 (v (0 : Int32).toNatClampNeg) (r2).toInt64) = 0) → ((0 : Int32) = 1)))))) ∧ (¬ (t = r) → ((0 : Int32) = 1)))) m2) x m) x vKW vLg vLg2 vLg3 vLg4 vWv vPr vRf vTx vLn vHs vLa := by
  obtain ⟨n, _, t1, t2, _⟩ := G.2.2.2.2.2.2.2.2.1
  exact L_account G.2.2.1 G.1 G.2.2.2.2.1.2.2.2.1 t1 (fun v hv => ⟨v1, m_account G.2.2.2.1 G.1 G.2.2.2.2.2.1.1 t2 (fun r2 m2 rr mq e9 ev => cl_t e9 (fun z => (hv (q_n ql_account z)).trans (congrArg Int32.toInt64 (ev (q_n ql_account z)).symm)) (hP _ _ (G.q rr mq).x))⟩)
theorem lw_character (G : GIs A c K S vKW vLg vLg3 vRf vTx vLn vHs m) {V1 : Prop} {P : OV → (Nat → Int64) → Prop} (v1 : V1) (hP : ∀ m2 v, GIx vKW vLg vLg3 vRf vTx vLn vHs m2 → P m2 v) : wp_L_character (fun r v => V1 ∧ wp_X8_character (fun r2 m2 => wp_X8_thrown (fun (t : Int32) => ((t = r → ((¬ r = 0 → P m2 v) ∧ (r = 0 → (((lcm3 (v (0 : Int32).toNatClampNeg) (r2).toInt64) = 0 → P m2 v) ∧ (¬ ((lcm3 (v (0 : Int32).toNatClampNeg) (r2).toInt64) = 0) → ((0 : Int32) = 1)))))) ∧ (¬ (t = r) → ((0 : Int32) = 1)))) m2) x m) x vKW vLg vLg2 vLg3 vLg4 vWv vPr vRf vTx vLn vHs vLa := by
  obtain ⟨n, n80, t1, t2, t3⟩ := G.2.2.2.2.2.2.2.2.2.1
  have eq : qChr (m.1 16) n x = qChr (vLn.1 0) n x := by
    unfold qChr
    by_cases k : 0 ≤ x ∧ x < nI n
    · rw [if_pos k, if_pos k]
      have k0 : ¬ x < 0 := Int32.not_lt.mpr k.1
      obtain ⟨j, j1, j2⟩ := nI_of k0
      have jn : j < n := by
        have := k.2
        rw [j2] at this
        exact (nI_ltI j1 (by omega)).mp this
      obtain ⟨q, _, q1, q2⟩ := t3 j jn
      rw [j2, nI_clamp j1, q1, q2]
    · rw [if_neg k, if_neg k]
  refine L_character n80 t1 (fun i hi => ?_) (fun v hv => ⟨v1, m_character G.2.2.2.1 n80 t2 (fun i hi => ?_) (fun r2 m2 rr mq e9 ev => ?_)⟩)
  · obtain ⟨q, q1, q2, _⟩ := t3 i hi
    exact ⟨q, q1, q2⟩
  · obtain ⟨q, q1, _, q2⟩ := t3 i hi
    exact ⟨q, q1, q2⟩
  · rw [eq] at e9 ev
    exact cl_t e9 (fun z => (hv (q_n ql_character z)).trans (congrArg Int32.toInt64 (ev (q_n ql_character z)).symm)) (hP _ _ (G.q rr mq).x)
theorem lw_adds (G : GIs A c K S vKW vLg vLg3 vRf vTx vLn vHs m) {P : OV → OV → OV → Prop} (hP : ∀ a w m2, GIx vKW vLg vLg3 vRf vTx vLn vHs m2 → P a w m2) : wp_X7_adds (fun r a w => wp_X8_adds (fun r2 m2 => ((r = r2 → P a w m2) ∧ (¬ (r = r2) → ((0 : Int32) = 1)))) m) vKW vLg vLg2 vLg3 vLg4 vWv vPr vRf vTx vLn vHs :=
  x_adds G.2.2.1 G.1 G.2.1 (fun a w => m_adds G.2.2.2.1 G.1 G.2.1 (fun r2 m2 rr mq _ ev => cl_e (ev rfl).symm (hP _ _ _ (G.q rr mq).x)))
theorem lw_waves (G : GIs A c K S vKW vLg vLg3 vRf vTx vLn vHs m) {P : OV → OV → OV → Prop} (hP : ∀ a w m2, GIx vKW vLg vLg3 vRf vTx vLn vHs m2 → P a w m2) : wp_X7_waves (fun r a w => wp_X8_waves (fun r2 m2 => ((r = r2 → P a w m2) ∧ (¬ (r = r2) → ((0 : Int32) = 1)))) m) vKW vLg vLg2 vLg3 vLg4 vWv vPr vRf vTx vLn vHs :=
  x_waves G.2.2.1 G.1 G.2.1 (fun a w => m_waves G.2.2.2.1 G.1 G.2.1 (fun r2 m2 rr mq _ ev => cl_e (ev rfl).symm (hP _ _ _ (G.q rr mq).x)))
theorem lw_most (G : GIs A c K S vKW vLg vLg3 vRf vTx vLn vHs m) {P : OV → OV → OV → Prop} (hP : ∀ a w m2, GIx vKW vLg vLg3 vRf vTx vLn vHs m2 → P a w m2) : wp_X7_most (fun r a w => wp_X8_most (fun r2 m2 => ((r = r2 → P a w m2) ∧ (¬ (r = r2) → ((0 : Int32) = 1)))) m) vKW vLg vLg2 vLg3 vLg4 vWv vPr vRf vTx vLn vHs :=
  x_most G.2.2.1 G.1 G.2.1 (fun a w => m_most G.2.2.2.1 G.1 (fun r2 m2 rr mq _ ev => cl_e (ev rfl).symm (hP _ _ _ (G.q rr mq).x)))
theorem lw_mostAgain (G : GIs A c K S vKW vLg vLg3 vRf vTx vLn vHs m) {P : OV → OV → Prop} (hP : ∀ w m2, GIx vKW vLg vLg3 vRf vTx vLn vHs m2 → P w m2) : wp_X7_mostAgain (fun r w => wp_X8_mostAgain (fun r2 m2 => ((r = r2 → P w m2) ∧ (¬ (r = r2) → ((0 : Int32) = 1)))) m) vKW vLg vLg2 vLg3 vLg4 vWv vPr vRf vTx vLn vHs :=
  x_mostAgain G.2.2.1 G.1 (fun w => m_mostAgain G.2.2.2.1 G.1 (fun r2 m2 rr mq _ ev => cl_e (ev rfl).symm (hP _ _ (G.q rr mq).x)))
theorem lw_cover (G : GIs A c K S vKW vLg vLg3 vRf vTx vLn vHs m) {X : Int32} {V1 : Prop} {P : OV → OV → OV → Prop} (v1 : V1) (hP : ∀ a w m2, GIx vKW vLg vLg3 vRf vTx vLn vHs m2 → P a w m2) : (X = 0 → wp_X7_cover (fun r a w => V1 ∧ ((X = 0 → wp_X8_cover (fun r2 m2 => ((r = r2 → P a w m2) ∧ (¬ (r = r2) → ((0 : Int32) = 1)))) (0 : Int32) m) ∧ (¬ (X = 0) → wp_X8_cover (fun r2 m2 => ((r = r2 → P a w m2) ∧ (¬ (r = r2) → ((0 : Int32) = 1)))) (1 : Int32) m))) (0 : Int32) vKW vLg vLg2 vLg3 vLg4 vWv vPr vRf vTx vLn vHs) ∧ (¬ (X = 0) → wp_X7_cover (fun r a w => V1 ∧ ((X = 0 → wp_X8_cover (fun r2 m2 => ((r = r2 → P a w m2) ∧ (¬ (r = r2) → ((0 : Int32) = 1)))) (0 : Int32) m) ∧ (¬ (X = 0) → wp_X8_cover (fun r2 m2 => ((r = r2 → P a w m2) ∧ (¬ (r = r2) → ((0 : Int32) = 1)))) (1 : Int32) m))) (1 : Int32) vKW vLg vLg2 vLg3 vLg4 vWv vPr vRf vTx vLn vHs) := by
  refine ⟨fun k => x_cover G.2.2.1 G.1 G.2.1 (fun a w => ⟨v1, fun _ => ?_, fun z => absurd k z⟩), fun k => x_cover G.2.2.1 G.1 G.2.1 (fun a w => ⟨v1, fun z => absurd z k, fun _ => ?_⟩)⟩
  · exact m_cover G.2.2.2.1 G.1 G.2.1 (fun r2 m2 rr mq _ ev => cl_e (ev rfl).symm (hP _ _ _ (G.q rr mq).x))
  · exact m_cover G.2.2.2.1 G.1 G.2.1 (fun r2 m2 rr mq _ ev => cl_e (ev rfl).symm (hP _ _ _ (G.q rr mq).x))
theorem lw_line (G : GIs A c K S vKW vLg vLg3 vRf vTx vLn vHs m) {X : Int32} {V1 : Prop} {P : OV → OV → Prop} (v1 : V1) (hP : ∀ w m2, GIx vKW vLg vLg3 vRf vTx w vHs m2 → P w m2) : (X = 0 → wp_X7_line (fun r w => V1 ∧ ((X = 0 → wp_X8_line (fun r2 m2 => ((r = r2 → P w m2) ∧ (¬ (r = r2) → ((0 : Int32) = 1)))) (0 : Int32) m) ∧ (¬ (X = 0) → wp_X8_line (fun r2 m2 => ((r = r2 → P w m2) ∧ (¬ (r = r2) → ((0 : Int32) = 1)))) (1 : Int32) m))) (0 : Int32) vKW vLg vLg2 vLg3 vLg4 vWv vPr vRf vTx vLn vHs) ∧ (¬ (X = 0) → wp_X7_line (fun r w => V1 ∧ ((X = 0 → wp_X8_line (fun r2 m2 => ((r = r2 → P w m2) ∧ (¬ (r = r2) → ((0 : Int32) = 1)))) (0 : Int32) m) ∧ (¬ (X = 0) → wp_X8_line (fun r2 m2 => ((r = r2 → P w m2) ∧ (¬ (r = r2) → ((0 : Int32) = 1)))) (1 : Int32) m))) (1 : Int32) vKW vLg vLg2 vLg3 vLg4 vWv vPr vRf vTx vLn vHs) := by
  have hI := G.1
  have b : ∀ (s : Int32) (W : WT), W = (if s = 0 then pln (aWd A) (aIk A) (aNk A) else pln (aPn A) (aHk A) (aNl A)) → W.1 ≤ 80 := by
    intro s W e
    rw [e]
    have i1 := hI.1
    have i2 := hI.2.1
    split
    · have t := (pln_len (f := aWd A) (g := aIk A) hI.1 (fun k hk => by have := (hI.2.2.2.1 k hk).2.2.1; omega) _ (Nat.le_refl _)).1
      omega
    · have t := (pln_len (f := aPn A) (g := aHk A) hI.2.1 (fun k hk => by have := (hI.2.2.2.2.1 k hk).2.1; omega) _ (Nat.le_refl _)).1
      omega
  refine ⟨fun k => x_line G.2.2.1 hI (fun w W e l => ⟨v1, fun _ => m_line G.2.2.2.1 hI (fun m2 W2 e2 l2 f1 _ f2 => ?_), fun z => absurd k z⟩), fun k => x_line G.2.2.1 hI (fun w W e l => ⟨v1, fun z => absurd z k, fun _ => m_line G.2.2.2.1 hI (fun m2 W2 e2 l2 f1 _ f2 => ?_)⟩)⟩
  · cases e.trans e2.symm
    exact cl_e rfl (hP _ _ (G.ln (b _ _ e) l l2 f1 f2).x)
  · cases e.trans e2.symm
    exact cl_e rfl (hP _ _ (G.ln (b _ _ e) l l2 f1 f2).x)
theorem lw_append (G : GIs A c K S vKW vLg vLg3 vRf vTx vLn vHs m) {q : Nat} (hq : q < 65536) (hx : x = nI q) {V1 : Prop} {P : OV → OV → (Nat → Int64) → Prop} (v1 : V1) (hP : ∀ w m2 v, GIx vKW vLg vLg3 vRf w vLn vHs m2 → P w m2 v) : wp_L_append (fun r w v => V1 ∧ wp_X8_append (fun r2 m2 => wp_X8_thrown (fun (t : Int32) => ((t = r → ((¬ r = 0 → P w m2 v) ∧ (r = 0 → (((lcm3 (v (0 : Int32).toNatClampNeg) (r2).toInt64) = 0 → P w m2 v) ∧ (¬ ((lcm3 (v (0 : Int32).toNatClampNeg) (r2).toInt64) = 0) → ((0 : Int32) = 1)))))) ∧ (¬ (t = r) → ((0 : Int32) = 1)))) m2) x m) x vKW vLg vLg2 vLg3 vLg4 vWv vPr vRf vTx vLn vHs vLa := by
  subst hx
  obtain ⟨n, n60, t1, t2, t3⟩ := G.2.2.2.2.2.2.2.2.1
  refine L_append hq n60 t1 (fun k w ew => ⟨v1, m_append n60 t2 (fun _ r2 => ?_) (fun z => absurd k (by omega))⟩) (fun k w w1 w0 => ⟨v1, m_append n60 t2 (fun z => absurd z (by omega)) (fun _ m2 u14 u9 u13 f1 f2 => ?_)⟩)
  · subst ew
    exact cl_t sI_at (fun z => absurd z (by decide)) (hP _ _ _ (G.q (m' := sI m 9 1) G.2.2.2.1 ⟨fun _ _ _ _ _ => rfl, fun _ h _ => sI_oth h⟩).x)
  · exact cl_t u9 (fun _ => pk_uLs) (hP _ _ _ (G.ap hq k t3 w1 w0 u14 u13 f1 f2).x)
theorem lw_commands (G : GIs A c K S vKW vLg vLg3 vRf vTx vLn vHs m) {P : OV → OV → OV → OV → OV → OV → HV → OV → (Nat → Int64) → Prop} (hP : ∀ kw a b w f t1 e m2 v, GIx kw a vLg3 f t1 vLn e m2 → P kw a b w f t1 e m2 v) : wp_L_commands (fun r kw a b w f t1 e v => wp_X8_commands (fun r2 m2 => wp_X8_thrown (fun (t : Int32) => ((t = r → ((¬ r = 0 → P kw a b w f t1 e m2 v) ∧ (r = 0 → (((lcm3 (v (0 : Int32).toNatClampNeg) (r2).toInt64) = 0 → P kw a b w f t1 e m2 v) ∧ (¬ ((lcm3 (v (0 : Int32).toNatClampNeg) (r2).toInt64) = 0) → ((0 : Int32) = 1)))))) ∧ (¬ (t = r) → ((0 : Int32) = 1)))) m2) m) vKW vLg vLg2 vLg3 vLg4 vWv vPr vRf vTx vLn vHs vLa := by
  have hI := G.1
  have hF := G.2.1
  have H := G.2.2.2.2.1
  obtain ⟨n, n60, t1, t2, t3⟩ := G.2.2.2.2.2.2.2.2.1
  obtain ⟨T, T1, T2⟩ : ∃ T : TT0, T.1 = n ∧ ∀ i, i < n → T.2 i < 65536 ∧ vTx.1 0 i = nI (T.2 i) ∧ m.1 13 i = nI (T.2 i) := by
    refine ⟨(n, fun i => if k : i < n then Classical.choose (t3 i k) else 0), rfl, fun i hi => ?_⟩
    have e : (fun i => if k : i < n then Classical.choose (t3 i k) else 0) i = Classical.choose (t3 i hi) := dif_pos hi
    show (fun i => if k : i < n then Classical.choose (t3 i k) else 0) i < 65536 ∧ vTx.1 0 i = nI ((fun i => if k : i < n then Classical.choose (t3 i k) else 0) i) ∧ m.1 13 i = nI ((fun i => if k : i < n then Classical.choose (t3 i k) else 0) i)
    rw [e]
    exact Classical.choose_spec (t3 i hi)
  subst T1
  have R := G.2.2.2.2.2.2.2.1
  have M := fun (Q : Int32 → OV → Prop) => m_commands (Q := Q) (T := T) G.2.2.2.1 hI hF G.2.2.2.2.2.1 H.2.2.1 G.2.2.2.2.2.2.2.2.2.2.2 n60 t2 (fun i hi => ⟨(T2 i hi).2.2, (T2 i hi).1⟩)
  refine L_commands (T := T) G.2.2.1 hI hF H n60 t1 (fun i hi => ⟨(T2 i hi).2.1, (T2 i hi).1⟩) (fun z t h1 => M _ (fun _ r2 m2 mc rr kr u10 u11 u12 u15 u9 => ?_) (fun z2 => absurd (z.symm.trans z2) (by decide)) (fun z2 => absurd (z.symm.trans z2) (by decide))) (fun z r d i e a b w t ha ht => M _ (fun z2 => absurd (z.symm.trans z2) (by decide)) (fun _ r' d' i' e' r2 m2 mc rr kr u10 u11 u12 u15 u9 => ?_) (fun _ B e' => ?_)) (fun z B e a b w t g ha hg ht => M _ (fun z2 => absurd (z.symm.trans z2) (by decide)) (fun _ r' d' i' e' => ?_) (fun _ B' e' m2 mc rr hB hB2 kr u10 u11 u12 u15 u9 => ?_))
  · exact cl_t u9 (fun z => absurd z (by decide)) (hP _ _ _ _ _ _ _ _ _ (G.cm hI hF G.2.2.1 H rr kr mc h1 (R.same u10 u11 u12) u15).x)
  · cases e.symm.trans e'
    exact cl_t u9 (fun z => absurd z (by decide)) (hP _ _ _ _ _ _ _ _ _ (G.cm hI hF ha H rr kr mc ht (rf3_R u10 u11 u12) u15).x)
  · cases e.symm.trans e'
  · cases e.symm.trans e'
  · cases e.symm.trans e'
    exact cl_t u9 (fun _ => pk_uLs) (hP _ _ _ _ _ _ _ _ _ (G.cm hB hB2 ha hg rr kr mc ht (R.same u10 u11 u12) u15).x)
theorem lw_faultPosition (G : GIs A c K S vKW vLg vLg3 vRf vTx vLn vHs m) {P : OV → Prop} (hP : ∀ m2, GIx vKW vLg vLg3 vRf vTx vLn vHs m2 → P m2) : wp_X7_faultPosition (fun r => wp_X8_faultPosition (fun r2 m2 => ((r = r2 → P m2) ∧ (¬ (r = r2) → ((0 : Int32) = 1)))) m) vKW vLg vLg2 vLg3 vLg4 vWv vPr vRf vTx vLn vHs := by
  unfold wp_X7_faultPosition wp_X7_faultPosition_0 wp_X8_faultPosition wp_X8_faultPosition_0
  rintro _ rfl
  refine cl_e ?_ (hP _ (G.q (m' := sI m 9 0) G.2.2.2.1 ⟨fun _ _ _ _ _ => rfl, fun _ h _ => sI_oth h⟩).x)
  rw [sI_oth (by decide)]
  exact G.2.2.2.2.2.2.2.2.2.2.1
theorem lw_meanFits (G : GIs A c K S vKW vLg vLg3 vRf vTx vLn vHs m) {P : OV → (Nat → UInt64) → Prop} {B : Int32 → OV → (Nat → UInt64) → UInt64 → Prop} (hP : ∀ m2 v, GIx vKW vLg vLg3 vRf vTx vLn vHs m2 → P m2 v) : wp_L_meanFits (fun r v => wp_X8_meanFits (fun r2 m2 => wp_X8_thrown (fun (t : Int32) => ((t = r → ((¬ r = 0 → P m2 v) ∧ (r = 0 → (((Op.cmpValue (FP.dcmp (v (0 : Int32).toNatClampNeg) r2) .l) = 0 → P m2 v) ∧ (¬ ((Op.cmpValue (FP.dcmp (v (0 : Int32).toNatClampNeg) r2) .l) = 0) → B r m2 v r2))))) ∧ (¬ (t = r) → ((0 : Int32) = 1)))) m2) m) vKW vLg vLg2 vLg3 vLg4 vWv vPr vRf vTx vLn vHs vDa := by
  have hI := G.1
  have n1 := hI.1
  have g : ∀ u : Int32, GIx vKW vLg vLg3 vRf vTx vLn vHs (sI m 9 u) := fun u => (G.q (m' := sI m 9 u) G.2.2.2.1 ⟨fun _ _ _ _ _ => rfl, fun _ h _ => sI_oth h⟩).x
  refine L_meanFits G.2.2.1 hI (fun k => m_meanFits G.2.2.2.1 hI (fun _ r2 => ?_) (fun b z => absurd (k.symm.trans z) (Nat.succ_ne_zero b).symm)) (fun b k => m_meanFits G.2.2.2.1 hI (fun z => absurd (k.symm.trans z) (Nat.succ_ne_zero b)) (fun b' k' => ?_))
  · exact ⟨fun _ => ⟨fun _ => hP _ _ (g _), fun z => absurd z (by decide)⟩, fun z => absurd sI_at z⟩
  · have eb : b' = b := by omega
    subst eb
    refine ⟨fun _ => ⟨fun z => absurd rfl z, fun _ => ⟨fun _ => hP _ _ (g _), fun z => absurd ?_ z⟩⟩, fun z => absurd sI_at z⟩
    rw [up_D0]
    exact (tb_mf _ (sFits_le hI) b' (by omega)).2
theorem lw_openShare (G : GIs A c K S vKW vLg vLg3 vRf vTx vLn vHs m) {P : OV → (Nat → UInt64) → Prop} {B : Int32 → OV → (Nat → UInt64) → UInt32 → Prop} (hP : ∀ m2 v, GIx vKW vLg vLg3 vRf vTx vLn vHs m2 → P m2 v) : wp_L_openShare (fun r v => wp_X8_openShare (fun r2 m2 => wp_X8_thrown (fun (t : Int32) => ((t = r → ((¬ r = 0 → P m2 v) ∧ (r = 0 → (vf_n64 (FP.f2d r2) ∧ (((Op.cmpValue (FP.dcmp (v (0 : Int32).toNatClampNeg) (FP.f2d r2)) .l) = 0 → P m2 v) ∧ (¬ ((Op.cmpValue (FP.dcmp (v (0 : Int32).toNatClampNeg) (FP.f2d r2)) .l) = 0) → B r m2 v r2)))))) ∧ (¬ (t = r) → ((0 : Int32) = 1)))) m2) m) vKW vLg vLg2 vLg3 vLg4 vWv vPr vRf vTx vLn vHs vDa := by
  have hI := G.1
  have n1 := hI.2.1
  have g : ∀ u : Int32, GIx vKW vLg vLg3 vRf vTx vLn vHs (sI m 9 u) := fun u => (G.q (m' := sI m 9 u) G.2.2.2.1 ⟨fun _ _ _ _ _ => rfl, fun _ h _ => sI_oth h⟩).x
  refine L_openShare G.2.2.1 hI (fun k => m_openShare G.2.2.2.1 hI (fun _ r2 => ?_) (fun b z => absurd (k.symm.trans z) (Nat.succ_ne_zero b).symm)) (fun b k => m_openShare G.2.2.2.1 hI (fun z => absurd (k.symm.trans z) (Nat.succ_ne_zero b)) (fun b' k' => ?_))
  · exact ⟨fun _ => ⟨fun _ => hP _ _ (g _), fun z => absurd z (by decide)⟩, fun z => absurd sI_at z⟩
  · have eb : b' = b := by omega
    subst eb
    have t := tb_os _ (show sOpen A < 11 by have := sOpen_le hI; omega) b' (by omega)
    refine ⟨fun _ => ⟨fun z => absurd rfl z, fun _ => ⟨t.2.1, fun _ => hP _ _ (g _), fun z => absurd ?_ z⟩⟩, fun z => absurd sI_at z⟩
    rw [up_D0]
    exact t.2.2
theorem lw_undo (G : GIs A c K S vKW vLg vLg3 vRf vTx vLn vHs m) {P : OV → HV → OV → (Nat → Int64) → Prop} (hP : ∀ a e m2 v, GIx vKW a vLg3 vRf vTx vLn e m2 → P a e m2 v) : wp_L_undo (fun r a e v => wp_X8_undo (fun r2 m2 => wp_X8_thrown (fun (t : Int32) => ((t = r → ((¬ r = 0 → P a e m2 v) ∧ (r = 0 → (((lcm3 (v (0 : Int32).toNatClampNeg) (r2).toInt64) = 0 → P a e m2 v) ∧ (¬ ((lcm3 (v (0 : Int32).toNatClampNeg) (r2).toInt64) = 0) → ((0 : Int32) = 1)))))) ∧ (¬ (t = r) → ((0 : Int32) = 1)))) m2) m) vKW vLg vLg2 vLg3 vLg4 vWv vPr vRf vTx vLn vHs vLa := by
  have H := G.2.2.2.2.1
  have KR := G.2.2.2.2.2.1
  have g : ∀ u : Int32, GIx vKW vLg vLg3 vRf vTx vLn vHs (sI m 9 u) := fun u => (G.q (m' := sI m 9 u) G.2.2.2.1 ⟨fun _ _ _ _ _ => rfl, fun _ h _ => sI_oth h⟩).x
  refine L_undo H (fun i hi => (KR.2 i hi).2.1) (fun k => m_undo H.2.2.1 KR (fun _ r2 => ?_) (fun c' z => absurd (k.symm.trans z) (Nat.succ_ne_zero c').symm)) (fun c' k a e ha he => m_undo H.2.2.1 KR (fun z => absurd (k.symm.trans z) (Nat.succ_ne_zero c')) (fun c2 k2 m2 rr u6 u9 f1 f2 => ?_))
  · exact cl_t sI_at (fun z => absurd z (by decide)) (hP _ _ _ _ (g _))
  · have ec : c2 = c' := by omega
    subst ec
    obtain ⟨_, i1, i2⟩ := KR.2 c2 (by omega)
    exact cl_t u9 (fun _ => pk_uLs) (hP _ _ _ _ (G.hop i1 i2 ha he (by omega) rr u6 f1 f2).x)
theorem lw_restore (G : GIs A c K S vKW vLg vLg3 vRf vTx vLn vHs m) {P : OV → HV → OV → (Nat → Int64) → Prop} (hP : ∀ a e m2 v, GIx vKW a vLg3 vRf vTx vLn e m2 → P a e m2 v) : wp_L_restore (fun r a e v => wp_X8_restore (fun r2 m2 => wp_X8_thrown (fun (t : Int32) => ((t = r → ((¬ r = 0 → P a e m2 v) ∧ (r = 0 → (((lcm3 (v (0 : Int32).toNatClampNeg) (r2).toInt64) = 0 → P a e m2 v) ∧ (¬ ((lcm3 (v (0 : Int32).toNatClampNeg) (r2).toInt64) = 0) → ((0 : Int32) = 1)))))) ∧ (¬ (t = r) → ((0 : Int32) = 1)))) m2) m) vKW vLg vLg2 vLg3 vLg4 vWv vPr vRf vTx vLn vHs vLa := by
  have H := G.2.2.2.2.1
  have KR := G.2.2.2.2.2.1
  have g : ∀ u : Int32, GIx vKW vLg vLg3 vRf vTx vLn vHs (sI m 9 u) := fun u => (G.q (m' := sI m 9 u) G.2.2.2.1 ⟨fun _ _ _ _ _ => rfl, fun _ h _ => sI_oth h⟩).x
  obtain ⟨s1, s2⟩ := G.2.2.2.2.2.2.1
  refine L_restore (S := S) H (fun z => ?_) (fun k => m_restore (S := S) (fun z => ?_) (fun _ r2 => ?_) (fun z => absurd (s1.mp k) z)) (fun k a e ha he => m_restore (S := S) (fun z => ?_) (fun z => absurd (s1.mpr z) k) (fun k2 m2 rr u6 u9 f1 f2 => ?_))
  · have t := s2 (fun w => z (s1.mpr w))
    exact ⟨t.1, t.2.2.1⟩
  · exact ⟨(s2 z).2.1, (s2 z).2.2.1⟩
  · exact cl_t sI_at (fun z => absurd z (by decide)) (hP _ _ _ _ (g _))
  · exact ⟨(s2 z).2.1, (s2 z).2.2.1⟩
  · obtain ⟨_, _, i1, i2⟩ := s2 k2
    exact cl_t u9 (fun _ => pk_uLs) (hP _ _ _ _ (G.hop i1 i2 ha he (Nat.zero_le _) rr u6 f1 f2).x)
theorem lw_save (G : GIs A c K S vKW vLg vLg3 vRf vTx vLn vHs m) {P : OV → OV → OV → Prop} (hP : ∀ kw a m2, GIx kw vLg a vRf vTx vLn vHs m2 → P kw a m2) : wp_X7_save (fun r kw a => wp_X8_save (fun r2 m2 => ((r = r2 → P kw a m2) ∧ (¬ (r = r2) → ((0 : Int32) = 1)))) m) vKW vLg vLg2 vLg3 vLg4 vWv vPr vRf vTx vLn vHs :=
  x_save G.2.2.1 G.1 (fun a ha => m_save G.2.2.2.1 G.1 (fun m2 r2 f1 u5 f2 => cl_e rfl (hP _ _ _ (G.sv ha r2 f1 u5 f2).x)))
end LWX
