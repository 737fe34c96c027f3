section GWNUL
variable {C : Cx} {X : List Cond} {cc : ByteArray} {Ts : List Cond} {own : String} {R0 : Room} {n0 : Nat} {ret : Option FieldType} {D0 : va_G} {G0 : Nat → ClassId} {l0 : Launch} {k n pc : Nat} {bs bs' : List va_W} {lv lv' : List (Nat × Value)} {st : List Value}
theorem gw_ifnonnull (F : GF C X cc Ts own R0 n0 ret D0 G0 l0) {x : Nat} {off : Int} {tgt : Nat} (d : decode cc pc = .ok (.ifnonnull off, 3)) (ht : (pc : Int) + off = (tgt : Int)) (K : GW C k n bs tgt lv st) : GW C k n bs pc lv (.ref x :: st) := by
  obtain ⟨p, l, e, R, s, m, args, below, meth, c, A, D, G, Q, nL⟩ := C
  obtain ⟨hx, hb, -⟩ := F
  exact fun H locs ls hP hD hS hl => lv_ifnonnull hx hb d ht (K H locs ls hP hD hS hl)
theorem gw_ifnull (F : GF C X cc Ts own R0 n0 ret D0 G0 l0) {x : Nat} {off : Int} (d : decode cc pc = .ok (.ifnull off, 3)) (K : GW C k n bs (pc + 3) lv st) : GW C k n bs pc lv (.ref x :: st) := by
  obtain ⟨p, l, e, R, s, m, args, below, meth, c, A, D, G, Q, nL⟩ := C
  obtain ⟨hx, hb, -⟩ := F
  exact fun H locs ls hP hD hS hl => lv_ifnull hx hb d (K H locs ls hP hD hS hl)
theorem gw_ifnonnullN (F : GF C X cc Ts own R0 n0 ret D0 G0 l0) {off : Int} (d : decode cc pc = .ok (.ifnonnull off, 3)) (K : GW C k n bs (pc + 3) lv st) : GW C k n bs pc lv (.null :: st) := by
  obtain ⟨p, l, e, R, s, m, args, below, meth, c, A, D, G, Q, nL⟩ := C
  obtain ⟨hx, hb, -⟩ := F
  exact fun H locs ls hP hD hS hl => lv_ifnonnullN hx hb d (K H locs ls hP hD hS hl)
theorem gw_ifnullN (F : GF C X cc Ts own R0 n0 ret D0 G0 l0) {off : Int} {tgt : Nat} (d : decode cc pc = .ok (.ifnull off, 3)) (ht : (pc : Int) + off = (tgt : Int)) (K : GW C k n bs tgt lv st) : GW C k n bs pc lv (.null :: st) := by
  obtain ⟨p, l, e, R, s, m, args, below, meth, c, A, D, G, Q, nL⟩ := C
  obtain ⟨hx, hb, -⟩ := F
  exact fun H locs ls hP hD hS hl => lv_ifnullN hx hb d ht (K H locs ls hP hD hS hl)
theorem gw_astoreN_n (F : GF C X cc Ts own R0 n0 ret D0 G0 l0) {j : Fin 4} (d : decode cc pc = .ok (.astore_n j, 1)) (hn : (j : Nat) < n0) (hl' : ((j : Nat), Value.null) :: lv.filter (fun q => !(q.1 == (j : Nat)) && !(q.1 + 1 == (j : Nat) && q.2.category == 2)) = lv') (K : GW C k n bs (pc + 1) lv' st) : GW C k n bs pc lv (.null :: st) := by
  obtain ⟨p, l, e, R, s, m, args, below, meth, c, A, D, G, Q, nL⟩ := C
  obtain ⟨hx, hb, -, -, -, -, -, -, -, h0, -⟩ := F
  exact fun H locs ls hP hD hS hl => lv_astore_nN hx hb d rfl hl (h0 ▸ hn) hl' (fun ls' hl => K H locs ls' hP hD hS hl)
theorem gw_aloadN_n (F : GF C X cc Ts own R0 n0 ret D0 G0 l0) {j : Fin 4} (d : decode cc pc = .ok (.aload_n j, 1)) (i : Nat) (h : lv[i]? = some ((j : Nat), .null)) (K : GW C k n bs (pc + 1) lv (.null :: st)) : GW C k n bs pc lv st := by
  obtain ⟨p, l, e, R, s, m, args, below, meth, c, A, D, G, Q, nL⟩ := C
  obtain ⟨hx, hb, -⟩ := F
  exact fun H locs ls hP hD hS hl => lv_aload_nN hx hb d rfl (lv_at hl i h) (K H locs ls hP hD hS hl)
end GWNUL
/-- the history: its count, the order of its rows, what the rows hold -/
abbrev HV : Type := Int32 × (Nat → Nat) × (Nat → OV)
def bHo (G : Nat → ClassId) (h : Nat) (q : Nat → Nat → Nat) (v : HV) : va_W := [(h, .inr (1, [.ref (q 8 0), .int v.1])), (q 8 0, .inl (G 5, 8, .inr (.inr (.inr (.inr (fun i => some (q (v.2.1 i) 8)))))))]
def bRo (G : Nat → ClassId) (q : Nat → Nat → Nat) (v : HV) (j : Nat) : va_W := bLg G (q j 8) (q j) (v.2.2 j)
abbrev HW (G : Nat → ClassId) (h : Nat) (q : Nat → Nat → Nat) (v : HV) : List va_W := [bHo G h q v, bRo G q v 0, bRo G q v 1, bRo G q v 2, bRo G q v 3, bRo G q v 4, bRo G q v 5, bRo G q v 6, bRo G q v 7]
def hrow (q : Nat → Nat → Nat) (v : HV) (x : Int32) : Option Nat := if 0 ≤ x ∧ x < 8 then some (q (v.2.1 x.toNatClampNeg) 8) else none
def hrot (ρ : Nat → Nat) : Nat → Nat := fun j => if j < 7 then ρ (j + 1) else if j = 7 then ρ 0 else ρ j
def hsh (m : Nat) (ρ : Nat → Nat) : Nat → Nat := fun j => if j < m then ρ (j + 1) else ρ j
def upR (v : Nat → OV) (j : Nat) (x : OV) : Nat → OV := fun i => if i = j then x else v i
/-- a lodge, copied -/
def cpLg (v w : OV) : OV :=
  let c := fun (s : Nat) (f : Nat → Int32) => va_cpy (w.1 s) f (0 : Int32).toNatClampNeg (0 : Int32).toNatClampNeg (10 : Int32).toNatClampNeg
  let v1 := sF v 0 (c 0 (v.1 0))
  let v2 := sF v1 1 (c 1 (v1.1 1))
  let v3 := sF v2 2 (c 2 (v2.1 2))
  let v4 := sF v3 3 (c 3 (v3.1 3))
  let v5 := sF v4 4 (c 4 (v4.1 4))
  let v6 := sF v5 5 (c 5 (v5.1 5))
  let v7 := sF v6 6 (c 6 (v6.1 6))
  let v8 := sF v7 7 (c 7 (v7.1 7))
  sI (sI (sI (sI (sI (sI v8 8 (w.2 8)) 9 (w.2 9)) 10 (w.2 10)) 11 (w.2 11)) 12 (w.2 12)) 13 (w.2 13)
theorem wpi_copyFrom {Q : OV → Prop} {v w : OV} (h : Q (cpLg v w)) : wp_X3_copyFrom Q v w := by
  intro v1 e1 v2 e2 v3 e3 v4 e4 v5 e5 v6 e6 v7 e7 v8 e8 v9 e9 v10 e10 v11 e11 v12 e12 v13 e13 v14 e14
  subst e1 e2 e3 e4 e5 e6 e7 e8 e9 e10 e11 e12 e13 e14
  exact h
theorem hd_X1_forget : yX1_forget.cls = RX1 ∧ yX1_forget.cls ≠ "java/lang/invoke/MethodHandle" ∧ yX1_forget.cls ≠ "java/lang/invoke/VarHandle" ∧ (parseMethodDescriptor yX1_forget.desc).map (fun d => d.parameters.length) = some 0 := by decide +kernel
theorem hd_X1_rowAt : yX1_rowAt.cls = RX1 ∧ yX1_rowAt.cls ≠ "java/lang/invoke/MethodHandle" ∧ yX1_rowAt.cls ≠ "java/lang/invoke/VarHandle" ∧ (parseMethodDescriptor yX1_rowAt.desc).map (fun d => d.parameters.length) = some 1 := by decide +kernel
theorem hd_X1_forgetOldest : yX1_forgetOldest.cls = RX1 ∧ yX1_forgetOldest.cls ≠ "java/lang/invoke/MethodHandle" ∧ yX1_forgetOldest.cls ≠ "java/lang/invoke/VarHandle" ∧ (parseMethodDescriptor yX1_forgetOldest.desc).map (fun d => d.parameters.length) = some 0 := by decide +kernel
theorem hd_X1_keep : yX1_keep.cls = RX1 ∧ yX1_keep.cls ≠ "java/lang/invoke/MethodHandle" ∧ yX1_keep.cls ≠ "java/lang/invoke/VarHandle" ∧ (parseMethodDescriptor yX1_keep.desc).map (fun d => d.parameters.length) = some 1 := by decide +kernel
theorem hd_X1_giveBackLatest : yX1_giveBackLatest.cls = RX1 ∧ yX1_giveBackLatest.cls ≠ "java/lang/invoke/MethodHandle" ∧ yX1_giveBackLatest.cls ≠ "java/lang/invoke/VarHandle" ∧ (parseMethodDescriptor yX1_giveBackLatest.desc).map (fun d => d.parameters.length) = some 1 := by decide +kernel
theorem lk_X1_forget_17 : Cond.fieldLink RX1 17 "KeyWaves$History" "count" "I" ∈ wsX1_forget := List.mem_cons_of_mem _ (List.mem_append_left _ (List.mem_of_getElem? (i := 0) rfl))
theorem in_X1_forget_RX1 : ∀ w ∈ wsX10, w ∈ wsX1_forget := fun w h => List.mem_cons_of_mem _ (List.mem_append_right _ h)
theorem lk_X1_rowAt_11 : Cond.fieldLink RX1 11 "KeyWaves$History" "rows" "[LKeyWaves$Lodge;" ∈ wsX1_rowAt := List.mem_cons_of_mem _ (List.mem_append_left _ (List.mem_of_getElem? (i := 0) rfl))
theorem in_X1_rowAt_RX1 : ∀ w ∈ wsX10, w ∈ wsX1_rowAt := fun w h => List.mem_cons_of_mem _ (List.mem_append_right _ h)
theorem lk_X1_forgetOldest_17 : Cond.fieldLink RX1 17 "KeyWaves$History" "count" "I" ∈ wsX1_forgetOldest := List.mem_cons_of_mem _ (List.mem_append_left _ (List.mem_of_getElem? (i := 1) rfl))
theorem lk_X1_forgetOldest_11 : Cond.fieldLink RX1 11 "KeyWaves$History" "rows" "[LKeyWaves$Lodge;" ∈ wsX1_forgetOldest := List.mem_cons_of_mem _ (List.mem_append_left _ (List.mem_of_getElem? (i := 0) rfl))
theorem in_X1_forgetOldest_RX1 : ∀ w ∈ wsX10, w ∈ wsX1_forgetOldest := fun w h => List.mem_cons_of_mem _ (List.mem_append_right _ h)
theorem lk_X1_keep_17 : Cond.fieldLink RX1 17 "KeyWaves$History" "count" "I" ∈ wsX1_keep := List.mem_cons_of_mem _ (List.mem_append_left _ (List.mem_append_left _ (List.mem_append_left _ (List.mem_of_getElem? (i := 0) rfl))))
theorem in_X1_keep_RX1 : ∀ w ∈ wsX10, w ∈ wsX1_keep := fun w h => List.mem_cons_of_mem _ (List.mem_append_left _ (List.mem_append_right _ h))
theorem lk_X1_giveBackLatest_17 : Cond.fieldLink RX1 17 "KeyWaves$History" "count" "I" ∈ wsX1_giveBackLatest := List.mem_cons_of_mem _ (List.mem_append_left _ (List.mem_append_left _ (List.mem_append_left _ (List.mem_of_getElem? (i := 0) rfl))))
theorem in_X1_giveBackLatest_RX1 : ∀ w ∈ wsX10, w ∈ wsX1_giveBackLatest := fun w h => List.mem_cons_of_mem _ (List.mem_append_left _ (List.mem_append_right _ h))
abbrev rm_X1_forget : Room := { frames := 1, cells := 0, slots := 0, locals := 60 }
def po_X1_forget (G : Nat → ClassId) (h : Nat) (q : Nat → Nat → Nat) (Q : HV → Prop) : Option Value → List va_W → Prop := fun o bs => ∃ v : HV, o = none ∧ bs = HW G h q v ∧ Q v
theorem ct_X1_forget {X : List Cond} {l : Launch} {D : va_G} {G : Nat → ClassId} {hHs : Nat} {qHs : Nat → Nat → Nat} {Q : HV → Prop} {vHs : HV} (hw : Q ((0 : Int32), vHs.2)) : CM X l yX1_forget wsX1_forget rm_X1_forget D G [.ref hHs] (HW G hHs qHs vHs) 0 0 (po_X1_forget G hHs qHs Q) :=
  CM.of pn_RX1 rfl rfl (Nat.le_of_ble_eq_true rfl) rfl (fun C F E => by
    refine gw_aload_n F dX1_forget_0 0 rfl ?_
    refine gw_iconst (v := (0 : Int32)) F dX1_forget_1 ic_iconst_0 ?_
    refine gw_put (bs' := HW G hHs qHs ((0 : Int32), vHs.2)) F in_X1_forget_RX1 tyX1 tyX1_ok nmX1 0 rfl rfl 1 (by decide) lk_X1_forget_17 rfl rfl rfl (Nat.le_of_ble_eq_true rfl) dX1_forget_2 rfl ?_
    exact gw_vret F E rfl (Nat.le_refl 0) (Nat.le_refl 0) dX1_forget_5 ⟨_, rfl, rfl, hw⟩)
abbrev rm_X1_rowAt : Room := { frames := 1, cells := 0, slots := 0, locals := 60 }
def po_X1_rowAt (G : Nat → ClassId) (h : Nat) (q : Nat → Nat → Nat) (v : HV) (x : Int32) : Option Value → List va_W → Prop := fun o bs => o = some (va_rf (hrow q v x)) ∧ bs = [bHo G h q v]
theorem hv_in {x : Int32} (h : 0 ≤ x ∧ x < 8) : vp_in x 8 := by
  have h1 : (0 : Int32).toInt ≤ x.toInt := Int32.le_iff_toInt_le.mp h.1
  have h2 : x.toInt < (8 : Int32).toInt := Int32.lt_iff_toInt_lt.mp h.2
  have e0 : (0 : Int32).toInt = 0 := by decide
  have e8 : (8 : Int32).toInt = 8 := by decide
  rw [e0] at h1; rw [e8] at h2
  rintro (a | a)
  · have h3 := Int32.lt_iff_toInt_lt.mp a
    rw [e0] at h3
    omega
  · have h3 : x.toNatClampNeg = x.toInt.toNat := rfl
    omega
theorem ct_X1_rowAt {X : List Cond} {l : Launch} {D : va_G} {G : Nat → ClassId} {hHs : Nat} {qHs : Nat → Nat → Nat} {vHs : HV} {x : Int32} : CM X l yX1_rowAt wsX1_rowAt rm_X1_rowAt D G [.ref hHs, .int x] [bHo G hHs qHs vHs] 0 0 (po_X1_rowAt G hHs qHs vHs x) :=
  CM.of pn_RX1 rfl rfl (Nat.le_of_ble_eq_true rfl) rfl (fun C F E => by
    refine gw_iload_n F dX1_rowAt_0 1 rfl ?_
    have nul : ¬ (0 ≤ x ∧ x < 8) → GW C 0 0 [bHo G hHs qHs vHs] 19 [(0, .ref hHs), (1, .int x)] [] := fun hn => by
      refine gw_anull F dX1_rowAt_19 ?_
      exact gw_aret (r := none) F E rfl (Nat.le_refl 0) (Nat.le_refl 0) dX1_rowAt_20 ⟨by rw [hrow, if_neg hn], rfl⟩
    refine gw_if_lt (tgt := 19) F dX1_rowAt_1 (by decide) (fun c => ?_) (fun c => ?_)
    · exact nul (fun h => absurd c (Int32.not_lt.mpr h.1))
    refine gw_iload_n F dX1_rowAt_4 1 rfl ?_
    refine gw_bipush (v := (8 : Int32)) F dX1_rowAt_5 ic_bipush_8 ?_
    refine gw_icmp_ge (tgt := 19) F dX1_rowAt_7 (by decide) (fun c1 => ?_) (fun c1 => ?_)
    · exact nul (fun h => absurd h.2 (Int32.not_lt.mpr c1))
    have hx : 0 ≤ x ∧ x < 8 := ⟨Int32.not_lt.mp c, Int32.not_le.mp c1⟩
    refine gw_aload_n F dX1_rowAt_10 0 rfl ?_
    refine gw_get F in_X1_rowAt_RX1 0 rfl rfl 0 (by decide) lk_X1_rowAt_11 rfl dX1_rowAt_11 ?_
    refine gw_iload_n F dX1_rowAt_14 1 rfl ?_
    refine gw_aldq F 1 rfl (hv_in hx) dX1_rowAt_15 ?_
    refine gw_goto (tgt := 20) F dX1_rowAt_16 (by decide) ?_
    exact gw_aret (r := some (qHs (vHs.2.1 x.toNatClampNeg) 8)) F E rfl (Nat.le_refl 0) (Nat.le_refl 0) dX1_rowAt_20 ⟨by rw [hrow, if_pos hx], rfl⟩)
theorem hrows {G : Nat → ClassId} {h : Nat} {q : Nat → Nat → Nat} {v : HV} {j : Nat} (hj : j < 8) : ∃ (qk : Nat) (vs : List Value), (HW G h q v).flatten[qk]? = some (q j 8, .inr (3, vs)) :=
  match j, hj with
  | 0, _ => ⟨2, _, rfl⟩
  | 1, _ => ⟨11, _, rfl⟩
  | 2, _ => ⟨20, _, rfl⟩
  | 3, _ => ⟨29, _, rfl⟩
  | 4, _ => ⟨38, _, rfl⟩
  | 5, _ => ⟨47, _, rfl⟩
  | 6, _ => ⟨56, _, rfl⟩
  | 7, _ => ⟨65, _, rfl⟩
  | j + 8, h => absurd h (by omega)
theorem hsh_lt {ρ : Nat → Nat} (hρ : ∀ i, i < 8 → ρ i < 8) {m i : Nat} (hm : m ≤ 7) (hi : i < 8) : hsh m ρ i < 8 := by
  unfold hsh
  split
  · exact hρ _ (by omega)
  · exact hρ _ hi
theorem hsh_up {q : Nat → Nat → Nat} {ρ : Nat → Nat} {m : Nat} : va_up (fun i => some (q (hsh m ρ i) 8)) m (some (q (hsh m ρ (m + 1)) 8)) = fun i => some (q (hsh (m + 1) ρ i) 8) := by
  funext i
  unfold va_up hsh
  by_cases c : i = m
  · subst c
    have c9 : ¬ i + 1 < i := by omega
    simp [c9]
  · by_cases c1 : i < m
    · have c2 : i < m + 1 := by omega
      simp [c, c1, c2]
    · have c2 : ¬ i < m + 1 := by omega
      simp [c, c1, c2]
theorem hrot_up {q : Nat → Nat → Nat} {ρ : Nat → Nat} : va_up (fun i => some (q (hsh 7 ρ i) 8)) 7 (some (q (ρ 0) 8)) = fun i => some (q (hrot ρ i) 8) := by
  funext i
  unfold va_up hsh hrot
  by_cases c : i = 7
  · subst c; simp
  · simp [c]
theorem hfo : ∀ m : Nat, m < 7 → (0 ≤ Int32.ofNat (m + 1) ∧ Int32.ofNat (m + 1) < 8) ∧ (Int32.ofNat (m + 1)).toNatClampNeg = m + 1 ∧ (0 ≤ Int32.ofNat (m + 1) - 1 ∧ Int32.ofNat (m + 1) - 1 < 8) ∧ (Int32.ofNat (m + 1) - 1).toNatClampNeg = m ∧ Int32.ofNat (m + 1) + 1 = Int32.ofNat (m + 2) := by decide
abbrev rm_X1_forgetOldest : Room := { frames := 1, cells := 0, slots := 0, locals := 60 }
theorem fo_loop {X : List Cond} {l : Launch} {D : va_G} {G : Nat → ClassId} {C : Cx} {hHs : Nat} {qHs : Nat → Nat → Nat} (F : GF C X cX1_forgetOldest wsX1_forgetOldest RX1 rm_X1_forgetOldest 3 none D G l) {v : HV} (hρ : ∀ i, i < 8 → v.2.1 i < 8) {a : Nat} (KK : GW C 0 0 (HW G hHs qHs (v.1, hsh 7 v.2.1, v.2.2)) 35 [(2, .int (8 : Int32)), (1, .ref a), (0, .ref hHs)] []) : ∀ (d m : Nat), m + d = 7 → GW C 0 0 (HW G hHs qHs (v.1, hsh m v.2.1, v.2.2)) 9 [(2, .int (Int32.ofNat (m + 1))), (1, .ref a), (0, .ref hHs)] [] := by
  intro d
  induction d with
  | zero =>
    intro m hm
    have hm : m = 7 := by omega
    subst hm
    refine gw_iload_n F dX1_forgetOldest_9 0 rfl ?_
    refine gw_bipush (v := (8 : Int32)) F dX1_forgetOldest_10 ic_bipush_8 ?_
    refine gw_icmp_ge (tgt := 35) F dX1_forgetOldest_12 (by decide) (fun c => KK) (fun c => absurd (by decide) c)
  | succ d ih =>
    intro m hm
    obtain ⟨h1, h2, h3, h4, h5⟩ := hfo m (by omega)
    obtain ⟨qk, vs, hqk⟩ := hrows (G := G) (h := hHs) (q := qHs) (v := (v.1, hsh m v.2.1, v.2.2)) (hsh_lt hρ (m := m) (i := m + 1) (by omega) (by omega))
    refine gw_iload_n F dX1_forgetOldest_9 0 rfl ?_
    refine gw_bipush (v := (8 : Int32)) F dX1_forgetOldest_10 ic_bipush_8 ?_
    refine gw_icmp_ge (tgt := 35) F dX1_forgetOldest_12 (by decide) (fun c => absurd h1.2 (Int32.not_lt.mpr c)) (fun c => ?_)
    refine gw_aload_n F dX1_forgetOldest_15 2 rfl ?_
    refine gw_get F in_X1_forgetOldest_RX1 0 rfl rfl 0 (by decide) lk_X1_forgetOldest_11 rfl dX1_forgetOldest_16 ?_
    refine gw_iload_n F dX1_forgetOldest_19 0 rfl ?_
    refine gw_iconst (v := (1 : Int32)) F dX1_forgetOldest_20 ic_iconst_1 ?_
    refine gw_isub F dX1_forgetOldest_21 ?_
    refine gw_aload_n F dX1_forgetOldest_22 2 rfl ?_
    refine gw_get F in_X1_forgetOldest_RX1 0 rfl rfl 0 (by decide) lk_X1_forgetOldest_11 rfl dX1_forgetOldest_23 ?_
    refine gw_iload_n F dX1_forgetOldest_26 0 rfl ?_
    refine gw_aldq F 1 rfl (hv_in h1) dX1_forgetOldest_27 ?_
    rw [h2]
    refine gw_astq (bs' := HW G hHs qHs (v.1, hsh (m + 1) v.2.1, v.2.2)) F 1 qk rfl hqk (hv_in h3) dX1_forgetOldest_28 (by rw [h4, hsh_up]; rfl) ?_
    refine gw_iinc (v := Int32.ofNat (m + 2)) (lv' := [(2, .int (Int32.ofNat (m + 2))), (1, .ref a), (0, .ref hHs)]) F dX1_forgetOldest_29 0 rfl (by rw [← h5]; rfl) (by decide) rfl ?_
    refine gw_goto (tgt := 9) F dX1_forgetOldest_32 (by decide) ?_
    exact ih (m + 1) (by omega)
theorem ct_X1_forgetOldest {X : List Cond} {l : Launch} {D : va_G} {G : Nat → ClassId} {hHs : Nat} {qHs : Nat → Nat → Nat} {Q : HV → Prop} {vHs : HV} (hρ : ∀ i, i < 8 → vHs.2.1 i < 8) (hw : Q ((7 : Int32), hrot vHs.2.1, vHs.2.2)) : CM X l yX1_forgetOldest wsX1_forgetOldest rm_X1_forgetOldest D G [.ref hHs] (HW G hHs qHs vHs) 0 0 (po_X1_forget G hHs qHs Q) :=
  CM.of pn_RX1 rfl rfl (Nat.le_of_ble_eq_true rfl) rfl (fun C F E => by
    refine gw_aload_n F dX1_forgetOldest_0 0 rfl ?_
    refine gw_get F in_X1_forgetOldest_RX1 0 rfl rfl 0 (by decide) lk_X1_forgetOldest_11 rfl dX1_forgetOldest_1 ?_
    refine gw_iconst (v := (0 : Int32)) F dX1_forgetOldest_4 ic_iconst_0 ?_
    refine gw_aldq F 1 rfl (hv_in (by decide)) dX1_forgetOldest_5 ?_
    change GW C 0 0 _ 6 _ [.ref (qHs (vHs.2.1 0) 8)]
    refine gw_astore_n (lv' := [(1, .ref (qHs (vHs.2.1 0) 8)), (0, .ref hHs)]) F dX1_forgetOldest_6 (by decide) rfl ?_
    refine gw_iconst (v := (1 : Int32)) F dX1_forgetOldest_7 ic_iconst_1 ?_
    refine gw_istore_n (lv' := [(2, .int (1 : Int32)), (1, .ref (qHs (vHs.2.1 0) 8)), (0, .ref hHs)]) F dX1_forgetOldest_8 (by decide) rfl ?_
    have e0 : vHs = (vHs.1, hsh 0 vHs.2.1, vHs.2.2) := by
      have : hsh 0 vHs.2.1 = vHs.2.1 := by funext j; simp [hsh]
      rw [this]
    rw [e0]
    refine fo_loop F hρ ?_ 7 0 (by omega)
    obtain ⟨qk, vs, hqk⟩ := hrows (G := G) (h := hHs) (q := qHs) (v := (vHs.1, hsh 7 vHs.2.1, vHs.2.2)) (hρ 0 (by omega))
    refine gw_aload_n F dX1_forgetOldest_35 2 rfl ?_
    refine gw_get F in_X1_forgetOldest_RX1 0 rfl rfl 0 (by decide) lk_X1_forgetOldest_11 rfl dX1_forgetOldest_36 ?_
    refine gw_bipush (v := (7 : Int32)) F dX1_forgetOldest_39 ic_bipush_7 ?_
    refine gw_aload_n F dX1_forgetOldest_41 1 rfl ?_
    refine gw_astq (bs' := HW G hHs qHs (vHs.1, hrot vHs.2.1, vHs.2.2)) F 1 qk rfl hqk (hv_in (by decide)) dX1_forgetOldest_42 (by rw [show (7 : Int32).toNatClampNeg = 7 from by decide, hrot_up]; rfl) ?_
    refine gw_aload_n F dX1_forgetOldest_43 2 rfl ?_
    refine gw_bipush (v := (7 : Int32)) F dX1_forgetOldest_44 ic_bipush_7 ?_
    refine gw_put (bs' := HW G hHs qHs ((7 : Int32), hrot vHs.2.1, vHs.2.2)) F in_X1_forgetOldest_RX1 tyX1 tyX1_ok nmX1 0 rfl rfl 1 (by decide) lk_X1_forgetOldest_17 rfl rfl rfl (Nat.le_of_ble_eq_true rfl) dX1_forgetOldest_46 rfl ?_
    exact gw_vret F E rfl (Nat.le_refl 0) (Nat.le_refl 0) dX1_forgetOldest_49 ⟨_, rfl, rfl, hw⟩)
abbrev rm_X1_keep : Room := { frames := 3, cells := 0, slots := 0, locals := 150 }
def hcnt (v : HV) : HV := if v.1 < 8 then v else ((7 : Int32), hrot v.2.1, v.2.2)
def hput (v : HV) (w : OV) : HV := (v.1 + 1, v.2.1, upR v.2.2 (v.2.1 v.1.toNatClampNeg) (cpLg (v.2.2 (v.2.1 v.1.toNatClampNeg)) w))
def hkeep (v : HV) (w : OV) : HV := hput (hcnt v) w
def HI (v : HV) : Prop := (∀ i, i < 8 → v.2.1 i < 8) ∧ 0 ≤ v.1 ∧ v.1 ≤ 8
def po_X1_keep (G : Nat → ClassId) (h : Nat) (q : Nat → Nat → Nat) (hLg : Nat) (qLg : Nat → Nat) (vLg : OV) (Q : HV → Prop) : Option Value → List va_W → Prop := fun o bs => ∃ v : HV, o = none ∧ bs = HW G h q v ++ [bLg G hLg qLg vLg] ∧ Q v
theorem hv_j {x : Int32} (h : 0 ≤ x ∧ x < 8) : x.toNatClampNeg < 8 := by
  exact Nat.lt_of_not_le fun a => hv_in h (Or.inr a)
set_option maxRecDepth 20000 in
theorem lb_X1_keep_13 {X : List Cond} {l : Launch} {D : va_G} {G : Nat → ClassId} {C : Cx} {hHs : Nat} {qHs : Nat → Nat → Nat} {hLg : Nat} {qLg : Nat → Nat} {bs0 : List va_W} {Q : HV → Prop} {vLg : OV} (F : GF C X cX1_keep wsX1_keep RX1 rm_X1_keep 3 none D G l) (E : GE C bs0 0 0 (po_X1_keep G hHs qHs hLg qLg vLg Q)) {v : HV} (hx : 0 ≤ v.1 ∧ v.1 < 8) (hρ : ∀ i, i < 8 → v.2.1 i < 8) (hw : Q (hput v vLg)) : GW C 0 0 (HW G hHs qHs v ++ [bLg G hLg qLg vLg]) 13 [(0, .ref hHs), (1, .ref hLg)] [] := by
  refine gw_aload_n F dX1_keep_13 0 rfl ?_
  refine gw_aload_n F dX1_keep_14 0 rfl ?_
  refine gw_get F in_X1_keep_RX1 0 rfl rfl 1 (by decide) lk_X1_keep_17 rfl dX1_keep_15 ?_
  refine gw_callV F ct_X1_rowAt 1 gX1_keep_X1_rowAt rfl rfl rfl hd_X1_rowAt ⟨(Nat.le_of_ble_eq_true rfl), (Nat.le_of_ble_eq_true rfl)⟩ rfl rfl (Nat.le_of_ble_eq_true rfl) ⟨Nat.zero_le _, Nat.zero_le _⟩ [1, 2, 3, 4, 5, 6, 7, 8, 9, 0] (bsr := [bRo G qHs v 0, bRo G qHs v 1, bRo G qHs v 2, bRo G qHs v 3, bRo G qHs v 4, bRo G qHs v 5, bRo G qHs v 6, bRo G qHs v 7, bLg G hLg qLg vLg]) rfl rfl (q0 := 0) rfl rfl dX1_keep_18 ?_
  rintro _ _ ⟨rfl, rfl⟩
  refine gw_sel [9, 0, 1, 2, 3, 4, 5, 6, 7, 8] (bs' := HW G hHs qHs v ++ [bLg G hLg qLg vLg]) rfl rfl ?_
  rw [hrow, if_pos hx]
  obtain ⟨j, hj⟩ : ∃ j, j = v.2.1 v.1.toNatClampNeg := ⟨_, rfl⟩
  have hj8 : j < 8 := by rw [hj]; exact hρ _ (hv_j hx)
  change GW C 0 0 _ 21 _ [.ref (qHs (v.2.1 v.1.toNatClampNeg) 8)]
  unfold hput at hw
  rw [← hj] at hw ⊢
  refine gw_astore_n (lv' := [(2, .ref (qHs j 8)), (0, .ref hHs), (1, .ref hLg)]) F dX1_keep_21 (by decide) rfl ?_
  refine gw_aload_n F dX1_keep_22 0 rfl ?_
  refine gw_ifnull F dX1_keep_23 ?_
  refine gw_aload_n F dX1_keep_26 0 rfl ?_
  refine gw_aload_n F dX1_keep_27 2 rfl ?_
  have fin : ∀ v2 : HV, Q (v2.1 + 1, v2.2.1, v2.2.2) → GW C 0 0 (HW G hHs qHs v2 ++ [bLg G hLg qLg vLg]) 31 [(2, .ref (qHs j 8)), (0, .ref hHs), (1, .ref hLg)] [] := fun v2 hq => by
    refine gw_aload_n F dX1_keep_31 1 rfl ?_
    refine gw_dup F dX1_keep_32 rfl ?_
    refine gw_get F in_X1_keep_RX1 0 rfl rfl 1 (by decide) lk_X1_keep_17 rfl dX1_keep_33 ?_
    refine gw_iconst (v := (1 : Int32)) F dX1_keep_36 ic_iconst_1 ?_
    refine gw_iadd F dX1_keep_37 ?_
    refine gw_put (bs' := HW G hHs qHs (v2.1 + 1, v2.2.1, v2.2.2) ++ [bLg G hLg qLg vLg]) F in_X1_keep_RX1 tyX1 tyX1_ok nmX1 0 rfl rfl 1 (by decide) lk_X1_keep_17 rfl rfl rfl (Nat.le_of_ble_eq_true rfl) dX1_keep_38 rfl ?_
    exact gw_vret F E rfl (Nat.le_refl 0) (Nat.le_refl 0) dX1_keep_41 ⟨_, rfl, rfl, hq⟩
  clear hj
  match j, hj8 with
  | 0, _ =>
    refine gw_callV F (ct_X3_copyFrom (Q := fun r => r = cpLg (v.2.2 0) vLg) (wpi_copyFrom rfl)) 1 gX1_keep_X3_copyFrom rfl rfl rfl hd_X3_copyFrom ⟨(Nat.le_of_ble_eq_true rfl), (Nat.le_of_ble_eq_true rfl)⟩ rfl rfl (Nat.le_of_ble_eq_true rfl) ⟨Nat.zero_le _, Nat.zero_le _⟩ [0, 2, 3, 4, 5, 6, 7, 8, 1, 9] (bsr := [bHo G hHs qHs v, bRo G qHs v 1, bRo G qHs v 2, bRo G qHs v 3, bRo G qHs v 4, bRo G qHs v 5, bRo G qHs v 6, bRo G qHs v 7]) rfl rfl (q0 := 0) rfl rfl dX1_keep_28 ?_
    rintro _ _ ⟨r, rfl, rfl, rfl⟩
    refine gw_sel [0, 8, 1, 2, 3, 4, 5, 6, 7, 9] (bs' := HW G hHs qHs (v.1, v.2.1, upR v.2.2 0 (cpLg (v.2.2 0) vLg)) ++ [bLg G hLg qLg vLg]) rfl rfl ?_
    exact fin _ hw
  | 1, _ =>
    refine gw_callV F (ct_X3_copyFrom (Q := fun r => r = cpLg (v.2.2 1) vLg) (wpi_copyFrom rfl)) 1 gX1_keep_X3_copyFrom rfl rfl rfl hd_X3_copyFrom ⟨(Nat.le_of_ble_eq_true rfl), (Nat.le_of_ble_eq_true rfl)⟩ rfl rfl (Nat.le_of_ble_eq_true rfl) ⟨Nat.zero_le _, Nat.zero_le _⟩ [0, 1, 3, 4, 5, 6, 7, 8, 2, 9] (bsr := [bHo G hHs qHs v, bRo G qHs v 0, bRo G qHs v 2, bRo G qHs v 3, bRo G qHs v 4, bRo G qHs v 5, bRo G qHs v 6, bRo G qHs v 7]) rfl rfl (q0 := 0) rfl rfl dX1_keep_28 ?_
    rintro _ _ ⟨r, rfl, rfl, rfl⟩
    refine gw_sel [0, 1, 8, 2, 3, 4, 5, 6, 7, 9] (bs' := HW G hHs qHs (v.1, v.2.1, upR v.2.2 1 (cpLg (v.2.2 1) vLg)) ++ [bLg G hLg qLg vLg]) rfl rfl ?_
    exact fin _ hw
  | 2, _ =>
    refine gw_callV F (ct_X3_copyFrom (Q := fun r => r = cpLg (v.2.2 2) vLg) (wpi_copyFrom rfl)) 1 gX1_keep_X3_copyFrom rfl rfl rfl hd_X3_copyFrom ⟨(Nat.le_of_ble_eq_true rfl), (Nat.le_of_ble_eq_true rfl)⟩ rfl rfl (Nat.le_of_ble_eq_true rfl) ⟨Nat.zero_le _, Nat.zero_le _⟩ [0, 1, 2, 4, 5, 6, 7, 8, 3, 9] (bsr := [bHo G hHs qHs v, bRo G qHs v 0, bRo G qHs v 1, bRo G qHs v 3, bRo G qHs v 4, bRo G qHs v 5, bRo G qHs v 6, bRo G qHs v 7]) rfl rfl (q0 := 0) rfl rfl dX1_keep_28 ?_
    rintro _ _ ⟨r, rfl, rfl, rfl⟩
    refine gw_sel [0, 1, 2, 8, 3, 4, 5, 6, 7, 9] (bs' := HW G hHs qHs (v.1, v.2.1, upR v.2.2 2 (cpLg (v.2.2 2) vLg)) ++ [bLg G hLg qLg vLg]) rfl rfl ?_
    exact fin _ hw
  | 3, _ =>
    refine gw_callV F (ct_X3_copyFrom (Q := fun r => r = cpLg (v.2.2 3) vLg) (wpi_copyFrom rfl)) 1 gX1_keep_X3_copyFrom rfl rfl rfl hd_X3_copyFrom ⟨(Nat.le_of_ble_eq_true rfl), (Nat.le_of_ble_eq_true rfl)⟩ rfl rfl (Nat.le_of_ble_eq_true rfl) ⟨Nat.zero_le _, Nat.zero_le _⟩ [0, 1, 2, 3, 5, 6, 7, 8, 4, 9] (bsr := [bHo G hHs qHs v, bRo G qHs v 0, bRo G qHs v 1, bRo G qHs v 2, bRo G qHs v 4, bRo G qHs v 5, bRo G qHs v 6, bRo G qHs v 7]) rfl rfl (q0 := 0) rfl rfl dX1_keep_28 ?_
    rintro _ _ ⟨r, rfl, rfl, rfl⟩
    refine gw_sel [0, 1, 2, 3, 8, 4, 5, 6, 7, 9] (bs' := HW G hHs qHs (v.1, v.2.1, upR v.2.2 3 (cpLg (v.2.2 3) vLg)) ++ [bLg G hLg qLg vLg]) rfl rfl ?_
    exact fin _ hw
  | 4, _ =>
    refine gw_callV F (ct_X3_copyFrom (Q := fun r => r = cpLg (v.2.2 4) vLg) (wpi_copyFrom rfl)) 1 gX1_keep_X3_copyFrom rfl rfl rfl hd_X3_copyFrom ⟨(Nat.le_of_ble_eq_true rfl), (Nat.le_of_ble_eq_true rfl)⟩ rfl rfl (Nat.le_of_ble_eq_true rfl) ⟨Nat.zero_le _, Nat.zero_le _⟩ [0, 1, 2, 3, 4, 6, 7, 8, 5, 9] (bsr := [bHo G hHs qHs v, bRo G qHs v 0, bRo G qHs v 1, bRo G qHs v 2, bRo G qHs v 3, bRo G qHs v 5, bRo G qHs v 6, bRo G qHs v 7]) rfl rfl (q0 := 0) rfl rfl dX1_keep_28 ?_
    rintro _ _ ⟨r, rfl, rfl, rfl⟩
    refine gw_sel [0, 1, 2, 3, 4, 8, 5, 6, 7, 9] (bs' := HW G hHs qHs (v.1, v.2.1, upR v.2.2 4 (cpLg (v.2.2 4) vLg)) ++ [bLg G hLg qLg vLg]) rfl rfl ?_
    exact fin _ hw
  | 5, _ =>
    refine gw_callV F (ct_X3_copyFrom (Q := fun r => r = cpLg (v.2.2 5) vLg) (wpi_copyFrom rfl)) 1 gX1_keep_X3_copyFrom rfl rfl rfl hd_X3_copyFrom ⟨(Nat.le_of_ble_eq_true rfl), (Nat.le_of_ble_eq_true rfl)⟩ rfl rfl (Nat.le_of_ble_eq_true rfl) ⟨Nat.zero_le _, Nat.zero_le _⟩ [0, 1, 2, 3, 4, 5, 7, 8, 6, 9] (bsr := [bHo G hHs qHs v, bRo G qHs v 0, bRo G qHs v 1, bRo G qHs v 2, bRo G qHs v 3, bRo G qHs v 4, bRo G qHs v 6, bRo G qHs v 7]) rfl rfl (q0 := 0) rfl rfl dX1_keep_28 ?_
    rintro _ _ ⟨r, rfl, rfl, rfl⟩
    refine gw_sel [0, 1, 2, 3, 4, 5, 8, 6, 7, 9] (bs' := HW G hHs qHs (v.1, v.2.1, upR v.2.2 5 (cpLg (v.2.2 5) vLg)) ++ [bLg G hLg qLg vLg]) rfl rfl ?_
    exact fin _ hw
  | 6, _ =>
    refine gw_callV F (ct_X3_copyFrom (Q := fun r => r = cpLg (v.2.2 6) vLg) (wpi_copyFrom rfl)) 1 gX1_keep_X3_copyFrom rfl rfl rfl hd_X3_copyFrom ⟨(Nat.le_of_ble_eq_true rfl), (Nat.le_of_ble_eq_true rfl)⟩ rfl rfl (Nat.le_of_ble_eq_true rfl) ⟨Nat.zero_le _, Nat.zero_le _⟩ [0, 1, 2, 3, 4, 5, 6, 8, 7, 9] (bsr := [bHo G hHs qHs v, bRo G qHs v 0, bRo G qHs v 1, bRo G qHs v 2, bRo G qHs v 3, bRo G qHs v 4, bRo G qHs v 5, bRo G qHs v 7]) rfl rfl (q0 := 0) rfl rfl dX1_keep_28 ?_
    rintro _ _ ⟨r, rfl, rfl, rfl⟩
    refine gw_sel [0, 1, 2, 3, 4, 5, 6, 8, 7, 9] (bs' := HW G hHs qHs (v.1, v.2.1, upR v.2.2 6 (cpLg (v.2.2 6) vLg)) ++ [bLg G hLg qLg vLg]) rfl rfl ?_
    exact fin _ hw
  | 7, _ =>
    refine gw_callV F (ct_X3_copyFrom (Q := fun r => r = cpLg (v.2.2 7) vLg) (wpi_copyFrom rfl)) 1 gX1_keep_X3_copyFrom rfl rfl rfl hd_X3_copyFrom ⟨(Nat.le_of_ble_eq_true rfl), (Nat.le_of_ble_eq_true rfl)⟩ rfl rfl (Nat.le_of_ble_eq_true rfl) ⟨Nat.zero_le _, Nat.zero_le _⟩ [0, 1, 2, 3, 4, 5, 6, 7, 8, 9] (bsr := [bHo G hHs qHs v, bRo G qHs v 0, bRo G qHs v 1, bRo G qHs v 2, bRo G qHs v 3, bRo G qHs v 4, bRo G qHs v 5, bRo G qHs v 6]) rfl rfl (q0 := 0) rfl rfl dX1_keep_28 ?_
    rintro _ _ ⟨r, rfl, rfl, rfl⟩
    refine gw_sel [0, 1, 2, 3, 4, 5, 6, 7, 8, 9] (bs' := HW G hHs qHs (v.1, v.2.1, upR v.2.2 7 (cpLg (v.2.2 7) vLg)) ++ [bLg G hLg qLg vLg]) rfl rfl ?_
    exact fin _ hw
  | j + 8, h => exact absurd h (by omega)
theorem ct_X1_keep {X : List Cond} {l : Launch} {D : va_G} {G : Nat → ClassId} {hHs : Nat} {qHs : Nat → Nat → Nat} {hLg : Nat} {qLg : Nat → Nat} {Q : HV → Prop} {vHs : HV} {vLg : OV} (hI : HI vHs) (hw : Q (hkeep vHs vLg)) : CM X l yX1_keep wsX1_keep rm_X1_keep D G [.ref hHs, .ref hLg] (HW G hHs qHs vHs ++ [bLg G hLg qLg vLg]) 0 0 (po_X1_keep G hHs qHs hLg qLg vLg Q) :=
  CM.of pn_RX1 rfl rfl (Nat.le_of_ble_eq_true rfl) rfl (fun C F E => by
    obtain ⟨h1, h2, h3⟩ := hI
    unfold hkeep hcnt at hw
    refine gw_aload_n F dX1_keep_0 0 rfl ?_
    refine gw_get F in_X1_keep_RX1 0 rfl rfl 1 (by decide) lk_X1_keep_17 rfl dX1_keep_1 ?_
    refine gw_bipush (v := (8 : Int32)) F dX1_keep_4 ic_bipush_8 ?_
    refine gw_icmp_lt (tgt := 13) F dX1_keep_6 (by decide) (fun c => ?_) (fun c => ?_)
    · rw [if_pos c] at hw
      exact lb_X1_keep_13 F E ⟨h2, c⟩ h1 hw
    · rw [if_neg c] at hw
      refine gw_aload_n F dX1_keep_9 0 rfl ?_
      refine gw_callV F (ct_X1_forgetOldest (Q := fun r => r = ((7 : Int32), hrot vHs.2.1, vHs.2.2)) h1 rfl) 0 gX1_keep_X1_forgetOldest rfl rfl rfl hd_X1_forgetOldest ⟨(Nat.le_of_ble_eq_true rfl), (Nat.le_of_ble_eq_true rfl)⟩ rfl rfl (Nat.le_of_ble_eq_true rfl) ⟨Nat.zero_le _, Nat.zero_le _⟩ [9, 0, 1, 2, 3, 4, 5, 6, 7, 8] (bsr := [bLg G hLg qLg vLg]) rfl rfl (q0 := 0) rfl rfl dX1_keep_10 ?_
      rintro _ _ ⟨v2, rfl, rfl, rfl⟩
      refine gw_sel [1, 2, 3, 4, 5, 6, 7, 8, 9, 0] (bs' := HW G hHs qHs ((7 : Int32), hrot vHs.2.1, vHs.2.2) ++ [bLg G hLg qLg vLg]) rfl rfl ?_
      refine lb_X1_keep_13 F E (v := ((7 : Int32), hrot vHs.2.1, vHs.2.2)) (show (0 : Int32) ≤ 7 ∧ (7 : Int32) < 8 from by decide) (fun i hi => ?_) hw
      show hrot vHs.2.1 i < 8
      unfold hrot
      split
      · exact h1 _ (by omega)
      · split
        · exact h1 _ (by omega)
        · exact h1 _ hi)
abbrev rm_X1_giveBackLatest : Room := { frames := 3, cells := 0, slots := 0, locals := 150 }
def hgive (v : HV) (w : OV) : Int32 × HV × OV := if 0 ≤ v.1 - 1 ∧ v.1 - 1 < 8 then (1, (v.1 - 1, v.2.1, v.2.2), cpLg w (v.2.2 (v.2.1 (v.1 - 1).toNatClampNeg))) else (0, v, w)
def po_X1_giveBackLatest (G : Nat → ClassId) (h : Nat) (q : Nat → Nat → Nat) (hLg : Nat) (qLg : Nat → Nat) (Q : Int32 × HV × OV → Prop) : Option Value → List va_W → Prop := fun o bs => ∃ v : Int32 × HV × OV, o = some (.int v.1) ∧ bs = HW G h q v.2.1 ++ [bLg G hLg qLg v.2.2] ∧ Q v
set_option maxRecDepth 20000 in
theorem ct_X1_giveBackLatest {X : List Cond} {l : Launch} {D : va_G} {G : Nat → ClassId} {hHs : Nat} {qHs : Nat → Nat → Nat} {hLg : Nat} {qLg : Nat → Nat} {Q : Int32 × HV × OV → Prop} {v : HV} {vLg : OV} (hρ : ∀ i, i < 8 → v.2.1 i < 8) (hw : Q (hgive v vLg)) : CM X l yX1_giveBackLatest wsX1_giveBackLatest rm_X1_giveBackLatest D G [.ref hHs, .ref hLg] (HW G hHs qHs v ++ [bLg G hLg qLg vLg]) 0 0 (po_X1_giveBackLatest G hHs qHs hLg qLg Q) :=
  CM.of pn_RX1 rfl rfl (Nat.le_of_ble_eq_true rfl) rfl (fun C F E => by
    refine gw_aload_n F dX1_giveBackLatest_0 0 rfl ?_
    refine gw_aload_n F dX1_giveBackLatest_1 0 rfl ?_
    refine gw_get F in_X1_giveBackLatest_RX1 0 rfl rfl 1 (by decide) lk_X1_giveBackLatest_17 rfl dX1_giveBackLatest_2 ?_
    refine gw_iconst (v := (1 : Int32)) F dX1_giveBackLatest_5 ic_iconst_1 ?_
    refine gw_isub F dX1_giveBackLatest_6 ?_
    refine gw_callV F ct_X1_rowAt 1 gX1_giveBackLatest_X1_rowAt rfl rfl rfl hd_X1_rowAt ⟨(Nat.le_of_ble_eq_true rfl), (Nat.le_of_ble_eq_true rfl)⟩ rfl rfl (Nat.le_of_ble_eq_true rfl) ⟨Nat.zero_le _, Nat.zero_le _⟩ [1, 2, 3, 4, 5, 6, 7, 8, 9, 0] (bsr := [bRo G qHs v 0, bRo G qHs v 1, bRo G qHs v 2, bRo G qHs v 3, bRo G qHs v 4, bRo G qHs v 5, bRo G qHs v 6, bRo G qHs v 7, bLg G hLg qLg vLg]) rfl rfl (q0 := 0) rfl rfl dX1_giveBackLatest_7 ?_
    rintro _ _ ⟨rfl, rfl⟩
    refine gw_sel [9, 0, 1, 2, 3, 4, 5, 6, 7, 8] (bs' := HW G hHs qHs v ++ [bLg G hLg qLg vLg]) rfl rfl ?_
    unfold hgive at hw
    rw [hrow]
    by_cases hx : 0 ≤ v.1 - 1 ∧ v.1 - 1 < 8
    · rw [if_pos hx] at hw ⊢
      obtain ⟨j, hj⟩ : ∃ j, j = v.2.1 (v.1 - 1).toNatClampNeg := ⟨_, rfl⟩
      have hj8 : j < 8 := by rw [hj]; exact hρ _ (hv_j hx)
      change GW C 0 0 _ 10 _ [.ref (qHs (v.2.1 (v.1 - 1).toNatClampNeg) 8)]
      rw [← hj] at hw ⊢
      refine gw_astore_n (lv' := [(2, .ref (qHs j 8)), (0, .ref hHs), (1, .ref hLg)]) F dX1_giveBackLatest_10 (by decide) rfl ?_
      refine gw_aload_n F dX1_giveBackLatest_11 0 rfl ?_
      refine gw_ifnonnull (tgt := 17) F dX1_giveBackLatest_12 (by decide) ?_
      refine gw_aload_n F dX1_giveBackLatest_17 2 rfl ?_
      refine gw_aload_n F dX1_giveBackLatest_18 0 rfl ?_
      have fin : ∀ w2 : OV, Q (1, (v.1 - 1, v.2.1, v.2.2), w2) → GW C 0 0 (HW G hHs qHs v ++ [bLg G hLg qLg w2]) 22 [(2, .ref (qHs j 8)), (0, .ref hHs), (1, .ref hLg)] [] := fun w2 hq => by
        refine gw_aload_n F dX1_giveBackLatest_22 1 rfl ?_
        refine gw_dup F dX1_giveBackLatest_23 rfl ?_
        refine gw_get F in_X1_giveBackLatest_RX1 0 rfl rfl 1 (by decide) lk_X1_giveBackLatest_17 rfl dX1_giveBackLatest_24 ?_
        refine gw_iconst (v := (1 : Int32)) F dX1_giveBackLatest_27 ic_iconst_1 ?_
        refine gw_isub F dX1_giveBackLatest_28 ?_
        refine gw_put (bs' := HW G hHs qHs (v.1 - 1, v.2.1, v.2.2) ++ [bLg G hLg qLg w2]) F in_X1_giveBackLatest_RX1 tyX1 tyX1_ok nmX1 0 rfl rfl 1 (by decide) lk_X1_giveBackLatest_17 rfl rfl rfl (Nat.le_of_ble_eq_true rfl) dX1_giveBackLatest_29 rfl ?_
        refine gw_iconst (v := (1 : Int32)) F dX1_giveBackLatest_32 ic_iconst_1 ?_
        exact gw_iret F E rfl rfl (Nat.le_refl 0) (Nat.le_refl 0) dX1_giveBackLatest_33 ⟨_, rfl, rfl, hq⟩
      clear hj
      match j, hj8 with
      | 0, _ =>
        refine gw_callV F (ct_X3_copyFrom (Q := fun r => r = cpLg vLg (v.2.2 0)) (wpi_copyFrom rfl)) 1 gX1_giveBackLatest_X3_copyFrom rfl rfl rfl hd_X3_copyFrom ⟨(Nat.le_of_ble_eq_true rfl), (Nat.le_of_ble_eq_true rfl)⟩ rfl rfl (Nat.le_of_ble_eq_true rfl) ⟨Nat.zero_le _, Nat.zero_le _⟩ [0, 2, 3, 4, 5, 6, 7, 8, 9, 1] (bsr := [bHo G hHs qHs v, bRo G qHs v 1, bRo G qHs v 2, bRo G qHs v 3, bRo G qHs v 4, bRo G qHs v 5, bRo G qHs v 6, bRo G qHs v 7]) rfl rfl (q0 := 0) rfl rfl dX1_giveBackLatest_19 ?_
        rintro _ _ ⟨r, rfl, rfl, rfl⟩
        refine gw_sel [0, 9, 1, 2, 3, 4, 5, 6, 7, 8] (bs' := HW G hHs qHs v ++ [bLg G hLg qLg (cpLg vLg (v.2.2 0))]) rfl rfl ?_
        exact fin _ hw
      | 1, _ =>
        refine gw_callV F (ct_X3_copyFrom (Q := fun r => r = cpLg vLg (v.2.2 1)) (wpi_copyFrom rfl)) 1 gX1_giveBackLatest_X3_copyFrom rfl rfl rfl hd_X3_copyFrom ⟨(Nat.le_of_ble_eq_true rfl), (Nat.le_of_ble_eq_true rfl)⟩ rfl rfl (Nat.le_of_ble_eq_true rfl) ⟨Nat.zero_le _, Nat.zero_le _⟩ [0, 1, 3, 4, 5, 6, 7, 8, 9, 2] (bsr := [bHo G hHs qHs v, bRo G qHs v 0, bRo G qHs v 2, bRo G qHs v 3, bRo G qHs v 4, bRo G qHs v 5, bRo G qHs v 6, bRo G qHs v 7]) rfl rfl (q0 := 0) rfl rfl dX1_giveBackLatest_19 ?_
        rintro _ _ ⟨r, rfl, rfl, rfl⟩
        refine gw_sel [0, 1, 9, 2, 3, 4, 5, 6, 7, 8] (bs' := HW G hHs qHs v ++ [bLg G hLg qLg (cpLg vLg (v.2.2 1))]) rfl rfl ?_
        exact fin _ hw
      | 2, _ =>
        refine gw_callV F (ct_X3_copyFrom (Q := fun r => r = cpLg vLg (v.2.2 2)) (wpi_copyFrom rfl)) 1 gX1_giveBackLatest_X3_copyFrom rfl rfl rfl hd_X3_copyFrom ⟨(Nat.le_of_ble_eq_true rfl), (Nat.le_of_ble_eq_true rfl)⟩ rfl rfl (Nat.le_of_ble_eq_true rfl) ⟨Nat.zero_le _, Nat.zero_le _⟩ [0, 1, 2, 4, 5, 6, 7, 8, 9, 3] (bsr := [bHo G hHs qHs v, bRo G qHs v 0, bRo G qHs v 1, bRo G qHs v 3, bRo G qHs v 4, bRo G qHs v 5, bRo G qHs v 6, bRo G qHs v 7]) rfl rfl (q0 := 0) rfl rfl dX1_giveBackLatest_19 ?_
        rintro _ _ ⟨r, rfl, rfl, rfl⟩
        refine gw_sel [0, 1, 2, 9, 3, 4, 5, 6, 7, 8] (bs' := HW G hHs qHs v ++ [bLg G hLg qLg (cpLg vLg (v.2.2 2))]) rfl rfl ?_
        exact fin _ hw
      | 3, _ =>
        refine gw_callV F (ct_X3_copyFrom (Q := fun r => r = cpLg vLg (v.2.2 3)) (wpi_copyFrom rfl)) 1 gX1_giveBackLatest_X3_copyFrom rfl rfl rfl hd_X3_copyFrom ⟨(Nat.le_of_ble_eq_true rfl), (Nat.le_of_ble_eq_true rfl)⟩ rfl rfl (Nat.le_of_ble_eq_true rfl) ⟨Nat.zero_le _, Nat.zero_le _⟩ [0, 1, 2, 3, 5, 6, 7, 8, 9, 4] (bsr := [bHo G hHs qHs v, bRo G qHs v 0, bRo G qHs v 1, bRo G qHs v 2, bRo G qHs v 4, bRo G qHs v 5, bRo G qHs v 6, bRo G qHs v 7]) rfl rfl (q0 := 0) rfl rfl dX1_giveBackLatest_19 ?_
        rintro _ _ ⟨r, rfl, rfl, rfl⟩
        refine gw_sel [0, 1, 2, 3, 9, 4, 5, 6, 7, 8] (bs' := HW G hHs qHs v ++ [bLg G hLg qLg (cpLg vLg (v.2.2 3))]) rfl rfl ?_
        exact fin _ hw
      | 4, _ =>
        refine gw_callV F (ct_X3_copyFrom (Q := fun r => r = cpLg vLg (v.2.2 4)) (wpi_copyFrom rfl)) 1 gX1_giveBackLatest_X3_copyFrom rfl rfl rfl hd_X3_copyFrom ⟨(Nat.le_of_ble_eq_true rfl), (Nat.le_of_ble_eq_true rfl)⟩ rfl rfl (Nat.le_of_ble_eq_true rfl) ⟨Nat.zero_le _, Nat.zero_le _⟩ [0, 1, 2, 3, 4, 6, 7, 8, 9, 5] (bsr := [bHo G hHs qHs v, bRo G qHs v 0, bRo G qHs v 1, bRo G qHs v 2, bRo G qHs v 3, bRo G qHs v 5, bRo G qHs v 6, bRo G qHs v 7]) rfl rfl (q0 := 0) rfl rfl dX1_giveBackLatest_19 ?_
        rintro _ _ ⟨r, rfl, rfl, rfl⟩
        refine gw_sel [0, 1, 2, 3, 4, 9, 5, 6, 7, 8] (bs' := HW G hHs qHs v ++ [bLg G hLg qLg (cpLg vLg (v.2.2 4))]) rfl rfl ?_
        exact fin _ hw
      | 5, _ =>
        refine gw_callV F (ct_X3_copyFrom (Q := fun r => r = cpLg vLg (v.2.2 5)) (wpi_copyFrom rfl)) 1 gX1_giveBackLatest_X3_copyFrom rfl rfl rfl hd_X3_copyFrom ⟨(Nat.le_of_ble_eq_true rfl), (Nat.le_of_ble_eq_true rfl)⟩ rfl rfl (Nat.le_of_ble_eq_true rfl) ⟨Nat.zero_le _, Nat.zero_le _⟩ [0, 1, 2, 3, 4, 5, 7, 8, 9, 6] (bsr := [bHo G hHs qHs v, bRo G qHs v 0, bRo G qHs v 1, bRo G qHs v 2, bRo G qHs v 3, bRo G qHs v 4, bRo G qHs v 6, bRo G qHs v 7]) rfl rfl (q0 := 0) rfl rfl dX1_giveBackLatest_19 ?_
        rintro _ _ ⟨r, rfl, rfl, rfl⟩
        refine gw_sel [0, 1, 2, 3, 4, 5, 9, 6, 7, 8] (bs' := HW G hHs qHs v ++ [bLg G hLg qLg (cpLg vLg (v.2.2 5))]) rfl rfl ?_
        exact fin _ hw
      | 6, _ =>
        refine gw_callV F (ct_X3_copyFrom (Q := fun r => r = cpLg vLg (v.2.2 6)) (wpi_copyFrom rfl)) 1 gX1_giveBackLatest_X3_copyFrom rfl rfl rfl hd_X3_copyFrom ⟨(Nat.le_of_ble_eq_true rfl), (Nat.le_of_ble_eq_true rfl)⟩ rfl rfl (Nat.le_of_ble_eq_true rfl) ⟨Nat.zero_le _, Nat.zero_le _⟩ [0, 1, 2, 3, 4, 5, 6, 8, 9, 7] (bsr := [bHo G hHs qHs v, bRo G qHs v 0, bRo G qHs v 1, bRo G qHs v 2, bRo G qHs v 3, bRo G qHs v 4, bRo G qHs v 5, bRo G qHs v 7]) rfl rfl (q0 := 0) rfl rfl dX1_giveBackLatest_19 ?_
        rintro _ _ ⟨r, rfl, rfl, rfl⟩
        refine gw_sel [0, 1, 2, 3, 4, 5, 6, 9, 7, 8] (bs' := HW G hHs qHs v ++ [bLg G hLg qLg (cpLg vLg (v.2.2 6))]) rfl rfl ?_
        exact fin _ hw
      | 7, _ =>
        refine gw_callV F (ct_X3_copyFrom (Q := fun r => r = cpLg vLg (v.2.2 7)) (wpi_copyFrom rfl)) 1 gX1_giveBackLatest_X3_copyFrom rfl rfl rfl hd_X3_copyFrom ⟨(Nat.le_of_ble_eq_true rfl), (Nat.le_of_ble_eq_true rfl)⟩ rfl rfl (Nat.le_of_ble_eq_true rfl) ⟨Nat.zero_le _, Nat.zero_le _⟩ [0, 1, 2, 3, 4, 5, 6, 7, 9, 8] (bsr := [bHo G hHs qHs v, bRo G qHs v 0, bRo G qHs v 1, bRo G qHs v 2, bRo G qHs v 3, bRo G qHs v 4, bRo G qHs v 5, bRo G qHs v 6]) rfl rfl (q0 := 0) rfl rfl dX1_giveBackLatest_19 ?_
        rintro _ _ ⟨r, rfl, rfl, rfl⟩
        refine gw_sel [0, 1, 2, 3, 4, 5, 6, 7, 9, 8] (bs' := HW G hHs qHs v ++ [bLg G hLg qLg (cpLg vLg (v.2.2 7))]) rfl rfl ?_
        exact fin _ hw
      | j + 8, h => exact absurd h (by omega)
    · rw [if_neg hx] at hw ⊢
      change GW C 0 0 _ 10 _ [.null]
      refine gw_astoreN_n (lv' := [(2, .null), (0, .ref hHs), (1, .ref hLg)]) F dX1_giveBackLatest_10 (by decide) rfl ?_
      refine gw_aloadN_n F dX1_giveBackLatest_11 0 rfl ?_
      refine gw_ifnonnullN F dX1_giveBackLatest_12 ?_
      refine gw_iconst (v := (0 : Int32)) F dX1_giveBackLatest_15 ic_iconst_0 ?_
      exact gw_iret F E rfl rfl (Nat.le_refl 0) (Nat.le_refl 0) dX1_giveBackLatest_16 ⟨_, rfl, rfl, hw⟩)
