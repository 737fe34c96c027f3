/-- a few places by number -/
def qf (l : List (Nat × Nat)) : Nat → Nat := fun s => (l.lookup s).getD 0
def qn (l : List (Nat × (Nat → Nat))) : Nat → Nat → Nat := fun j => (l.lookup j).getD (fun _ => 0)
theorem arrV_ext {cI : ClassId} {N : Nat} {f g : Nat → Value} (h : ∀ j, j < N → f j = g j) : arrV cI N f = arrV cI N g := by
  unfold arrV
  congr 2
  funext j
  exact h j.val j.isLt
theorem CM.ofI {X : List Cond} {l : Launch} {y : MethodName} {ws ws' : List Cond} {rm : Room} {D : va_G} {G : Nat → ClassId} {As : List Value} {bs : List va_W} {mc ms : Nat} {Post : Option Value → List va_W → Prop} {cc : ByteArray} {maxL : Nat} {ret : Option FieldType} {own : String} {lv : List (Nat × Value)}
    (hy : plainName y.cls = true) (hw : ws = Cond.code y cc maxL ret :: ws') (ho : y.cls = own) (hent : (lg_sl As).length ≤ maxL) (hlv : lv_args 0 As = lv) (hin : y.name = "<init>") (body : ∀ C : Cx, GF C X cc ws own rm maxL ret D G l → GE C bs mc ms Post → GI C → GW C 0 0 bs 0 lv []) : CM X l y ws rm D G As bs mc ms Post := by
  intro sz
  refine Met.ofW hy hw ?_
  intro p e s m args below meth c s₁ B hml hv
  obtain ⟨rfl, hsz, hP, hK, hD0, hSF⟩ := hv
  subst hsz
  have hl := lv_entry As (n := maxL) hent
  rw [lg_entry_eq]
  generalize (lg_sl As ++ List.replicate (maxL - (lg_sl As).length) Slot.unset).toArray = ls at hl ⊢
  refine body (p, l, e, rm, s, m, As.toArray, below, meth, c, va_A bs.flatten s.heap.size, D, G, MQ below (PosB D bs s.heap.size Post) As.toArray s mc ms (va_A bs.flatten s.heap.size), maxL)
    ⟨B.exec, B.bytes, atoms_spec (ws := ws) B.pre, ho ▸ findClass_of_methodNamed B.named, hK, hml, fun q h => Or.inr h, hSF, rfl, rfl, B.returns, B.notSynchronized, rfl, rfl, rfl⟩
    ⟨rfl, fun H locs k n g hk hn w => W.widen hk hn w⟩ ((name_of_methodNamed B.named B.method).1.trans hin) s.heap [] ls hP hD0.self va_S.rf (hlv ▸ hl)
section GWCT
variable {C : Cx} {cc : ByteArray} {Ts : List Cond} {own : String} {R0 : Room} {n0 : Nat} {ret : Option FieldType} {D0 : va_G} {G0 : Nat → ClassId} {l0 : Launch} {k n pc : Nat} {bs bs' : List va_W} {lv lv' : List (Nat × Value)} {st : List Value}
theorem gw_swap (hd : bs.flatten.map Prod.fst = bs'.flatten.map Prod.fst) (hP : ∀ (D : va_G) (H : Heap), va_P D myCl bs.flatten H → va_P D myCl bs'.flatten H) (K : GW C k n bs' pc lv st) : GW C k n bs pc lv st := by
  obtain ⟨p, l, e, R, s, m, args, below, meth, c, A, D, G, Q, nL⟩ := C
  refine fun H locs ls hP0 hD hS hl => K H locs ls (hP D H hP0) ?_ hS hl
  rw [wm_D] at hD ⊢
  obtain ⟨h1, h2⟩ := hD
  have h1' : (bs.flatten.map Prod.fst).Pairwise (· ≠ ·) := List.pairwise_map.mpr h1
  rw [hd] at h1'
  refine ⟨List.pairwise_map.mp h1', fun q hq => ?_⟩
  have h3 : q.1 ∈ bs.flatten.map Prod.fst := by rw [hd]; exact List.mem_map.mpr ⟨q, hq, rfl⟩
  obtain ⟨q', hq', e'⟩ := List.mem_map.mp h3
  exact e' ▸ h2 q' hq'
theorem gw_newqX (F : GF C XW cc Ts own R0 n0 ret D0 G0 l0) {index : Nat} (h1 : Cond.classLink own index "KeyWaves$Lodge" ∈ Ts) (h2 : Cond.arrayOver (.object "KeyWaves$Lodge") ∈ XW) {z : Int32} {N' : Nat} (hn : ¬ z < 0) (hN : z.toNatClampNeg = N') (hbytes : N' * 4 ≤ 536870912) (hcells : k + 1 ≤ R0.cells) (hslots : n + N' ≤ R0.slots) (d : decode cc pc = .ok (.anewarray index, 3)) (K : ∀ q : Nat, GW C (k + 1) (n + N') (bs ++ [[(q, .inl (G0 5, N', .inr (.inr (.inr (.inr (fun _ => none))))))]]) (pc + 3) lv (.ref q :: st)) : GW C k n bs pc lv (.int z :: st) := by
  obtain ⟨p, l, e, R, s, m, args, below, meth, c, A, D, G, Q, nL⟩ := C
  obtain ⟨hx, hb, hts, hown, hK, hml, hA, hSF, rfl, -, -, -, -, rfl, -⟩ := F
  exact fun H locs ls hP hD hS hl => va_newq hx hb hown (hts _ h1) (hSF.2.1 _ h2).now hK hP hD hS hA hn hN hbytes hcells hslots d (fun q cA H1 hK1 hP1 hD1 hS1 => by
    have e1 : cA = G 5 := va_RA.one (hK1.2 6 _ rfl).2 (hK.2 5 _ rfl).2
    subst e1
    exact K q H1 locs ls (by rw [fl_snoc]; exact hP1) (by rw [fl_snoc]; exact hD1) hS1 hl)
end GWCT
theorem ic_bipush_124 : (Int8.ofInt (124)).toInt32 = (124 : Int32) := by decide
theorem ic_bipush_90 : (Int8.ofInt (90)).toInt32 = (90 : Int32) := by decide
theorem ic_sipush_1416 : (Int16.ofInt (1416)).toInt32 = (1416 : Int32) := by decide
def v0Lg : OV := (fun _ _ => 0, fun s => if s = 10 then 6 else 0)
theorem dfX3 : ∀ j, j < 14 → defaultValue (tyX3 j) = vp_V [.null, .null, .null, .null, .null, .null, .null, .null, .int 0, .int 0, .int 0, .int 0, .int 0, .int 0] j := by
  intro j hj
  match j, hj with
  | 0, _ => rfl
  | 1, _ => rfl
  | 2, _ => rfl
  | 3, _ => rfl
  | 4, _ => rfl
  | 5, _ => rfl
  | 6, _ => rfl
  | 7, _ => rfl
  | 8, _ => rfl
  | 9, _ => rfl
  | 10, _ => rfl
  | 11, _ => rfl
  | 12, _ => rfl
  | 13, _ => rfl
  | j + 14, h => exact absurd h (by omega)
theorem hd_X3_init : yX3_init.cls ≠ "java/lang/invoke/MethodHandle" ∧ yX3_init.cls ≠ "java/lang/invoke/VarHandle" ∧ (parseMethodDescriptor yX3_init.desc).map (fun d => d.parameters.length) = some 0 := by decide +kernel
abbrev rm_X3_init : Room := { frames := 1, cells := 8, slots := 80, locals := 60 }
def po_X3_init (G : Nat → ClassId) (h : Nat) : Option Value → List va_W → Prop := fun o bs => o = none ∧ ∃ q : Nat → Nat, bs = [bLg G h q v0Lg]
theorem wd_X3_init_0 : Cond.methodLink RX3 3 Lib.objectInit ∈ wsX3_init := List.mem_cons_of_mem _ (List.mem_append_left _ (List.mem_of_getElem? (i := 0) rfl))
theorem wd_X3_init_1 : Cond.instanceMethod Lib.objectInit ∈ wsX3_init := List.mem_cons_of_mem _ (List.mem_append_left _ (List.mem_of_getElem? (i := 1) rfl))
theorem wd_X3_init_2 : Cond.code Lib.objectInit ⟨#[0xb1]⟩ 1 none ∈ wsX3_init := List.mem_cons_of_mem _ (List.mem_append_left _ (List.mem_of_getElem? (i := 2) rfl))
theorem wd_X3_init_3 : Cond.arrayClass (newarray.typeOf .int) ∈ wsX3_init := List.mem_cons_of_mem _ (List.mem_append_left _ (List.mem_of_getElem? (i := 3) rfl))
theorem lk_X3_init_9 : Cond.fieldLink RX3 9 "KeyWaves$Lodge" "wards" "[I" ∈ wsX3_init := List.mem_cons_of_mem _ (List.mem_append_left _ (List.mem_of_getElem? (i := 4) rfl))
theorem in_X3_init_RX3 : ∀ w ∈ wsX30, w ∈ wsX3_init := fun w h => List.mem_cons_of_mem _ (List.mem_append_right _ h)
theorem lk_X3_init_15 : Cond.fieldLink RX3 15 "KeyWaves$Lodge" "porters" "[I" ∈ wsX3_init := List.mem_cons_of_mem _ (List.mem_append_left _ (List.mem_of_getElem? (i := 5) rfl))
theorem lk_X3_init_18 : Cond.fieldLink RX3 18 "KeyWaves$Lodge" "bars" "[I" ∈ wsX3_init := List.mem_cons_of_mem _ (List.mem_append_left _ (List.mem_of_getElem? (i := 6) rfl))
theorem lk_X3_init_21 : Cond.fieldLink RX3 21 "KeyWaves$Lodge" "cutCosts" "[I" ∈ wsX3_init := List.mem_cons_of_mem _ (List.mem_append_left _ (List.mem_of_getElem? (i := 7) rfl))
theorem lk_X3_init_24 : Cond.fieldLink RX3 24 "KeyWaves$Lodge" "lockOfKey" "[I" ∈ wsX3_init := List.mem_cons_of_mem _ (List.mem_append_left _ (List.mem_of_getElem? (i := 8) rfl))
theorem lk_X3_init_27 : Cond.fieldLink RX3 27 "KeyWaves$Lodge" "pins" "[I" ∈ wsX3_init := List.mem_cons_of_mem _ (List.mem_append_left _ (List.mem_of_getElem? (i := 9) rfl))
theorem lk_X3_init_30 : Cond.fieldLink RX3 30 "KeyWaves$Lodge" "keyOfLock" "[I" ∈ wsX3_init := List.mem_cons_of_mem _ (List.mem_append_left _ (List.mem_of_getElem? (i := 10) rfl))
theorem lk_X3_init_33 : Cond.fieldLink RX3 33 "KeyWaves$Lodge" "putCounts" "[I" ∈ wsX3_init := List.mem_cons_of_mem _ (List.mem_append_left _ (List.mem_of_getElem? (i := 11) rfl))
theorem lk_X3_init_36 : Cond.fieldLink RX3 36 "KeyWaves$Lodge" "keys" "I" ∈ wsX3_init := List.mem_cons_of_mem _ (List.mem_append_left _ (List.mem_of_getElem? (i := 12) rfl))
theorem lk_X3_init_40 : Cond.fieldLink RX3 40 "KeyWaves$Lodge" "locks" "I" ∈ wsX3_init := List.mem_cons_of_mem _ (List.mem_append_left _ (List.mem_of_getElem? (i := 13) rfl))
theorem lk_X3_init_43 : Cond.fieldLink RX3 43 "KeyWaves$Lodge" "slack" "I" ∈ wsX3_init := List.mem_cons_of_mem _ (List.mem_append_left _ (List.mem_of_getElem? (i := 14) rfl))
theorem lk_X3_init_46 : Cond.fieldLink RX3 46 "KeyWaves$Lodge" "wavesSoFar" "I" ∈ wsX3_init := List.mem_cons_of_mem _ (List.mem_append_left _ (List.mem_of_getElem? (i := 15) rfl))
theorem lk_X3_init_49 : Cond.fieldLink RX3 49 "KeyWaves$Lodge" "waysSoFar" "I" ∈ wsX3_init := List.mem_cons_of_mem _ (List.mem_append_left _ (List.mem_of_getElem? (i := 16) rfl))
theorem lk_X3_init_52 : Cond.fieldLink RX3 52 "KeyWaves$Lodge" "fallenSoFar" "I" ∈ wsX3_init := List.mem_cons_of_mem _ (List.mem_append_left _ (List.mem_of_getElem? (i := 17) rfl))
set_option maxRecDepth 20000 in
theorem ct_X3_init {X : List Cond} {l : Launch} {D : va_G} {G : Nat → ClassId} {h : Nat} : CM X l yX3_init wsX3_init rm_X3_init D G [.ref h] [[(h, .inr (3, [.null, .null, .null, .null, .null, .null, .null, .null, .int 0, .int 0, .int 0, .int 0, .int 0, .int 0]))]] 8 80 (po_X3_init G h) :=
  CM.ofI pn_RX3 rfl rfl (Nat.le_of_ble_eq_true rfl) rfl rfl (fun C F E hI => by
    refine gw_aload_n F dX3_init_0 0 rfl ?_
    refine gw_objInit F wd_X3_init_0 wd_X3_init_1 wd_X3_init_2 (Nat.le_of_ble_eq_true rfl) (Nat.le_of_ble_eq_true rfl) dX3_init_1 ?_
    refine gw_aload_n F dX3_init_4 0 rfl ?_
    refine gw_bipush (v := (10 : Int32)) F dX3_init_5 ic_bipush_10 ?_
    refine gw_newa (ty := .int) (a0 := (10, .inl (fun _ => 0))) (N' := 10) F wd_X3_init_3 rfl 0 (fun _ => rfl) (fun _ => rfl) (by decide) (by decide) (Nat.le_of_ble_eq_true rfl) (Nat.le_of_ble_eq_true rfl) (Nat.le_of_ble_eq_true rfl) dX3_init_7 (fun q0 => ?_)
    change GW C 1 10 [[(h, .inr (3, [.null, .null, .null, .null, .null, .null, .null, .null, .int 0, .int 0, .int 0, .int 0, .int 0, .int 0]))], [(q0, .inl (G 0, 10, .inl (fun _ => 0)))]] 9 _ _
    refine gw_putF (bs' := [[(h, .inr (3, [.ref q0, .null, .null, .null, .null, .null, .null, .null, .int 0, .int 0, .int 0, .int 0, .int 0, .int 0]))], [(q0, .inl (G 0, 10, .inl (fun _ => 0)))]]) F hI in_X3_init_RX3 tyX3 tyX3_ok nmX3 0 rfl rfl 0 (by decide) lk_X3_init_9 rfl rfl rfl rfl (Nat.le_of_ble_eq_true rfl) dX3_init_9 rfl ?_
    refine gw_aload_n F dX3_init_12 0 rfl ?_
    refine gw_bipush (v := (10 : Int32)) F dX3_init_13 ic_bipush_10 ?_
    refine gw_newa (ty := .int) (a0 := (10, .inl (fun _ => 0))) (N' := 10) F wd_X3_init_3 rfl 0 (fun _ => rfl) (fun _ => rfl) (by decide) (by decide) (Nat.le_of_ble_eq_true rfl) (Nat.le_of_ble_eq_true rfl) (Nat.le_of_ble_eq_true rfl) dX3_init_15 (fun q1 => ?_)
    change GW C 2 20 [[(h, .inr (3, [.ref q0, .null, .null, .null, .null, .null, .null, .null, .int 0, .int 0, .int 0, .int 0, .int 0, .int 0]))], [(q0, .inl (G 0, 10, .inl (fun _ => 0)))], [(q1, .inl (G 0, 10, .inl (fun _ => 0)))]] 17 _ _
    refine gw_putF (bs' := [[(h, .inr (3, [.ref q0, .ref q1, .null, .null, .null, .null, .null, .null, .int 0, .int 0, .int 0, .int 0, .int 0, .int 0]))], [(q0, .inl (G 0, 10, .inl (fun _ => 0)))], [(q1, .inl (G 0, 10, .inl (fun _ => 0)))]]) F hI in_X3_init_RX3 tyX3 tyX3_ok nmX3 0 rfl rfl 1 (by decide) lk_X3_init_15 rfl rfl rfl rfl (Nat.le_of_ble_eq_true rfl) dX3_init_17 rfl ?_
    refine gw_aload_n F dX3_init_20 0 rfl ?_
    refine gw_bipush (v := (10 : Int32)) F dX3_init_21 ic_bipush_10 ?_
    refine gw_newa (ty := .int) (a0 := (10, .inl (fun _ => 0))) (N' := 10) F wd_X3_init_3 rfl 0 (fun _ => rfl) (fun _ => rfl) (by decide) (by decide) (Nat.le_of_ble_eq_true rfl) (Nat.le_of_ble_eq_true rfl) (Nat.le_of_ble_eq_true rfl) dX3_init_23 (fun q2 => ?_)
    change GW C 3 30 [[(h, .inr (3, [.ref q0, .ref q1, .null, .null, .null, .null, .null, .null, .int 0, .int 0, .int 0, .int 0, .int 0, .int 0]))], [(q0, .inl (G 0, 10, .inl (fun _ => 0)))], [(q1, .inl (G 0, 10, .inl (fun _ => 0)))], [(q2, .inl (G 0, 10, .inl (fun _ => 0)))]] 25 _ _
    refine gw_putF (bs' := [[(h, .inr (3, [.ref q0, .ref q1, .ref q2, .null, .null, .null, .null, .null, .int 0, .int 0, .int 0, .int 0, .int 0, .int 0]))], [(q0, .inl (G 0, 10, .inl (fun _ => 0)))], [(q1, .inl (G 0, 10, .inl (fun _ => 0)))], [(q2, .inl (G 0, 10, .inl (fun _ => 0)))]]) F hI in_X3_init_RX3 tyX3 tyX3_ok nmX3 0 rfl rfl 2 (by decide) lk_X3_init_18 rfl rfl rfl rfl (Nat.le_of_ble_eq_true rfl) dX3_init_25 rfl ?_
    refine gw_aload_n F dX3_init_28 0 rfl ?_
    refine gw_bipush (v := (10 : Int32)) F dX3_init_29 ic_bipush_10 ?_
    refine gw_newa (ty := .int) (a0 := (10, .inl (fun _ => 0))) (N' := 10) F wd_X3_init_3 rfl 0 (fun _ => rfl) (fun _ => rfl) (by decide) (by decide) (Nat.le_of_ble_eq_true rfl) (Nat.le_of_ble_eq_true rfl) (Nat.le_of_ble_eq_true rfl) dX3_init_31 (fun q3 => ?_)
    change GW C 4 40 [[(h, .inr (3, [.ref q0, .ref q1, .ref q2, .null, .null, .null, .null, .null, .int 0, .int 0, .int 0, .int 0, .int 0, .int 0]))], [(q0, .inl (G 0, 10, .inl (fun _ => 0)))], [(q1, .inl (G 0, 10, .inl (fun _ => 0)))], [(q2, .inl (G 0, 10, .inl (fun _ => 0)))], [(q3, .inl (G 0, 10, .inl (fun _ => 0)))]] 33 _ _
    refine gw_putF (bs' := [[(h, .inr (3, [.ref q0, .ref q1, .ref q2, .ref q3, .null, .null, .null, .null, .int 0, .int 0, .int 0, .int 0, .int 0, .int 0]))], [(q0, .inl (G 0, 10, .inl (fun _ => 0)))], [(q1, .inl (G 0, 10, .inl (fun _ => 0)))], [(q2, .inl (G 0, 10, .inl (fun _ => 0)))], [(q3, .inl (G 0, 10, .inl (fun _ => 0)))]]) F hI in_X3_init_RX3 tyX3 tyX3_ok nmX3 0 rfl rfl 3 (by decide) lk_X3_init_21 rfl rfl rfl rfl (Nat.le_of_ble_eq_true rfl) dX3_init_33 rfl ?_
    refine gw_aload_n F dX3_init_36 0 rfl ?_
    refine gw_bipush (v := (10 : Int32)) F dX3_init_37 ic_bipush_10 ?_
    refine gw_newa (ty := .int) (a0 := (10, .inl (fun _ => 0))) (N' := 10) F wd_X3_init_3 rfl 0 (fun _ => rfl) (fun _ => rfl) (by decide) (by decide) (Nat.le_of_ble_eq_true rfl) (Nat.le_of_ble_eq_true rfl) (Nat.le_of_ble_eq_true rfl) dX3_init_39 (fun q4 => ?_)
    change GW C 5 50 [[(h, .inr (3, [.ref q0, .ref q1, .ref q2, .ref q3, .null, .null, .null, .null, .int 0, .int 0, .int 0, .int 0, .int 0, .int 0]))], [(q0, .inl (G 0, 10, .inl (fun _ => 0)))], [(q1, .inl (G 0, 10, .inl (fun _ => 0)))], [(q2, .inl (G 0, 10, .inl (fun _ => 0)))], [(q3, .inl (G 0, 10, .inl (fun _ => 0)))], [(q4, .inl (G 0, 10, .inl (fun _ => 0)))]] 41 _ _
    refine gw_putF (bs' := [[(h, .inr (3, [.ref q0, .ref q1, .ref q2, .ref q3, .ref q4, .null, .null, .null, .int 0, .int 0, .int 0, .int 0, .int 0, .int 0]))], [(q0, .inl (G 0, 10, .inl (fun _ => 0)))], [(q1, .inl (G 0, 10, .inl (fun _ => 0)))], [(q2, .inl (G 0, 10, .inl (fun _ => 0)))], [(q3, .inl (G 0, 10, .inl (fun _ => 0)))], [(q4, .inl (G 0, 10, .inl (fun _ => 0)))]]) F hI in_X3_init_RX3 tyX3 tyX3_ok nmX3 0 rfl rfl 4 (by decide) lk_X3_init_24 rfl rfl rfl rfl (Nat.le_of_ble_eq_true rfl) dX3_init_41 rfl ?_
    refine gw_aload_n F dX3_init_44 0 rfl ?_
    refine gw_bipush (v := (10 : Int32)) F dX3_init_45 ic_bipush_10 ?_
    refine gw_newa (ty := .int) (a0 := (10, .inl (fun _ => 0))) (N' := 10) F wd_X3_init_3 rfl 0 (fun _ => rfl) (fun _ => rfl) (by decide) (by decide) (Nat.le_of_ble_eq_true rfl) (Nat.le_of_ble_eq_true rfl) (Nat.le_of_ble_eq_true rfl) dX3_init_47 (fun q5 => ?_)
    change GW C 6 60 [[(h, .inr (3, [.ref q0, .ref q1, .ref q2, .ref q3, .ref q4, .null, .null, .null, .int 0, .int 0, .int 0, .int 0, .int 0, .int 0]))], [(q0, .inl (G 0, 10, .inl (fun _ => 0)))], [(q1, .inl (G 0, 10, .inl (fun _ => 0)))], [(q2, .inl (G 0, 10, .inl (fun _ => 0)))], [(q3, .inl (G 0, 10, .inl (fun _ => 0)))], [(q4, .inl (G 0, 10, .inl (fun _ => 0)))], [(q5, .inl (G 0, 10, .inl (fun _ => 0)))]] 49 _ _
    refine gw_putF (bs' := [[(h, .inr (3, [.ref q0, .ref q1, .ref q2, .ref q3, .ref q4, .ref q5, .null, .null, .int 0, .int 0, .int 0, .int 0, .int 0, .int 0]))], [(q0, .inl (G 0, 10, .inl (fun _ => 0)))], [(q1, .inl (G 0, 10, .inl (fun _ => 0)))], [(q2, .inl (G 0, 10, .inl (fun _ => 0)))], [(q3, .inl (G 0, 10, .inl (fun _ => 0)))], [(q4, .inl (G 0, 10, .inl (fun _ => 0)))], [(q5, .inl (G 0, 10, .inl (fun _ => 0)))]]) F hI in_X3_init_RX3 tyX3 tyX3_ok nmX3 0 rfl rfl 5 (by decide) lk_X3_init_27 rfl rfl rfl rfl (Nat.le_of_ble_eq_true rfl) dX3_init_49 rfl ?_
    refine gw_aload_n F dX3_init_52 0 rfl ?_
    refine gw_bipush (v := (10 : Int32)) F dX3_init_53 ic_bipush_10 ?_
    refine gw_newa (ty := .int) (a0 := (10, .inl (fun _ => 0))) (N' := 10) F wd_X3_init_3 rfl 0 (fun _ => rfl) (fun _ => rfl) (by decide) (by decide) (Nat.le_of_ble_eq_true rfl) (Nat.le_of_ble_eq_true rfl) (Nat.le_of_ble_eq_true rfl) dX3_init_55 (fun q6 => ?_)
    change GW C 7 70 [[(h, .inr (3, [.ref q0, .ref q1, .ref q2, .ref q3, .ref q4, .ref q5, .null, .null, .int 0, .int 0, .int 0, .int 0, .int 0, .int 0]))], [(q0, .inl (G 0, 10, .inl (fun _ => 0)))], [(q1, .inl (G 0, 10, .inl (fun _ => 0)))], [(q2, .inl (G 0, 10, .inl (fun _ => 0)))], [(q3, .inl (G 0, 10, .inl (fun _ => 0)))], [(q4, .inl (G 0, 10, .inl (fun _ => 0)))], [(q5, .inl (G 0, 10, .inl (fun _ => 0)))], [(q6, .inl (G 0, 10, .inl (fun _ => 0)))]] 57 _ _
    refine gw_putF (bs' := [[(h, .inr (3, [.ref q0, .ref q1, .ref q2, .ref q3, .ref q4, .ref q5, .ref q6, .null, .int 0, .int 0, .int 0, .int 0, .int 0, .int 0]))], [(q0, .inl (G 0, 10, .inl (fun _ => 0)))], [(q1, .inl (G 0, 10, .inl (fun _ => 0)))], [(q2, .inl (G 0, 10, .inl (fun _ => 0)))], [(q3, .inl (G 0, 10, .inl (fun _ => 0)))], [(q4, .inl (G 0, 10, .inl (fun _ => 0)))], [(q5, .inl (G 0, 10, .inl (fun _ => 0)))], [(q6, .inl (G 0, 10, .inl (fun _ => 0)))]]) F hI in_X3_init_RX3 tyX3 tyX3_ok nmX3 0 rfl rfl 6 (by decide) lk_X3_init_30 rfl rfl rfl rfl (Nat.le_of_ble_eq_true rfl) dX3_init_57 rfl ?_
    refine gw_aload_n F dX3_init_60 0 rfl ?_
    refine gw_bipush (v := (10 : Int32)) F dX3_init_61 ic_bipush_10 ?_
    refine gw_newa (ty := .int) (a0 := (10, .inl (fun _ => 0))) (N' := 10) F wd_X3_init_3 rfl 0 (fun _ => rfl) (fun _ => rfl) (by decide) (by decide) (Nat.le_of_ble_eq_true rfl) (Nat.le_of_ble_eq_true rfl) (Nat.le_of_ble_eq_true rfl) dX3_init_63 (fun q7 => ?_)
    change GW C 8 80 [[(h, .inr (3, [.ref q0, .ref q1, .ref q2, .ref q3, .ref q4, .ref q5, .ref q6, .null, .int 0, .int 0, .int 0, .int 0, .int 0, .int 0]))], [(q0, .inl (G 0, 10, .inl (fun _ => 0)))], [(q1, .inl (G 0, 10, .inl (fun _ => 0)))], [(q2, .inl (G 0, 10, .inl (fun _ => 0)))], [(q3, .inl (G 0, 10, .inl (fun _ => 0)))], [(q4, .inl (G 0, 10, .inl (fun _ => 0)))], [(q5, .inl (G 0, 10, .inl (fun _ => 0)))], [(q6, .inl (G 0, 10, .inl (fun _ => 0)))], [(q7, .inl (G 0, 10, .inl (fun _ => 0)))]] 65 _ _
    refine gw_putF (bs' := [[(h, .inr (3, [.ref q0, .ref q1, .ref q2, .ref q3, .ref q4, .ref q5, .ref q6, .ref q7, .int 0, .int 0, .int 0, .int 0, .int 0, .int 0]))], [(q0, .inl (G 0, 10, .inl (fun _ => 0)))], [(q1, .inl (G 0, 10, .inl (fun _ => 0)))], [(q2, .inl (G 0, 10, .inl (fun _ => 0)))], [(q3, .inl (G 0, 10, .inl (fun _ => 0)))], [(q4, .inl (G 0, 10, .inl (fun _ => 0)))], [(q5, .inl (G 0, 10, .inl (fun _ => 0)))], [(q6, .inl (G 0, 10, .inl (fun _ => 0)))], [(q7, .inl (G 0, 10, .inl (fun _ => 0)))]]) F hI in_X3_init_RX3 tyX3 tyX3_ok nmX3 0 rfl rfl 7 (by decide) lk_X3_init_33 rfl rfl rfl rfl (Nat.le_of_ble_eq_true rfl) dX3_init_65 rfl ?_
    refine gw_aload_n F dX3_init_68 0 rfl ?_
    refine gw_iconst (v := (0 : Int32)) F dX3_init_69 ic_iconst_0 ?_
    refine gw_put (bs' := [[(h, .inr (3, [.ref q0, .ref q1, .ref q2, .ref q3, .ref q4, .ref q5, .ref q6, .ref q7, .int (0 : Int32), .int 0, .int 0, .int 0, .int 0, .int 0]))], [(q0, .inl (G 0, 10, .inl (fun _ => 0)))], [(q1, .inl (G 0, 10, .inl (fun _ => 0)))], [(q2, .inl (G 0, 10, .inl (fun _ => 0)))], [(q3, .inl (G 0, 10, .inl (fun _ => 0)))], [(q4, .inl (G 0, 10, .inl (fun _ => 0)))], [(q5, .inl (G 0, 10, .inl (fun _ => 0)))], [(q6, .inl (G 0, 10, .inl (fun _ => 0)))], [(q7, .inl (G 0, 10, .inl (fun _ => 0)))]]) F in_X3_init_RX3 tyX3 tyX3_ok nmX3 0 rfl rfl 8 (by decide) lk_X3_init_36 rfl rfl rfl (Nat.le_of_ble_eq_true rfl) dX3_init_70 rfl ?_
    refine gw_aload_n F dX3_init_73 0 rfl ?_
    refine gw_iconst (v := (0 : Int32)) F dX3_init_74 ic_iconst_0 ?_
    refine gw_put (bs' := [[(h, .inr (3, [.ref q0, .ref q1, .ref q2, .ref q3, .ref q4, .ref q5, .ref q6, .ref q7, .int (0 : Int32), .int (0 : Int32), .int 0, .int 0, .int 0, .int 0]))], [(q0, .inl (G 0, 10, .inl (fun _ => 0)))], [(q1, .inl (G 0, 10, .inl (fun _ => 0)))], [(q2, .inl (G 0, 10, .inl (fun _ => 0)))], [(q3, .inl (G 0, 10, .inl (fun _ => 0)))], [(q4, .inl (G 0, 10, .inl (fun _ => 0)))], [(q5, .inl (G 0, 10, .inl (fun _ => 0)))], [(q6, .inl (G 0, 10, .inl (fun _ => 0)))], [(q7, .inl (G 0, 10, .inl (fun _ => 0)))]]) F in_X3_init_RX3 tyX3 tyX3_ok nmX3 0 rfl rfl 9 (by decide) lk_X3_init_40 rfl rfl rfl (Nat.le_of_ble_eq_true rfl) dX3_init_75 rfl ?_
    refine gw_aload_n F dX3_init_78 0 rfl ?_
    refine gw_bipush (v := (6 : Int32)) F dX3_init_79 ic_bipush_6 ?_
    refine gw_put (bs' := [[(h, .inr (3, [.ref q0, .ref q1, .ref q2, .ref q3, .ref q4, .ref q5, .ref q6, .ref q7, .int (0 : Int32), .int (0 : Int32), .int (6 : Int32), .int 0, .int 0, .int 0]))], [(q0, .inl (G 0, 10, .inl (fun _ => 0)))], [(q1, .inl (G 0, 10, .inl (fun _ => 0)))], [(q2, .inl (G 0, 10, .inl (fun _ => 0)))], [(q3, .inl (G 0, 10, .inl (fun _ => 0)))], [(q4, .inl (G 0, 10, .inl (fun _ => 0)))], [(q5, .inl (G 0, 10, .inl (fun _ => 0)))], [(q6, .inl (G 0, 10, .inl (fun _ => 0)))], [(q7, .inl (G 0, 10, .inl (fun _ => 0)))]]) F in_X3_init_RX3 tyX3 tyX3_ok nmX3 0 rfl rfl 10 (by decide) lk_X3_init_43 rfl rfl rfl (Nat.le_of_ble_eq_true rfl) dX3_init_81 rfl ?_
    refine gw_aload_n F dX3_init_84 0 rfl ?_
    refine gw_iconst (v := (0 : Int32)) F dX3_init_85 ic_iconst_0 ?_
    refine gw_put (bs' := [[(h, .inr (3, [.ref q0, .ref q1, .ref q2, .ref q3, .ref q4, .ref q5, .ref q6, .ref q7, .int (0 : Int32), .int (0 : Int32), .int (6 : Int32), .int (0 : Int32), .int 0, .int 0]))], [(q0, .inl (G 0, 10, .inl (fun _ => 0)))], [(q1, .inl (G 0, 10, .inl (fun _ => 0)))], [(q2, .inl (G 0, 10, .inl (fun _ => 0)))], [(q3, .inl (G 0, 10, .inl (fun _ => 0)))], [(q4, .inl (G 0, 10, .inl (fun _ => 0)))], [(q5, .inl (G 0, 10, .inl (fun _ => 0)))], [(q6, .inl (G 0, 10, .inl (fun _ => 0)))], [(q7, .inl (G 0, 10, .inl (fun _ => 0)))]]) F in_X3_init_RX3 tyX3 tyX3_ok nmX3 0 rfl rfl 11 (by decide) lk_X3_init_46 rfl rfl rfl (Nat.le_of_ble_eq_true rfl) dX3_init_86 rfl ?_
    refine gw_aload_n F dX3_init_89 0 rfl ?_
    refine gw_iconst (v := (0 : Int32)) F dX3_init_90 ic_iconst_0 ?_
    refine gw_put (bs' := [[(h, .inr (3, [.ref q0, .ref q1, .ref q2, .ref q3, .ref q4, .ref q5, .ref q6, .ref q7, .int (0 : Int32), .int (0 : Int32), .int (6 : Int32), .int (0 : Int32), .int (0 : Int32), .int 0]))], [(q0, .inl (G 0, 10, .inl (fun _ => 0)))], [(q1, .inl (G 0, 10, .inl (fun _ => 0)))], [(q2, .inl (G 0, 10, .inl (fun _ => 0)))], [(q3, .inl (G 0, 10, .inl (fun _ => 0)))], [(q4, .inl (G 0, 10, .inl (fun _ => 0)))], [(q5, .inl (G 0, 10, .inl (fun _ => 0)))], [(q6, .inl (G 0, 10, .inl (fun _ => 0)))], [(q7, .inl (G 0, 10, .inl (fun _ => 0)))]]) F in_X3_init_RX3 tyX3 tyX3_ok nmX3 0 rfl rfl 12 (by decide) lk_X3_init_49 rfl rfl rfl (Nat.le_of_ble_eq_true rfl) dX3_init_91 rfl ?_
    refine gw_aload_n F dX3_init_94 0 rfl ?_
    refine gw_iconst (v := (0 : Int32)) F dX3_init_95 ic_iconst_0 ?_
    refine gw_put (bs' := [[(h, .inr (3, [.ref q0, .ref q1, .ref q2, .ref q3, .ref q4, .ref q5, .ref q6, .ref q7, .int (0 : Int32), .int (0 : Int32), .int (6 : Int32), .int (0 : Int32), .int (0 : Int32), .int (0 : Int32)]))], [(q0, .inl (G 0, 10, .inl (fun _ => 0)))], [(q1, .inl (G 0, 10, .inl (fun _ => 0)))], [(q2, .inl (G 0, 10, .inl (fun _ => 0)))], [(q3, .inl (G 0, 10, .inl (fun _ => 0)))], [(q4, .inl (G 0, 10, .inl (fun _ => 0)))], [(q5, .inl (G 0, 10, .inl (fun _ => 0)))], [(q6, .inl (G 0, 10, .inl (fun _ => 0)))], [(q7, .inl (G 0, 10, .inl (fun _ => 0)))]]) F in_X3_init_RX3 tyX3 tyX3_ok nmX3 0 rfl rfl 13 (by decide) lk_X3_init_52 rfl rfl rfl (Nat.le_of_ble_eq_true rfl) dX3_init_96 rfl ?_
    refine gw_flat (bs' := [bLg G h (qf [(0, q0), (1, q1), (2, q2), (3, q3), (4, q4), (5, q5), (6, q6), (7, q7)]) v0Lg]) rfl ?_
    exact gw_vret F E rfl (Nat.le_of_ble_eq_true rfl) (Nat.le_of_ble_eq_true rfl) dX3_init_99 ⟨rfl, _, rfl⟩)
def v0Hs : HV := ((0 : Int32), fun i => i, fun _ => v0Lg)
def v0Tx : OV := (fun _ _ => 0, fun s => if s = 4 then 119 else 0)
theorem dfX0 : ∀ j, j < 7 → defaultValue (tyX0 j) = vp_V [.null, .int 0, .int 0, .int 0, .int 0, .int 0, .int 0] j := by
  intro j hj
  match j, hj with
  | 0, _ => rfl
  | 1, _ => rfl
  | 2, _ => rfl
  | 3, _ => rfl
  | 4, _ => rfl
  | 5, _ => rfl
  | 6, _ => rfl
  | j + 7, h => exact absurd h (by omega)
theorem hd_X0_init : yX0_init.cls ≠ "java/lang/invoke/MethodHandle" ∧ yX0_init.cls ≠ "java/lang/invoke/VarHandle" ∧ (parseMethodDescriptor yX0_init.desc).map (fun d => d.parameters.length) = some 0 := by decide +kernel
abbrev rm_X0_init : Room := { frames := 1, cells := 1, slots := 60, locals := 60 }
def po_X0_init (G : Nat → ClassId) (h : Nat) : Option Value → List va_W → Prop := fun o bs => o = none ∧ ∃ q : Nat → Nat, bs = [bTx G h q v0Tx]
theorem wd_X0_init_0 : Cond.methodLink RX0 3 Lib.objectInit ∈ wsX0_init := List.mem_cons_of_mem _ (List.mem_append_left _ (List.mem_of_getElem? (i := 0) rfl))
theorem wd_X0_init_1 : Cond.instanceMethod Lib.objectInit ∈ wsX0_init := List.mem_cons_of_mem _ (List.mem_append_left _ (List.mem_of_getElem? (i := 1) rfl))
theorem wd_X0_init_2 : Cond.code Lib.objectInit ⟨#[0xb1]⟩ 1 none ∈ wsX0_init := List.mem_cons_of_mem _ (List.mem_append_left _ (List.mem_of_getElem? (i := 2) rfl))
theorem wd_X0_init_3 : Cond.arrayClass (newarray.typeOf .char) ∈ wsX0_init := List.mem_cons_of_mem _ (List.mem_append_left _ (List.mem_of_getElem? (i := 3) rfl))
theorem lk_X0_init_9 : Cond.fieldLink RX0 9 "KeyWaves$CommandText" "signs" "[C" ∈ wsX0_init := List.mem_cons_of_mem _ (List.mem_append_left _ (List.mem_of_getElem? (i := 4) rfl))
theorem in_X0_init_RX0 : ∀ w ∈ wsX00, w ∈ wsX0_init := fun w h => List.mem_cons_of_mem _ (List.mem_append_right _ h)
theorem lk_X0_init_15 : Cond.fieldLink RX0 15 "KeyWaves$CommandText" "length" "I" ∈ wsX0_init := List.mem_cons_of_mem _ (List.mem_append_left _ (List.mem_of_getElem? (i := 5) rfl))
theorem lk_X0_init_19 : Cond.fieldLink RX0 19 "KeyWaves$CommandText" "place" "I" ∈ wsX0_init := List.mem_cons_of_mem _ (List.mem_append_left _ (List.mem_of_getElem? (i := 6) rfl))
theorem lk_X0_init_22 : Cond.fieldLink RX0 22 "KeyWaves$CommandText" "count" "I" ∈ wsX0_init := List.mem_cons_of_mem _ (List.mem_append_left _ (List.mem_of_getElem? (i := 7) rfl))
theorem lk_X0_init_25 : Cond.fieldLink RX0 25 "KeyWaves$CommandText" "letter" "C" ∈ wsX0_init := List.mem_cons_of_mem _ (List.mem_append_left _ (List.mem_of_getElem? (i := 8) rfl))
theorem lk_X0_init_29 : Cond.fieldLink RX0 29 "KeyWaves$CommandText" "first" "I" ∈ wsX0_init := List.mem_cons_of_mem _ (List.mem_append_left _ (List.mem_of_getElem? (i := 9) rfl))
theorem lk_X0_init_32 : Cond.fieldLink RX0 32 "KeyWaves$CommandText" "second" "I" ∈ wsX0_init := List.mem_cons_of_mem _ (List.mem_append_left _ (List.mem_of_getElem? (i := 10) rfl))
set_option maxRecDepth 20000 in
theorem ct_X0_init {X : List Cond} {l : Launch} {D : va_G} {G : Nat → ClassId} {h : Nat} : CM X l yX0_init wsX0_init rm_X0_init D G [.ref h] [[(h, .inr (0, [.null, .int 0, .int 0, .int 0, .int 0, .int 0, .int 0]))]] 1 60 (po_X0_init G h) :=
  CM.ofI pn_RX0 rfl rfl (Nat.le_of_ble_eq_true rfl) rfl rfl (fun C F E hI => by
    refine gw_aload_n F dX0_init_0 0 rfl ?_
    refine gw_objInit F wd_X0_init_0 wd_X0_init_1 wd_X0_init_2 (Nat.le_of_ble_eq_true rfl) (Nat.le_of_ble_eq_true rfl) dX0_init_1 ?_
    refine gw_aload_n F dX0_init_4 0 rfl ?_
    refine gw_bipush (v := (60 : Int32)) F dX0_init_5 ic_bipush_60 ?_
    refine gw_newa (ty := .char) (a0 := (60, .inl (fun _ => 0))) (N' := 60) F wd_X0_init_3 rfl 2 (fun _ => rfl) (fun _ => rfl) (by decide) (by decide) (Nat.le_of_ble_eq_true rfl) (Nat.le_of_ble_eq_true rfl) (Nat.le_of_ble_eq_true rfl) dX0_init_7 (fun q0 => ?_)
    change GW C 1 60 [[(h, .inr (0, [.null, .int 0, .int 0, .int 0, .int 0, .int 0, .int 0]))], [(q0, .inl (G 2, 60, .inl (fun _ => 0)))]] 9 _ _
    refine gw_putF (bs' := [[(h, .inr (0, [.ref q0, .int 0, .int 0, .int 0, .int 0, .int 0, .int 0]))], [(q0, .inl (G 2, 60, .inl (fun _ => 0)))]]) F hI in_X0_init_RX0 tyX0 tyX0_ok nmX0 0 rfl rfl 0 (by decide) lk_X0_init_9 rfl rfl rfl rfl (Nat.le_of_ble_eq_true rfl) dX0_init_9 rfl ?_
    refine gw_aload_n F dX0_init_12 0 rfl ?_
    refine gw_iconst (v := (0 : Int32)) F dX0_init_13 ic_iconst_0 ?_
    refine gw_put (bs' := [[(h, .inr (0, [.ref q0, .int (0 : Int32), .int 0, .int 0, .int 0, .int 0, .int 0]))], [(q0, .inl (G 2, 60, .inl (fun _ => 0)))]]) F in_X0_init_RX0 tyX0 tyX0_ok nmX0 0 rfl rfl 1 (by decide) lk_X0_init_15 rfl rfl rfl (Nat.le_of_ble_eq_true rfl) dX0_init_14 rfl ?_
    refine gw_aload_n F dX0_init_17 0 rfl ?_
    refine gw_iconst (v := (0 : Int32)) F dX0_init_18 ic_iconst_0 ?_
    refine gw_put (bs' := [[(h, .inr (0, [.ref q0, .int (0 : Int32), .int (0 : Int32), .int 0, .int 0, .int 0, .int 0]))], [(q0, .inl (G 2, 60, .inl (fun _ => 0)))]]) F in_X0_init_RX0 tyX0 tyX0_ok nmX0 0 rfl rfl 2 (by decide) lk_X0_init_19 rfl rfl rfl (Nat.le_of_ble_eq_true rfl) dX0_init_19 rfl ?_
    refine gw_aload_n F dX0_init_22 0 rfl ?_
    refine gw_iconst (v := (0 : Int32)) F dX0_init_23 ic_iconst_0 ?_
    refine gw_put (bs' := [[(h, .inr (0, [.ref q0, .int (0 : Int32), .int (0 : Int32), .int (0 : Int32), .int 0, .int 0, .int 0]))], [(q0, .inl (G 2, 60, .inl (fun _ => 0)))]]) F in_X0_init_RX0 tyX0 tyX0_ok nmX0 0 rfl rfl 3 (by decide) lk_X0_init_22 rfl rfl rfl (Nat.le_of_ble_eq_true rfl) dX0_init_24 rfl ?_
    refine gw_aload_n F dX0_init_27 0 rfl ?_
    refine gw_bipush (v := (119 : Int32)) F dX0_init_28 ic_bipush_119 ?_
    refine gw_put (bs' := [[(h, .inr (0, [.ref q0, .int (0 : Int32), .int (0 : Int32), .int (0 : Int32), .int (119 : Int32), .int 0, .int 0]))], [(q0, .inl (G 2, 60, .inl (fun _ => 0)))]]) F in_X0_init_RX0 tyX0 tyX0_ok nmX0 0 rfl rfl 4 (by decide) lk_X0_init_25 rfl rfl rfl (Nat.le_of_ble_eq_true rfl) dX0_init_30 rfl ?_
    refine gw_aload_n F dX0_init_33 0 rfl ?_
    refine gw_iconst (v := (0 : Int32)) F dX0_init_34 ic_iconst_0 ?_
    refine gw_put (bs' := [[(h, .inr (0, [.ref q0, .int (0 : Int32), .int (0 : Int32), .int (0 : Int32), .int (119 : Int32), .int (0 : Int32), .int 0]))], [(q0, .inl (G 2, 60, .inl (fun _ => 0)))]]) F in_X0_init_RX0 tyX0 tyX0_ok nmX0 0 rfl rfl 5 (by decide) lk_X0_init_29 rfl rfl rfl (Nat.le_of_ble_eq_true rfl) dX0_init_35 rfl ?_
    refine gw_aload_n F dX0_init_38 0 rfl ?_
    refine gw_iconst (v := (0 : Int32)) F dX0_init_39 ic_iconst_0 ?_
    refine gw_put (bs' := [[(h, .inr (0, [.ref q0, .int (0 : Int32), .int (0 : Int32), .int (0 : Int32), .int (119 : Int32), .int (0 : Int32), .int (0 : Int32)]))], [(q0, .inl (G 2, 60, .inl (fun _ => 0)))]]) F in_X0_init_RX0 tyX0 tyX0_ok nmX0 0 rfl rfl 6 (by decide) lk_X0_init_32 rfl rfl rfl (Nat.le_of_ble_eq_true rfl) dX0_init_40 rfl ?_
    refine gw_flat (bs' := [bTx G h (qf [(0, q0)]) v0Tx]) rfl ?_
    exact gw_vret F E rfl (Nat.le_of_ble_eq_true rfl) (Nat.le_of_ble_eq_true rfl) dX0_init_43 ⟨rfl, _, rfl⟩)
def v0Ln : OV := (fun _ _ => 0, fun _ => 0)
theorem dfX2 : ∀ j, j < 2 → defaultValue (tyX2 j) = vp_V [.null, .int 0] j := by
  intro j hj
  match j, hj with
  | 0, _ => rfl
  | 1, _ => rfl
  | j + 2, h => exact absurd h (by omega)
theorem hd_X2_init : yX2_init.cls ≠ "java/lang/invoke/MethodHandle" ∧ yX2_init.cls ≠ "java/lang/invoke/VarHandle" ∧ (parseMethodDescriptor yX2_init.desc).map (fun d => d.parameters.length) = some 0 := by decide +kernel
abbrev rm_X2_init : Room := { frames := 1, cells := 1, slots := 80, locals := 60 }
def po_X2_init (G : Nat → ClassId) (h : Nat) : Option Value → List va_W → Prop := fun o bs => o = none ∧ ∃ q : Nat → Nat, bs = [bLn G h q v0Ln]
theorem wd_X2_init_0 : Cond.methodLink RX2 3 Lib.objectInit ∈ wsX2_init := List.mem_cons_of_mem _ (List.mem_append_left _ (List.mem_of_getElem? (i := 0) rfl))
theorem wd_X2_init_1 : Cond.instanceMethod Lib.objectInit ∈ wsX2_init := List.mem_cons_of_mem _ (List.mem_append_left _ (List.mem_of_getElem? (i := 1) rfl))
theorem wd_X2_init_2 : Cond.code Lib.objectInit ⟨#[0xb1]⟩ 1 none ∈ wsX2_init := List.mem_cons_of_mem _ (List.mem_append_left _ (List.mem_of_getElem? (i := 2) rfl))
theorem wd_X2_init_3 : Cond.arrayClass (newarray.typeOf .char) ∈ wsX2_init := List.mem_cons_of_mem _ (List.mem_append_left _ (List.mem_of_getElem? (i := 3) rfl))
theorem lk_X2_init_9 : Cond.fieldLink RX2 9 "KeyWaves$Line" "signs" "[C" ∈ wsX2_init := List.mem_cons_of_mem _ (List.mem_append_left _ (List.mem_of_getElem? (i := 4) rfl))
theorem in_X2_init_RX2 : ∀ w ∈ wsX20, w ∈ wsX2_init := fun w h => List.mem_cons_of_mem _ (List.mem_append_right _ h)
theorem lk_X2_init_15 : Cond.fieldLink RX2 15 "KeyWaves$Line" "length" "I" ∈ wsX2_init := List.mem_cons_of_mem _ (List.mem_append_left _ (List.mem_of_getElem? (i := 5) rfl))
set_option maxRecDepth 20000 in
theorem ct_X2_init {X : List Cond} {l : Launch} {D : va_G} {G : Nat → ClassId} {h : Nat} : CM X l yX2_init wsX2_init rm_X2_init D G [.ref h] [[(h, .inr (2, [.null, .int 0]))]] 1 80 (po_X2_init G h) :=
  CM.ofI pn_RX2 rfl rfl (Nat.le_of_ble_eq_true rfl) rfl rfl (fun C F E hI => by
    refine gw_aload_n F dX2_init_0 0 rfl ?_
    refine gw_objInit F wd_X2_init_0 wd_X2_init_1 wd_X2_init_2 (Nat.le_of_ble_eq_true rfl) (Nat.le_of_ble_eq_true rfl) dX2_init_1 ?_
    refine gw_aload_n F dX2_init_4 0 rfl ?_
    refine gw_bipush (v := (80 : Int32)) F dX2_init_5 ic_bipush_80 ?_
    refine gw_newa (ty := .char) (a0 := (80, .inl (fun _ => 0))) (N' := 80) F wd_X2_init_3 rfl 2 (fun _ => rfl) (fun _ => rfl) (by decide) (by decide) (Nat.le_of_ble_eq_true rfl) (Nat.le_of_ble_eq_true rfl) (Nat.le_of_ble_eq_true rfl) dX2_init_7 (fun q0 => ?_)
    change GW C 1 80 [[(h, .inr (2, [.null, .int 0]))], [(q0, .inl (G 2, 80, .inl (fun _ => 0)))]] 9 _ _
    refine gw_putF (bs' := [[(h, .inr (2, [.ref q0, .int 0]))], [(q0, .inl (G 2, 80, .inl (fun _ => 0)))]]) F hI in_X2_init_RX2 tyX2 tyX2_ok nmX2 0 rfl rfl 0 (by decide) lk_X2_init_9 rfl rfl rfl rfl (Nat.le_of_ble_eq_true rfl) dX2_init_9 rfl ?_
    refine gw_aload_n F dX2_init_12 0 rfl ?_
    refine gw_iconst (v := (0 : Int32)) F dX2_init_13 ic_iconst_0 ?_
    refine gw_put (bs' := [[(h, .inr (2, [.ref q0, .int (0 : Int32)]))], [(q0, .inl (G 2, 80, .inl (fun _ => 0)))]]) F in_X2_init_RX2 tyX2 tyX2_ok nmX2 0 rfl rfl 1 (by decide) lk_X2_init_15 rfl rfl rfl (Nat.le_of_ble_eq_true rfl) dX2_init_14 rfl ?_
    refine gw_flat (bs' := [bLn G h (qf [(0, q0)]) v0Ln]) rfl ?_
    exact gw_vret F E rfl (Nat.le_of_ble_eq_true rfl) (Nat.le_of_ble_eq_true rfl) dX2_init_17 ⟨rfl, _, rfl⟩)
def v0Pr : OV := (fun _ _ => 0, fun _ => 0)
theorem dfX4 : ∀ j, j < 2 → defaultValue (tyX4 j) = vp_V [.null, .null] j := by
  intro j hj
  match j, hj with
  | 0, _ => rfl
  | 1, _ => rfl
  | j + 2, h => exact absurd h (by omega)
theorem hd_X4_init : yX4_init.cls ≠ "java/lang/invoke/MethodHandle" ∧ yX4_init.cls ≠ "java/lang/invoke/VarHandle" ∧ (parseMethodDescriptor yX4_init.desc).map (fun d => d.parameters.length) = some 0 := by decide +kernel
abbrev rm_X4_init : Room := { frames := 1, cells := 2, slots := 20, locals := 60 }
def po_X4_init (G : Nat → ClassId) (h : Nat) : Option Value → List va_W → Prop := fun o bs => o = none ∧ ∃ q : Nat → Nat, bs = [bPr G h q v0Pr]
theorem wd_X4_init_0 : Cond.methodLink RX4 3 Lib.objectInit ∈ wsX4_init := List.mem_cons_of_mem _ (List.mem_append_left _ (List.mem_of_getElem? (i := 0) rfl))
theorem wd_X4_init_1 : Cond.instanceMethod Lib.objectInit ∈ wsX4_init := List.mem_cons_of_mem _ (List.mem_append_left _ (List.mem_of_getElem? (i := 1) rfl))
theorem wd_X4_init_2 : Cond.code Lib.objectInit ⟨#[0xb1]⟩ 1 none ∈ wsX4_init := List.mem_cons_of_mem _ (List.mem_append_left _ (List.mem_of_getElem? (i := 2) rfl))
theorem wd_X4_init_3 : Cond.arrayClass (newarray.typeOf .int) ∈ wsX4_init := List.mem_cons_of_mem _ (List.mem_append_left _ (List.mem_of_getElem? (i := 3) rfl))
theorem lk_X4_init_9 : Cond.fieldLink RX4 9 "KeyWaves$Pairing" "keyOfLock" "[I" ∈ wsX4_init := List.mem_cons_of_mem _ (List.mem_append_left _ (List.mem_of_getElem? (i := 4) rfl))
theorem in_X4_init_RX4 : ∀ w ∈ wsX40, w ∈ wsX4_init := fun w h => List.mem_cons_of_mem _ (List.mem_append_right _ h)
theorem wd_X4_init_5 : Cond.arrayClass (newarray.typeOf .boolean) ∈ wsX4_init := List.mem_cons_of_mem _ (List.mem_append_left _ (List.mem_of_getElem? (i := 5) rfl))
theorem lk_X4_init_15 : Cond.fieldLink RX4 15 "KeyWaves$Pairing" "isTried" "[Z" ∈ wsX4_init := List.mem_cons_of_mem _ (List.mem_append_left _ (List.mem_of_getElem? (i := 6) rfl))
set_option maxRecDepth 20000 in
theorem ct_X4_init {X : List Cond} {l : Launch} {D : va_G} {G : Nat → ClassId} {h : Nat} : CM X l yX4_init wsX4_init rm_X4_init D G [.ref h] [[(h, .inr (4, [.null, .null]))]] 2 20 (po_X4_init G h) :=
  CM.ofI pn_RX4 rfl rfl (Nat.le_of_ble_eq_true rfl) rfl rfl (fun C F E hI => by
    refine gw_aload_n F dX4_init_0 0 rfl ?_
    refine gw_objInit F wd_X4_init_0 wd_X4_init_1 wd_X4_init_2 (Nat.le_of_ble_eq_true rfl) (Nat.le_of_ble_eq_true rfl) dX4_init_1 ?_
    refine gw_aload_n F dX4_init_4 0 rfl ?_
    refine gw_bipush (v := (10 : Int32)) F dX4_init_5 ic_bipush_10 ?_
    refine gw_newa (ty := .int) (a0 := (10, .inl (fun _ => 0))) (N' := 10) F wd_X4_init_3 rfl 0 (fun _ => rfl) (fun _ => rfl) (by decide) (by decide) (Nat.le_of_ble_eq_true rfl) (Nat.le_of_ble_eq_true rfl) (Nat.le_of_ble_eq_true rfl) dX4_init_7 (fun q0 => ?_)
    change GW C 1 10 [[(h, .inr (4, [.null, .null]))], [(q0, .inl (G 0, 10, .inl (fun _ => 0)))]] 9 _ _
    refine gw_putF (bs' := [[(h, .inr (4, [.ref q0, .null]))], [(q0, .inl (G 0, 10, .inl (fun _ => 0)))]]) F hI in_X4_init_RX4 tyX4 tyX4_ok nmX4 0 rfl rfl 0 (by decide) lk_X4_init_9 rfl rfl rfl rfl (Nat.le_of_ble_eq_true rfl) dX4_init_9 rfl ?_
    refine gw_aload_n F dX4_init_12 0 rfl ?_
    refine gw_bipush (v := (10 : Int32)) F dX4_init_13 ic_bipush_10 ?_
    refine gw_newa (ty := .boolean) (a0 := (10, .inl (fun _ => 0))) (N' := 10) F wd_X4_init_5 rfl 1 (fun _ => rfl) (fun _ => rfl) (by decide) (by decide) (Nat.le_of_ble_eq_true rfl) (Nat.le_of_ble_eq_true rfl) (Nat.le_of_ble_eq_true rfl) dX4_init_15 (fun q1 => ?_)
    change GW C 2 20 [[(h, .inr (4, [.ref q0, .null]))], [(q0, .inl (G 0, 10, .inl (fun _ => 0)))], [(q1, .inl (G 1, 10, .inl (fun _ => 0)))]] 17 _ _
    refine gw_putF (bs' := [[(h, .inr (4, [.ref q0, .ref q1]))], [(q0, .inl (G 0, 10, .inl (fun _ => 0)))], [(q1, .inl (G 1, 10, .inl (fun _ => 0)))]]) F hI in_X4_init_RX4 tyX4 tyX4_ok nmX4 0 rfl rfl 1 (by decide) lk_X4_init_15 rfl rfl rfl rfl (Nat.le_of_ble_eq_true rfl) dX4_init_17 rfl ?_
    refine gw_flat (bs' := [bPr G h (qf [(0, q0), (1, q1)]) v0Pr]) rfl ?_
    exact gw_vret F E rfl (Nat.le_of_ble_eq_true rfl) (Nat.le_of_ble_eq_true rfl) dX4_init_20 ⟨rfl, _, rfl⟩)
def v0Rf : OV := (fun _ _ => 0, fun _ => 0)
theorem dfX5 : ∀ j, j < 3 → defaultValue (tyX5 j) = vp_V [.int 0, .int 0, .int 0] j := by
  intro j hj
  match j, hj with
  | 0, _ => rfl
  | 1, _ => rfl
  | 2, _ => rfl
  | j + 3, h => exact absurd h (by omega)
theorem hd_X5_init : yX5_init.cls ≠ "java/lang/invoke/MethodHandle" ∧ yX5_init.cls ≠ "java/lang/invoke/VarHandle" ∧ (parseMethodDescriptor yX5_init.desc).map (fun d => d.parameters.length) = some 0 := by decide +kernel
abbrev rm_X5_init : Room := { frames := 1, cells := 0, slots := 0, locals := 60 }
def po_X5_init (G : Nat → ClassId) (h : Nat) : Option Value → List va_W → Prop := fun o bs => o = none ∧ ∃ q : Nat → Nat, bs = [bRf G h q v0Rf]
theorem wd_X5_init_0 : Cond.methodLink RX5 3 Lib.objectInit ∈ wsX5_init := List.mem_cons_of_mem _ (List.mem_of_getElem? (i := 0) rfl)
theorem wd_X5_init_1 : Cond.instanceMethod Lib.objectInit ∈ wsX5_init := List.mem_cons_of_mem _ (List.mem_of_getElem? (i := 1) rfl)
theorem wd_X5_init_2 : Cond.code Lib.objectInit ⟨#[0xb1]⟩ 1 none ∈ wsX5_init := List.mem_cons_of_mem _ (List.mem_of_getElem? (i := 2) rfl)
set_option maxRecDepth 20000 in
theorem ct_X5_init {X : List Cond} {l : Launch} {D : va_G} {G : Nat → ClassId} {h : Nat} : CM X l yX5_init wsX5_init rm_X5_init D G [.ref h] [[(h, .inr (5, [.int 0, .int 0, .int 0]))]] 0 0 (po_X5_init G h) :=
  CM.ofI pn_RX5 rfl rfl (Nat.le_of_ble_eq_true rfl) rfl rfl (fun C F E hI => by
    refine gw_aload_n F dX5_init_0 0 rfl ?_
    refine gw_objInit F wd_X5_init_0 wd_X5_init_1 wd_X5_init_2 (Nat.le_of_ble_eq_true rfl) (Nat.le_of_ble_eq_true rfl) dX5_init_1 ?_
    refine gw_flat (bs' := [bRf G h (qf []) v0Rf]) rfl ?_
    exact gw_vret F E rfl (Nat.le_of_ble_eq_true rfl) (Nat.le_of_ble_eq_true rfl) dX5_init_4 ⟨rfl, _, rfl⟩)
def v0Wv : OV := (fun _ _ => 0, fun s => if s = 2 then -1 else 0)
theorem dfX6 : ∀ j, j < 3 → defaultValue (tyX6 j) = vp_V [.null, .null, .int 0] j := by
  intro j hj
  match j, hj with
  | 0, _ => rfl
  | 1, _ => rfl
  | 2, _ => rfl
  | j + 3, h => exact absurd h (by omega)
theorem hd_X6_init : yX6_init.cls ≠ "java/lang/invoke/MethodHandle" ∧ yX6_init.cls ≠ "java/lang/invoke/VarHandle" ∧ (parseMethodDescriptor yX6_init.desc).map (fun d => d.parameters.length) = some 0 := by decide +kernel
abbrev rm_X6_init : Room := { frames := 1, cells := 2, slots := 20, locals := 60 }
def po_X6_init (G : Nat → ClassId) (h : Nat) : Option Value → List va_W → Prop := fun o bs => o = none ∧ ∃ q : Nat → Nat, bs = [bWv G h q v0Wv]
theorem wd_X6_init_0 : Cond.methodLink RX6 3 Lib.objectInit ∈ wsX6_init := List.mem_cons_of_mem _ (List.mem_append_left _ (List.mem_of_getElem? (i := 0) rfl))
theorem wd_X6_init_1 : Cond.instanceMethod Lib.objectInit ∈ wsX6_init := List.mem_cons_of_mem _ (List.mem_append_left _ (List.mem_of_getElem? (i := 1) rfl))
theorem wd_X6_init_2 : Cond.code Lib.objectInit ⟨#[0xb1]⟩ 1 none ∈ wsX6_init := List.mem_cons_of_mem _ (List.mem_append_left _ (List.mem_of_getElem? (i := 2) rfl))
theorem wd_X6_init_3 : Cond.arrayClass (newarray.typeOf .int) ∈ wsX6_init := List.mem_cons_of_mem _ (List.mem_append_left _ (List.mem_of_getElem? (i := 3) rfl))
theorem lk_X6_init_9 : Cond.fieldLink RX6 9 "KeyWaves$Waves" "levels" "[I" ∈ wsX6_init := List.mem_cons_of_mem _ (List.mem_append_left _ (List.mem_of_getElem? (i := 4) rfl))
theorem in_X6_init_RX6 : ∀ w ∈ wsX60, w ∈ wsX6_init := fun w h => List.mem_cons_of_mem _ (List.mem_append_right _ h)
theorem wd_X6_init_5 : Cond.arrayClass (newarray.typeOf .boolean) ∈ wsX6_init := List.mem_cons_of_mem _ (List.mem_append_left _ (List.mem_of_getElem? (i := 5) rfl))
theorem lk_X6_init_15 : Cond.fieldLink RX6 15 "KeyWaves$Waves" "isGivenUp" "[Z" ∈ wsX6_init := List.mem_cons_of_mem _ (List.mem_append_left _ (List.mem_of_getElem? (i := 6) rfl))
theorem lk_X6_init_19 : Cond.fieldLink RX6 19 "KeyWaves$Waves" "lastLevel" "I" ∈ wsX6_init := List.mem_cons_of_mem _ (List.mem_append_left _ (List.mem_of_getElem? (i := 7) rfl))
set_option maxRecDepth 20000 in
theorem ct_X6_init {X : List Cond} {l : Launch} {D : va_G} {G : Nat → ClassId} {h : Nat} : CM X l yX6_init wsX6_init rm_X6_init D G [.ref h] [[(h, .inr (6, [.null, .null, .int 0]))]] 2 20 (po_X6_init G h) :=
  CM.ofI pn_RX6 rfl rfl (Nat.le_of_ble_eq_true rfl) rfl rfl (fun C F E hI => by
    refine gw_aload_n F dX6_init_0 0 rfl ?_
    refine gw_objInit F wd_X6_init_0 wd_X6_init_1 wd_X6_init_2 (Nat.le_of_ble_eq_true rfl) (Nat.le_of_ble_eq_true rfl) dX6_init_1 ?_
    refine gw_aload_n F dX6_init_4 0 rfl ?_
    refine gw_bipush (v := (10 : Int32)) F dX6_init_5 ic_bipush_10 ?_
    refine gw_newa (ty := .int) (a0 := (10, .inl (fun _ => 0))) (N' := 10) F wd_X6_init_3 rfl 0 (fun _ => rfl) (fun _ => rfl) (by decide) (by decide) (Nat.le_of_ble_eq_true rfl) (Nat.le_of_ble_eq_true rfl) (Nat.le_of_ble_eq_true rfl) dX6_init_7 (fun q0 => ?_)
    change GW C 1 10 [[(h, .inr (6, [.null, .null, .int 0]))], [(q0, .inl (G 0, 10, .inl (fun _ => 0)))]] 9 _ _
    refine gw_putF (bs' := [[(h, .inr (6, [.ref q0, .null, .int 0]))], [(q0, .inl (G 0, 10, .inl (fun _ => 0)))]]) F hI in_X6_init_RX6 tyX6 tyX6_ok nmX6 0 rfl rfl 0 (by decide) lk_X6_init_9 rfl rfl rfl rfl (Nat.le_of_ble_eq_true rfl) dX6_init_9 rfl ?_
    refine gw_aload_n F dX6_init_12 0 rfl ?_
    refine gw_bipush (v := (10 : Int32)) F dX6_init_13 ic_bipush_10 ?_
    refine gw_newa (ty := .boolean) (a0 := (10, .inl (fun _ => 0))) (N' := 10) F wd_X6_init_5 rfl 1 (fun _ => rfl) (fun _ => rfl) (by decide) (by decide) (Nat.le_of_ble_eq_true rfl) (Nat.le_of_ble_eq_true rfl) (Nat.le_of_ble_eq_true rfl) dX6_init_15 (fun q1 => ?_)
    change GW C 2 20 [[(h, .inr (6, [.ref q0, .null, .int 0]))], [(q0, .inl (G 0, 10, .inl (fun _ => 0)))], [(q1, .inl (G 1, 10, .inl (fun _ => 0)))]] 17 _ _
    refine gw_putF (bs' := [[(h, .inr (6, [.ref q0, .ref q1, .int 0]))], [(q0, .inl (G 0, 10, .inl (fun _ => 0)))], [(q1, .inl (G 1, 10, .inl (fun _ => 0)))]]) F hI in_X6_init_RX6 tyX6 tyX6_ok nmX6 0 rfl rfl 1 (by decide) lk_X6_init_15 rfl rfl rfl rfl (Nat.le_of_ble_eq_true rfl) dX6_init_17 rfl ?_
    refine gw_aload_n F dX6_init_20 0 rfl ?_
    refine gw_iconst (v := (-1 : Int32)) F dX6_init_21 ic_iconst_m1 ?_
    refine gw_put (bs' := [[(h, .inr (6, [.ref q0, .ref q1, .int (-1 : Int32)]))], [(q0, .inl (G 0, 10, .inl (fun _ => 0)))], [(q1, .inl (G 1, 10, .inl (fun _ => 0)))]]) F in_X6_init_RX6 tyX6 tyX6_ok nmX6 0 rfl rfl 2 (by decide) lk_X6_init_19 rfl rfl rfl (Nat.le_of_ble_eq_true rfl) dX6_init_22 rfl ?_
    refine gw_flat (bs' := [bWv G h (qf [(0, q0), (1, q1)]) v0Wv]) rfl ?_
    exact gw_vret F E rfl (Nat.le_of_ble_eq_true rfl) (Nat.le_of_ble_eq_true rfl) dX6_init_25 ⟨rfl, _, rfl⟩)
def v0Md : OV := (fun a => if a = 0 then upd (fun _ => 0) (2 : Int32).toNatClampNeg 6 else fun _ => 0, fun s => if s = 15 then -1 else 0)
theorem dfX8 : ∀ j, j < 24 → defaultValue (tyX8 j) = vp_V [.null, .null, .null, .null, .null, .int 0, .int 0, .int 0, .int 0, .int 0, .int 0, .int 0, .int 0, .null, .int 0, .int 0, .null, .int 0, .null, .null, .int 0, .int 0, .null, .int 0] j := by
  intro j hj
  match j, hj with
  | 0, _ => rfl
  | 1, _ => rfl
  | 2, _ => rfl
  | 3, _ => rfl
  | 4, _ => rfl
  | 5, _ => rfl
  | 6, _ => rfl
  | 7, _ => rfl
  | 8, _ => rfl
  | 9, _ => rfl
  | 10, _ => rfl
  | 11, _ => rfl
  | 12, _ => rfl
  | 13, _ => rfl
  | 14, _ => rfl
  | 15, _ => rfl
  | 16, _ => rfl
  | 17, _ => rfl
  | 18, _ => rfl
  | 19, _ => rfl
  | 20, _ => rfl
  | 21, _ => rfl
  | 22, _ => rfl
  | 23, _ => rfl
  | j + 24, h => exact absurd h (by omega)
theorem hd_X8_init : yX8_init.cls ≠ "java/lang/invoke/MethodHandle" ∧ yX8_init.cls ≠ "java/lang/invoke/VarHandle" ∧ (parseMethodDescriptor yX8_init.desc).map (fun d => d.parameters.length) = some 0 := by decide +kernel
abbrev rm_X8_init : Room := { frames := 1, cells := 10, slots := 2418, locals := 60 }
def po_X8_init (G : Nat → ClassId) (h : Nat) : Option Value → List va_W → Prop := fun o bs => o = none ∧ ∃ q : Nat → Nat, bs = [bMd G h q v0Md]
theorem wd_X8_init_0 : Cond.methodLink RX8 1 Lib.objectInit ∈ wsX8_init := List.mem_cons_of_mem _ (List.mem_append_left _ (List.mem_append_left _ (List.mem_of_getElem? (i := 0) rfl)))
theorem wd_X8_init_1 : Cond.instanceMethod Lib.objectInit ∈ wsX8_init := List.mem_cons_of_mem _ (List.mem_append_left _ (List.mem_append_left _ (List.mem_of_getElem? (i := 1) rfl)))
theorem wd_X8_init_2 : Cond.code Lib.objectInit ⟨#[0xb1]⟩ 1 none ∈ wsX8_init := List.mem_cons_of_mem _ (List.mem_append_left _ (List.mem_append_left _ (List.mem_of_getElem? (i := 2) rfl)))
theorem wd_X8_init_3 : Cond.arrayClass (newarray.typeOf .int) ∈ wsX8_init := List.mem_cons_of_mem _ (List.mem_append_left _ (List.mem_append_left _ (List.mem_of_getElem? (i := 3) rfl)))
theorem lk_X8_init_7 : Cond.fieldLink RX8 7 "KeyWavesModel" "g" "[I" ∈ wsX8_init := List.mem_cons_of_mem _ (List.mem_append_left _ (List.mem_append_left _ (List.mem_of_getElem? (i := 4) rfl)))
theorem in_X8_init_RX8 : ∀ w ∈ wsX80, w ∈ wsX8_init := fun w h => List.mem_cons_of_mem _ (List.mem_append_left _ (List.mem_append_right _ h))
theorem lk_X8_init_13 : Cond.fieldLink RX8 13 "KeyWavesModel" "kept" "[I" ∈ wsX8_init := List.mem_cons_of_mem _ (List.mem_append_left _ (List.mem_append_left _ (List.mem_of_getElem? (i := 5) rfl)))
theorem lk_X8_init_16 : Cond.fieldLink RX8 16 "KeyWavesModel" "saved" "[I" ∈ wsX8_init := List.mem_cons_of_mem _ (List.mem_append_left _ (List.mem_append_left _ (List.mem_of_getElem? (i := 6) rfl)))
theorem lk_X8_init_19 : Cond.fieldLink RX8 19 "KeyWavesModel" "before" "[I" ∈ wsX8_init := List.mem_cons_of_mem _ (List.mem_append_left _ (List.mem_append_left _ (List.mem_of_getElem? (i := 7) rfl)))
theorem lk_X8_init_22 : Cond.fieldLink RX8 22 "KeyWavesModel" "spare" "[I" ∈ wsX8_init := List.mem_cons_of_mem _ (List.mem_append_left _ (List.mem_append_left _ (List.mem_of_getElem? (i := 8) rfl)))
theorem lk_X8_init_25 : Cond.fieldLink RX8 25 "KeyWavesModel" "input" "[I" ∈ wsX8_init := List.mem_cons_of_mem _ (List.mem_append_left _ (List.mem_append_left _ (List.mem_of_getElem? (i := 9) rfl)))
theorem lk_X8_init_28 : Cond.fieldLink RX8 28 "KeyWavesModel" "fault0" "I" ∈ wsX8_init := List.mem_cons_of_mem _ (List.mem_append_left _ (List.mem_append_left _ (List.mem_of_getElem? (i := 10) rfl)))
theorem wd_X8_init_11 : Cond.arrayClass (newarray.typeOf .char) ∈ wsX8_init := List.mem_cons_of_mem _ (List.mem_append_left _ (List.mem_append_left _ (List.mem_of_getElem? (i := 11) rfl)))
theorem lk_X8_init_32 : Cond.fieldLink RX8 32 "KeyWavesModel" "signs" "[C" ∈ wsX8_init := List.mem_cons_of_mem _ (List.mem_append_left _ (List.mem_append_left _ (List.mem_of_getElem? (i := 12) rfl)))
theorem lk_X8_init_36 : Cond.fieldLink RX8 36 "KeyWavesModel" "level" "[I" ∈ wsX8_init := List.mem_cons_of_mem _ (List.mem_append_left _ (List.mem_append_left _ (List.mem_of_getElem? (i := 13) rfl)))
theorem wd_X8_init_14 : Cond.arrayClass (newarray.typeOf .boolean) ∈ wsX8_init := List.mem_cons_of_mem _ (List.mem_append_left _ (List.mem_append_left _ (List.mem_of_getElem? (i := 14) rfl)))
theorem lk_X8_init_39 : Cond.fieldLink RX8 39 "KeyWavesModel" "isGivenUp" "[Z" ∈ wsX8_init := List.mem_cons_of_mem _ (List.mem_append_left _ (List.mem_append_left _ (List.mem_of_getElem? (i := 15) rfl)))
theorem lk_X8_init_43 : Cond.fieldLink RX8 43 "KeyWavesModel" "told" "[I" ∈ wsX8_init := List.mem_cons_of_mem _ (List.mem_append_left _ (List.mem_append_left _ (List.mem_of_getElem? (i := 16) rfl)))
set_option maxRecDepth 20000 in
theorem ct_X8_init {X : List Cond} {l : Launch} {D : va_G} {G : Nat → ClassId} {h : Nat} : CM X l yX8_init wsX8_init rm_X8_init D G [.ref h] [[(h, .inr (8, [.null, .null, .null, .null, .null, .int 0, .int 0, .int 0, .int 0, .int 0, .int 0, .int 0, .int 0, .null, .int 0, .int 0, .null, .int 0, .null, .null, .int 0, .int 0, .null, .int 0]))]] 10 2418 (po_X8_init G h) :=
  CM.ofI pn_RX8 rfl rfl (Nat.le_of_ble_eq_true rfl) rfl rfl (fun C F E hI => by
    refine gw_aload_n F dX8_init_0 0 rfl ?_
    refine gw_objInit F wd_X8_init_0 wd_X8_init_1 wd_X8_init_2 (Nat.le_of_ble_eq_true rfl) (Nat.le_of_ble_eq_true rfl) dX8_init_1 ?_
    refine gw_aload_n F dX8_init_4 0 rfl ?_
    refine gw_sipush (v := (177 : Int32)) F dX8_init_5 ic_sipush_177 ?_
    refine gw_newa (ty := .int) (a0 := (177, .inl (fun _ => 0))) (N' := 177) F wd_X8_init_3 rfl 0 (fun _ => rfl) (fun _ => rfl) (by decide) (by decide) (Nat.le_of_ble_eq_true rfl) (Nat.le_of_ble_eq_true rfl) (Nat.le_of_ble_eq_true rfl) dX8_init_8 (fun q0 => ?_)
    change GW C 1 177 [[(h, .inr (8, [.null, .null, .null, .null, .null, .int 0, .int 0, .int 0, .int 0, .int 0, .int 0, .int 0, .int 0, .null, .int 0, .int 0, .null, .int 0, .null, .null, .int 0, .int 0, .null, .int 0]))], [(q0, .inl (G 0, 177, .inl (fun _ => 0)))]] 10 _ _
    refine gw_putF (bs' := [[(h, .inr (8, [.ref q0, .null, .null, .null, .null, .int 0, .int 0, .int 0, .int 0, .int 0, .int 0, .int 0, .int 0, .null, .int 0, .int 0, .null, .int 0, .null, .null, .int 0, .int 0, .null, .int 0]))], [(q0, .inl (G 0, 177, .inl (fun _ => 0)))]]) F hI in_X8_init_RX8 tyX8 tyX8_ok nmX8 0 rfl rfl 0 (by decide) lk_X8_init_7 rfl rfl rfl rfl (Nat.le_of_ble_eq_true rfl) dX8_init_10 rfl ?_
    refine gw_aload_n F dX8_init_13 0 rfl ?_
    refine gw_sipush (v := (1416 : Int32)) F dX8_init_14 ic_sipush_1416 ?_
    refine gw_newa (ty := .int) (a0 := (1416, .inl (fun _ => 0))) (N' := 1416) F wd_X8_init_3 rfl 0 (fun _ => rfl) (fun _ => rfl) (by decide) (by decide) (Nat.le_of_ble_eq_true rfl) (Nat.le_of_ble_eq_true rfl) (Nat.le_of_ble_eq_true rfl) dX8_init_17 (fun q1 => ?_)
    change GW C 2 1593 [[(h, .inr (8, [.ref q0, .null, .null, .null, .null, .int 0, .int 0, .int 0, .int 0, .int 0, .int 0, .int 0, .int 0, .null, .int 0, .int 0, .null, .int 0, .null, .null, .int 0, .int 0, .null, .int 0]))], [(q0, .inl (G 0, 177, .inl (fun _ => 0)))], [(q1, .inl (G 0, 1416, .inl (fun _ => 0)))]] 19 _ _
    refine gw_putF (bs' := [[(h, .inr (8, [.ref q0, .ref q1, .null, .null, .null, .int 0, .int 0, .int 0, .int 0, .int 0, .int 0, .int 0, .int 0, .null, .int 0, .int 0, .null, .int 0, .null, .null, .int 0, .int 0, .null, .int 0]))], [(q0, .inl (G 0, 177, .inl (fun _ => 0)))], [(q1, .inl (G 0, 1416, .inl (fun _ => 0)))]]) F hI in_X8_init_RX8 tyX8 tyX8_ok nmX8 0 rfl rfl 1 (by decide) lk_X8_init_13 rfl rfl rfl rfl (Nat.le_of_ble_eq_true rfl) dX8_init_19 rfl ?_
    refine gw_aload_n F dX8_init_22 0 rfl ?_
    refine gw_sipush (v := (177 : Int32)) F dX8_init_23 ic_sipush_177 ?_
    refine gw_newa (ty := .int) (a0 := (177, .inl (fun _ => 0))) (N' := 177) F wd_X8_init_3 rfl 0 (fun _ => rfl) (fun _ => rfl) (by decide) (by decide) (Nat.le_of_ble_eq_true rfl) (Nat.le_of_ble_eq_true rfl) (Nat.le_of_ble_eq_true rfl) dX8_init_26 (fun q2 => ?_)
    change GW C 3 1770 [[(h, .inr (8, [.ref q0, .ref q1, .null, .null, .null, .int 0, .int 0, .int 0, .int 0, .int 0, .int 0, .int 0, .int 0, .null, .int 0, .int 0, .null, .int 0, .null, .null, .int 0, .int 0, .null, .int 0]))], [(q0, .inl (G 0, 177, .inl (fun _ => 0)))], [(q1, .inl (G 0, 1416, .inl (fun _ => 0)))], [(q2, .inl (G 0, 177, .inl (fun _ => 0)))]] 28 _ _
    refine gw_putF (bs' := [[(h, .inr (8, [.ref q0, .ref q1, .ref q2, .null, .null, .int 0, .int 0, .int 0, .int 0, .int 0, .int 0, .int 0, .int 0, .null, .int 0, .int 0, .null, .int 0, .null, .null, .int 0, .int 0, .null, .int 0]))], [(q0, .inl (G 0, 177, .inl (fun _ => 0)))], [(q1, .inl (G 0, 1416, .inl (fun _ => 0)))], [(q2, .inl (G 0, 177, .inl (fun _ => 0)))]]) F hI in_X8_init_RX8 tyX8 tyX8_ok nmX8 0 rfl rfl 2 (by decide) lk_X8_init_16 rfl rfl rfl rfl (Nat.le_of_ble_eq_true rfl) dX8_init_28 rfl ?_
    refine gw_aload_n F dX8_init_31 0 rfl ?_
    refine gw_sipush (v := (177 : Int32)) F dX8_init_32 ic_sipush_177 ?_
    refine gw_newa (ty := .int) (a0 := (177, .inl (fun _ => 0))) (N' := 177) F wd_X8_init_3 rfl 0 (fun _ => rfl) (fun _ => rfl) (by decide) (by decide) (Nat.le_of_ble_eq_true rfl) (Nat.le_of_ble_eq_true rfl) (Nat.le_of_ble_eq_true rfl) dX8_init_35 (fun q3 => ?_)
    change GW C 4 1947 [[(h, .inr (8, [.ref q0, .ref q1, .ref q2, .null, .null, .int 0, .int 0, .int 0, .int 0, .int 0, .int 0, .int 0, .int 0, .null, .int 0, .int 0, .null, .int 0, .null, .null, .int 0, .int 0, .null, .int 0]))], [(q0, .inl (G 0, 177, .inl (fun _ => 0)))], [(q1, .inl (G 0, 1416, .inl (fun _ => 0)))], [(q2, .inl (G 0, 177, .inl (fun _ => 0)))], [(q3, .inl (G 0, 177, .inl (fun _ => 0)))]] 37 _ _
    refine gw_putF (bs' := [[(h, .inr (8, [.ref q0, .ref q1, .ref q2, .ref q3, .null, .int 0, .int 0, .int 0, .int 0, .int 0, .int 0, .int 0, .int 0, .null, .int 0, .int 0, .null, .int 0, .null, .null, .int 0, .int 0, .null, .int 0]))], [(q0, .inl (G 0, 177, .inl (fun _ => 0)))], [(q1, .inl (G 0, 1416, .inl (fun _ => 0)))], [(q2, .inl (G 0, 177, .inl (fun _ => 0)))], [(q3, .inl (G 0, 177, .inl (fun _ => 0)))]]) F hI in_X8_init_RX8 tyX8 tyX8_ok nmX8 0 rfl rfl 3 (by decide) lk_X8_init_19 rfl rfl rfl rfl (Nat.le_of_ble_eq_true rfl) dX8_init_37 rfl ?_
    refine gw_aload_n F dX8_init_40 0 rfl ?_
    refine gw_sipush (v := (177 : Int32)) F dX8_init_41 ic_sipush_177 ?_
    refine gw_newa (ty := .int) (a0 := (177, .inl (fun _ => 0))) (N' := 177) F wd_X8_init_3 rfl 0 (fun _ => rfl) (fun _ => rfl) (by decide) (by decide) (Nat.le_of_ble_eq_true rfl) (Nat.le_of_ble_eq_true rfl) (Nat.le_of_ble_eq_true rfl) dX8_init_44 (fun q4 => ?_)
    change GW C 5 2124 [[(h, .inr (8, [.ref q0, .ref q1, .ref q2, .ref q3, .null, .int 0, .int 0, .int 0, .int 0, .int 0, .int 0, .int 0, .int 0, .null, .int 0, .int 0, .null, .int 0, .null, .null, .int 0, .int 0, .null, .int 0]))], [(q0, .inl (G 0, 177, .inl (fun _ => 0)))], [(q1, .inl (G 0, 1416, .inl (fun _ => 0)))], [(q2, .inl (G 0, 177, .inl (fun _ => 0)))], [(q3, .inl (G 0, 177, .inl (fun _ => 0)))], [(q4, .inl (G 0, 177, .inl (fun _ => 0)))]] 46 _ _
    refine gw_putF (bs' := [[(h, .inr (8, [.ref q0, .ref q1, .ref q2, .ref q3, .ref q4, .int 0, .int 0, .int 0, .int 0, .int 0, .int 0, .int 0, .int 0, .null, .int 0, .int 0, .null, .int 0, .null, .null, .int 0, .int 0, .null, .int 0]))], [(q0, .inl (G 0, 177, .inl (fun _ => 0)))], [(q1, .inl (G 0, 1416, .inl (fun _ => 0)))], [(q2, .inl (G 0, 177, .inl (fun _ => 0)))], [(q3, .inl (G 0, 177, .inl (fun _ => 0)))], [(q4, .inl (G 0, 177, .inl (fun _ => 0)))]]) F hI in_X8_init_RX8 tyX8 tyX8_ok nmX8 0 rfl rfl 4 (by decide) lk_X8_init_22 rfl rfl rfl rfl (Nat.le_of_ble_eq_true rfl) dX8_init_46 rfl ?_
    refine gw_aload_n F dX8_init_49 0 rfl ?_
    refine gw_bipush (v := (60 : Int32)) F dX8_init_50 ic_bipush_60 ?_
    refine gw_newa (ty := .int) (a0 := (60, .inl (fun _ => 0))) (N' := 60) F wd_X8_init_3 rfl 0 (fun _ => rfl) (fun _ => rfl) (by decide) (by decide) (Nat.le_of_ble_eq_true rfl) (Nat.le_of_ble_eq_true rfl) (Nat.le_of_ble_eq_true rfl) dX8_init_52 (fun q5 => ?_)
    change GW C 6 2184 [[(h, .inr (8, [.ref q0, .ref q1, .ref q2, .ref q3, .ref q4, .int 0, .int 0, .int 0, .int 0, .int 0, .int 0, .int 0, .int 0, .null, .int 0, .int 0, .null, .int 0, .null, .null, .int 0, .int 0, .null, .int 0]))], [(q0, .inl (G 0, 177, .inl (fun _ => 0)))], [(q1, .inl (G 0, 1416, .inl (fun _ => 0)))], [(q2, .inl (G 0, 177, .inl (fun _ => 0)))], [(q3, .inl (G 0, 177, .inl (fun _ => 0)))], [(q4, .inl (G 0, 177, .inl (fun _ => 0)))], [(q5, .inl (G 0, 60, .inl (fun _ => 0)))]] 54 _ _
    refine gw_putF (bs' := [[(h, .inr (8, [.ref q0, .ref q1, .ref q2, .ref q3, .ref q4, .int 0, .int 0, .int 0, .int 0, .int 0, .int 0, .int 0, .int 0, .ref q5, .int 0, .int 0, .null, .int 0, .null, .null, .int 0, .int 0, .null, .int 0]))], [(q0, .inl (G 0, 177, .inl (fun _ => 0)))], [(q1, .inl (G 0, 1416, .inl (fun _ => 0)))], [(q2, .inl (G 0, 177, .inl (fun _ => 0)))], [(q3, .inl (G 0, 177, .inl (fun _ => 0)))], [(q4, .inl (G 0, 177, .inl (fun _ => 0)))], [(q5, .inl (G 0, 60, .inl (fun _ => 0)))]]) F hI in_X8_init_RX8 tyX8 tyX8_ok nmX8 0 rfl rfl 13 (by decide) lk_X8_init_25 rfl rfl rfl rfl (Nat.le_of_ble_eq_true rfl) dX8_init_54 rfl ?_
    refine gw_aload_n F dX8_init_57 0 rfl ?_
    refine gw_iconst (v := (-1 : Int32)) F dX8_init_58 ic_iconst_m1 ?_
    refine gw_put (bs' := [[(h, .inr (8, [.ref q0, .ref q1, .ref q2, .ref q3, .ref q4, .int 0, .int 0, .int 0, .int 0, .int 0, .int 0, .int 0, .int 0, .ref q5, .int 0, .int (-1 : Int32), .null, .int 0, .null, .null, .int 0, .int 0, .null, .int 0]))], [(q0, .inl (G 0, 177, .inl (fun _ => 0)))], [(q1, .inl (G 0, 1416, .inl (fun _ => 0)))], [(q2, .inl (G 0, 177, .inl (fun _ => 0)))], [(q3, .inl (G 0, 177, .inl (fun _ => 0)))], [(q4, .inl (G 0, 177, .inl (fun _ => 0)))], [(q5, .inl (G 0, 60, .inl (fun _ => 0)))]]) F in_X8_init_RX8 tyX8 tyX8_ok nmX8 0 rfl rfl 15 (by decide) lk_X8_init_28 rfl rfl rfl (Nat.le_of_ble_eq_true rfl) dX8_init_59 rfl ?_
    refine gw_aload_n F dX8_init_62 0 rfl ?_
    refine gw_bipush (v := (90 : Int32)) F dX8_init_63 ic_bipush_90 ?_
    refine gw_newa (ty := .char) (a0 := (90, .inl (fun _ => 0))) (N' := 90) F wd_X8_init_11 rfl 2 (fun _ => rfl) (fun _ => rfl) (by decide) (by decide) (Nat.le_of_ble_eq_true rfl) (Nat.le_of_ble_eq_true rfl) (Nat.le_of_ble_eq_true rfl) dX8_init_65 (fun q6 => ?_)
    change GW C 7 2274 [[(h, .inr (8, [.ref q0, .ref q1, .ref q2, .ref q3, .ref q4, .int 0, .int 0, .int 0, .int 0, .int 0, .int 0, .int 0, .int 0, .ref q5, .int 0, .int (-1 : Int32), .null, .int 0, .null, .null, .int 0, .int 0, .null, .int 0]))], [(q0, .inl (G 0, 177, .inl (fun _ => 0)))], [(q1, .inl (G 0, 1416, .inl (fun _ => 0)))], [(q2, .inl (G 0, 177, .inl (fun _ => 0)))], [(q3, .inl (G 0, 177, .inl (fun _ => 0)))], [(q4, .inl (G 0, 177, .inl (fun _ => 0)))], [(q5, .inl (G 0, 60, .inl (fun _ => 0)))], [(q6, .inl (G 2, 90, .inl (fun _ => 0)))]] 67 _ _
    refine gw_putF (bs' := [[(h, .inr (8, [.ref q0, .ref q1, .ref q2, .ref q3, .ref q4, .int 0, .int 0, .int 0, .int 0, .int 0, .int 0, .int 0, .int 0, .ref q5, .int 0, .int (-1 : Int32), .ref q6, .int 0, .null, .null, .int 0, .int 0, .null, .int 0]))], [(q0, .inl (G 0, 177, .inl (fun _ => 0)))], [(q1, .inl (G 0, 1416, .inl (fun _ => 0)))], [(q2, .inl (G 0, 177, .inl (fun _ => 0)))], [(q3, .inl (G 0, 177, .inl (fun _ => 0)))], [(q4, .inl (G 0, 177, .inl (fun _ => 0)))], [(q5, .inl (G 0, 60, .inl (fun _ => 0)))], [(q6, .inl (G 2, 90, .inl (fun _ => 0)))]]) F hI in_X8_init_RX8 tyX8 tyX8_ok nmX8 0 rfl rfl 16 (by decide) lk_X8_init_32 rfl rfl rfl rfl (Nat.le_of_ble_eq_true rfl) dX8_init_67 rfl ?_
    refine gw_aload_n F dX8_init_70 0 rfl ?_
    refine gw_bipush (v := (10 : Int32)) F dX8_init_71 ic_bipush_10 ?_
    refine gw_newa (ty := .int) (a0 := (10, .inl (fun _ => 0))) (N' := 10) F wd_X8_init_3 rfl 0 (fun _ => rfl) (fun _ => rfl) (by decide) (by decide) (Nat.le_of_ble_eq_true rfl) (Nat.le_of_ble_eq_true rfl) (Nat.le_of_ble_eq_true rfl) dX8_init_73 (fun q7 => ?_)
    change GW C 8 2284 [[(h, .inr (8, [.ref q0, .ref q1, .ref q2, .ref q3, .ref q4, .int 0, .int 0, .int 0, .int 0, .int 0, .int 0, .int 0, .int 0, .ref q5, .int 0, .int (-1 : Int32), .ref q6, .int 0, .null, .null, .int 0, .int 0, .null, .int 0]))], [(q0, .inl (G 0, 177, .inl (fun _ => 0)))], [(q1, .inl (G 0, 1416, .inl (fun _ => 0)))], [(q2, .inl (G 0, 177, .inl (fun _ => 0)))], [(q3, .inl (G 0, 177, .inl (fun _ => 0)))], [(q4, .inl (G 0, 177, .inl (fun _ => 0)))], [(q5, .inl (G 0, 60, .inl (fun _ => 0)))], [(q6, .inl (G 2, 90, .inl (fun _ => 0)))], [(q7, .inl (G 0, 10, .inl (fun _ => 0)))]] 75 _ _
    refine gw_putF (bs' := [[(h, .inr (8, [.ref q0, .ref q1, .ref q2, .ref q3, .ref q4, .int 0, .int 0, .int 0, .int 0, .int 0, .int 0, .int 0, .int 0, .ref q5, .int 0, .int (-1 : Int32), .ref q6, .int 0, .ref q7, .null, .int 0, .int 0, .null, .int 0]))], [(q0, .inl (G 0, 177, .inl (fun _ => 0)))], [(q1, .inl (G 0, 1416, .inl (fun _ => 0)))], [(q2, .inl (G 0, 177, .inl (fun _ => 0)))], [(q3, .inl (G 0, 177, .inl (fun _ => 0)))], [(q4, .inl (G 0, 177, .inl (fun _ => 0)))], [(q5, .inl (G 0, 60, .inl (fun _ => 0)))], [(q6, .inl (G 2, 90, .inl (fun _ => 0)))], [(q7, .inl (G 0, 10, .inl (fun _ => 0)))]]) F hI in_X8_init_RX8 tyX8 tyX8_ok nmX8 0 rfl rfl 18 (by decide) lk_X8_init_36 rfl rfl rfl rfl (Nat.le_of_ble_eq_true rfl) dX8_init_75 rfl ?_
    refine gw_aload_n F dX8_init_78 0 rfl ?_
    refine gw_bipush (v := (10 : Int32)) F dX8_init_79 ic_bipush_10 ?_
    refine gw_newa (ty := .boolean) (a0 := (10, .inl (fun _ => 0))) (N' := 10) F wd_X8_init_14 rfl 1 (fun _ => rfl) (fun _ => rfl) (by decide) (by decide) (Nat.le_of_ble_eq_true rfl) (Nat.le_of_ble_eq_true rfl) (Nat.le_of_ble_eq_true rfl) dX8_init_81 (fun q8 => ?_)
    change GW C 9 2294 [[(h, .inr (8, [.ref q0, .ref q1, .ref q2, .ref q3, .ref q4, .int 0, .int 0, .int 0, .int 0, .int 0, .int 0, .int 0, .int 0, .ref q5, .int 0, .int (-1 : Int32), .ref q6, .int 0, .ref q7, .null, .int 0, .int 0, .null, .int 0]))], [(q0, .inl (G 0, 177, .inl (fun _ => 0)))], [(q1, .inl (G 0, 1416, .inl (fun _ => 0)))], [(q2, .inl (G 0, 177, .inl (fun _ => 0)))], [(q3, .inl (G 0, 177, .inl (fun _ => 0)))], [(q4, .inl (G 0, 177, .inl (fun _ => 0)))], [(q5, .inl (G 0, 60, .inl (fun _ => 0)))], [(q6, .inl (G 2, 90, .inl (fun _ => 0)))], [(q7, .inl (G 0, 10, .inl (fun _ => 0)))], [(q8, .inl (G 1, 10, .inl (fun _ => 0)))]] 83 _ _
    refine gw_putF (bs' := [[(h, .inr (8, [.ref q0, .ref q1, .ref q2, .ref q3, .ref q4, .int 0, .int 0, .int 0, .int 0, .int 0, .int 0, .int 0, .int 0, .ref q5, .int 0, .int (-1 : Int32), .ref q6, .int 0, .ref q7, .ref q8, .int 0, .int 0, .null, .int 0]))], [(q0, .inl (G 0, 177, .inl (fun _ => 0)))], [(q1, .inl (G 0, 1416, .inl (fun _ => 0)))], [(q2, .inl (G 0, 177, .inl (fun _ => 0)))], [(q3, .inl (G 0, 177, .inl (fun _ => 0)))], [(q4, .inl (G 0, 177, .inl (fun _ => 0)))], [(q5, .inl (G 0, 60, .inl (fun _ => 0)))], [(q6, .inl (G 2, 90, .inl (fun _ => 0)))], [(q7, .inl (G 0, 10, .inl (fun _ => 0)))], [(q8, .inl (G 1, 10, .inl (fun _ => 0)))]]) F hI in_X8_init_RX8 tyX8 tyX8_ok nmX8 0 rfl rfl 19 (by decide) lk_X8_init_39 rfl rfl rfl rfl (Nat.le_of_ble_eq_true rfl) dX8_init_83 rfl ?_
    refine gw_aload_n F dX8_init_86 0 rfl ?_
    refine gw_bipush (v := (124 : Int32)) F dX8_init_87 ic_bipush_124 ?_
    refine gw_newa (ty := .int) (a0 := (124, .inl (fun _ => 0))) (N' := 124) F wd_X8_init_3 rfl 0 (fun _ => rfl) (fun _ => rfl) (by decide) (by decide) (Nat.le_of_ble_eq_true rfl) (Nat.le_of_ble_eq_true rfl) (Nat.le_of_ble_eq_true rfl) dX8_init_89 (fun q9 => ?_)
    change GW C 10 2418 [[(h, .inr (8, [.ref q0, .ref q1, .ref q2, .ref q3, .ref q4, .int 0, .int 0, .int 0, .int 0, .int 0, .int 0, .int 0, .int 0, .ref q5, .int 0, .int (-1 : Int32), .ref q6, .int 0, .ref q7, .ref q8, .int 0, .int 0, .null, .int 0]))], [(q0, .inl (G 0, 177, .inl (fun _ => 0)))], [(q1, .inl (G 0, 1416, .inl (fun _ => 0)))], [(q2, .inl (G 0, 177, .inl (fun _ => 0)))], [(q3, .inl (G 0, 177, .inl (fun _ => 0)))], [(q4, .inl (G 0, 177, .inl (fun _ => 0)))], [(q5, .inl (G 0, 60, .inl (fun _ => 0)))], [(q6, .inl (G 2, 90, .inl (fun _ => 0)))], [(q7, .inl (G 0, 10, .inl (fun _ => 0)))], [(q8, .inl (G 1, 10, .inl (fun _ => 0)))], [(q9, .inl (G 0, 124, .inl (fun _ => 0)))]] 91 _ _
    refine gw_putF (bs' := [[(h, .inr (8, [.ref q0, .ref q1, .ref q2, .ref q3, .ref q4, .int 0, .int 0, .int 0, .int 0, .int 0, .int 0, .int 0, .int 0, .ref q5, .int 0, .int (-1 : Int32), .ref q6, .int 0, .ref q7, .ref q8, .int 0, .int 0, .ref q9, .int 0]))], [(q0, .inl (G 0, 177, .inl (fun _ => 0)))], [(q1, .inl (G 0, 1416, .inl (fun _ => 0)))], [(q2, .inl (G 0, 177, .inl (fun _ => 0)))], [(q3, .inl (G 0, 177, .inl (fun _ => 0)))], [(q4, .inl (G 0, 177, .inl (fun _ => 0)))], [(q5, .inl (G 0, 60, .inl (fun _ => 0)))], [(q6, .inl (G 2, 90, .inl (fun _ => 0)))], [(q7, .inl (G 0, 10, .inl (fun _ => 0)))], [(q8, .inl (G 1, 10, .inl (fun _ => 0)))], [(q9, .inl (G 0, 124, .inl (fun _ => 0)))]]) F hI in_X8_init_RX8 tyX8 tyX8_ok nmX8 0 rfl rfl 22 (by decide) lk_X8_init_43 rfl rfl rfl rfl (Nat.le_of_ble_eq_true rfl) dX8_init_91 rfl ?_
    refine gw_aload_n F dX8_init_94 0 rfl ?_
    refine gw_get F in_X8_init_RX8 0 rfl rfl 0 (by decide) lk_X8_init_7 rfl dX8_init_95 ?_
    refine gw_iconst (v := (2 : Int32)) F dX8_init_98 ic_iconst_2 ?_
    refine gw_bipush (v := (6 : Int32)) F dX8_init_99 ic_bipush_6 ?_
    refine gw_iast (bs' := [[(h, .inr (8, [.ref q0, .ref q1, .ref q2, .ref q3, .ref q4, .int 0, .int 0, .int 0, .int 0, .int 0, .int 0, .int 0, .int 0, .ref q5, .int 0, .int (-1 : Int32), .ref q6, .int 0, .ref q7, .ref q8, .int 0, .int 0, .ref q9, .int 0]))], [(q0, .inl (G 0, 177, .inl (upd (fun _ => 0) (2 : Int32).toNatClampNeg (6 : Int32))))], [(q1, .inl (G 0, 1416, .inl (fun _ => 0)))], [(q2, .inl (G 0, 177, .inl (fun _ => 0)))], [(q3, .inl (G 0, 177, .inl (fun _ => 0)))], [(q4, .inl (G 0, 177, .inl (fun _ => 0)))], [(q5, .inl (G 0, 60, .inl (fun _ => 0)))], [(q6, .inl (G 2, 90, .inl (fun _ => 0)))], [(q7, .inl (G 0, 10, .inl (fun _ => 0)))], [(q8, .inl (G 1, 10, .inl (fun _ => 0)))], [(q9, .inl (G 0, 124, .inl (fun _ => 0)))]]) F 1 rfl (by unfold vp_in; decide) dX8_init_101 rfl ?_
    refine gw_flat (bs' := [bMd G h (qf [(0, q0), (1, q1), (2, q2), (3, q3), (4, q4), (13, q5), (16, q6), (18, q7), (19, q8), (22, q9)]) v0Md]) rfl ?_
    exact gw_vret F E rfl (Nat.le_of_ble_eq_true rfl) (Nat.le_of_ble_eq_true rfl) dX8_init_102 ⟨rfl, _, rfl⟩)
theorem dfX1 : ∀ j, j < 2 → defaultValue (tyX1 j) = vp_V [.null, .int 0] j := by
  intro j hj
  match j, hj with
  | 0, _ => rfl
  | 1, _ => rfl
  | j + 2, h => exact absurd h (by omega)
theorem hd_X1_init : yX1_init.cls ≠ "java/lang/invoke/MethodHandle" ∧ yX1_init.cls ≠ "java/lang/invoke/VarHandle" ∧ (parseMethodDescriptor yX1_init.desc).map (fun d => d.parameters.length) = some 0 := by decide +kernel
abbrev rm_X1_init : Room := { frames := 2, cells := 73, slots := 760, locals := 80 }
def po_X1_init (G : Nat → ClassId) (h : Nat) : Option Value → List va_W → Prop := fun o bs => o = none ∧ ∃ q : Nat → Nat → Nat, bs = HW G h q v0Hs
theorem wd_X1_init_0 : Cond.methodLink RX1 3 Lib.objectInit ∈ wsX1_init := List.mem_cons_of_mem _ (List.mem_append_left _ (List.mem_append_left _ (List.mem_append_left _ (List.mem_of_getElem? (i := 0) rfl))))
theorem wd_X1_init_1 : Cond.instanceMethod Lib.objectInit ∈ wsX1_init := List.mem_cons_of_mem _ (List.mem_append_left _ (List.mem_append_left _ (List.mem_append_left _ (List.mem_of_getElem? (i := 1) rfl))))
theorem wd_X1_init_2 : Cond.code Lib.objectInit ⟨#[0xb1]⟩ 1 none ∈ wsX1_init := List.mem_cons_of_mem _ (List.mem_append_left _ (List.mem_append_left _ (List.mem_append_left _ (List.mem_of_getElem? (i := 2) rfl))))
theorem wd_X1_init_3 : Cond.classLink RX1 9 "KeyWaves$Lodge" ∈ wsX1_init := List.mem_cons_of_mem _ (List.mem_append_left _ (List.mem_append_left _ (List.mem_append_left _ (List.mem_of_getElem? (i := 3) rfl))))
theorem lk_X1_init_11 : Cond.fieldLink RX1 11 "KeyWaves$History" "rows" "[LKeyWaves$Lodge;" ∈ wsX1_init := List.mem_cons_of_mem _ (List.mem_append_left _ (List.mem_append_left _ (List.mem_append_left _ (List.mem_of_getElem? (i := 4) rfl))))
theorem in_X1_init_RX1 : ∀ w ∈ wsX10, w ∈ wsX1_init := fun w h => List.mem_cons_of_mem _ (List.mem_append_left _ (List.mem_append_right _ h))
theorem lk_X1_init_17 : Cond.fieldLink RX1 17 "KeyWaves$History" "count" "I" ∈ wsX1_init := List.mem_cons_of_mem _ (List.mem_append_left _ (List.mem_append_left _ (List.mem_append_left _ (List.mem_of_getElem? (i := 5) rfl))))
theorem wd_X1_init_6 : Cond.classLink RX1 9 RX3 ∈ wsX1_init := List.mem_cons_of_mem _ (List.mem_append_left _ (List.mem_append_left _ (List.mem_append_left _ (List.mem_of_getElem? (i := 3) rfl))))
theorem wd_X1_init_7 : Cond.instantiable RX3 14 ∈ wsX1_init := List.mem_cons_of_mem _ (List.mem_append_left _ (List.mem_append_left _ (List.mem_append_left _ (List.mem_of_getElem? (i := 6) rfl))))
theorem wd_X1_init_8 : Cond.initialized RX3 ∈ wsX1_init := List.mem_cons_of_mem _ (List.mem_append_left _ (List.mem_append_left _ (List.mem_append_left _ (List.mem_of_getElem? (i := 7) rfl))))
theorem in_X1_init_RX3 : ∀ w ∈ wsX30, w ∈ wsX1_init := fun w h => List.mem_cons_of_mem _ (List.mem_append_right _ h)
theorem wd_X1_init_9 : Cond.instanceMethod yX3_init ∈ wsX1_init := List.mem_cons_of_mem _ (List.mem_append_left _ (List.mem_append_left _ (List.mem_append_left _ (List.mem_of_getElem? (i := 8) rfl))))
theorem hs_fun {rr ob0 ob1 ob2 ob3 ob4 ob5 ob6 ob7 : Nat} {qob0 qob1 qob2 qob3 qob4 qob5 qob6 qob7 : Nat → Nat} : ∀ j, j < 8 → va_rf ((va_up (va_up (va_up (va_up (va_up (va_up (va_up (va_up (fun _ => none) (0 : Int32).toNatClampNeg (some ob0)) (1 : Int32).toNatClampNeg (some ob1)) (2 : Int32).toNatClampNeg (some ob2)) (3 : Int32).toNatClampNeg (some ob3)) (4 : Int32).toNatClampNeg (some ob4)) (5 : Int32).toNatClampNeg (some ob5)) (6 : Int32).toNatClampNeg (some ob6)) (7 : Int32).toNatClampNeg (some ob7)) j) = va_rf ((fun i => some ((fun j s => if j = 8 then rr else if s = 8 then qf [(0, ob0), (1, ob1), (2, ob2), (3, ob3), (4, ob4), (5, ob5), (6, ob6), (7, ob7)] j else qn [(0, qob0), (1, qob1), (2, qob2), (3, qob3), (4, qob4), (5, qob5), (6, qob6), (7, qob7)] j s) (v0Hs.2.1 i) 8)) j) := by
  intro j hj
  match j, hj with
  | 0, _ => rfl
  | 1, _ => rfl
  | 2, _ => rfl
  | 3, _ => rfl
  | 4, _ => rfl
  | 5, _ => rfl
  | 6, _ => rfl
  | 7, _ => rfl
  | j + 8, h => exact absurd h (by omega)
theorem hs_swap {D : va_G} {G : Nat → ClassId} {H : Heap} {h rr ob0 ob1 ob2 ob3 ob4 ob5 ob6 ob7 : Nat} {qob0 qob1 qob2 qob3 qob4 qob5 qob6 qob7 : Nat → Nat} (hP : va_P D myCl ([[(h, .inr (1, [.ref rr, .int (0 : Int32)]))], [(rr, .inl (G 5, 8, .inr (.inr (.inr (.inr (va_up (va_up (va_up (va_up (va_up (va_up (va_up (va_up (fun _ => none) (0 : Int32).toNatClampNeg (some ob0)) (1 : Int32).toNatClampNeg (some ob1)) (2 : Int32).toNatClampNeg (some ob2)) (3 : Int32).toNatClampNeg (some ob3)) (4 : Int32).toNatClampNeg (some ob4)) (5 : Int32).toNatClampNeg (some ob5)) (6 : Int32).toNatClampNeg (some ob6)) (7 : Int32).toNatClampNeg (some ob7)))))))], bLg G ob0 qob0 v0Lg, bLg G ob1 qob1 v0Lg, bLg G ob2 qob2 v0Lg, bLg G ob3 qob3 v0Lg, bLg G ob4 qob4 v0Lg, bLg G ob5 qob5 v0Lg, bLg G ob6 qob6 v0Lg, bLg G ob7 qob7 v0Lg] : List va_W).flatten H) : va_P D myCl (HW G h (fun j s => if j = 8 then rr else if s = 8 then qf [(0, ob0), (1, ob1), (2, ob2), (3, ob3), (4, ob4), (5, ob5), (6, ob6), (7, ob7)] j else qn [(0, qob0), (1, qob1), (2, qob2), (3, qob3), (4, qob4), (5, qob5), (6, qob6), (7, qob7)] j s) v0Hs).flatten H := by
  rw [wm_P] at hP ⊢
  intro x hx
  have key : ∀ y : Nat × va_E, y ∈ ([(h, .inr (1, [.ref rr, .int (0 : Int32)]))] ++ ([bLg G ob0 qob0 v0Lg, bLg G ob1 qob1 v0Lg, bLg G ob2 qob2 v0Lg, bLg G ob3 qob3 v0Lg, bLg G ob4 qob4 v0Lg, bLg G ob5 qob5 v0Lg, bLg G ob6 qob6 v0Lg, bLg G ob7 qob7 v0Lg] ).flatten : va_W) → va_at D myCl y H := fun y hy => hP y (by
    rcases List.mem_append.mp hy with hy | hy
    · exact List.mem_append_left _ hy
    · exact List.mem_append_right _ (List.mem_append_right _ hy))
  have hx : x = (rr, .inl (G 5, 8, .inr (.inr (.inr (.inr (fun i => some ((fun j s => if j = 8 then rr else if s = 8 then qf [(0, ob0), (1, ob1), (2, ob2), (3, ob3), (4, ob4), (5, ob5), (6, ob6), (7, ob7)] j else qn [(0, qob0), (1, qob1), (2, qob2), (3, qob3), (4, qob4), (5, qob5), (6, qob6), (7, qob7)] j s) (v0Hs.2.1 i) 8))))))) ∨ x ∈ ([(h, .inr (1, [.ref rr, .int (0 : Int32)]))] ++ ([bLg G ob0 qob0 v0Lg, bLg G ob1 qob1 v0Lg, bLg G ob2 qob2 v0Lg, bLg G ob3 qob3 v0Lg, bLg G ob4 qob4 v0Lg, bLg G ob5 qob5 v0Lg, bLg G ob6 qob6 v0Lg, bLg G ob7 qob7 v0Lg] ).flatten : va_W) := by
    rcases List.mem_cons.mp hx with hx | hx
    · exact Or.inr (List.mem_append_left _ (List.mem_singleton.mpr hx))
    · rcases List.mem_cons.mp hx with hx | hx
      · exact Or.inl hx
      · exact Or.inr (List.mem_append_right _ hx)
  rcases hx with rfl | hx
  · have h1 := hP _ (List.mem_append_right _ (List.mem_append_left _ (List.mem_singleton.mpr rfl)))
    show H[rr]? = some (vp_cell (G 5) (8, .inr (.inr (.inr (.inr (fun i => some ((fun j s => if j = 8 then rr else if s = 8 then qf [(0, ob0), (1, ob1), (2, ob2), (3, ob3), (4, ob4), (5, ob5), (6, ob6), (7, ob7)] j else qn [(0, qob0), (1, qob1), (2, qob2), (3, qob3), (4, qob4), (5, qob5), (6, qob6), (7, qob7)] j s) (v0Hs.2.1 i) 8)))))))
    rw [show vp_cell (G 5) (8, .inr (.inr (.inr (.inr (fun i => some ((fun j s => if j = 8 then rr else if s = 8 then qf [(0, ob0), (1, ob1), (2, ob2), (3, ob3), (4, ob4), (5, ob5), (6, ob6), (7, ob7)] j else qn [(0, qob0), (1, qob1), (2, qob2), (3, qob3), (4, qob4), (5, qob5), (6, qob6), (7, qob7)] j s) (v0Hs.2.1 i) 8)))))) = vp_cell (G 5) (8, .inr (.inr (.inr (.inr (va_up (va_up (va_up (va_up (va_up (va_up (va_up (va_up (fun _ => none) (0 : Int32).toNatClampNeg (some ob0)) (1 : Int32).toNatClampNeg (some ob1)) (2 : Int32).toNatClampNeg (some ob2)) (3 : Int32).toNatClampNeg (some ob3)) (4 : Int32).toNatClampNeg (some ob4)) (5 : Int32).toNatClampNeg (some ob5)) (6 : Int32).toNatClampNeg (some ob6)) (7 : Int32).toNatClampNeg (some ob7)))))) from arrV_ext (fun j hj => (hs_fun j hj).symm)]
    exact h1
  · exact key x hx
set_option maxRecDepth 20000 in
theorem ct_X1_init {l : Launch} {D : va_G} {G : Nat → ClassId} {h : Nat} : CM XW l yX1_init wsX1_init rm_X1_init D G [.ref h] [[(h, .inr (1, [.null, .int 0]))]] 73 760 (po_X1_init G h) :=
  CM.ofI pn_RX1 rfl rfl (Nat.le_of_ble_eq_true rfl) rfl rfl (fun C F E hI => by
    refine gw_aload_n F dX1_init_0 0 rfl ?_
    refine gw_objInit F wd_X1_init_0 wd_X1_init_1 wd_X1_init_2 (Nat.le_of_ble_eq_true rfl) (Nat.le_of_ble_eq_true rfl) dX1_init_1 ?_
    refine gw_aload_n F dX1_init_4 0 rfl ?_
    refine gw_bipush (v := (8 : Int32)) F dX1_init_5 ic_bipush_8 ?_
    refine gw_newqX (N' := 8) F wd_X1_init_3 (List.mem_of_getElem? (i := 9) rfl) (by decide) (by decide) (Nat.le_of_ble_eq_true rfl) (Nat.le_of_ble_eq_true rfl) (Nat.le_of_ble_eq_true rfl) dX1_init_7 (fun rr => ?_)
    change GW C 1 8 [[(h, .inr (1, [.null, .int 0]))], [(rr, .inl (G 5, 8, .inr (.inr (.inr (.inr (fun _ => none))))))]] 10 _ _
    refine gw_putF (bs' := [[(h, .inr (1, [.ref rr, .int 0]))], [(rr, .inl (G 5, 8, .inr (.inr (.inr (.inr (fun _ => none))))))]]) F hI in_X1_init_RX1 tyX1 tyX1_ok nmX1 0 rfl rfl 0 (by decide) lk_X1_init_11 rfl rfl rfl rfl (Nat.le_of_ble_eq_true rfl) dX1_init_10 rfl ?_
    refine gw_aload_n F dX1_init_13 0 rfl ?_
    refine gw_iconst (v := (0 : Int32)) F dX1_init_14 ic_iconst_0 ?_
    refine gw_put (bs' := [[(h, .inr (1, [.ref rr, .int (0 : Int32)]))], [(rr, .inl (G 5, 8, .inr (.inr (.inr (.inr (fun _ => none))))))]]) F in_X1_init_RX1 tyX1 tyX1_ok nmX1 0 rfl rfl 1 (by decide) lk_X1_init_17 rfl rfl rfl (Nat.le_of_ble_eq_true rfl) dX1_init_15 rfl ?_
    refine gw_iconst (v := (0 : Int32)) F dX1_init_18 ic_iconst_0 ?_
    refine gw_istore_n (lv' := [(1, .int (0 : Int32)), (0, .ref h)]) F dX1_init_19 (by decide) rfl ?_
    refine gw_iload_n F dX1_init_20 0 rfl ?_
    refine gw_bipush (v := (8 : Int32)) F dX1_init_21 ic_bipush_8 ?_
    refine gw_icmp_ge (tgt := 45) F dX1_init_23 (by decide) (fun c => absurd c (by decide)) (fun _ => ?_)
    refine gw_aload_n F dX1_init_26 1 rfl ?_
    refine gw_get F in_X1_init_RX1 0 rfl rfl 0 (by decide) lk_X1_init_11 rfl dX1_init_27 ?_
    refine gw_iload_n F dX1_init_30 0 rfl ?_
    refine gw_new (fs := [.null, .null, .null, .null, .null, .null, .null, .null, .int 0, .int 0, .int 0, .int 0, .int 0, .int 0]) F in_X1_init_RX3 tyX3 tyX3_ok wd_X1_init_6 wd_X1_init_7 wd_X1_init_8 (ci := 3) rfl dfX3 (Nat.le_of_ble_eq_true rfl) (Nat.le_of_ble_eq_true rfl) dX1_init_31 (fun ob0 => ?_)
    change GW C 2 22 [[(h, .inr (1, [.ref rr, .int (0 : Int32)]))], [(rr, .inl (G 5, 8, .inr (.inr (.inr (.inr (fun _ => none))))))], [(ob0, .inr (3, [.null, .null, .null, .null, .null, .null, .null, .null, .int 0, .int 0, .int 0, .int 0, .int 0, .int 0]))]] 34 _ _
    refine gw_dup F dX1_init_34 rfl ?_
    refine gw_callIN (host := RX7) F ct_X3_init 0 gX1_init_X3_init_n21 (List.mem_of_getElem? (i := 1) rfl) wd_X1_init_8 wd_X1_init_9 rfl rfl rfl rfl hd_X3_init ⟨(Nat.le_of_ble_eq_true rfl), (Nat.le_of_ble_eq_true rfl)⟩ rfl rfl (Nat.le_of_ble_eq_true rfl) ⟨(Nat.le_of_ble_eq_true rfl), (Nat.le_of_ble_eq_true rfl)⟩ [0, 1, 2] (bsr := [[(h, .inr (1, [.ref rr, .int (0 : Int32)]))], [(rr, .inl (G 5, 8, .inr (.inr (.inr (.inr (fun _ => none))))))]]) rfl rfl dX1_init_35 ?_
    rintro _ _ ⟨rfl, qob0, rfl⟩
    change GW C 10 102 [[(h, .inr (1, [.ref rr, .int (0 : Int32)]))], [(rr, .inl (G 5, 8, .inr (.inr (.inr (.inr (fun _ => none))))))], bLg G ob0 qob0 v0Lg] 38 _ _
    refine gw_astq (bs' := [[(h, .inr (1, [.ref rr, .int (0 : Int32)]))], [(rr, .inl (G 5, 8, .inr (.inr (.inr (.inr (va_up (fun _ => none) (0 : Int32).toNatClampNeg (some ob0)))))))], bLg G ob0 qob0 v0Lg]) F 1 2 rfl rfl (by unfold vp_in; decide) dX1_init_38 rfl ?_
    refine gw_iinc (v := (1 : Int32)) (lv' := [(1, .int (1 : Int32)), (0, .ref h)]) F dX1_init_39 0 rfl (by decide) (by decide) rfl ?_
    refine gw_goto (tgt := 20) F dX1_init_42 (by decide) ?_
    refine gw_iload_n F dX1_init_20 0 rfl ?_
    refine gw_bipush (v := (8 : Int32)) F dX1_init_21 ic_bipush_8 ?_
    refine gw_icmp_ge (tgt := 45) F dX1_init_23 (by decide) (fun c => absurd c (by decide)) (fun _ => ?_)
    refine gw_aload_n F dX1_init_26 1 rfl ?_
    refine gw_get F in_X1_init_RX1 0 rfl rfl 0 (by decide) lk_X1_init_11 rfl dX1_init_27 ?_
    refine gw_iload_n F dX1_init_30 0 rfl ?_
    refine gw_new (fs := [.null, .null, .null, .null, .null, .null, .null, .null, .int 0, .int 0, .int 0, .int 0, .int 0, .int 0]) F in_X1_init_RX3 tyX3 tyX3_ok wd_X1_init_6 wd_X1_init_7 wd_X1_init_8 (ci := 3) rfl dfX3 (Nat.le_of_ble_eq_true rfl) (Nat.le_of_ble_eq_true rfl) dX1_init_31 (fun ob1 => ?_)
    change GW C 11 116 [[(h, .inr (1, [.ref rr, .int (0 : Int32)]))], [(rr, .inl (G 5, 8, .inr (.inr (.inr (.inr (va_up (fun _ => none) (0 : Int32).toNatClampNeg (some ob0)))))))], bLg G ob0 qob0 v0Lg, [(ob1, .inr (3, [.null, .null, .null, .null, .null, .null, .null, .null, .int 0, .int 0, .int 0, .int 0, .int 0, .int 0]))]] 34 _ _
    refine gw_dup F dX1_init_34 rfl ?_
    refine gw_callIN (host := RX7) F ct_X3_init 0 gX1_init_X3_init_n21 (List.mem_of_getElem? (i := 1) rfl) wd_X1_init_8 wd_X1_init_9 rfl rfl rfl rfl hd_X3_init ⟨(Nat.le_of_ble_eq_true rfl), (Nat.le_of_ble_eq_true rfl)⟩ rfl rfl (Nat.le_of_ble_eq_true rfl) ⟨(Nat.le_of_ble_eq_true rfl), (Nat.le_of_ble_eq_true rfl)⟩ [0, 1, 2, 3] (bsr := [[(h, .inr (1, [.ref rr, .int (0 : Int32)]))], [(rr, .inl (G 5, 8, .inr (.inr (.inr (.inr (va_up (fun _ => none) (0 : Int32).toNatClampNeg (some ob0)))))))], bLg G ob0 qob0 v0Lg]) rfl rfl dX1_init_35 ?_
    rintro _ _ ⟨rfl, qob1, rfl⟩
    change GW C 19 196 [[(h, .inr (1, [.ref rr, .int (0 : Int32)]))], [(rr, .inl (G 5, 8, .inr (.inr (.inr (.inr (va_up (fun _ => none) (0 : Int32).toNatClampNeg (some ob0)))))))], bLg G ob0 qob0 v0Lg, bLg G ob1 qob1 v0Lg] 38 _ _
    refine gw_astq (bs' := [[(h, .inr (1, [.ref rr, .int (0 : Int32)]))], [(rr, .inl (G 5, 8, .inr (.inr (.inr (.inr (va_up (va_up (fun _ => none) (0 : Int32).toNatClampNeg (some ob0)) (1 : Int32).toNatClampNeg (some ob1)))))))], bLg G ob0 qob0 v0Lg, bLg G ob1 qob1 v0Lg]) F 1 11 rfl rfl (by unfold vp_in; decide) dX1_init_38 rfl ?_
    refine gw_iinc (v := (2 : Int32)) (lv' := [(1, .int (2 : Int32)), (0, .ref h)]) F dX1_init_39 0 rfl (by decide) (by decide) rfl ?_
    refine gw_goto (tgt := 20) F dX1_init_42 (by decide) ?_
    refine gw_iload_n F dX1_init_20 0 rfl ?_
    refine gw_bipush (v := (8 : Int32)) F dX1_init_21 ic_bipush_8 ?_
    refine gw_icmp_ge (tgt := 45) F dX1_init_23 (by decide) (fun c => absurd c (by decide)) (fun _ => ?_)
    refine gw_aload_n F dX1_init_26 1 rfl ?_
    refine gw_get F in_X1_init_RX1 0 rfl rfl 0 (by decide) lk_X1_init_11 rfl dX1_init_27 ?_
    refine gw_iload_n F dX1_init_30 0 rfl ?_
    refine gw_new (fs := [.null, .null, .null, .null, .null, .null, .null, .null, .int 0, .int 0, .int 0, .int 0, .int 0, .int 0]) F in_X1_init_RX3 tyX3 tyX3_ok wd_X1_init_6 wd_X1_init_7 wd_X1_init_8 (ci := 3) rfl dfX3 (Nat.le_of_ble_eq_true rfl) (Nat.le_of_ble_eq_true rfl) dX1_init_31 (fun ob2 => ?_)
    change GW C 20 210 [[(h, .inr (1, [.ref rr, .int (0 : Int32)]))], [(rr, .inl (G 5, 8, .inr (.inr (.inr (.inr (va_up (va_up (fun _ => none) (0 : Int32).toNatClampNeg (some ob0)) (1 : Int32).toNatClampNeg (some ob1)))))))], bLg G ob0 qob0 v0Lg, bLg G ob1 qob1 v0Lg, [(ob2, .inr (3, [.null, .null, .null, .null, .null, .null, .null, .null, .int 0, .int 0, .int 0, .int 0, .int 0, .int 0]))]] 34 _ _
    refine gw_dup F dX1_init_34 rfl ?_
    refine gw_callIN (host := RX7) F ct_X3_init 0 gX1_init_X3_init_n21 (List.mem_of_getElem? (i := 1) rfl) wd_X1_init_8 wd_X1_init_9 rfl rfl rfl rfl hd_X3_init ⟨(Nat.le_of_ble_eq_true rfl), (Nat.le_of_ble_eq_true rfl)⟩ rfl rfl (Nat.le_of_ble_eq_true rfl) ⟨(Nat.le_of_ble_eq_true rfl), (Nat.le_of_ble_eq_true rfl)⟩ [0, 1, 2, 3, 4] (bsr := [[(h, .inr (1, [.ref rr, .int (0 : Int32)]))], [(rr, .inl (G 5, 8, .inr (.inr (.inr (.inr (va_up (va_up (fun _ => none) (0 : Int32).toNatClampNeg (some ob0)) (1 : Int32).toNatClampNeg (some ob1)))))))], bLg G ob0 qob0 v0Lg, bLg G ob1 qob1 v0Lg]) rfl rfl dX1_init_35 ?_
    rintro _ _ ⟨rfl, qob2, rfl⟩
    change GW C 28 290 [[(h, .inr (1, [.ref rr, .int (0 : Int32)]))], [(rr, .inl (G 5, 8, .inr (.inr (.inr (.inr (va_up (va_up (fun _ => none) (0 : Int32).toNatClampNeg (some ob0)) (1 : Int32).toNatClampNeg (some ob1)))))))], bLg G ob0 qob0 v0Lg, bLg G ob1 qob1 v0Lg, bLg G ob2 qob2 v0Lg] 38 _ _
    refine gw_astq (bs' := [[(h, .inr (1, [.ref rr, .int (0 : Int32)]))], [(rr, .inl (G 5, 8, .inr (.inr (.inr (.inr (va_up (va_up (va_up (fun _ => none) (0 : Int32).toNatClampNeg (some ob0)) (1 : Int32).toNatClampNeg (some ob1)) (2 : Int32).toNatClampNeg (some ob2)))))))], bLg G ob0 qob0 v0Lg, bLg G ob1 qob1 v0Lg, bLg G ob2 qob2 v0Lg]) F 1 20 rfl rfl (by unfold vp_in; decide) dX1_init_38 rfl ?_
    refine gw_iinc (v := (3 : Int32)) (lv' := [(1, .int (3 : Int32)), (0, .ref h)]) F dX1_init_39 0 rfl (by decide) (by decide) rfl ?_
    refine gw_goto (tgt := 20) F dX1_init_42 (by decide) ?_
    refine gw_iload_n F dX1_init_20 0 rfl ?_
    refine gw_bipush (v := (8 : Int32)) F dX1_init_21 ic_bipush_8 ?_
    refine gw_icmp_ge (tgt := 45) F dX1_init_23 (by decide) (fun c => absurd c (by decide)) (fun _ => ?_)
    refine gw_aload_n F dX1_init_26 1 rfl ?_
    refine gw_get F in_X1_init_RX1 0 rfl rfl 0 (by decide) lk_X1_init_11 rfl dX1_init_27 ?_
    refine gw_iload_n F dX1_init_30 0 rfl ?_
    refine gw_new (fs := [.null, .null, .null, .null, .null, .null, .null, .null, .int 0, .int 0, .int 0, .int 0, .int 0, .int 0]) F in_X1_init_RX3 tyX3 tyX3_ok wd_X1_init_6 wd_X1_init_7 wd_X1_init_8 (ci := 3) rfl dfX3 (Nat.le_of_ble_eq_true rfl) (Nat.le_of_ble_eq_true rfl) dX1_init_31 (fun ob3 => ?_)
    change GW C 29 304 [[(h, .inr (1, [.ref rr, .int (0 : Int32)]))], [(rr, .inl (G 5, 8, .inr (.inr (.inr (.inr (va_up (va_up (va_up (fun _ => none) (0 : Int32).toNatClampNeg (some ob0)) (1 : Int32).toNatClampNeg (some ob1)) (2 : Int32).toNatClampNeg (some ob2)))))))], bLg G ob0 qob0 v0Lg, bLg G ob1 qob1 v0Lg, bLg G ob2 qob2 v0Lg, [(ob3, .inr (3, [.null, .null, .null, .null, .null, .null, .null, .null, .int 0, .int 0, .int 0, .int 0, .int 0, .int 0]))]] 34 _ _
    refine gw_dup F dX1_init_34 rfl ?_
    refine gw_callIN (host := RX7) F ct_X3_init 0 gX1_init_X3_init_n21 (List.mem_of_getElem? (i := 1) rfl) wd_X1_init_8 wd_X1_init_9 rfl rfl rfl rfl hd_X3_init ⟨(Nat.le_of_ble_eq_true rfl), (Nat.le_of_ble_eq_true rfl)⟩ rfl rfl (Nat.le_of_ble_eq_true rfl) ⟨(Nat.le_of_ble_eq_true rfl), (Nat.le_of_ble_eq_true rfl)⟩ [0, 1, 2, 3, 4, 5] (bsr := [[(h, .inr (1, [.ref rr, .int (0 : Int32)]))], [(rr, .inl (G 5, 8, .inr (.inr (.inr (.inr (va_up (va_up (va_up (fun _ => none) (0 : Int32).toNatClampNeg (some ob0)) (1 : Int32).toNatClampNeg (some ob1)) (2 : Int32).toNatClampNeg (some ob2)))))))], bLg G ob0 qob0 v0Lg, bLg G ob1 qob1 v0Lg, bLg G ob2 qob2 v0Lg]) rfl rfl dX1_init_35 ?_
    rintro _ _ ⟨rfl, qob3, rfl⟩
    change GW C 37 384 [[(h, .inr (1, [.ref rr, .int (0 : Int32)]))], [(rr, .inl (G 5, 8, .inr (.inr (.inr (.inr (va_up (va_up (va_up (fun _ => none) (0 : Int32).toNatClampNeg (some ob0)) (1 : Int32).toNatClampNeg (some ob1)) (2 : Int32).toNatClampNeg (some ob2)))))))], bLg G ob0 qob0 v0Lg, bLg G ob1 qob1 v0Lg, bLg G ob2 qob2 v0Lg, bLg G ob3 qob3 v0Lg] 38 _ _
    refine gw_astq (bs' := [[(h, .inr (1, [.ref rr, .int (0 : Int32)]))], [(rr, .inl (G 5, 8, .inr (.inr (.inr (.inr (va_up (va_up (va_up (va_up (fun _ => none) (0 : Int32).toNatClampNeg (some ob0)) (1 : Int32).toNatClampNeg (some ob1)) (2 : Int32).toNatClampNeg (some ob2)) (3 : Int32).toNatClampNeg (some ob3)))))))], bLg G ob0 qob0 v0Lg, bLg G ob1 qob1 v0Lg, bLg G ob2 qob2 v0Lg, bLg G ob3 qob3 v0Lg]) F 1 29 rfl rfl (by unfold vp_in; decide) dX1_init_38 rfl ?_
    refine gw_iinc (v := (4 : Int32)) (lv' := [(1, .int (4 : Int32)), (0, .ref h)]) F dX1_init_39 0 rfl (by decide) (by decide) rfl ?_
    refine gw_goto (tgt := 20) F dX1_init_42 (by decide) ?_
    refine gw_iload_n F dX1_init_20 0 rfl ?_
    refine gw_bipush (v := (8 : Int32)) F dX1_init_21 ic_bipush_8 ?_
    refine gw_icmp_ge (tgt := 45) F dX1_init_23 (by decide) (fun c => absurd c (by decide)) (fun _ => ?_)
    refine gw_aload_n F dX1_init_26 1 rfl ?_
    refine gw_get F in_X1_init_RX1 0 rfl rfl 0 (by decide) lk_X1_init_11 rfl dX1_init_27 ?_
    refine gw_iload_n F dX1_init_30 0 rfl ?_
    refine gw_new (fs := [.null, .null, .null, .null, .null, .null, .null, .null, .int 0, .int 0, .int 0, .int 0, .int 0, .int 0]) F in_X1_init_RX3 tyX3 tyX3_ok wd_X1_init_6 wd_X1_init_7 wd_X1_init_8 (ci := 3) rfl dfX3 (Nat.le_of_ble_eq_true rfl) (Nat.le_of_ble_eq_true rfl) dX1_init_31 (fun ob4 => ?_)
    change GW C 38 398 [[(h, .inr (1, [.ref rr, .int (0 : Int32)]))], [(rr, .inl (G 5, 8, .inr (.inr (.inr (.inr (va_up (va_up (va_up (va_up (fun _ => none) (0 : Int32).toNatClampNeg (some ob0)) (1 : Int32).toNatClampNeg (some ob1)) (2 : Int32).toNatClampNeg (some ob2)) (3 : Int32).toNatClampNeg (some ob3)))))))], bLg G ob0 qob0 v0Lg, bLg G ob1 qob1 v0Lg, bLg G ob2 qob2 v0Lg, bLg G ob3 qob3 v0Lg, [(ob4, .inr (3, [.null, .null, .null, .null, .null, .null, .null, .null, .int 0, .int 0, .int 0, .int 0, .int 0, .int 0]))]] 34 _ _
    refine gw_dup F dX1_init_34 rfl ?_
    refine gw_callIN (host := RX7) F ct_X3_init 0 gX1_init_X3_init_n21 (List.mem_of_getElem? (i := 1) rfl) wd_X1_init_8 wd_X1_init_9 rfl rfl rfl rfl hd_X3_init ⟨(Nat.le_of_ble_eq_true rfl), (Nat.le_of_ble_eq_true rfl)⟩ rfl rfl (Nat.le_of_ble_eq_true rfl) ⟨(Nat.le_of_ble_eq_true rfl), (Nat.le_of_ble_eq_true rfl)⟩ [0, 1, 2, 3, 4, 5, 6] (bsr := [[(h, .inr (1, [.ref rr, .int (0 : Int32)]))], [(rr, .inl (G 5, 8, .inr (.inr (.inr (.inr (va_up (va_up (va_up (va_up (fun _ => none) (0 : Int32).toNatClampNeg (some ob0)) (1 : Int32).toNatClampNeg (some ob1)) (2 : Int32).toNatClampNeg (some ob2)) (3 : Int32).toNatClampNeg (some ob3)))))))], bLg G ob0 qob0 v0Lg, bLg G ob1 qob1 v0Lg, bLg G ob2 qob2 v0Lg, bLg G ob3 qob3 v0Lg]) rfl rfl dX1_init_35 ?_
    rintro _ _ ⟨rfl, qob4, rfl⟩
    change GW C 46 478 [[(h, .inr (1, [.ref rr, .int (0 : Int32)]))], [(rr, .inl (G 5, 8, .inr (.inr (.inr (.inr (va_up (va_up (va_up (va_up (fun _ => none) (0 : Int32).toNatClampNeg (some ob0)) (1 : Int32).toNatClampNeg (some ob1)) (2 : Int32).toNatClampNeg (some ob2)) (3 : Int32).toNatClampNeg (some ob3)))))))], bLg G ob0 qob0 v0Lg, bLg G ob1 qob1 v0Lg, bLg G ob2 qob2 v0Lg, bLg G ob3 qob3 v0Lg, bLg G ob4 qob4 v0Lg] 38 _ _
    refine gw_astq (bs' := [[(h, .inr (1, [.ref rr, .int (0 : Int32)]))], [(rr, .inl (G 5, 8, .inr (.inr (.inr (.inr (va_up (va_up (va_up (va_up (va_up (fun _ => none) (0 : Int32).toNatClampNeg (some ob0)) (1 : Int32).toNatClampNeg (some ob1)) (2 : Int32).toNatClampNeg (some ob2)) (3 : Int32).toNatClampNeg (some ob3)) (4 : Int32).toNatClampNeg (some ob4)))))))], bLg G ob0 qob0 v0Lg, bLg G ob1 qob1 v0Lg, bLg G ob2 qob2 v0Lg, bLg G ob3 qob3 v0Lg, bLg G ob4 qob4 v0Lg]) F 1 38 rfl rfl (by unfold vp_in; decide) dX1_init_38 rfl ?_
    refine gw_iinc (v := (5 : Int32)) (lv' := [(1, .int (5 : Int32)), (0, .ref h)]) F dX1_init_39 0 rfl (by decide) (by decide) rfl ?_
    refine gw_goto (tgt := 20) F dX1_init_42 (by decide) ?_
    refine gw_iload_n F dX1_init_20 0 rfl ?_
    refine gw_bipush (v := (8 : Int32)) F dX1_init_21 ic_bipush_8 ?_
    refine gw_icmp_ge (tgt := 45) F dX1_init_23 (by decide) (fun c => absurd c (by decide)) (fun _ => ?_)
    refine gw_aload_n F dX1_init_26 1 rfl ?_
    refine gw_get F in_X1_init_RX1 0 rfl rfl 0 (by decide) lk_X1_init_11 rfl dX1_init_27 ?_
    refine gw_iload_n F dX1_init_30 0 rfl ?_
    refine gw_new (fs := [.null, .null, .null, .null, .null, .null, .null, .null, .int 0, .int 0, .int 0, .int 0, .int 0, .int 0]) F in_X1_init_RX3 tyX3 tyX3_ok wd_X1_init_6 wd_X1_init_7 wd_X1_init_8 (ci := 3) rfl dfX3 (Nat.le_of_ble_eq_true rfl) (Nat.le_of_ble_eq_true rfl) dX1_init_31 (fun ob5 => ?_)
    change GW C 47 492 [[(h, .inr (1, [.ref rr, .int (0 : Int32)]))], [(rr, .inl (G 5, 8, .inr (.inr (.inr (.inr (va_up (va_up (va_up (va_up (va_up (fun _ => none) (0 : Int32).toNatClampNeg (some ob0)) (1 : Int32).toNatClampNeg (some ob1)) (2 : Int32).toNatClampNeg (some ob2)) (3 : Int32).toNatClampNeg (some ob3)) (4 : Int32).toNatClampNeg (some ob4)))))))], bLg G ob0 qob0 v0Lg, bLg G ob1 qob1 v0Lg, bLg G ob2 qob2 v0Lg, bLg G ob3 qob3 v0Lg, bLg G ob4 qob4 v0Lg, [(ob5, .inr (3, [.null, .null, .null, .null, .null, .null, .null, .null, .int 0, .int 0, .int 0, .int 0, .int 0, .int 0]))]] 34 _ _
    refine gw_dup F dX1_init_34 rfl ?_
    refine gw_callIN (host := RX7) F ct_X3_init 0 gX1_init_X3_init_n21 (List.mem_of_getElem? (i := 1) rfl) wd_X1_init_8 wd_X1_init_9 rfl rfl rfl rfl hd_X3_init ⟨(Nat.le_of_ble_eq_true rfl), (Nat.le_of_ble_eq_true rfl)⟩ rfl rfl (Nat.le_of_ble_eq_true rfl) ⟨(Nat.le_of_ble_eq_true rfl), (Nat.le_of_ble_eq_true rfl)⟩ [0, 1, 2, 3, 4, 5, 6, 7] (bsr := [[(h, .inr (1, [.ref rr, .int (0 : Int32)]))], [(rr, .inl (G 5, 8, .inr (.inr (.inr (.inr (va_up (va_up (va_up (va_up (va_up (fun _ => none) (0 : Int32).toNatClampNeg (some ob0)) (1 : Int32).toNatClampNeg (some ob1)) (2 : Int32).toNatClampNeg (some ob2)) (3 : Int32).toNatClampNeg (some ob3)) (4 : Int32).toNatClampNeg (some ob4)))))))], bLg G ob0 qob0 v0Lg, bLg G ob1 qob1 v0Lg, bLg G ob2 qob2 v0Lg, bLg G ob3 qob3 v0Lg, bLg G ob4 qob4 v0Lg]) rfl rfl dX1_init_35 ?_
    rintro _ _ ⟨rfl, qob5, rfl⟩
    change GW C 55 572 [[(h, .inr (1, [.ref rr, .int (0 : Int32)]))], [(rr, .inl (G 5, 8, .inr (.inr (.inr (.inr (va_up (va_up (va_up (va_up (va_up (fun _ => none) (0 : Int32).toNatClampNeg (some ob0)) (1 : Int32).toNatClampNeg (some ob1)) (2 : Int32).toNatClampNeg (some ob2)) (3 : Int32).toNatClampNeg (some ob3)) (4 : Int32).toNatClampNeg (some ob4)))))))], bLg G ob0 qob0 v0Lg, bLg G ob1 qob1 v0Lg, bLg G ob2 qob2 v0Lg, bLg G ob3 qob3 v0Lg, bLg G ob4 qob4 v0Lg, bLg G ob5 qob5 v0Lg] 38 _ _
    refine gw_astq (bs' := [[(h, .inr (1, [.ref rr, .int (0 : Int32)]))], [(rr, .inl (G 5, 8, .inr (.inr (.inr (.inr (va_up (va_up (va_up (va_up (va_up (va_up (fun _ => none) (0 : Int32).toNatClampNeg (some ob0)) (1 : Int32).toNatClampNeg (some ob1)) (2 : Int32).toNatClampNeg (some ob2)) (3 : Int32).toNatClampNeg (some ob3)) (4 : Int32).toNatClampNeg (some ob4)) (5 : Int32).toNatClampNeg (some ob5)))))))], bLg G ob0 qob0 v0Lg, bLg G ob1 qob1 v0Lg, bLg G ob2 qob2 v0Lg, bLg G ob3 qob3 v0Lg, bLg G ob4 qob4 v0Lg, bLg G ob5 qob5 v0Lg]) F 1 47 rfl rfl (by unfold vp_in; decide) dX1_init_38 rfl ?_
    refine gw_iinc (v := (6 : Int32)) (lv' := [(1, .int (6 : Int32)), (0, .ref h)]) F dX1_init_39 0 rfl (by decide) (by decide) rfl ?_
    refine gw_goto (tgt := 20) F dX1_init_42 (by decide) ?_
    refine gw_iload_n F dX1_init_20 0 rfl ?_
    refine gw_bipush (v := (8 : Int32)) F dX1_init_21 ic_bipush_8 ?_
    refine gw_icmp_ge (tgt := 45) F dX1_init_23 (by decide) (fun c => absurd c (by decide)) (fun _ => ?_)
    refine gw_aload_n F dX1_init_26 1 rfl ?_
    refine gw_get F in_X1_init_RX1 0 rfl rfl 0 (by decide) lk_X1_init_11 rfl dX1_init_27 ?_
    refine gw_iload_n F dX1_init_30 0 rfl ?_
    refine gw_new (fs := [.null, .null, .null, .null, .null, .null, .null, .null, .int 0, .int 0, .int 0, .int 0, .int 0, .int 0]) F in_X1_init_RX3 tyX3 tyX3_ok wd_X1_init_6 wd_X1_init_7 wd_X1_init_8 (ci := 3) rfl dfX3 (Nat.le_of_ble_eq_true rfl) (Nat.le_of_ble_eq_true rfl) dX1_init_31 (fun ob6 => ?_)
    change GW C 56 586 [[(h, .inr (1, [.ref rr, .int (0 : Int32)]))], [(rr, .inl (G 5, 8, .inr (.inr (.inr (.inr (va_up (va_up (va_up (va_up (va_up (va_up (fun _ => none) (0 : Int32).toNatClampNeg (some ob0)) (1 : Int32).toNatClampNeg (some ob1)) (2 : Int32).toNatClampNeg (some ob2)) (3 : Int32).toNatClampNeg (some ob3)) (4 : Int32).toNatClampNeg (some ob4)) (5 : Int32).toNatClampNeg (some ob5)))))))], bLg G ob0 qob0 v0Lg, bLg G ob1 qob1 v0Lg, bLg G ob2 qob2 v0Lg, bLg G ob3 qob3 v0Lg, bLg G ob4 qob4 v0Lg, bLg G ob5 qob5 v0Lg, [(ob6, .inr (3, [.null, .null, .null, .null, .null, .null, .null, .null, .int 0, .int 0, .int 0, .int 0, .int 0, .int 0]))]] 34 _ _
    refine gw_dup F dX1_init_34 rfl ?_
    refine gw_callIN (host := RX7) F ct_X3_init 0 gX1_init_X3_init_n21 (List.mem_of_getElem? (i := 1) rfl) wd_X1_init_8 wd_X1_init_9 rfl rfl rfl rfl hd_X3_init ⟨(Nat.le_of_ble_eq_true rfl), (Nat.le_of_ble_eq_true rfl)⟩ rfl rfl (Nat.le_of_ble_eq_true rfl) ⟨(Nat.le_of_ble_eq_true rfl), (Nat.le_of_ble_eq_true rfl)⟩ [0, 1, 2, 3, 4, 5, 6, 7, 8] (bsr := [[(h, .inr (1, [.ref rr, .int (0 : Int32)]))], [(rr, .inl (G 5, 8, .inr (.inr (.inr (.inr (va_up (va_up (va_up (va_up (va_up (va_up (fun _ => none) (0 : Int32).toNatClampNeg (some ob0)) (1 : Int32).toNatClampNeg (some ob1)) (2 : Int32).toNatClampNeg (some ob2)) (3 : Int32).toNatClampNeg (some ob3)) (4 : Int32).toNatClampNeg (some ob4)) (5 : Int32).toNatClampNeg (some ob5)))))))], bLg G ob0 qob0 v0Lg, bLg G ob1 qob1 v0Lg, bLg G ob2 qob2 v0Lg, bLg G ob3 qob3 v0Lg, bLg G ob4 qob4 v0Lg, bLg G ob5 qob5 v0Lg]) rfl rfl dX1_init_35 ?_
    rintro _ _ ⟨rfl, qob6, rfl⟩
    change GW C 64 666 [[(h, .inr (1, [.ref rr, .int (0 : Int32)]))], [(rr, .inl (G 5, 8, .inr (.inr (.inr (.inr (va_up (va_up (va_up (va_up (va_up (va_up (fun _ => none) (0 : Int32).toNatClampNeg (some ob0)) (1 : Int32).toNatClampNeg (some ob1)) (2 : Int32).toNatClampNeg (some ob2)) (3 : Int32).toNatClampNeg (some ob3)) (4 : Int32).toNatClampNeg (some ob4)) (5 : Int32).toNatClampNeg (some ob5)))))))], bLg G ob0 qob0 v0Lg, bLg G ob1 qob1 v0Lg, bLg G ob2 qob2 v0Lg, bLg G ob3 qob3 v0Lg, bLg G ob4 qob4 v0Lg, bLg G ob5 qob5 v0Lg, bLg G ob6 qob6 v0Lg] 38 _ _
    refine gw_astq (bs' := [[(h, .inr (1, [.ref rr, .int (0 : Int32)]))], [(rr, .inl (G 5, 8, .inr (.inr (.inr (.inr (va_up (va_up (va_up (va_up (va_up (va_up (va_up (fun _ => none) (0 : Int32).toNatClampNeg (some ob0)) (1 : Int32).toNatClampNeg (some ob1)) (2 : Int32).toNatClampNeg (some ob2)) (3 : Int32).toNatClampNeg (some ob3)) (4 : Int32).toNatClampNeg (some ob4)) (5 : Int32).toNatClampNeg (some ob5)) (6 : Int32).toNatClampNeg (some ob6)))))))], bLg G ob0 qob0 v0Lg, bLg G ob1 qob1 v0Lg, bLg G ob2 qob2 v0Lg, bLg G ob3 qob3 v0Lg, bLg G ob4 qob4 v0Lg, bLg G ob5 qob5 v0Lg, bLg G ob6 qob6 v0Lg]) F 1 56 rfl rfl (by unfold vp_in; decide) dX1_init_38 rfl ?_
    refine gw_iinc (v := (7 : Int32)) (lv' := [(1, .int (7 : Int32)), (0, .ref h)]) F dX1_init_39 0 rfl (by decide) (by decide) rfl ?_
    refine gw_goto (tgt := 20) F dX1_init_42 (by decide) ?_
    refine gw_iload_n F dX1_init_20 0 rfl ?_
    refine gw_bipush (v := (8 : Int32)) F dX1_init_21 ic_bipush_8 ?_
    refine gw_icmp_ge (tgt := 45) F dX1_init_23 (by decide) (fun c => absurd c (by decide)) (fun _ => ?_)
    refine gw_aload_n F dX1_init_26 1 rfl ?_
    refine gw_get F in_X1_init_RX1 0 rfl rfl 0 (by decide) lk_X1_init_11 rfl dX1_init_27 ?_
    refine gw_iload_n F dX1_init_30 0 rfl ?_
    refine gw_new (fs := [.null, .null, .null, .null, .null, .null, .null, .null, .int 0, .int 0, .int 0, .int 0, .int 0, .int 0]) F in_X1_init_RX3 tyX3 tyX3_ok wd_X1_init_6 wd_X1_init_7 wd_X1_init_8 (ci := 3) rfl dfX3 (Nat.le_of_ble_eq_true rfl) (Nat.le_of_ble_eq_true rfl) dX1_init_31 (fun ob7 => ?_)
    change GW C 65 680 [[(h, .inr (1, [.ref rr, .int (0 : Int32)]))], [(rr, .inl (G 5, 8, .inr (.inr (.inr (.inr (va_up (va_up (va_up (va_up (va_up (va_up (va_up (fun _ => none) (0 : Int32).toNatClampNeg (some ob0)) (1 : Int32).toNatClampNeg (some ob1)) (2 : Int32).toNatClampNeg (some ob2)) (3 : Int32).toNatClampNeg (some ob3)) (4 : Int32).toNatClampNeg (some ob4)) (5 : Int32).toNatClampNeg (some ob5)) (6 : Int32).toNatClampNeg (some ob6)))))))], bLg G ob0 qob0 v0Lg, bLg G ob1 qob1 v0Lg, bLg G ob2 qob2 v0Lg, bLg G ob3 qob3 v0Lg, bLg G ob4 qob4 v0Lg, bLg G ob5 qob5 v0Lg, bLg G ob6 qob6 v0Lg, [(ob7, .inr (3, [.null, .null, .null, .null, .null, .null, .null, .null, .int 0, .int 0, .int 0, .int 0, .int 0, .int 0]))]] 34 _ _
    refine gw_dup F dX1_init_34 rfl ?_
    refine gw_callIN (host := RX7) F ct_X3_init 0 gX1_init_X3_init_n21 (List.mem_of_getElem? (i := 1) rfl) wd_X1_init_8 wd_X1_init_9 rfl rfl rfl rfl hd_X3_init ⟨(Nat.le_of_ble_eq_true rfl), (Nat.le_of_ble_eq_true rfl)⟩ rfl rfl (Nat.le_of_ble_eq_true rfl) ⟨(Nat.le_of_ble_eq_true rfl), (Nat.le_of_ble_eq_true rfl)⟩ [0, 1, 2, 3, 4, 5, 6, 7, 8, 9] (bsr := [[(h, .inr (1, [.ref rr, .int (0 : Int32)]))], [(rr, .inl (G 5, 8, .inr (.inr (.inr (.inr (va_up (va_up (va_up (va_up (va_up (va_up (va_up (fun _ => none) (0 : Int32).toNatClampNeg (some ob0)) (1 : Int32).toNatClampNeg (some ob1)) (2 : Int32).toNatClampNeg (some ob2)) (3 : Int32).toNatClampNeg (some ob3)) (4 : Int32).toNatClampNeg (some ob4)) (5 : Int32).toNatClampNeg (some ob5)) (6 : Int32).toNatClampNeg (some ob6)))))))], bLg G ob0 qob0 v0Lg, bLg G ob1 qob1 v0Lg, bLg G ob2 qob2 v0Lg, bLg G ob3 qob3 v0Lg, bLg G ob4 qob4 v0Lg, bLg G ob5 qob5 v0Lg, bLg G ob6 qob6 v0Lg]) rfl rfl dX1_init_35 ?_
    rintro _ _ ⟨rfl, qob7, rfl⟩
    change GW C 73 760 [[(h, .inr (1, [.ref rr, .int (0 : Int32)]))], [(rr, .inl (G 5, 8, .inr (.inr (.inr (.inr (va_up (va_up (va_up (va_up (va_up (va_up (va_up (fun _ => none) (0 : Int32).toNatClampNeg (some ob0)) (1 : Int32).toNatClampNeg (some ob1)) (2 : Int32).toNatClampNeg (some ob2)) (3 : Int32).toNatClampNeg (some ob3)) (4 : Int32).toNatClampNeg (some ob4)) (5 : Int32).toNatClampNeg (some ob5)) (6 : Int32).toNatClampNeg (some ob6)))))))], bLg G ob0 qob0 v0Lg, bLg G ob1 qob1 v0Lg, bLg G ob2 qob2 v0Lg, bLg G ob3 qob3 v0Lg, bLg G ob4 qob4 v0Lg, bLg G ob5 qob5 v0Lg, bLg G ob6 qob6 v0Lg, bLg G ob7 qob7 v0Lg] 38 _ _
    refine gw_astq (bs' := [[(h, .inr (1, [.ref rr, .int (0 : Int32)]))], [(rr, .inl (G 5, 8, .inr (.inr (.inr (.inr (va_up (va_up (va_up (va_up (va_up (va_up (va_up (va_up (fun _ => none) (0 : Int32).toNatClampNeg (some ob0)) (1 : Int32).toNatClampNeg (some ob1)) (2 : Int32).toNatClampNeg (some ob2)) (3 : Int32).toNatClampNeg (some ob3)) (4 : Int32).toNatClampNeg (some ob4)) (5 : Int32).toNatClampNeg (some ob5)) (6 : Int32).toNatClampNeg (some ob6)) (7 : Int32).toNatClampNeg (some ob7)))))))], bLg G ob0 qob0 v0Lg, bLg G ob1 qob1 v0Lg, bLg G ob2 qob2 v0Lg, bLg G ob3 qob3 v0Lg, bLg G ob4 qob4 v0Lg, bLg G ob5 qob5 v0Lg, bLg G ob6 qob6 v0Lg, bLg G ob7 qob7 v0Lg]) F 1 65 rfl rfl (by unfold vp_in; decide) dX1_init_38 rfl ?_
    refine gw_iinc (v := (8 : Int32)) (lv' := [(1, .int (8 : Int32)), (0, .ref h)]) F dX1_init_39 0 rfl (by decide) (by decide) rfl ?_
    refine gw_goto (tgt := 20) F dX1_init_42 (by decide) ?_
    refine gw_iload_n F dX1_init_20 0 rfl ?_
    refine gw_bipush (v := (8 : Int32)) F dX1_init_21 ic_bipush_8 ?_
    refine gw_icmp_ge (tgt := 45) F dX1_init_23 (by decide) (fun _ => ?_) (fun c => absurd (by decide) c)
    refine gw_swap (bs' := HW G h (fun j s => if j = 8 then rr else if s = 8 then qf [(0, ob0), (1, ob1), (2, ob2), (3, ob3), (4, ob4), (5, ob5), (6, ob6), (7, ob7)] j else qn [(0, qob0), (1, qob1), (2, qob2), (3, qob3), (4, qob4), (5, qob5), (6, qob6), (7, qob7)] j s) v0Hs) rfl (fun D H hP => hs_swap hP) ?_
    exact gw_vret F E rfl (Nat.le_of_ble_eq_true rfl) (Nat.le_of_ble_eq_true rfl) dX1_init_45 ⟨rfl, _, rfl⟩)
def v0KW : OV := (fun _ _ => 0, fun s => if s = 11 then -1 else 0)
theorem dfX7 : ∀ j, j < 12 → defaultValue (tyX7 j) = vp_V [.null, .null, .null, .null, .null, .null, .null, .null, .null, .null, .int 0, .int 0] j := by
  intro j hj
  match j, hj with
  | 0, _ => rfl
  | 1, _ => rfl
  | 2, _ => rfl
  | 3, _ => rfl
  | 4, _ => rfl
  | 5, _ => rfl
  | 6, _ => rfl
  | 7, _ => rfl
  | 8, _ => rfl
  | 9, _ => rfl
  | 10, _ => rfl
  | 11, _ => rfl
  | j + 12, h => exact absurd h (by omega)
theorem hd_X7_init : yX7_init.cls ≠ "java/lang/invoke/MethodHandle" ∧ yX7_init.cls ≠ "java/lang/invoke/VarHandle" ∧ (parseMethodDescriptor yX7_init.desc).map (fun d => d.parameters.length) = some 0 := by decide +kernel
abbrev rm_X7_init : Room := { frames := 3, cells := 121, slots := 1335, locals := 101 }
def po_X7_init (G : Nat → ClassId) (h : Nat) : Option Value → List va_W → Prop := fun o bs => o = none ∧ ∃ (q qLg qLg2 qLg3 qLg4 qWv qPr qRf qTx qLn : Nat → Nat) (qHs : Nat → Nat → Nat), bs = [bKW G h q v0KW, bLg G (q 0) qLg v0Lg, bLg G (q 1) qLg2 v0Lg, bLg G (q 2) qLg3 v0Lg, bLg G (q 3) qLg4 v0Lg, bWv G (q 5) qWv v0Wv, bPr G (q 6) qPr v0Pr, bRf G (q 7) qRf v0Rf, bTx G (q 8) qTx v0Tx, bLn G (q 9) qLn v0Ln, bHo G (q 4) qHs v0Hs, bRo G qHs v0Hs 0, bRo G qHs v0Hs 1, bRo G qHs v0Hs 2, bRo G qHs v0Hs 3, bRo G qHs v0Hs 4, bRo G qHs v0Hs 5, bRo G qHs v0Hs 6, bRo G qHs v0Hs 7]
theorem wd_X7_init_0 : Cond.methodLink RX7 1 Lib.objectInit ∈ wsX7_init := List.mem_cons_of_mem _ (List.mem_append_left _ (List.mem_append_left _ (List.mem_append_left _ (List.mem_append_left _ (List.mem_append_left _ (List.mem_append_left _ (List.mem_append_left _ (List.mem_append_left _ (List.mem_append_left _ (List.mem_of_getElem? (i := 0) rfl))))))))))
theorem wd_X7_init_1 : Cond.instanceMethod Lib.objectInit ∈ wsX7_init := List.mem_cons_of_mem _ (List.mem_append_left _ (List.mem_append_left _ (List.mem_append_left _ (List.mem_append_left _ (List.mem_append_left _ (List.mem_append_left _ (List.mem_append_left _ (List.mem_append_left _ (List.mem_append_left _ (List.mem_of_getElem? (i := 1) rfl))))))))))
theorem wd_X7_init_2 : Cond.code Lib.objectInit ⟨#[0xb1]⟩ 1 none ∈ wsX7_init := List.mem_cons_of_mem _ (List.mem_append_left _ (List.mem_append_left _ (List.mem_append_left _ (List.mem_append_left _ (List.mem_append_left _ (List.mem_append_left _ (List.mem_append_left _ (List.mem_append_left _ (List.mem_append_left _ (List.mem_of_getElem? (i := 2) rfl))))))))))
theorem wd_X7_init_3 : Cond.classLink RX7 7 RX3 ∈ wsX7_init := List.mem_cons_of_mem _ (List.mem_append_left _ (List.mem_append_left _ (List.mem_append_left _ (List.mem_append_left _ (List.mem_append_left _ (List.mem_append_left _ (List.mem_append_left _ (List.mem_append_left _ (List.mem_append_left _ (List.mem_of_getElem? (i := 3) rfl))))))))))
theorem wd_X7_init_4 : Cond.instantiable RX3 14 ∈ wsX7_init := List.mem_cons_of_mem _ (List.mem_append_left _ (List.mem_append_left _ (List.mem_append_left _ (List.mem_append_left _ (List.mem_append_left _ (List.mem_append_left _ (List.mem_append_left _ (List.mem_append_left _ (List.mem_append_left _ (List.mem_of_getElem? (i := 4) rfl))))))))))
theorem wd_X7_init_5 : Cond.initialized RX3 ∈ wsX7_init := List.mem_cons_of_mem _ (List.mem_append_left _ (List.mem_append_left _ (List.mem_append_left _ (List.mem_append_left _ (List.mem_append_left _ (List.mem_append_left _ (List.mem_append_left _ (List.mem_append_left _ (List.mem_append_left _ (List.mem_of_getElem? (i := 5) rfl))))))))))
theorem in_X7_init_RX3 : ∀ w ∈ wsX30, w ∈ wsX7_init := fun w h => List.mem_cons_of_mem _ (List.mem_append_left _ (List.mem_append_left _ (List.mem_append_left _ (List.mem_append_left _ (List.mem_append_left _ (List.mem_append_left _ (List.mem_append_left _ (List.mem_append_right _ h))))))))
theorem wd_X7_init_6 : Cond.instanceMethod yX3_init ∈ wsX7_init := List.mem_cons_of_mem _ (List.mem_append_left _ (List.mem_append_left _ (List.mem_append_left _ (List.mem_append_left _ (List.mem_append_left _ (List.mem_append_left _ (List.mem_append_left _ (List.mem_append_left _ (List.mem_append_right _ (List.mem_append_left _ (List.mem_of_getElem? (i := 12) rfl)))))))))))
theorem lk_X7_init_10 : Cond.fieldLink RX7 10 "KeyWaves" "now" "LKeyWaves$Lodge;" ∈ wsX7_init := List.mem_cons_of_mem _ (List.mem_append_left _ (List.mem_append_left _ (List.mem_append_left _ (List.mem_append_left _ (List.mem_append_left _ (List.mem_append_left _ (List.mem_append_left _ (List.mem_append_left _ (List.mem_append_left _ (List.mem_of_getElem? (i := 6) rfl))))))))))
theorem in_X7_init_RX7 : ∀ w ∈ wsX70, w ∈ wsX7_init := fun w h => List.mem_cons_of_mem _ (List.mem_append_left _ (List.mem_append_left _ (List.mem_append_left _ (List.mem_append_left _ (List.mem_append_left _ (List.mem_append_left _ (List.mem_append_right _ h)))))))
theorem lk_X7_init_16 : Cond.fieldLink RX7 16 "KeyWaves" "before" "LKeyWaves$Lodge;" ∈ wsX7_init := List.mem_cons_of_mem _ (List.mem_append_left _ (List.mem_append_left _ (List.mem_append_left _ (List.mem_append_left _ (List.mem_append_left _ (List.mem_append_left _ (List.mem_append_left _ (List.mem_append_left _ (List.mem_append_left _ (List.mem_of_getElem? (i := 7) rfl))))))))))
theorem lk_X7_init_19 : Cond.fieldLink RX7 19 "KeyWaves" "saved" "LKeyWaves$Lodge;" ∈ wsX7_init := List.mem_cons_of_mem _ (List.mem_append_left _ (List.mem_append_left _ (List.mem_append_left _ (List.mem_append_left _ (List.mem_append_left _ (List.mem_append_left _ (List.mem_append_left _ (List.mem_append_left _ (List.mem_append_left _ (List.mem_of_getElem? (i := 8) rfl))))))))))
theorem lk_X7_init_22 : Cond.fieldLink RX7 22 "KeyWaves" "trial" "LKeyWaves$Lodge;" ∈ wsX7_init := List.mem_cons_of_mem _ (List.mem_append_left _ (List.mem_append_left _ (List.mem_append_left _ (List.mem_append_left _ (List.mem_append_left _ (List.mem_append_left _ (List.mem_append_left _ (List.mem_append_left _ (List.mem_append_left _ (List.mem_of_getElem? (i := 9) rfl))))))))))
theorem wd_X7_init_11 : Cond.classLink RX7 25 RX1 ∈ wsX7_init := List.mem_cons_of_mem _ (List.mem_append_left _ (List.mem_append_left _ (List.mem_append_left _ (List.mem_append_left _ (List.mem_append_left _ (List.mem_append_left _ (List.mem_append_left _ (List.mem_append_left _ (List.mem_append_left _ (List.mem_of_getElem? (i := 10) rfl))))))))))
theorem wd_X7_init_12 : Cond.instantiable RX1 2 ∈ wsX7_init := List.mem_cons_of_mem _ (List.mem_append_left _ (List.mem_append_left _ (List.mem_append_left _ (List.mem_append_left _ (List.mem_append_left _ (List.mem_append_left _ (List.mem_append_left _ (List.mem_append_left _ (List.mem_append_left _ (List.mem_of_getElem? (i := 11) rfl))))))))))
theorem wd_X7_init_13 : Cond.initialized RX1 ∈ wsX7_init := List.mem_cons_of_mem _ (List.mem_append_left _ (List.mem_append_left _ (List.mem_append_left _ (List.mem_append_left _ (List.mem_append_left _ (List.mem_append_left _ (List.mem_append_left _ (List.mem_append_left _ (List.mem_append_left _ (List.mem_of_getElem? (i := 12) rfl))))))))))
theorem in_X7_init_RX1 : ∀ w ∈ wsX10, w ∈ wsX7_init := fun w h => List.mem_cons_of_mem _ (List.mem_append_left _ (List.mem_append_left _ (List.mem_append_left _ (List.mem_append_left _ (List.mem_append_left _ (List.mem_append_right _ h))))))
theorem wd_X7_init_14 : Cond.instanceMethod yX1_init ∈ wsX7_init := List.mem_cons_of_mem _ (List.mem_append_left _ (List.mem_append_left _ (List.mem_append_left _ (List.mem_append_left _ (List.mem_append_left _ (List.mem_append_left _ (List.mem_append_left _ (List.mem_append_left _ (List.mem_append_right _ (List.mem_append_right _ (List.mem_append_left _ (List.mem_of_getElem? (i := 7) rfl))))))))))))
theorem wd_X7_init_15 : Cond.methodLink RX7 27 yX1_init ∈ wsX7_init := List.mem_cons_of_mem _ (List.mem_append_left _ (List.mem_append_left _ (List.mem_append_left _ (List.mem_append_left _ (List.mem_append_left _ (List.mem_append_left _ (List.mem_append_left _ (List.mem_append_left _ (List.mem_append_right _ (List.mem_append_right _ (List.mem_append_left _ (List.mem_of_getElem? (i := 6) rfl))))))))))))
theorem lk_X7_init_28 : Cond.fieldLink RX7 28 "KeyWaves" "history" "LKeyWaves$History;" ∈ wsX7_init := List.mem_cons_of_mem _ (List.mem_append_left _ (List.mem_append_left _ (List.mem_append_left _ (List.mem_append_left _ (List.mem_append_left _ (List.mem_append_left _ (List.mem_append_left _ (List.mem_append_left _ (List.mem_append_left _ (List.mem_of_getElem? (i := 13) rfl))))))))))
theorem wd_X7_init_17 : Cond.classLink RX7 32 RX6 ∈ wsX7_init := List.mem_cons_of_mem _ (List.mem_append_left _ (List.mem_append_left _ (List.mem_append_left _ (List.mem_append_left _ (List.mem_append_left _ (List.mem_append_left _ (List.mem_append_left _ (List.mem_append_left _ (List.mem_append_left _ (List.mem_of_getElem? (i := 14) rfl))))))))))
theorem wd_X7_init_18 : Cond.instantiable RX6 3 ∈ wsX7_init := List.mem_cons_of_mem _ (List.mem_append_left _ (List.mem_append_left _ (List.mem_append_left _ (List.mem_append_left _ (List.mem_append_left _ (List.mem_append_left _ (List.mem_append_left _ (List.mem_append_left _ (List.mem_append_left _ (List.mem_of_getElem? (i := 15) rfl))))))))))
theorem wd_X7_init_19 : Cond.initialized RX6 ∈ wsX7_init := List.mem_cons_of_mem _ (List.mem_append_left _ (List.mem_append_left _ (List.mem_append_left _ (List.mem_append_left _ (List.mem_append_left _ (List.mem_append_left _ (List.mem_append_left _ (List.mem_append_left _ (List.mem_append_left _ (List.mem_of_getElem? (i := 16) rfl))))))))))
theorem in_X7_init_RX6 : ∀ w ∈ wsX60, w ∈ wsX7_init := fun w h => List.mem_cons_of_mem _ (List.mem_append_left _ (List.mem_append_left _ (List.mem_append_left _ (List.mem_append_left _ (List.mem_append_right _ h)))))
theorem wd_X7_init_20 : Cond.instanceMethod yX6_init ∈ wsX7_init := List.mem_cons_of_mem _ (List.mem_append_left _ (List.mem_append_left _ (List.mem_append_left _ (List.mem_append_left _ (List.mem_append_left _ (List.mem_append_left _ (List.mem_append_left _ (List.mem_append_left _ (List.mem_append_right _ (List.mem_append_right _ (List.mem_append_left _ (List.mem_of_getElem? (i := 13) rfl))))))))))))
theorem lk_X7_init_35 : Cond.fieldLink RX7 35 "KeyWaves" "waves" "LKeyWaves$Waves;" ∈ wsX7_init := List.mem_cons_of_mem _ (List.mem_append_left _ (List.mem_append_left _ (List.mem_append_left _ (List.mem_append_left _ (List.mem_append_left _ (List.mem_append_left _ (List.mem_append_left _ (List.mem_append_left _ (List.mem_append_left _ (List.mem_of_getElem? (i := 17) rfl))))))))))
theorem wd_X7_init_22 : Cond.classLink RX7 39 RX4 ∈ wsX7_init := List.mem_cons_of_mem _ (List.mem_append_left _ (List.mem_append_left _ (List.mem_append_left _ (List.mem_append_left _ (List.mem_append_left _ (List.mem_append_left _ (List.mem_append_left _ (List.mem_append_left _ (List.mem_append_left _ (List.mem_of_getElem? (i := 18) rfl))))))))))
theorem wd_X7_init_23 : Cond.instantiable RX4 2 ∈ wsX7_init := List.mem_cons_of_mem _ (List.mem_append_left _ (List.mem_append_left _ (List.mem_append_left _ (List.mem_append_left _ (List.mem_append_left _ (List.mem_append_left _ (List.mem_append_left _ (List.mem_append_left _ (List.mem_append_left _ (List.mem_of_getElem? (i := 19) rfl))))))))))
theorem wd_X7_init_24 : Cond.initialized RX4 ∈ wsX7_init := List.mem_cons_of_mem _ (List.mem_append_left _ (List.mem_append_left _ (List.mem_append_left _ (List.mem_append_left _ (List.mem_append_left _ (List.mem_append_left _ (List.mem_append_left _ (List.mem_append_left _ (List.mem_append_left _ (List.mem_of_getElem? (i := 20) rfl))))))))))
theorem in_X7_init_RX4 : ∀ w ∈ wsX40, w ∈ wsX7_init := fun w h => List.mem_cons_of_mem _ (List.mem_append_left _ (List.mem_append_left _ (List.mem_append_left _ (List.mem_append_right _ h))))
theorem wd_X7_init_25 : Cond.instanceMethod yX4_init ∈ wsX7_init := List.mem_cons_of_mem _ (List.mem_append_left _ (List.mem_append_left _ (List.mem_append_left _ (List.mem_append_left _ (List.mem_append_left _ (List.mem_append_left _ (List.mem_append_left _ (List.mem_append_left _ (List.mem_append_right _ (List.mem_append_right _ (List.mem_append_left _ (List.mem_of_getElem? (i := 20) rfl))))))))))))
theorem lk_X7_init_42 : Cond.fieldLink RX7 42 "KeyWaves" "pairing" "LKeyWaves$Pairing;" ∈ wsX7_init := List.mem_cons_of_mem _ (List.mem_append_left _ (List.mem_append_left _ (List.mem_append_left _ (List.mem_append_left _ (List.mem_append_left _ (List.mem_append_left _ (List.mem_append_left _ (List.mem_append_left _ (List.mem_append_left _ (List.mem_of_getElem? (i := 21) rfl))))))))))
theorem wd_X7_init_27 : Cond.classLink RX7 46 RX5 ∈ wsX7_init := List.mem_cons_of_mem _ (List.mem_append_left _ (List.mem_append_left _ (List.mem_append_left _ (List.mem_append_left _ (List.mem_append_left _ (List.mem_append_left _ (List.mem_append_left _ (List.mem_append_left _ (List.mem_append_left _ (List.mem_of_getElem? (i := 22) rfl))))))))))
theorem wd_X7_init_28 : Cond.instantiable RX5 3 ∈ wsX7_init := List.mem_cons_of_mem _ (List.mem_append_left _ (List.mem_append_left _ (List.mem_append_left _ (List.mem_append_left _ (List.mem_append_left _ (List.mem_append_left _ (List.mem_append_left _ (List.mem_append_left _ (List.mem_append_left _ (List.mem_of_getElem? (i := 23) rfl))))))))))
theorem wd_X7_init_29 : Cond.initialized RX5 ∈ wsX7_init := List.mem_cons_of_mem _ (List.mem_append_left _ (List.mem_append_left _ (List.mem_append_left _ (List.mem_append_left _ (List.mem_append_left _ (List.mem_append_left _ (List.mem_append_left _ (List.mem_append_left _ (List.mem_append_right _ (List.mem_append_left _ (List.mem_of_getElem? (i := 0) rfl)))))))))))
theorem in_X7_init_RX5 : ∀ w ∈ wsX50, w ∈ wsX7_init := fun w h => List.mem_cons_of_mem _ (List.mem_append_left _ (List.mem_append_left _ (List.mem_append_right _ h)))
theorem wd_X7_init_30 : Cond.instanceMethod yX5_init ∈ wsX7_init := List.mem_cons_of_mem _ (List.mem_append_left _ (List.mem_append_left _ (List.mem_append_left _ (List.mem_append_left _ (List.mem_append_left _ (List.mem_append_left _ (List.mem_append_left _ (List.mem_append_left _ (List.mem_append_right _ (List.mem_append_right _ (List.mem_append_right _ (List.mem_of_getElem? (i := 1) rfl))))))))))))
theorem lk_X7_init_49 : Cond.fieldLink RX7 49 "KeyWaves" "refusal" "LKeyWaves$Refusal;" ∈ wsX7_init := List.mem_cons_of_mem _ (List.mem_append_left _ (List.mem_append_left _ (List.mem_append_left _ (List.mem_append_left _ (List.mem_append_left _ (List.mem_append_left _ (List.mem_append_left _ (List.mem_append_left _ (List.mem_append_right _ (List.mem_append_left _ (List.mem_of_getElem? (i := 1) rfl)))))))))))
theorem wd_X7_init_32 : Cond.classLink RX7 53 RX0 ∈ wsX7_init := List.mem_cons_of_mem _ (List.mem_append_left _ (List.mem_append_left _ (List.mem_append_left _ (List.mem_append_left _ (List.mem_append_left _ (List.mem_append_left _ (List.mem_append_left _ (List.mem_append_left _ (List.mem_append_right _ (List.mem_append_left _ (List.mem_of_getElem? (i := 2) rfl)))))))))))
theorem wd_X7_init_33 : Cond.instantiable RX0 7 ∈ wsX7_init := List.mem_cons_of_mem _ (List.mem_append_left _ (List.mem_append_left _ (List.mem_append_left _ (List.mem_append_left _ (List.mem_append_left _ (List.mem_append_left _ (List.mem_append_left _ (List.mem_append_left _ (List.mem_append_right _ (List.mem_append_left _ (List.mem_of_getElem? (i := 3) rfl)))))))))))
theorem wd_X7_init_34 : Cond.initialized RX0 ∈ wsX7_init := List.mem_cons_of_mem _ (List.mem_append_left _ (List.mem_append_left _ (List.mem_append_left _ (List.mem_append_left _ (List.mem_append_left _ (List.mem_append_left _ (List.mem_append_left _ (List.mem_append_left _ (List.mem_append_right _ (List.mem_append_left _ (List.mem_of_getElem? (i := 4) rfl)))))))))))
theorem in_X7_init_RX0 : ∀ w ∈ wsX00, w ∈ wsX7_init := fun w h => List.mem_cons_of_mem _ (List.mem_append_left _ (List.mem_append_right _ h))
theorem wd_X7_init_35 : Cond.instanceMethod yX0_init ∈ wsX7_init := List.mem_cons_of_mem _ (List.mem_append_left _ (List.mem_append_left _ (List.mem_append_left _ (List.mem_append_left _ (List.mem_append_left _ (List.mem_append_left _ (List.mem_append_left _ (List.mem_append_left _ (List.mem_append_right _ (List.mem_append_right _ (List.mem_append_right _ (List.mem_of_getElem? (i := 4) rfl))))))))))))
theorem lk_X7_init_56 : Cond.fieldLink RX7 56 "KeyWaves" "text" "LKeyWaves$CommandText;" ∈ wsX7_init := List.mem_cons_of_mem _ (List.mem_append_left _ (List.mem_append_left _ (List.mem_append_left _ (List.mem_append_left _ (List.mem_append_left _ (List.mem_append_left _ (List.mem_append_left _ (List.mem_append_left _ (List.mem_append_right _ (List.mem_append_left _ (List.mem_of_getElem? (i := 5) rfl)))))))))))
theorem wd_X7_init_37 : Cond.classLink RX7 60 RX2 ∈ wsX7_init := List.mem_cons_of_mem _ (List.mem_append_left _ (List.mem_append_left _ (List.mem_append_left _ (List.mem_append_left _ (List.mem_append_left _ (List.mem_append_left _ (List.mem_append_left _ (List.mem_append_left _ (List.mem_append_right _ (List.mem_append_left _ (List.mem_of_getElem? (i := 6) rfl)))))))))))
theorem wd_X7_init_38 : Cond.instantiable RX2 2 ∈ wsX7_init := List.mem_cons_of_mem _ (List.mem_append_left _ (List.mem_append_left _ (List.mem_append_left _ (List.mem_append_left _ (List.mem_append_left _ (List.mem_append_left _ (List.mem_append_left _ (List.mem_append_left _ (List.mem_append_right _ (List.mem_append_left _ (List.mem_of_getElem? (i := 7) rfl)))))))))))
theorem wd_X7_init_39 : Cond.initialized RX2 ∈ wsX7_init := List.mem_cons_of_mem _ (List.mem_append_left _ (List.mem_append_left _ (List.mem_append_left _ (List.mem_append_left _ (List.mem_append_left _ (List.mem_append_left _ (List.mem_append_left _ (List.mem_append_left _ (List.mem_append_right _ (List.mem_append_left _ (List.mem_of_getElem? (i := 8) rfl)))))))))))
theorem in_X7_init_RX2 : ∀ w ∈ wsX20, w ∈ wsX7_init := fun w h => List.mem_cons_of_mem _ (List.mem_append_right _ h)
theorem wd_X7_init_40 : Cond.instanceMethod yX2_init ∈ wsX7_init := List.mem_cons_of_mem _ (List.mem_append_left _ (List.mem_append_left _ (List.mem_append_left _ (List.mem_append_left _ (List.mem_append_left _ (List.mem_append_left _ (List.mem_append_left _ (List.mem_append_left _ (List.mem_append_right _ (List.mem_append_right _ (List.mem_append_right _ (List.mem_of_getElem? (i := 15) rfl))))))))))))
theorem lk_X7_init_63 : Cond.fieldLink RX7 63 "KeyWaves" "line" "LKeyWaves$Line;" ∈ wsX7_init := List.mem_cons_of_mem _ (List.mem_append_left _ (List.mem_append_left _ (List.mem_append_left _ (List.mem_append_left _ (List.mem_append_left _ (List.mem_append_left _ (List.mem_append_left _ (List.mem_append_left _ (List.mem_append_right _ (List.mem_append_left _ (List.mem_of_getElem? (i := 9) rfl)))))))))))
theorem lk_X7_init_67 : Cond.fieldLink RX7 67 "KeyWaves" "hasSaved" "Z" ∈ wsX7_init := List.mem_cons_of_mem _ (List.mem_append_left _ (List.mem_append_left _ (List.mem_append_left _ (List.mem_append_left _ (List.mem_append_left _ (List.mem_append_left _ (List.mem_append_left _ (List.mem_append_left _ (List.mem_append_right _ (List.mem_append_left _ (List.mem_of_getElem? (i := 10) rfl)))))))))))
theorem lk_X7_init_71 : Cond.fieldLink RX7 71 "KeyWaves" "fault" "I" ∈ wsX7_init := List.mem_cons_of_mem _ (List.mem_append_left _ (List.mem_append_left _ (List.mem_append_left _ (List.mem_append_left _ (List.mem_append_left _ (List.mem_append_left _ (List.mem_append_left _ (List.mem_append_left _ (List.mem_append_right _ (List.mem_append_left _ (List.mem_of_getElem? (i := 11) rfl)))))))))))
set_option maxRecDepth 20000 in
theorem ct_X7_init {l : Launch} {D : va_G} {G : Nat → ClassId} {h : Nat} : CM XW l yX7_init wsX7_init rm_X7_init D G [.ref h] [[(h, .inr (7, [.null, .null, .null, .null, .null, .null, .null, .null, .null, .null, .int 0, .int 0]))]] 121 1335 (po_X7_init G h) :=
  CM.ofI pn_RX7 rfl rfl (Nat.le_of_ble_eq_true rfl) rfl rfl (fun C F E hI => by
    refine gw_aload_n F dX7_init_0 0 rfl ?_
    refine gw_objInit F wd_X7_init_0 wd_X7_init_1 wd_X7_init_2 (Nat.le_of_ble_eq_true rfl) (Nat.le_of_ble_eq_true rfl) dX7_init_1 ?_
    refine gw_aload_n F dX7_init_4 0 rfl ?_
    refine gw_new (fs := [.null, .null, .null, .null, .null, .null, .null, .null, .int 0, .int 0, .int 0, .int 0, .int 0, .int 0]) F in_X7_init_RX3 tyX3 tyX3_ok wd_X7_init_3 wd_X7_init_4 wd_X7_init_5 (ci := 3) rfl dfX3 (Nat.le_of_ble_eq_true rfl) (Nat.le_of_ble_eq_true rfl) dX7_init_5 (fun ob0 => ?_)
    change GW C 1 14 [[(h, .inr (7, [.null, .null, .null, .null, .null, .null, .null, .null, .null, .null, .int 0, .int 0]))], [(ob0, .inr (3, [.null, .null, .null, .null, .null, .null, .null, .null, .int 0, .int 0, .int 0, .int 0, .int 0, .int 0]))]] 8 _ _
    refine gw_dup F dX7_init_8 rfl ?_
    refine gw_callIN (host := RX7) F ct_X3_init 0 gX7_init_X3_init_n9 (List.mem_of_getElem? (i := 0) rfl) wd_X7_init_5 wd_X7_init_6 rfl rfl rfl rfl hd_X3_init ⟨(Nat.le_of_ble_eq_true rfl), (Nat.le_of_ble_eq_true rfl)⟩ rfl rfl (Nat.le_of_ble_eq_true rfl) ⟨(Nat.le_of_ble_eq_true rfl), (Nat.le_of_ble_eq_true rfl)⟩ [0, 1] (bsr := [[(h, .inr (7, [.null, .null, .null, .null, .null, .null, .null, .null, .null, .null, .int 0, .int 0]))]]) rfl rfl dX7_init_9 ?_
    rintro _ _ ⟨rfl, qob0, rfl⟩
    change GW C 9 94 [[(h, .inr (7, [.null, .null, .null, .null, .null, .null, .null, .null, .null, .null, .int 0, .int 0]))], bLg G ob0 qob0 v0Lg] 12 _ _
    refine gw_putF (bs' := [[(h, .inr (7, [.ref ob0, .null, .null, .null, .null, .null, .null, .null, .null, .null, .int 0, .int 0]))], bLg G ob0 qob0 v0Lg]) F hI in_X7_init_RX7 tyX7 tyX7_ok nmX7 0 rfl rfl 0 (by decide) lk_X7_init_10 rfl rfl rfl rfl (Nat.le_of_ble_eq_true rfl) dX7_init_12 rfl ?_
    refine gw_aload_n F dX7_init_15 0 rfl ?_
    refine gw_new (fs := [.null, .null, .null, .null, .null, .null, .null, .null, .int 0, .int 0, .int 0, .int 0, .int 0, .int 0]) F in_X7_init_RX3 tyX3 tyX3_ok wd_X7_init_3 wd_X7_init_4 wd_X7_init_5 (ci := 3) rfl dfX3 (Nat.le_of_ble_eq_true rfl) (Nat.le_of_ble_eq_true rfl) dX7_init_16 (fun ob1 => ?_)
    change GW C 10 108 [[(h, .inr (7, [.ref ob0, .null, .null, .null, .null, .null, .null, .null, .null, .null, .int 0, .int 0]))], bLg G ob0 qob0 v0Lg, [(ob1, .inr (3, [.null, .null, .null, .null, .null, .null, .null, .null, .int 0, .int 0, .int 0, .int 0, .int 0, .int 0]))]] 19 _ _
    refine gw_dup F dX7_init_19 rfl ?_
    refine gw_callIN (host := RX7) F ct_X3_init 0 gX7_init_X3_init_n9 (List.mem_of_getElem? (i := 0) rfl) wd_X7_init_5 wd_X7_init_6 rfl rfl rfl rfl hd_X3_init ⟨(Nat.le_of_ble_eq_true rfl), (Nat.le_of_ble_eq_true rfl)⟩ rfl rfl (Nat.le_of_ble_eq_true rfl) ⟨(Nat.le_of_ble_eq_true rfl), (Nat.le_of_ble_eq_true rfl)⟩ [0, 1, 2] (bsr := [[(h, .inr (7, [.ref ob0, .null, .null, .null, .null, .null, .null, .null, .null, .null, .int 0, .int 0]))], bLg G ob0 qob0 v0Lg]) rfl rfl dX7_init_20 ?_
    rintro _ _ ⟨rfl, qob1, rfl⟩
    change GW C 18 188 [[(h, .inr (7, [.ref ob0, .null, .null, .null, .null, .null, .null, .null, .null, .null, .int 0, .int 0]))], bLg G ob0 qob0 v0Lg, bLg G ob1 qob1 v0Lg] 23 _ _
    refine gw_putF (bs' := [[(h, .inr (7, [.ref ob0, .ref ob1, .null, .null, .null, .null, .null, .null, .null, .null, .int 0, .int 0]))], bLg G ob0 qob0 v0Lg, bLg G ob1 qob1 v0Lg]) F hI in_X7_init_RX7 tyX7 tyX7_ok nmX7 0 rfl rfl 1 (by decide) lk_X7_init_16 rfl rfl rfl rfl (Nat.le_of_ble_eq_true rfl) dX7_init_23 rfl ?_
    refine gw_aload_n F dX7_init_26 0 rfl ?_
    refine gw_new (fs := [.null, .null, .null, .null, .null, .null, .null, .null, .int 0, .int 0, .int 0, .int 0, .int 0, .int 0]) F in_X7_init_RX3 tyX3 tyX3_ok wd_X7_init_3 wd_X7_init_4 wd_X7_init_5 (ci := 3) rfl dfX3 (Nat.le_of_ble_eq_true rfl) (Nat.le_of_ble_eq_true rfl) dX7_init_27 (fun ob2 => ?_)
    change GW C 19 202 [[(h, .inr (7, [.ref ob0, .ref ob1, .null, .null, .null, .null, .null, .null, .null, .null, .int 0, .int 0]))], bLg G ob0 qob0 v0Lg, bLg G ob1 qob1 v0Lg, [(ob2, .inr (3, [.null, .null, .null, .null, .null, .null, .null, .null, .int 0, .int 0, .int 0, .int 0, .int 0, .int 0]))]] 30 _ _
    refine gw_dup F dX7_init_30 rfl ?_
    refine gw_callIN (host := RX7) F ct_X3_init 0 gX7_init_X3_init_n9 (List.mem_of_getElem? (i := 0) rfl) wd_X7_init_5 wd_X7_init_6 rfl rfl rfl rfl hd_X3_init ⟨(Nat.le_of_ble_eq_true rfl), (Nat.le_of_ble_eq_true rfl)⟩ rfl rfl (Nat.le_of_ble_eq_true rfl) ⟨(Nat.le_of_ble_eq_true rfl), (Nat.le_of_ble_eq_true rfl)⟩ [0, 1, 2, 3] (bsr := [[(h, .inr (7, [.ref ob0, .ref ob1, .null, .null, .null, .null, .null, .null, .null, .null, .int 0, .int 0]))], bLg G ob0 qob0 v0Lg, bLg G ob1 qob1 v0Lg]) rfl rfl dX7_init_31 ?_
    rintro _ _ ⟨rfl, qob2, rfl⟩
    change GW C 27 282 [[(h, .inr (7, [.ref ob0, .ref ob1, .null, .null, .null, .null, .null, .null, .null, .null, .int 0, .int 0]))], bLg G ob0 qob0 v0Lg, bLg G ob1 qob1 v0Lg, bLg G ob2 qob2 v0Lg] 34 _ _
    refine gw_putF (bs' := [[(h, .inr (7, [.ref ob0, .ref ob1, .ref ob2, .null, .null, .null, .null, .null, .null, .null, .int 0, .int 0]))], bLg G ob0 qob0 v0Lg, bLg G ob1 qob1 v0Lg, bLg G ob2 qob2 v0Lg]) F hI in_X7_init_RX7 tyX7 tyX7_ok nmX7 0 rfl rfl 2 (by decide) lk_X7_init_19 rfl rfl rfl rfl (Nat.le_of_ble_eq_true rfl) dX7_init_34 rfl ?_
    refine gw_aload_n F dX7_init_37 0 rfl ?_
    refine gw_new (fs := [.null, .null, .null, .null, .null, .null, .null, .null, .int 0, .int 0, .int 0, .int 0, .int 0, .int 0]) F in_X7_init_RX3 tyX3 tyX3_ok wd_X7_init_3 wd_X7_init_4 wd_X7_init_5 (ci := 3) rfl dfX3 (Nat.le_of_ble_eq_true rfl) (Nat.le_of_ble_eq_true rfl) dX7_init_38 (fun ob3 => ?_)
    change GW C 28 296 [[(h, .inr (7, [.ref ob0, .ref ob1, .ref ob2, .null, .null, .null, .null, .null, .null, .null, .int 0, .int 0]))], bLg G ob0 qob0 v0Lg, bLg G ob1 qob1 v0Lg, bLg G ob2 qob2 v0Lg, [(ob3, .inr (3, [.null, .null, .null, .null, .null, .null, .null, .null, .int 0, .int 0, .int 0, .int 0, .int 0, .int 0]))]] 41 _ _
    refine gw_dup F dX7_init_41 rfl ?_
    refine gw_callIN (host := RX7) F ct_X3_init 0 gX7_init_X3_init_n9 (List.mem_of_getElem? (i := 0) rfl) wd_X7_init_5 wd_X7_init_6 rfl rfl rfl rfl hd_X3_init ⟨(Nat.le_of_ble_eq_true rfl), (Nat.le_of_ble_eq_true rfl)⟩ rfl rfl (Nat.le_of_ble_eq_true rfl) ⟨(Nat.le_of_ble_eq_true rfl), (Nat.le_of_ble_eq_true rfl)⟩ [0, 1, 2, 3, 4] (bsr := [[(h, .inr (7, [.ref ob0, .ref ob1, .ref ob2, .null, .null, .null, .null, .null, .null, .null, .int 0, .int 0]))], bLg G ob0 qob0 v0Lg, bLg G ob1 qob1 v0Lg, bLg G ob2 qob2 v0Lg]) rfl rfl dX7_init_42 ?_
    rintro _ _ ⟨rfl, qob3, rfl⟩
    change GW C 36 376 [[(h, .inr (7, [.ref ob0, .ref ob1, .ref ob2, .null, .null, .null, .null, .null, .null, .null, .int 0, .int 0]))], bLg G ob0 qob0 v0Lg, bLg G ob1 qob1 v0Lg, bLg G ob2 qob2 v0Lg, bLg G ob3 qob3 v0Lg] 45 _ _
    refine gw_putF (bs' := [[(h, .inr (7, [.ref ob0, .ref ob1, .ref ob2, .ref ob3, .null, .null, .null, .null, .null, .null, .int 0, .int 0]))], bLg G ob0 qob0 v0Lg, bLg G ob1 qob1 v0Lg, bLg G ob2 qob2 v0Lg, bLg G ob3 qob3 v0Lg]) F hI in_X7_init_RX7 tyX7 tyX7_ok nmX7 0 rfl rfl 3 (by decide) lk_X7_init_22 rfl rfl rfl rfl (Nat.le_of_ble_eq_true rfl) dX7_init_45 rfl ?_
    refine gw_aload_n F dX7_init_48 0 rfl ?_
    refine gw_new (fs := [.null, .int 0]) F in_X7_init_RX1 tyX1 tyX1_ok wd_X7_init_11 wd_X7_init_12 wd_X7_init_13 (ci := 1) rfl dfX1 (Nat.le_of_ble_eq_true rfl) (Nat.le_of_ble_eq_true rfl) dX7_init_49 (fun ob4 => ?_)
    change GW C 37 378 [[(h, .inr (7, [.ref ob0, .ref ob1, .ref ob2, .ref ob3, .null, .null, .null, .null, .null, .null, .int 0, .int 0]))], bLg G ob0 qob0 v0Lg, bLg G ob1 qob1 v0Lg, bLg G ob2 qob2 v0Lg, bLg G ob3 qob3 v0Lg, [(ob4, .inr (1, [.null, .int 0]))]] 52 _ _
    refine gw_dup F dX7_init_52 rfl ?_
    refine gw_callI F ct_X1_init 0 gX7_init_X1_init wd_X7_init_13 wd_X7_init_15 wd_X7_init_14 rfl rfl rfl rfl hd_X1_init ⟨(Nat.le_of_ble_eq_true rfl), (Nat.le_of_ble_eq_true rfl)⟩ rfl rfl (Nat.le_of_ble_eq_true rfl) ⟨(Nat.le_of_ble_eq_true rfl), (Nat.le_of_ble_eq_true rfl)⟩ [0, 1, 2, 3, 4, 5] (bsr := [[(h, .inr (7, [.ref ob0, .ref ob1, .ref ob2, .ref ob3, .null, .null, .null, .null, .null, .null, .int 0, .int 0]))], bLg G ob0 qob0 v0Lg, bLg G ob1 qob1 v0Lg, bLg G ob2 qob2 v0Lg, bLg G ob3 qob3 v0Lg]) rfl rfl dX7_init_53 ?_
    rintro _ _ ⟨rfl, qob4, rfl⟩
    change GW C 110 1138 [[(h, .inr (7, [.ref ob0, .ref ob1, .ref ob2, .ref ob3, .null, .null, .null, .null, .null, .null, .int 0, .int 0]))], bLg G ob0 qob0 v0Lg, bLg G ob1 qob1 v0Lg, bLg G ob2 qob2 v0Lg, bLg G ob3 qob3 v0Lg, bHo G ob4 qob4 v0Hs, bRo G qob4 v0Hs 0, bRo G qob4 v0Hs 1, bRo G qob4 v0Hs 2, bRo G qob4 v0Hs 3, bRo G qob4 v0Hs 4, bRo G qob4 v0Hs 5, bRo G qob4 v0Hs 6, bRo G qob4 v0Hs 7] 56 _ _
    refine gw_putF (bs' := [[(h, .inr (7, [.ref ob0, .ref ob1, .ref ob2, .ref ob3, .ref ob4, .null, .null, .null, .null, .null, .int 0, .int 0]))], bLg G ob0 qob0 v0Lg, bLg G ob1 qob1 v0Lg, bLg G ob2 qob2 v0Lg, bLg G ob3 qob3 v0Lg, bHo G ob4 qob4 v0Hs, bRo G qob4 v0Hs 0, bRo G qob4 v0Hs 1, bRo G qob4 v0Hs 2, bRo G qob4 v0Hs 3, bRo G qob4 v0Hs 4, bRo G qob4 v0Hs 5, bRo G qob4 v0Hs 6, bRo G qob4 v0Hs 7]) F hI in_X7_init_RX7 tyX7 tyX7_ok nmX7 0 rfl rfl 4 (by decide) lk_X7_init_28 rfl rfl rfl rfl (Nat.le_of_ble_eq_true rfl) dX7_init_56 rfl ?_
    refine gw_aload_n F dX7_init_59 0 rfl ?_
    refine gw_new (fs := [.null, .null, .int 0]) F in_X7_init_RX6 tyX6 tyX6_ok wd_X7_init_17 wd_X7_init_18 wd_X7_init_19 (ci := 6) rfl dfX6 (Nat.le_of_ble_eq_true rfl) (Nat.le_of_ble_eq_true rfl) dX7_init_60 (fun ob5 => ?_)
    change GW C 111 1141 [[(h, .inr (7, [.ref ob0, .ref ob1, .ref ob2, .ref ob3, .ref ob4, .null, .null, .null, .null, .null, .int 0, .int 0]))], bLg G ob0 qob0 v0Lg, bLg G ob1 qob1 v0Lg, bLg G ob2 qob2 v0Lg, bLg G ob3 qob3 v0Lg, bHo G ob4 qob4 v0Hs, bRo G qob4 v0Hs 0, bRo G qob4 v0Hs 1, bRo G qob4 v0Hs 2, bRo G qob4 v0Hs 3, bRo G qob4 v0Hs 4, bRo G qob4 v0Hs 5, bRo G qob4 v0Hs 6, bRo G qob4 v0Hs 7, [(ob5, .inr (6, [.null, .null, .int 0]))]] 63 _ _
    refine gw_dup F dX7_init_63 rfl ?_
    refine gw_callIN (host := RX7) F ct_X6_init 0 gX7_init_X6_init_n34 (List.mem_of_getElem? (i := 2) rfl) wd_X7_init_19 wd_X7_init_20 rfl rfl rfl rfl hd_X6_init ⟨(Nat.le_of_ble_eq_true rfl), (Nat.le_of_ble_eq_true rfl)⟩ rfl rfl (Nat.le_of_ble_eq_true rfl) ⟨(Nat.le_of_ble_eq_true rfl), (Nat.le_of_ble_eq_true rfl)⟩ [0, 1, 2, 3, 4, 5, 6, 7, 8, 9, 10, 11, 12, 13, 14] (bsr := [[(h, .inr (7, [.ref ob0, .ref ob1, .ref ob2, .ref ob3, .ref ob4, .null, .null, .null, .null, .null, .int 0, .int 0]))], bLg G ob0 qob0 v0Lg, bLg G ob1 qob1 v0Lg, bLg G ob2 qob2 v0Lg, bLg G ob3 qob3 v0Lg, bHo G ob4 qob4 v0Hs, bRo G qob4 v0Hs 0, bRo G qob4 v0Hs 1, bRo G qob4 v0Hs 2, bRo G qob4 v0Hs 3, bRo G qob4 v0Hs 4, bRo G qob4 v0Hs 5, bRo G qob4 v0Hs 6, bRo G qob4 v0Hs 7]) rfl rfl dX7_init_64 ?_
    rintro _ _ ⟨rfl, qob5, rfl⟩
    change GW C 113 1161 [[(h, .inr (7, [.ref ob0, .ref ob1, .ref ob2, .ref ob3, .ref ob4, .null, .null, .null, .null, .null, .int 0, .int 0]))], bLg G ob0 qob0 v0Lg, bLg G ob1 qob1 v0Lg, bLg G ob2 qob2 v0Lg, bLg G ob3 qob3 v0Lg, bHo G ob4 qob4 v0Hs, bRo G qob4 v0Hs 0, bRo G qob4 v0Hs 1, bRo G qob4 v0Hs 2, bRo G qob4 v0Hs 3, bRo G qob4 v0Hs 4, bRo G qob4 v0Hs 5, bRo G qob4 v0Hs 6, bRo G qob4 v0Hs 7, bWv G ob5 qob5 v0Wv] 67 _ _
    refine gw_putF (bs' := [[(h, .inr (7, [.ref ob0, .ref ob1, .ref ob2, .ref ob3, .ref ob4, .ref ob5, .null, .null, .null, .null, .int 0, .int 0]))], bLg G ob0 qob0 v0Lg, bLg G ob1 qob1 v0Lg, bLg G ob2 qob2 v0Lg, bLg G ob3 qob3 v0Lg, bHo G ob4 qob4 v0Hs, bRo G qob4 v0Hs 0, bRo G qob4 v0Hs 1, bRo G qob4 v0Hs 2, bRo G qob4 v0Hs 3, bRo G qob4 v0Hs 4, bRo G qob4 v0Hs 5, bRo G qob4 v0Hs 6, bRo G qob4 v0Hs 7, bWv G ob5 qob5 v0Wv]) F hI in_X7_init_RX7 tyX7 tyX7_ok nmX7 0 rfl rfl 5 (by decide) lk_X7_init_35 rfl rfl rfl rfl (Nat.le_of_ble_eq_true rfl) dX7_init_67 rfl ?_
    refine gw_aload_n F dX7_init_70 0 rfl ?_
    refine gw_new (fs := [.null, .null]) F in_X7_init_RX4 tyX4 tyX4_ok wd_X7_init_22 wd_X7_init_23 wd_X7_init_24 (ci := 4) rfl dfX4 (Nat.le_of_ble_eq_true rfl) (Nat.le_of_ble_eq_true rfl) dX7_init_71 (fun ob6 => ?_)
    change GW C 114 1163 [[(h, .inr (7, [.ref ob0, .ref ob1, .ref ob2, .ref ob3, .ref ob4, .ref ob5, .null, .null, .null, .null, .int 0, .int 0]))], bLg G ob0 qob0 v0Lg, bLg G ob1 qob1 v0Lg, bLg G ob2 qob2 v0Lg, bLg G ob3 qob3 v0Lg, bHo G ob4 qob4 v0Hs, bRo G qob4 v0Hs 0, bRo G qob4 v0Hs 1, bRo G qob4 v0Hs 2, bRo G qob4 v0Hs 3, bRo G qob4 v0Hs 4, bRo G qob4 v0Hs 5, bRo G qob4 v0Hs 6, bRo G qob4 v0Hs 7, bWv G ob5 qob5 v0Wv, [(ob6, .inr (4, [.null, .null]))]] 74 _ _
    refine gw_dup F dX7_init_74 rfl ?_
    refine gw_callIN (host := RX7) F ct_X4_init 0 gX7_init_X4_init_n41 (List.mem_of_getElem? (i := 3) rfl) wd_X7_init_24 wd_X7_init_25 rfl rfl rfl rfl hd_X4_init ⟨(Nat.le_of_ble_eq_true rfl), (Nat.le_of_ble_eq_true rfl)⟩ rfl rfl (Nat.le_of_ble_eq_true rfl) ⟨(Nat.le_of_ble_eq_true rfl), (Nat.le_of_ble_eq_true rfl)⟩ [0, 1, 2, 3, 4, 5, 6, 7, 8, 9, 10, 11, 12, 13, 14, 15] (bsr := [[(h, .inr (7, [.ref ob0, .ref ob1, .ref ob2, .ref ob3, .ref ob4, .ref ob5, .null, .null, .null, .null, .int 0, .int 0]))], bLg G ob0 qob0 v0Lg, bLg G ob1 qob1 v0Lg, bLg G ob2 qob2 v0Lg, bLg G ob3 qob3 v0Lg, bHo G ob4 qob4 v0Hs, bRo G qob4 v0Hs 0, bRo G qob4 v0Hs 1, bRo G qob4 v0Hs 2, bRo G qob4 v0Hs 3, bRo G qob4 v0Hs 4, bRo G qob4 v0Hs 5, bRo G qob4 v0Hs 6, bRo G qob4 v0Hs 7, bWv G ob5 qob5 v0Wv]) rfl rfl dX7_init_75 ?_
    rintro _ _ ⟨rfl, qob6, rfl⟩
    change GW C 116 1183 [[(h, .inr (7, [.ref ob0, .ref ob1, .ref ob2, .ref ob3, .ref ob4, .ref ob5, .null, .null, .null, .null, .int 0, .int 0]))], bLg G ob0 qob0 v0Lg, bLg G ob1 qob1 v0Lg, bLg G ob2 qob2 v0Lg, bLg G ob3 qob3 v0Lg, bHo G ob4 qob4 v0Hs, bRo G qob4 v0Hs 0, bRo G qob4 v0Hs 1, bRo G qob4 v0Hs 2, bRo G qob4 v0Hs 3, bRo G qob4 v0Hs 4, bRo G qob4 v0Hs 5, bRo G qob4 v0Hs 6, bRo G qob4 v0Hs 7, bWv G ob5 qob5 v0Wv, bPr G ob6 qob6 v0Pr] 78 _ _
    refine gw_putF (bs' := [[(h, .inr (7, [.ref ob0, .ref ob1, .ref ob2, .ref ob3, .ref ob4, .ref ob5, .ref ob6, .null, .null, .null, .int 0, .int 0]))], bLg G ob0 qob0 v0Lg, bLg G ob1 qob1 v0Lg, bLg G ob2 qob2 v0Lg, bLg G ob3 qob3 v0Lg, bHo G ob4 qob4 v0Hs, bRo G qob4 v0Hs 0, bRo G qob4 v0Hs 1, bRo G qob4 v0Hs 2, bRo G qob4 v0Hs 3, bRo G qob4 v0Hs 4, bRo G qob4 v0Hs 5, bRo G qob4 v0Hs 6, bRo G qob4 v0Hs 7, bWv G ob5 qob5 v0Wv, bPr G ob6 qob6 v0Pr]) F hI in_X7_init_RX7 tyX7 tyX7_ok nmX7 0 rfl rfl 6 (by decide) lk_X7_init_42 rfl rfl rfl rfl (Nat.le_of_ble_eq_true rfl) dX7_init_78 rfl ?_
    refine gw_aload_n F dX7_init_81 0 rfl ?_
    refine gw_new (fs := [.int 0, .int 0, .int 0]) F in_X7_init_RX5 tyX5 tyX5_ok wd_X7_init_27 wd_X7_init_28 wd_X7_init_29 (ci := 5) rfl dfX5 (Nat.le_of_ble_eq_true rfl) (Nat.le_of_ble_eq_true rfl) dX7_init_82 (fun ob7 => ?_)
    change GW C 117 1186 [[(h, .inr (7, [.ref ob0, .ref ob1, .ref ob2, .ref ob3, .ref ob4, .ref ob5, .ref ob6, .null, .null, .null, .int 0, .int 0]))], bLg G ob0 qob0 v0Lg, bLg G ob1 qob1 v0Lg, bLg G ob2 qob2 v0Lg, bLg G ob3 qob3 v0Lg, bHo G ob4 qob4 v0Hs, bRo G qob4 v0Hs 0, bRo G qob4 v0Hs 1, bRo G qob4 v0Hs 2, bRo G qob4 v0Hs 3, bRo G qob4 v0Hs 4, bRo G qob4 v0Hs 5, bRo G qob4 v0Hs 6, bRo G qob4 v0Hs 7, bWv G ob5 qob5 v0Wv, bPr G ob6 qob6 v0Pr, [(ob7, .inr (5, [.int 0, .int 0, .int 0]))]] 85 _ _
    refine gw_dup F dX7_init_85 rfl ?_
    refine gw_callIN (host := RX7) F ct_X5_init 0 gX7_init_X5_init_n48 (List.mem_of_getElem? (i := 4) rfl) wd_X7_init_29 wd_X7_init_30 rfl rfl rfl rfl hd_X5_init ⟨(Nat.le_of_ble_eq_true rfl), (Nat.le_of_ble_eq_true rfl)⟩ rfl rfl (Nat.le_of_ble_eq_true rfl) ⟨(Nat.le_of_ble_eq_true rfl), (Nat.le_of_ble_eq_true rfl)⟩ [0, 1, 2, 3, 4, 5, 6, 7, 8, 9, 10, 11, 12, 13, 14, 15, 16] (bsr := [[(h, .inr (7, [.ref ob0, .ref ob1, .ref ob2, .ref ob3, .ref ob4, .ref ob5, .ref ob6, .null, .null, .null, .int 0, .int 0]))], bLg G ob0 qob0 v0Lg, bLg G ob1 qob1 v0Lg, bLg G ob2 qob2 v0Lg, bLg G ob3 qob3 v0Lg, bHo G ob4 qob4 v0Hs, bRo G qob4 v0Hs 0, bRo G qob4 v0Hs 1, bRo G qob4 v0Hs 2, bRo G qob4 v0Hs 3, bRo G qob4 v0Hs 4, bRo G qob4 v0Hs 5, bRo G qob4 v0Hs 6, bRo G qob4 v0Hs 7, bWv G ob5 qob5 v0Wv, bPr G ob6 qob6 v0Pr]) rfl rfl dX7_init_86 ?_
    rintro _ _ ⟨rfl, qob7, rfl⟩
    change GW C 117 1186 [[(h, .inr (7, [.ref ob0, .ref ob1, .ref ob2, .ref ob3, .ref ob4, .ref ob5, .ref ob6, .null, .null, .null, .int 0, .int 0]))], bLg G ob0 qob0 v0Lg, bLg G ob1 qob1 v0Lg, bLg G ob2 qob2 v0Lg, bLg G ob3 qob3 v0Lg, bHo G ob4 qob4 v0Hs, bRo G qob4 v0Hs 0, bRo G qob4 v0Hs 1, bRo G qob4 v0Hs 2, bRo G qob4 v0Hs 3, bRo G qob4 v0Hs 4, bRo G qob4 v0Hs 5, bRo G qob4 v0Hs 6, bRo G qob4 v0Hs 7, bWv G ob5 qob5 v0Wv, bPr G ob6 qob6 v0Pr, bRf G ob7 qob7 v0Rf] 89 _ _
    refine gw_putF (bs' := [[(h, .inr (7, [.ref ob0, .ref ob1, .ref ob2, .ref ob3, .ref ob4, .ref ob5, .ref ob6, .ref ob7, .null, .null, .int 0, .int 0]))], bLg G ob0 qob0 v0Lg, bLg G ob1 qob1 v0Lg, bLg G ob2 qob2 v0Lg, bLg G ob3 qob3 v0Lg, bHo G ob4 qob4 v0Hs, bRo G qob4 v0Hs 0, bRo G qob4 v0Hs 1, bRo G qob4 v0Hs 2, bRo G qob4 v0Hs 3, bRo G qob4 v0Hs 4, bRo G qob4 v0Hs 5, bRo G qob4 v0Hs 6, bRo G qob4 v0Hs 7, bWv G ob5 qob5 v0Wv, bPr G ob6 qob6 v0Pr, bRf G ob7 qob7 v0Rf]) F hI in_X7_init_RX7 tyX7 tyX7_ok nmX7 0 rfl rfl 7 (by decide) lk_X7_init_49 rfl rfl rfl rfl (Nat.le_of_ble_eq_true rfl) dX7_init_89 rfl ?_
    refine gw_aload_n F dX7_init_92 0 rfl ?_
    refine gw_new (fs := [.null, .int 0, .int 0, .int 0, .int 0, .int 0, .int 0]) F in_X7_init_RX0 tyX0 tyX0_ok wd_X7_init_32 wd_X7_init_33 wd_X7_init_34 (ci := 0) rfl dfX0 (Nat.le_of_ble_eq_true rfl) (Nat.le_of_ble_eq_true rfl) dX7_init_93 (fun ob8 => ?_)
    change GW C 118 1193 [[(h, .inr (7, [.ref ob0, .ref ob1, .ref ob2, .ref ob3, .ref ob4, .ref ob5, .ref ob6, .ref ob7, .null, .null, .int 0, .int 0]))], bLg G ob0 qob0 v0Lg, bLg G ob1 qob1 v0Lg, bLg G ob2 qob2 v0Lg, bLg G ob3 qob3 v0Lg, bHo G ob4 qob4 v0Hs, bRo G qob4 v0Hs 0, bRo G qob4 v0Hs 1, bRo G qob4 v0Hs 2, bRo G qob4 v0Hs 3, bRo G qob4 v0Hs 4, bRo G qob4 v0Hs 5, bRo G qob4 v0Hs 6, bRo G qob4 v0Hs 7, bWv G ob5 qob5 v0Wv, bPr G ob6 qob6 v0Pr, bRf G ob7 qob7 v0Rf, [(ob8, .inr (0, [.null, .int 0, .int 0, .int 0, .int 0, .int 0, .int 0]))]] 96 _ _
    refine gw_dup F dX7_init_96 rfl ?_
    refine gw_callIN (host := RX7) F ct_X0_init 0 gX7_init_X0_init_n55 (List.mem_of_getElem? (i := 5) rfl) wd_X7_init_34 wd_X7_init_35 rfl rfl rfl rfl hd_X0_init ⟨(Nat.le_of_ble_eq_true rfl), (Nat.le_of_ble_eq_true rfl)⟩ rfl rfl (Nat.le_of_ble_eq_true rfl) ⟨(Nat.le_of_ble_eq_true rfl), (Nat.le_of_ble_eq_true rfl)⟩ [0, 1, 2, 3, 4, 5, 6, 7, 8, 9, 10, 11, 12, 13, 14, 15, 16, 17] (bsr := [[(h, .inr (7, [.ref ob0, .ref ob1, .ref ob2, .ref ob3, .ref ob4, .ref ob5, .ref ob6, .ref ob7, .null, .null, .int 0, .int 0]))], bLg G ob0 qob0 v0Lg, bLg G ob1 qob1 v0Lg, bLg G ob2 qob2 v0Lg, bLg G ob3 qob3 v0Lg, bHo G ob4 qob4 v0Hs, bRo G qob4 v0Hs 0, bRo G qob4 v0Hs 1, bRo G qob4 v0Hs 2, bRo G qob4 v0Hs 3, bRo G qob4 v0Hs 4, bRo G qob4 v0Hs 5, bRo G qob4 v0Hs 6, bRo G qob4 v0Hs 7, bWv G ob5 qob5 v0Wv, bPr G ob6 qob6 v0Pr, bRf G ob7 qob7 v0Rf]) rfl rfl dX7_init_97 ?_
    rintro _ _ ⟨rfl, qob8, rfl⟩
    change GW C 119 1253 [[(h, .inr (7, [.ref ob0, .ref ob1, .ref ob2, .ref ob3, .ref ob4, .ref ob5, .ref ob6, .ref ob7, .null, .null, .int 0, .int 0]))], bLg G ob0 qob0 v0Lg, bLg G ob1 qob1 v0Lg, bLg G ob2 qob2 v0Lg, bLg G ob3 qob3 v0Lg, bHo G ob4 qob4 v0Hs, bRo G qob4 v0Hs 0, bRo G qob4 v0Hs 1, bRo G qob4 v0Hs 2, bRo G qob4 v0Hs 3, bRo G qob4 v0Hs 4, bRo G qob4 v0Hs 5, bRo G qob4 v0Hs 6, bRo G qob4 v0Hs 7, bWv G ob5 qob5 v0Wv, bPr G ob6 qob6 v0Pr, bRf G ob7 qob7 v0Rf, bTx G ob8 qob8 v0Tx] 100 _ _
    refine gw_putF (bs' := [[(h, .inr (7, [.ref ob0, .ref ob1, .ref ob2, .ref ob3, .ref ob4, .ref ob5, .ref ob6, .ref ob7, .ref ob8, .null, .int 0, .int 0]))], bLg G ob0 qob0 v0Lg, bLg G ob1 qob1 v0Lg, bLg G ob2 qob2 v0Lg, bLg G ob3 qob3 v0Lg, bHo G ob4 qob4 v0Hs, bRo G qob4 v0Hs 0, bRo G qob4 v0Hs 1, bRo G qob4 v0Hs 2, bRo G qob4 v0Hs 3, bRo G qob4 v0Hs 4, bRo G qob4 v0Hs 5, bRo G qob4 v0Hs 6, bRo G qob4 v0Hs 7, bWv G ob5 qob5 v0Wv, bPr G ob6 qob6 v0Pr, bRf G ob7 qob7 v0Rf, bTx G ob8 qob8 v0Tx]) F hI in_X7_init_RX7 tyX7 tyX7_ok nmX7 0 rfl rfl 8 (by decide) lk_X7_init_56 rfl rfl rfl rfl (Nat.le_of_ble_eq_true rfl) dX7_init_100 rfl ?_
    refine gw_aload_n F dX7_init_103 0 rfl ?_
    refine gw_new (fs := [.null, .int 0]) F in_X7_init_RX2 tyX2 tyX2_ok wd_X7_init_37 wd_X7_init_38 wd_X7_init_39 (ci := 2) rfl dfX2 (Nat.le_of_ble_eq_true rfl) (Nat.le_of_ble_eq_true rfl) dX7_init_104 (fun ob9 => ?_)
    change GW C 120 1255 [[(h, .inr (7, [.ref ob0, .ref ob1, .ref ob2, .ref ob3, .ref ob4, .ref ob5, .ref ob6, .ref ob7, .ref ob8, .null, .int 0, .int 0]))], bLg G ob0 qob0 v0Lg, bLg G ob1 qob1 v0Lg, bLg G ob2 qob2 v0Lg, bLg G ob3 qob3 v0Lg, bHo G ob4 qob4 v0Hs, bRo G qob4 v0Hs 0, bRo G qob4 v0Hs 1, bRo G qob4 v0Hs 2, bRo G qob4 v0Hs 3, bRo G qob4 v0Hs 4, bRo G qob4 v0Hs 5, bRo G qob4 v0Hs 6, bRo G qob4 v0Hs 7, bWv G ob5 qob5 v0Wv, bPr G ob6 qob6 v0Pr, bRf G ob7 qob7 v0Rf, bTx G ob8 qob8 v0Tx, [(ob9, .inr (2, [.null, .int 0]))]] 107 _ _
    refine gw_dup F dX7_init_107 rfl ?_
    refine gw_callIN (host := RX7) F ct_X2_init 0 gX7_init_X2_init_n62 (List.mem_of_getElem? (i := 6) rfl) wd_X7_init_39 wd_X7_init_40 rfl rfl rfl rfl hd_X2_init ⟨(Nat.le_of_ble_eq_true rfl), (Nat.le_of_ble_eq_true rfl)⟩ rfl rfl (Nat.le_of_ble_eq_true rfl) ⟨(Nat.le_of_ble_eq_true rfl), (Nat.le_of_ble_eq_true rfl)⟩ [0, 1, 2, 3, 4, 5, 6, 7, 8, 9, 10, 11, 12, 13, 14, 15, 16, 17, 18] (bsr := [[(h, .inr (7, [.ref ob0, .ref ob1, .ref ob2, .ref ob3, .ref ob4, .ref ob5, .ref ob6, .ref ob7, .ref ob8, .null, .int 0, .int 0]))], bLg G ob0 qob0 v0Lg, bLg G ob1 qob1 v0Lg, bLg G ob2 qob2 v0Lg, bLg G ob3 qob3 v0Lg, bHo G ob4 qob4 v0Hs, bRo G qob4 v0Hs 0, bRo G qob4 v0Hs 1, bRo G qob4 v0Hs 2, bRo G qob4 v0Hs 3, bRo G qob4 v0Hs 4, bRo G qob4 v0Hs 5, bRo G qob4 v0Hs 6, bRo G qob4 v0Hs 7, bWv G ob5 qob5 v0Wv, bPr G ob6 qob6 v0Pr, bRf G ob7 qob7 v0Rf, bTx G ob8 qob8 v0Tx]) rfl rfl dX7_init_108 ?_
    rintro _ _ ⟨rfl, qob9, rfl⟩
    change GW C 121 1335 [[(h, .inr (7, [.ref ob0, .ref ob1, .ref ob2, .ref ob3, .ref ob4, .ref ob5, .ref ob6, .ref ob7, .ref ob8, .null, .int 0, .int 0]))], bLg G ob0 qob0 v0Lg, bLg G ob1 qob1 v0Lg, bLg G ob2 qob2 v0Lg, bLg G ob3 qob3 v0Lg, bHo G ob4 qob4 v0Hs, bRo G qob4 v0Hs 0, bRo G qob4 v0Hs 1, bRo G qob4 v0Hs 2, bRo G qob4 v0Hs 3, bRo G qob4 v0Hs 4, bRo G qob4 v0Hs 5, bRo G qob4 v0Hs 6, bRo G qob4 v0Hs 7, bWv G ob5 qob5 v0Wv, bPr G ob6 qob6 v0Pr, bRf G ob7 qob7 v0Rf, bTx G ob8 qob8 v0Tx, bLn G ob9 qob9 v0Ln] 111 _ _
    refine gw_putF (bs' := [[(h, .inr (7, [.ref ob0, .ref ob1, .ref ob2, .ref ob3, .ref ob4, .ref ob5, .ref ob6, .ref ob7, .ref ob8, .ref ob9, .int 0, .int 0]))], bLg G ob0 qob0 v0Lg, bLg G ob1 qob1 v0Lg, bLg G ob2 qob2 v0Lg, bLg G ob3 qob3 v0Lg, bHo G ob4 qob4 v0Hs, bRo G qob4 v0Hs 0, bRo G qob4 v0Hs 1, bRo G qob4 v0Hs 2, bRo G qob4 v0Hs 3, bRo G qob4 v0Hs 4, bRo G qob4 v0Hs 5, bRo G qob4 v0Hs 6, bRo G qob4 v0Hs 7, bWv G ob5 qob5 v0Wv, bPr G ob6 qob6 v0Pr, bRf G ob7 qob7 v0Rf, bTx G ob8 qob8 v0Tx, bLn G ob9 qob9 v0Ln]) F hI in_X7_init_RX7 tyX7 tyX7_ok nmX7 0 rfl rfl 9 (by decide) lk_X7_init_63 rfl rfl rfl rfl (Nat.le_of_ble_eq_true rfl) dX7_init_111 rfl ?_
    refine gw_aload_n F dX7_init_114 0 rfl ?_
    refine gw_iconst (v := (0 : Int32)) F dX7_init_115 ic_iconst_0 ?_
    refine gw_put (bs' := [[(h, .inr (7, [.ref ob0, .ref ob1, .ref ob2, .ref ob3, .ref ob4, .ref ob5, .ref ob6, .ref ob7, .ref ob8, .ref ob9, .int (0 : Int32), .int 0]))], bLg G ob0 qob0 v0Lg, bLg G ob1 qob1 v0Lg, bLg G ob2 qob2 v0Lg, bLg G ob3 qob3 v0Lg, bHo G ob4 qob4 v0Hs, bRo G qob4 v0Hs 0, bRo G qob4 v0Hs 1, bRo G qob4 v0Hs 2, bRo G qob4 v0Hs 3, bRo G qob4 v0Hs 4, bRo G qob4 v0Hs 5, bRo G qob4 v0Hs 6, bRo G qob4 v0Hs 7, bWv G ob5 qob5 v0Wv, bPr G ob6 qob6 v0Pr, bRf G ob7 qob7 v0Rf, bTx G ob8 qob8 v0Tx, bLn G ob9 qob9 v0Ln]) F in_X7_init_RX7 tyX7 tyX7_ok nmX7 0 rfl rfl 10 (by decide) lk_X7_init_67 rfl rfl rfl (Nat.le_of_ble_eq_true rfl) dX7_init_116 rfl ?_
    refine gw_aload_n F dX7_init_119 0 rfl ?_
    refine gw_iconst (v := (-1 : Int32)) F dX7_init_120 ic_iconst_m1 ?_
    refine gw_put (bs' := [[(h, .inr (7, [.ref ob0, .ref ob1, .ref ob2, .ref ob3, .ref ob4, .ref ob5, .ref ob6, .ref ob7, .ref ob8, .ref ob9, .int (0 : Int32), .int (-1 : Int32)]))], bLg G ob0 qob0 v0Lg, bLg G ob1 qob1 v0Lg, bLg G ob2 qob2 v0Lg, bLg G ob3 qob3 v0Lg, bHo G ob4 qob4 v0Hs, bRo G qob4 v0Hs 0, bRo G qob4 v0Hs 1, bRo G qob4 v0Hs 2, bRo G qob4 v0Hs 3, bRo G qob4 v0Hs 4, bRo G qob4 v0Hs 5, bRo G qob4 v0Hs 6, bRo G qob4 v0Hs 7, bWv G ob5 qob5 v0Wv, bPr G ob6 qob6 v0Pr, bRf G ob7 qob7 v0Rf, bTx G ob8 qob8 v0Tx, bLn G ob9 qob9 v0Ln]) F in_X7_init_RX7 tyX7 tyX7_ok nmX7 0 rfl rfl 11 (by decide) lk_X7_init_71 rfl rfl rfl (Nat.le_of_ble_eq_true rfl) dX7_init_121 rfl ?_
    refine gw_sel [0, 1, 2, 3, 4, 14, 15, 16, 17, 18, 5, 6, 7, 8, 9, 10, 11, 12, 13] (bs' := [[(h, .inr (7, [.ref ob0, .ref ob1, .ref ob2, .ref ob3, .ref ob4, .ref ob5, .ref ob6, .ref ob7, .ref ob8, .ref ob9, .int (0 : Int32), .int (-1 : Int32)]))], bLg G ob0 qob0 v0Lg, bLg G ob1 qob1 v0Lg, bLg G ob2 qob2 v0Lg, bLg G ob3 qob3 v0Lg, bWv G ob5 qob5 v0Wv, bPr G ob6 qob6 v0Pr, bRf G ob7 qob7 v0Rf, bTx G ob8 qob8 v0Tx, bLn G ob9 qob9 v0Ln, bHo G ob4 qob4 v0Hs, bRo G qob4 v0Hs 0, bRo G qob4 v0Hs 1, bRo G qob4 v0Hs 2, bRo G qob4 v0Hs 3, bRo G qob4 v0Hs 4, bRo G qob4 v0Hs 5, bRo G qob4 v0Hs 6, bRo G qob4 v0Hs 7]) rfl rfl ?_
    exact gw_vret F E rfl (Nat.le_of_ble_eq_true rfl) (Nat.le_of_ble_eq_true rfl) dX7_init_124 ⟨rfl, qf [(0, ob0), (1, ob1), (2, ob2), (3, ob3), (4, ob4), (5, ob5), (6, ob6), (7, ob7), (8, ob8), (9, ob9)], qob0, qob1, qob2, qob3, qob5, qob6, qob7, qob8, qob9, qob4, rfl⟩)
