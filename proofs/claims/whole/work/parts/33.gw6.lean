/-! what the law's helpers need: longs, rows of longs and of doubles, handlers, calls of methods that have handlers -/
theorem GF.mono {C : Cx} {X X' : List Cond} {cc : ByteArray} {Ts : List Cond} {own : String} {R0 : Room} {n0 : Nat} {ret : Option FieldType} {D0 : va_G} {G0 : Nat → ClassId} {l0 : Launch} (F : GF C X cc Ts own R0 n0 ret D0 G0 l0) (h : ∀ w ∈ X', w ∈ X) : GF C X' cc Ts own R0 n0 ret D0 G0 l0 := by
  obtain ⟨p, l, e, R, s, m, args, below, meth, c, A, D, G, Q, nL⟩ := C
  obtain ⟨hx, hb, hts, hown, hK, hml, hA, ⟨s1, s2, s3⟩, hr⟩ := F
  exact ⟨hx, hb, hts, hown, hK, hml, hA, ⟨s1, fun w hw => s2 w (h w hw), s3⟩, hr⟩
/-- the end of a method with handlers -/
def GEH (C : Cx) (bs0 : List va_W) (mc ms : Nat) (Post : Option Value → List va_W → Prop) (PostX : String → List va_W → Prop) (tab : List ExceptionTableEntry) : Prop :=
  match C with
  | (_, _, _, _, s, _, args, below, _, c, A, D, _, Q, _) => A = va_A bs0.flatten s.heap.size ∧ Q = vx_MQ below (PosB D bs0 s.heap.size Post) (XCB D bs0 s.heap.size PostX) args s mc ms A ∧ c.exceptionTable.toList = tab
theorem GEH.ret {C : Cx} {bs0 : List va_W} {mc ms : Nat} {Post : Option Value → List va_W → Prop} {PostX : String → List va_W → Prop} {tab : List ExceptionTableEntry} (h : GEH C bs0 mc ms Post PostX tab) : GE C bs0 mc ms Post := by
  obtain ⟨p, l, e, R, s, m, args, below, meth, c, A, D, G, Q, nL⟩ := C
  obtain ⟨h1, h2, -⟩ := h
  refine ⟨h1, fun H locs k n g hk hn w => ?_⟩
  rw [h2]
  exact W.widen hk hn (vx_ret w)
theorem CMX.ofH {X : List Cond} {l : Launch} {y : MethodName} {ws ws' : List Cond} {rm : Room} {D : va_G} {G : Nat → ClassId} {As : List Value} {bs : List va_W} {mc ms : Nat} {Post : Option Value → List va_W → Prop} {PostX : String → List va_W → Prop} {cc : ByteArray} {maxL : Nat} {ret : Option FieldType} {hh : List (Nat × Nat × Nat × Nat)} {own : String} {lv : List (Nat × Value)}
    (hy : plainName y.cls = true) (hw : ws = Cond.codeWith y cc maxL ret hh :: ws') (ho : y.cls = own) (hent : (lg_sl As).length ≤ maxL) (hlv : lv_args 0 As = lv) (body : ∀ C : Cx, GF C X cc ws own rm maxL ret D G l → GEH C bs mc ms Post PostX (tableOf hh) → GW C 0 0 bs 0 lv []) : CMX X l y ws rm D G As bs mc ms Post PostX := by
  intro sz
  refine vx_ofWH hy hw ?_
  intro p e s m args below meth c s₁ B hml hv
  obtain ⟨rfl, hsz, hP, hK, hD0, hSF⟩ := hv
  subst hsz
  have hl := lv_entry As (n := maxL) hent
  have htab := vx_table (x := y) (hh := hh) (bytes := cc) (maxL' := maxL) (ret' := ret) B (atoms_spec (ws := ws) B.pre _ (by rw [hw]; exact List.mem_cons_self))
  rw [lg_entry_eq]
  generalize (lg_sl As ++ List.replicate (maxL - (lg_sl As).length) Slot.unset).toArray = ls at hl ⊢
  refine body (p, l, e, rm, s, m, As.toArray, below, meth, c, va_A bs.flatten s.heap.size, D, G, vx_MQ below (PosB D bs s.heap.size Post) (XCB D bs s.heap.size PostX) As.toArray s mc ms (va_A bs.flatten s.heap.size), maxL)
    ⟨B.exec, B.bytes, atoms_spec (ws := ws) B.pre, ho ▸ findClass_of_methodNamed B.named, hK, hml, fun q h => Or.inr h, hSF, rfl, rfl, B.returns, B.notSynchronized, rfl, rfl, rfl⟩
    ⟨rfl, rfl, htab⟩ s.heap [] ls hP hD0.self va_S.rf (hlv ▸ hl)
def lcm3 (x y : Int64) : Int32 := if y < x then 1 else if x = y then 0 else -1
section GWSIX
variable {C : Cx} {X : List Cond} {cc : ByteArray} {Ts : List Cond} {own : String} {R0 : Room} {n0 : Nat} {ret : Option FieldType} {D0 : va_G} {G0 : Nat → ClassId} {l0 : Launch} {k n pc : Nat} {bs bs' : List va_W} {lv lv' : List (Nat × Value)} {st : List Value}
theorem gwx_catch (F : GF C X cc Ts own R0 n0 ret D0 G0 l0) {bs0 : List va_W} {mc ms : Nat} {Post : Option Value → List va_W → Prop} {PostX : String → List va_W → Prop} {tab : List ExceptionTableEntry} (E : GEH C bs0 mc ms Post PostX tab) {En name : String} (pre : List ExceptionTableEntry) (x : ExceptionTableEntry) (suf : List ExceptionTableEntry) (hsplit : tab = pre ++ x :: suf)
    (hpass : ∀ z ∈ pre, z.catchType ≠ 0 ∧ ∃ nm : String, Cond.classLink own z.catchType nm ∈ Ts ∧ Cond.not (.castable En nm) ∈ X) (hx : covers x pc = true) (h0 : x.catchType ≠ 0)
    (hlink : Cond.classLink own x.catchType name ∈ Ts) (hcast : Cond.castable En name ∈ X) (K : ∀ q : Nat, GW C k n bs x.handlerPc lv [.ref q]) : GWX C k n bs pc lv En := by
  obtain ⟨p, l, e, R, s, m, args, below, meth, c, A, D, G, Q, nL⟩ := C
  obtain ⟨hx9, hb, hts, hown, hK, hml, hA, hSF, -⟩ := F
  obtain ⟨-, -, htab⟩ := E
  intro H locs ls rest q ce hP hD hS hl h1 h2 h3
  refine vx_catch hown pre x suf (htab.trans hsplit) (fun z hz => ?_) hx h0 (hts _ hlink) (va_Nw.use rfl (hSF.2.1 _ hcast).now) h1 h2 h3 (K q H locs ls hP hD hS hl)
  obtain ⟨g1, nm, g2, g3⟩ := hpass z hz
  exact Or.inr ⟨g1, nm, hts _ g2, va_Nc.of (args := #[]) (hSF.2.1 _ g3).now⟩
theorem gw_lconst (F : GF C X cc Ts own R0 n0 ret D0 G0 l0) {z : Fin 2} {v : Int64} (d : decode cc pc = .ok (.lconst z, 1)) (hv : Int64.ofNat (z : Nat) = v) (K : GW C k n bs (pc + 1) lv (.long v :: st)) : GW C k n bs pc lv st := by
  obtain ⟨p, l, e, R, s, m, args, below, meth, c, A, D, G, Q, nL⟩ := C
  obtain ⟨hx, hb, -⟩ := F
  exact fun H locs ls hP hD hS hl => lv_lconst hx hb d hv (K H locs ls hP hD hS hl)
theorem gw_f2d (F : GF C X cc Ts own R0 n0 ret D0 G0 l0) {x : UInt32} (d : decode cc pc = .ok (.f2d, 1)) (hne : vf_n64 (FP.f2d x)) (K : GW C k n bs (pc + 1) lv (.double (FP.f2d x) :: st)) : GW C k n bs pc lv (.float x :: st) := by
  obtain ⟨p, l, e, R, s, m, args, below, meth, c, A, D, G, Q, nL⟩ := C
  obtain ⟨hx, hb, -⟩ := F
  exact fun H locs ls hP hD hS hl => lv_f2d hx hb d hne (K H locs ls hP hD hS hl)
theorem gw_dcmp (F : GF C X cc Ts own R0 n0 ret D0 G0 l0) {x y : UInt64} {op : CmpOp} (d : decode cc pc = .ok (.dcmp op, 1)) (K : GW C k n bs (pc + 1) lv (.int (Op.cmpValue (FP.dcmp x y) op) :: st)) : GW C k n bs pc lv (.double y :: .double x :: st) := by
  obtain ⟨p, l, e, R, s, m, args, below, meth, c, A, D, G, Q, nL⟩ := C
  obtain ⟨hx, hb, -⟩ := F
  exact fun H locs ls hP hD hS hl => lv_dcmp hx hb d (K H locs ls hP hD hS hl)
theorem gw_fcmp (F : GF C X cc Ts own R0 n0 ret D0 G0 l0) {x y : UInt32} {op : CmpOp} (d : decode cc pc = .ok (.fcmp op, 1)) (K : GW C k n bs (pc + 1) lv (.int (Op.cmpValue (FP.fcmp x y) op) :: st)) : GW C k n bs pc lv (.float y :: .float x :: st) := by
  obtain ⟨p, l, e, R, s, m, args, below, meth, c, A, D, G, Q, nL⟩ := C
  obtain ⟨hx, hb, -⟩ := F
  exact fun H locs ls hP hD hS hl => lv_fcmp hx hb d (K H locs ls hP hD hS hl)
theorem gw_lcmp (F : GF C X cc Ts own R0 n0 ret D0 G0 l0) {x y : Int64} (d : decode cc pc = .ok (.lcmp, 1)) (K : GW C k n bs (pc + 1) lv (.int (lcm3 x y) :: st)) : GW C k n bs pc lv (.long y :: .long x :: st) := by
  obtain ⟨p, l, e, R, s, m, args, below, meth, c, A, D, G, Q, nL⟩ := C
  obtain ⟨hx, hb, -⟩ := F
  intro H locs ls hP hD hS hl T hT X9
  obtain ⟨t, a, b⟩ := K H locs ls hP hD hS hl T hT X9
  refine ⟨t, ?_, b⟩
  by_cases c1 : y < x
  · have e1 : lcm3 x y = 1 := by simp [lcm3, c1]
    rw [e1] at a
    jvm_step X9.here [X9.here.top, hx, hb, d, c1]
    exact a
  · by_cases c2 : x = y
    · subst c2
      have e1 : lcm3 x x = 0 := by simp [lcm3]
      rw [e1] at a
      jvm_step X9.here [X9.here.top, hx, hb, d]
      exact a
    · have e1 : lcm3 x y = -1 := by simp [lcm3, c1, c2]
      rw [e1] at a
      jvm_step X9.here [X9.here.top, hx, hb, d, c1, c2]
      exact a
theorem gw_lald (F : GF C X cc Ts own R0 n0 ret D0 G0 l0) (q0 : Nat) {a nA : Nat} {f : Nat → Int64} (ha : bs.flatten[q0]? = some (a, .inl (G0 3, nA, .inr (.inl f)))) {i : Int32} (hin : vp_in i nA) (d : decode cc pc = .ok (.laload, 1)) (K : GW C k n bs (pc + 1) lv (.long (f i.toNatClampNeg) :: st)) : GW C k n bs pc lv (.int i :: .ref a :: st) := by
  obtain ⟨p, l, e, R, s, m, args, below, meth, c, A, D, G, Q, nL⟩ := C
  obtain ⟨hx, hb, hts, hown, hK, -, -, -, -, -, -, -, -, rfl, -⟩ := F
  exact fun H locs ls hP hD hS hl => va_lald hx hb hK hP q0 3 ha rfl hin d (K H locs ls hP hD hS hl)
theorem gw_dald (F : GF C X cc Ts own R0 n0 ret D0 G0 l0) (q0 : Nat) {a nA : Nat} {f : Nat → UInt64} (ha : bs.flatten[q0]? = some (a, .inl (G0 4, nA, .inr (.inr (.inr (.inl f)))))) {i : Int32} (hin : vp_in i nA) (d : decode cc pc = .ok (.daload, 1)) (K : GW C k n bs (pc + 1) lv (.double (f i.toNatClampNeg) :: st)) : GW C k n bs pc lv (.int i :: .ref a :: st) := by
  obtain ⟨p, l, e, R, s, m, args, below, meth, c, A, D, G, Q, nL⟩ := C
  obtain ⟨hx, hb, hts, hown, hK, -, -, -, -, -, -, -, -, rfl, -⟩ := F
  exact fun H locs ls hP hD hS hl => va_dald hx hb hK hP q0 4 ha rfl hin d (K H locs ls hP hD hS hl)
theorem gw_last (F : GF C X cc Ts own R0 n0 ret D0 G0 l0) (q0 : Nat) {a nA : Nat} {f : Nat → Int64} (ha : bs.flatten[q0]? = some (a, .inl (G0 3, nA, .inr (.inl f)))) {i : Int32} {x : Int64} (hin : vp_in i nA) (d : decode cc pc = .ok (.lastore, 1)) (hset : bs.flatten.set q0 (a, .inl (G0 3, nA, .inr (.inl (vp_updL f i.toNatClampNeg x)))) = bs'.flatten) (K : GW C k n bs' (pc + 1) lv st) : GW C k n bs pc lv (.long x :: .int i :: .ref a :: st) := by
  obtain ⟨p, l, e, R, s, m, args, below, meth, c, A, D, G, Q, nL⟩ := C
  obtain ⟨hx, hb, hts, hown, hK, -, -, -, -, -, -, -, -, rfl, -⟩ := F
  exact fun H locs ls hP hD hS hl => va_last hx hb hK hP hD hS q0 3 ha rfl hin d (fun H1 locs1 hP1 hD1 hS1 => K H1 locs1 ls (hset ▸ hP1) (hset ▸ hD1) hS1 hl)
theorem gw_dast (F : GF C X cc Ts own R0 n0 ret D0 G0 l0) (q0 : Nat) {a nA : Nat} {f : Nat → UInt64} (ha : bs.flatten[q0]? = some (a, .inl (G0 4, nA, .inr (.inr (.inr (.inl f)))))) {i : Int32} {x : UInt64} (hin : vp_in i nA) (d : decode cc pc = .ok (.dastore, 1)) (hset : bs.flatten.set q0 (a, .inl (G0 4, nA, .inr (.inr (.inr (.inl (va_up f i.toNatClampNeg x)))))) = bs'.flatten) (K : GW C k n bs' (pc + 1) lv st) : GW C k n bs pc lv (.double x :: .int i :: .ref a :: st) := by
  obtain ⟨p, l, e, R, s, m, args, below, meth, c, A, D, G, Q, nL⟩ := C
  obtain ⟨hx, hb, hts, hown, hK, -, -, -, -, -, -, -, -, rfl, -⟩ := F
  exact fun H locs ls hP hD hS hl => va_dast hx hb hK hP hD hS q0 4 ha rfl hin d (fun H1 locs1 hP1 hD1 hS1 => K H1 locs1 ls (hset ▸ hP1) (hset ▸ hD1) hS1 hl)
/-- a static call of a method with handlers; it returns -/
theorem gw_callSX (F : GF C X cc Ts own R0 n0 ret D0 G0 l0) {index maxL mc ms : Nat} {y : MethodName} {bytes : ByteArray} {ret2 : Option FieldType} {hh : List (Nat × Nat × Nat × Nat)} {ws ws' : List Cond} {rm : Room} {bsr bs1 : List va_W} {As rest st0 : List Value} {Post : Option Value → List va_W → Prop}
    (hM : CMX X l0 y ws rm D0 G0 As bs1 mc ms Post (fun _ _ => False)) (n9 : Nat) (g : GoodIn Ts (va_wsS own index y ws)) (hw : ws = Cond.codeWith y bytes maxL ret2 hh :: ws') (hrc : rm.cells = mc) (hrs : rm.slots = ms)
    (hd : y.cls ≠ "java/lang/invoke/MethodHandle" ∧ y.cls ≠ "java/lang/invoke/VarHandle" ∧ (parseMethodDescriptor y.desc).map (fun d => d.parameters.length) = some n9) (hR : rm.frames + 1 ≤ R0.frames ∧ 8 + (maxL + 11) + rm.locals ≤ R0.locals) (hn : As.length = n9) (hst : st0 = As.reverse ++ rest) (hcat : (rest.map fun v => v.category).sum ≤ 8) (hcs : k + mc ≤ R0.cells ∧ n + ms ≤ R0.slots)
    (is : List Nat) (hsel : is.map (fun i => bs[i]?) = (bsr ++ bs1).map some) (hnd : va_nd is = true) (d : decode cc pc = .ok (.invokestatic index, 3))
    (K : ∀ (v : Option Value) (bs2 : List va_W), Post v bs2 → GW C (k + mc) (n + ms) (bsr ++ bs2) (pc + 3) lv (v.toList ++ rest)) : GW C k n bs pc lv st0 := by
  refine gw_callXB (As := As) (PostX := fun _ _ => False) F is hsel hnd ?_ (fun E bs2 h => h.elim) K
  obtain ⟨p, l, e, R, s, m, args, below, meth, c, A, D, G, Q, nL⟩ := C
  obtain ⟨hx, hb, hts, hown, hK, hml, hA, hSF, rfl, -, -, -, rfl, rfl, rfl⟩ := F
  intro H locs ls hsz hPc hpre
  exact vx_runSX ⟨hx, hb, hml, hown, hts⟩ (hM H.size) (vx_cwSW n9 hts g hw hrc hrs hd hR) ⟨hpre.1, hpre.2⟩ rfl hn hsz hst (lv_room hcat) d hcs
end GWSIX
