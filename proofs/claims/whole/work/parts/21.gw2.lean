def GRun (C : Cx) (X : List Cond) (D0 : va_G) (G0 : Nat → ClassId) (As : List Value) (bs1 : List va_W) (k n mc ms pc : Nat) (st0 rest : List Value) (Post : Option Value → List va_W → Prop) : Prop :=
  match C with
  | (p, l, e, R, s, m, args, below, meth, c, _, D, _, _, nL) => ∀ (H : Heap) (locs : List Loc) (ls : Array Slot), ls.size = nL → va_P D myCl bs1.flatten H → (FrameBlind (PreB X D0 G0 As bs1 H.size) ∧ ∀ U : State, U.heap = H → s.WarmedH U.vm → PreB X D0 G0 As bs1 H.size As.toArray U) → va_Run p l e R s m args below meth c H locs k n mc ms (F0 m pc ls st0) rest (PosB D bs1 H.size Post As.toArray) (va_A bs1.flatten H.size)
def GRunX (C : Cx) (X : List Cond) (D0 : va_G) (G0 : Nat → ClassId) (As : List Value) (bs1 : List va_W) (k n mc ms pc : Nat) (st0 rest : List Value) (Post : Option Value → List va_W → Prop) (PostX : String → List va_W → Prop) : Prop :=
  match C with
  | (p, l, e, R, s, m, args, below, meth, c, _, D, _, _, nL) => ∀ (H : Heap) (locs : List Loc) (ls : Array Slot), ls.size = nL → va_P D myCl bs1.flatten H → (FrameBlind (PreB X D0 G0 As bs1 H.size) ∧ ∀ U : State, U.heap = H → s.WarmedH U.vm → PreB X D0 G0 As bs1 H.size As.toArray U) → vx_Run p l e R s m args below meth c H locs k n mc ms (F0 m pc ls st0) rest (PosB D bs1 H.size Post As.toArray) (XCB D bs1 H.size PostX) (va_A bs1.flatten H.size)
section GWH
variable {C : Cx} {X : List Cond} {cc : ByteArray} {Ts : List Cond} {own : String} {R0 : Room} {n0 : Nat} {ret : Option FieldType} {D0 : va_G} {G0 : Nat → ClassId} {l0 : Launch} {k n pc : Nat} {bs bs' : List va_W} {lv lv' : List (Nat × Value)} {st : List Value}
theorem gw_get (F : GF C X cc Ts own R0 n0 ret D0 G0 l0) {Cn : String} {T : u_T} {N ci index a : Nat} {fs : List Value} {v : Value} (hin : ∀ w ∈ u_ws Cn T N, w ∈ Ts) (q0 : Nat) (he : bs.flatten[q0]? = some (a, .inr (ci, fs))) (hc : myCl[ci]? = some (Cn, T, N)) (kf : Nat) (hk : kf < N) (hlink : Cond.fieldLink own index (T kf).1 (T kf).2.1 (T kf).2.2.1 ∈ Ts) (hv : fs[kf]? = some v) (d : decode cc pc = .ok (.getfield index, 3)) (K : GW C k n bs (pc + 3) lv (v :: st)) : GW C k n bs pc lv (.ref a :: st) := by
  obtain ⟨p, l, e, R, s, m, args, below, meth, c, A, D, G, Q, nL⟩ := C
  obtain ⟨hx, hb, hts, hown, hK, -⟩ := F
  exact fun H locs ls hP hD hS hl => va_get hx hb hts hin hown hK hP q0 he hc kf hk (hts _ hlink) (fun _ h9 => h9) hv d (K H locs ls hP hD hS hl)
theorem gw_put (F : GF C X cc Ts own R0 n0 ret D0 G0 l0) {Cn : String} {T : u_T} {N ci index a : Nat} {fs : List Value} {v : Value} (hin : ∀ w ∈ u_ws Cn T N, w ∈ Ts) (ty0 : Nat → FieldType) (hty : ∀ k, k < N → parseFieldDescriptor (T k).2.2.1 = some (ty0 k)) (hnm : ∀ a, a < N → ∀ b, b < N → a ≠ b → (T a).2.1 ≠ (T b).2.1) (q0 : Nat) (he : bs.flatten[q0]? = some (a, .inr (ci, fs))) (hc : myCl[ci]? = some (Cn, T, N)) (kf : Nat) (hk : kf < N) (hlink : Cond.fieldLink own index (T kf).1 (T kf).2.1 (T kf).2.2.1 ∈ Ts) (hfin : (T kf).2.2.2 = false) (hn : narrow (ty0 kf) v = v) (hfit : fits (ty0 kf) v = true) (hl0 : kf < fs.length) (d : decode cc pc = .ok (.putfield index, 3)) (hset : bs.flatten.set q0 (a, .inr (ci, fs.set kf v)) = bs'.flatten) (K : GW C k n bs' (pc + 3) lv st) : GW C k n bs pc lv (v :: .ref a :: st) := by
  obtain ⟨p, l, e, R, s, m, args, below, meth, c, A, D, G, Q, nL⟩ := C
  obtain ⟨hx, hb, hts, hown, hK, -⟩ := F
  exact fun H locs ls hP hD hS hl => va_put hx hb hts hin ty0 hty hnm hown hK hP hD hS q0 he hc kf hk (hts _ hlink) (fun _ h9 => h9) hfin (hty kf hk) hn hfit hl0 d (fun H1 locs1 hP1 hD1 hS1 => K H1 locs1 ls (hset ▸ hP1) (hset ▸ hD1) hS1 hl)
theorem gw_iald (F : GF C X cc Ts own R0 n0 ret D0 G0 l0) (q0 : Nat) {a nA : Nat} {f : Nat → Int32} (ha : bs.flatten[q0]? = some (a, .inl (G0 0, nA, .inl f))) {i : Int32} (hin : vp_in i nA) (d : decode cc pc = .ok (.iaload, 1)) (K : GW C k n bs (pc + 1) lv (.int (f i.toNatClampNeg) :: st)) : GW C k n bs pc lv (.int i :: .ref a :: st) := by
  obtain ⟨p, l, e, R, s, m, args, below, meth, c, A, D, G, Q, nL⟩ := C
  obtain ⟨hx, hb, hts, hown, hK, -, -, -, -, -, -, -, -, rfl, -⟩ := F
  exact fun H locs ls hP hD hS hl => va_iald hx hb hK hP q0 0 ha rfl hin d (K H locs ls hP hD hS hl)
theorem gw_zald (F : GF C X cc Ts own R0 n0 ret D0 G0 l0) (q0 : Nat) {a nA : Nat} {f : Nat → Int32} (ha : bs.flatten[q0]? = some (a, .inl (G0 1, nA, .inl f))) {i : Int32} (hin : vp_in i nA) (d : decode cc pc = .ok (.baload, 1)) (K : GW C k n bs (pc + 1) lv (.int (f i.toNatClampNeg) :: st)) : GW C k n bs pc lv (.int i :: .ref a :: st) := by
  obtain ⟨p, l, e, R, s, m, args, below, meth, c, A, D, G, Q, nL⟩ := C
  obtain ⟨hx, hb, hts, hown, hK, -, -, -, -, -, -, -, -, rfl, -⟩ := F
  exact fun H locs ls hP hD hS hl => va_zald hx hb hK hP q0 1 ha rfl hin d (K H locs ls hP hD hS hl)
theorem gw_cald (F : GF C X cc Ts own R0 n0 ret D0 G0 l0) (q0 : Nat) {a nA : Nat} {f : Nat → Int32} (ha : bs.flatten[q0]? = some (a, .inl (G0 2, nA, .inl f))) {i : Int32} (hin : vp_in i nA) (d : decode cc pc = .ok (.caload, 1)) (K : GW C k n bs (pc + 1) lv (.int (f i.toNatClampNeg) :: st)) : GW C k n bs pc lv (.int i :: .ref a :: st) := by
  obtain ⟨p, l, e, R, s, m, args, below, meth, c, A, D, G, Q, nL⟩ := C
  obtain ⟨hx, hb, hts, hown, hK, -, -, -, -, -, -, -, -, rfl, -⟩ := F
  exact fun H locs ls hP hD hS hl => va_cald hx hb hK hP q0 2 ha rfl hin d (K H locs ls hP hD hS hl)
theorem gw_iast (F : GF C X cc Ts own R0 n0 ret D0 G0 l0) (q0 : Nat) {a nA : Nat} {f : Nat → Int32} (ha : bs.flatten[q0]? = some (a, .inl (G0 0, nA, .inl f))) {i x : Int32} (hin : vp_in i nA) (d : decode cc pc = .ok (.iastore, 1)) (hset : bs.flatten.set q0 (a, .inl (G0 0, nA, .inl (upd f i.toNatClampNeg x))) = bs'.flatten) (K : GW C k n bs' (pc + 1) lv st) : GW C k n bs pc lv (.int x :: .int i :: .ref a :: st) := by
  obtain ⟨p, l, e, R, s, m, args, below, meth, c, A, D, G, Q, nL⟩ := C
  obtain ⟨hx, hb, hts, hown, hK, -, -, -, -, -, -, -, -, rfl, -⟩ := F
  exact fun H locs ls hP hD hS hl => va_iast hx hb hK hP hD hS q0 0 ha rfl hin d (fun H1 locs1 hP1 hD1 hS1 => K H1 locs1 ls (hset ▸ hP1) (hset ▸ hD1) hS1 hl)
theorem gw_zast (F : GF C X cc Ts own R0 n0 ret D0 G0 l0) (q0 : Nat) {a nA : Nat} {f : Nat → Int32} (ha : bs.flatten[q0]? = some (a, .inl (G0 1, nA, .inl f))) {i x : Int32} (hin : vp_in i nA) (d : decode cc pc = .ok (.bastore, 1)) (hset : bs.flatten.set q0 (a, .inl (G0 1, nA, .inl (upd f i.toNatClampNeg (vp_nar .boolean x)))) = bs'.flatten) (K : GW C k n bs' (pc + 1) lv st) : GW C k n bs pc lv (.int x :: .int i :: .ref a :: st) := by
  obtain ⟨p, l, e, R, s, m, args, below, meth, c, A, D, G, Q, nL⟩ := C
  obtain ⟨hx, hb, hts, hown, hK, -, -, -, -, -, -, -, -, rfl, -⟩ := F
  exact fun H locs ls hP hD hS hl => va_zast hx hb hK hP hD hS q0 1 ha rfl hin d (fun H1 locs1 hP1 hD1 hS1 => K H1 locs1 ls (hset ▸ hP1) (hset ▸ hD1) hS1 hl)
theorem gw_cast (F : GF C X cc Ts own R0 n0 ret D0 G0 l0) (q0 : Nat) {a nA : Nat} {f : Nat → Int32} (ha : bs.flatten[q0]? = some (a, .inl (G0 2, nA, .inl f))) {i x : Int32} (hin : vp_in i nA) (d : decode cc pc = .ok (.castore, 1)) (hset : bs.flatten.set q0 (a, .inl (G0 2, nA, .inl (upd f i.toNatClampNeg (vp_nar .char x)))) = bs'.flatten) (K : GW C k n bs' (pc + 1) lv st) : GW C k n bs pc lv (.int x :: .int i :: .ref a :: st) := by
  obtain ⟨p, l, e, R, s, m, args, below, meth, c, A, D, G, Q, nL⟩ := C
  obtain ⟨hx, hb, hts, hown, hK, -, -, -, -, -, -, -, -, rfl, -⟩ := F
  exact fun H locs ls hP hD hS hl => va_cast hx hb hK hP hD hS q0 2 ha rfl hin d (fun H1 locs1 hP1 hD1 hS1 => K H1 locs1 ls (hset ▸ hP1) (hset ▸ hD1) hS1 hl)
-- the end
theorem gw_iret (F : GF C X cc Ts own R0 n0 ret D0 G0 l0) {bs0 : List va_W} {mc ms : Nat} {Post : Option Value → List va_W → Prop} (E : GE C bs0 mc ms Post) {ty : FieldType} (hr : ret = some ty) {x : Int32} (hn : narrow ty (.int x) = .int x) (hk : k ≤ mc) (hs : n ≤ ms) (d : decode cc pc = .ok (.ireturn, 1)) (hp : Post (some (.int x)) bs) : GW C k n bs pc lv [.int x] := by
  obtain ⟨p, l, e, R, s, m, args, below, meth, c, A, D, G, Q, nL⟩ := C
  obtain ⟨hx, hb, hts, hown, hK, -, -, -, -, -, hr', hlocks, rfl, rfl, -⟩ := F
  obtain ⟨hA, hE⟩ := E
  subst hA
  exact fun H locs ls hP hD hS hl => hE H locs k n _ hk hs (W.zret hx hb (hr'.trans hr) hn (fun t ht _ => ⟨⟨some (.int x), bs, rfl, hp, by rw [ht]; exact hP, hD⟩, hS.F ht⟩) hS.2.2 d hlocks)
theorem gw_vret (F : GF C X cc Ts own R0 n0 ret D0 G0 l0) {bs0 : List va_W} {mc ms : Nat} {Post : Option Value → List va_W → Prop} (E : GE C bs0 mc ms Post) (hr : ret = none) (hk : k ≤ mc) (hs : n ≤ ms) (d : decode cc pc = .ok (.return_, 1)) (hp : Post none bs) : GW C k n bs pc lv [] := by
  obtain ⟨p, l, e, R, s, m, args, below, meth, c, A, D, G, Q, nL⟩ := C
  obtain ⟨hx, hb, hts, hown, hK, -, -, -, -, -, hr', hlocks, rfl, rfl, -⟩ := F
  obtain ⟨hA, hE⟩ := E
  subst hA
  exact fun H locs ls hP hD hS hl => hE H locs k n _ hk hs (W.vret hx hb (hr'.trans hr) (fun t ht _ => ⟨⟨none, bs, rfl, hp, by rw [ht]; exact hP, hD⟩, hS.F ht⟩) hS.2.2 d hlocks)
theorem gw_callB (F : GF C X cc Ts own R0 n0 ret D0 G0 l0) {bsr bs1 : List va_W} {mc ms : Nat} {As rest st0 : List Value} {Post : Option Value → List va_W → Prop} (is : List Nat) (hsel : is.map (fun i => bs[i]?) = (bsr ++ bs1).map some) (hnd : va_nd is = true)
    (hrun : GRun C X D0 G0 As bs1 k n mc ms pc st0 rest Post)
    (K : ∀ (v : Option Value) (bs2 : List va_W), Post v bs2 → GW C (k + mc) (n + ms) (bsr ++ bs2) (pc + 3) lv (v.toList ++ rest)) : GW C k n bs pc lv st0 := by
  obtain ⟨p, l, e, R, s, m, args, below, meth, c, A, D, G, Q, nL⟩ := C
  obtain ⟨hx, hb, hts, hown, hK, hml, hA, hSF, -, -, -, -, rfl, rfl, -⟩ := F
  intro H locs ls hP hD hS hl T hT X9
  have hF := wm_free hD hS hA hsel
  obtain ⟨hPc, hDc⟩ := wm_call hP hD hsel hnd
  have hr := hrun H locs ls hl.1 hPc ⟨blindB, fun U hU hW => ⟨rfl, by rw [hU], by rw [hU]; exact hPc, va_K.moved hW.alike hK, hDc, hSF.to hS hU hW hF⟩⟩
  obtain ⟨v, st₀, t, T', L, h0, X', hL, e1, e2, ⟨⟨v', bs2, hv, hp, hP2, hD2⟩, hz, hk⟩, go⟩ := hr T hT X9
  cases hv
  rw [h0] at hz hk
  rw [← e1] at hP2
  have hk' : ∀ q : Nat, q < H.size → ¬ va_A bs1.flatten H.size q → T'.heap[q]? = H[q]? := fun q h1 h2 => by rw [e1]; exact hk q h1 h2
  obtain ⟨hP', hD'⟩ := wm_join hP hD hsel hnd hk' hF hP2 hD2
  obtain ⟨t2, a1, b1⟩ := K v bs2 hp T'.heap (locs ++ L) ls hP' hD'
    ⟨Nat.le_trans hS.1 (by rw [e1]; exact hz), fun q h1 h2 => by rw [hk' q (Nat.lt_of_lt_of_le h1 hS.1) (fun z => h2 (hF q z))]; exact hS.2.1 q h1 h2, fun q hq => by
      rcases List.mem_append.mp hq with h | h
      · exact hS.2.2 q h
      · exact hF _ (hL q h)⟩ hl T' rfl X'
  exact ⟨t2, go t2 a1, b1⟩
theorem gw_callV (F : GF C X cc Ts own R0 n0 ret D0 G0 l0) {Cn : String} {T : u_T} {N ci q0 index maxL mc ms b : Nat} {y : MethodName} {bytes : ByteArray} {ret2 : Option FieldType} {ws ws' : List Cond} {rm : Room} {bsr bs1 : List va_W} {As rest st0 : List Value} {fs : List Value} {Post : Option Value → List va_W → Prop}
    (hM : CM X l0 y ws rm D0 G0 (.ref b :: As) bs1 mc ms Post) (n9 : Nat) (g : GoodIn Ts (wsV own index Cn y ws)) (hw : ws = Cond.code y bytes maxL ret2 :: ws') (hrc : rm.cells = mc) (hrs : rm.slots = ms)
    (hd : y.cls = Cn ∧ y.cls ≠ "java/lang/invoke/MethodHandle" ∧ y.cls ≠ "java/lang/invoke/VarHandle" ∧ (parseMethodDescriptor y.desc).map (fun d => d.parameters.length) = some n9) (hR : rm.frames + 1 ≤ R0.frames ∧ 8 + (maxL + 11) + rm.locals ≤ R0.locals) (hn : As.length = n9) (hst : st0 = As.reverse ++ .ref b :: rest) (hcat : (rest.map fun v => v.category).sum ≤ 8) (hcs : k + mc ≤ R0.cells ∧ n + ms ≤ R0.slots)
    (is : List Nat) (hsel : is.map (fun i => bs[i]?) = (bsr ++ bs1).map some) (hnd : va_nd is = true) (hrecv : bs1.flatten[q0]? = some (b, .inr (ci, fs))) (hcl : myCl[ci]? = some (Cn, T, N)) (d : decode cc pc = .ok (.invokevirtual index, 3))
    (K : ∀ (v : Option Value) (bs2 : List va_W), Post v bs2 → GW C (k + mc) (n + ms) (bsr ++ bs2) (pc + 3) lv (v.toList ++ rest)) : GW C k n bs pc lv st0 := by
  refine gw_callB (As := .ref b :: As) F is hsel hnd ?_ K
  obtain ⟨p, l, e, R, s, m, args, below, meth, c, A, D, G, Q, nL⟩ := C
  obtain ⟨hx, hb, hts, hown, hK, hml, hA, hSF, rfl, -, -, -, rfl, rfl, rfl⟩ := F
  intro H locs ls hsz hPc hpre
  exact va_runV ⟨hx, hb, hml, hown, hts⟩ (hM H.size) (cwV n9 hts g hw hrc hrs hd hR) ⟨hpre.1, va_recv hK hPc hcl hrecv, hpre.2⟩ rfl hn hsz hst (lv_room hcat) d hcs
theorem gw_callS (F : GF C X cc Ts own R0 n0 ret D0 G0 l0) {index maxL mc ms : Nat} {y : MethodName} {bytes : ByteArray} {ret2 : Option FieldType} {ws ws' : List Cond} {rm : Room} {bsr bs1 : List va_W} {As rest st0 : List Value} {Post : Option Value → List va_W → Prop}
    (hM : CM X l0 y ws rm D0 G0 As bs1 mc ms Post) (n9 : Nat) (g : GoodIn Ts (va_wsS own index y ws)) (hw : ws = Cond.code y bytes maxL ret2 :: ws') (hrc : rm.cells = mc) (hrs : rm.slots = ms)
    (hd : y.cls ≠ "java/lang/invoke/MethodHandle" ∧ y.cls ≠ "java/lang/invoke/VarHandle" ∧ (parseMethodDescriptor y.desc).map (fun d => d.parameters.length) = some n9) (hR : rm.frames + 1 ≤ R0.frames ∧ 8 + (maxL + 11) + rm.locals ≤ R0.locals) (hn : As.length = n9) (hst : st0 = As.reverse ++ rest) (hcat : (rest.map fun v => v.category).sum ≤ 8) (hcs : k + mc ≤ R0.cells ∧ n + ms ≤ R0.slots)
    (is : List Nat) (hsel : is.map (fun i => bs[i]?) = (bsr ++ bs1).map some) (hnd : va_nd is = true) (d : decode cc pc = .ok (.invokestatic index, 3))
    (K : ∀ (v : Option Value) (bs2 : List va_W), Post v bs2 → GW C (k + mc) (n + ms) (bsr ++ bs2) (pc + 3) lv (v.toList ++ rest)) : GW C k n bs pc lv st0 := by
  refine gw_callB (As := As) F is hsel hnd ?_ K
  obtain ⟨p, l, e, R, s, m, args, below, meth, c, A, D, G, Q, nL⟩ := C
  obtain ⟨hx, hb, hts, hown, hK, hml, hA, hSF, rfl, -, -, -, rfl, rfl, rfl⟩ := F
  intro H locs ls hsz hPc hpre
  exact va_runS ⟨hx, hb, hml, hown, hts⟩ (hM H.size) (va_cwS n9 hts g hw hrc hrs hd hR) ⟨hpre.1, hpre.2⟩ rfl hn hsz hst (lv_room hcat) d hcs
/-- a private static method of a class of the same nest -/
theorem gw_callSN (F : GF C X cc Ts own R0 n0 ret D0 G0 l0) {index maxL mc ms : Nat} {y : MethodName} {host : String} {bytes : ByteArray} {ret2 : Option FieldType} {ws ws' : List Cond} {rm : Room} {bsr bs1 : List va_W} {As rest st0 : List Value} {Post : Option Value → List va_W → Prop}
    (hM : CM X l0 y ws rm D0 G0 As bs1 mc ms Post) (n9 : Nat) (g : GoodIn Ts ws) (hnest : Cond.methodLinkNest own index y host ∈ nestW) (hini : Cond.initialized y.cls ∈ Ts) (hstat : Cond.static y ∈ Ts) (hw : ws = Cond.code y bytes maxL ret2 :: ws') (hrc : rm.cells = mc) (hrs : rm.slots = ms)
    (hd : y.cls ≠ "java/lang/invoke/MethodHandle" ∧ y.cls ≠ "java/lang/invoke/VarHandle" ∧ (parseMethodDescriptor y.desc).map (fun d => d.parameters.length) = some n9) (hR : rm.frames + 1 ≤ R0.frames ∧ 8 + (maxL + 11) + rm.locals ≤ R0.locals) (hn : As.length = n9) (hst : st0 = As.reverse ++ rest) (hcat : (rest.map fun v => v.category).sum ≤ 8) (hcs : k + mc ≤ R0.cells ∧ n + ms ≤ R0.slots)
    (is : List Nat) (hsel : is.map (fun i => bs[i]?) = (bsr ++ bs1).map some) (hnd : va_nd is = true) (d : decode cc pc = .ok (.invokestatic index, 3))
    (K : ∀ (v : Option Value) (bs2 : List va_W), Post v bs2 → GW C (k + mc) (n + ms) (bsr ++ bs2) (pc + 3) lv (v.toList ++ rest)) : GW C k n bs pc lv st0 := by
  refine gw_callB (As := As) F is hsel hnd ?_ K
  obtain ⟨p, l, e, R, s, m, args, below, meth, c, A, D, G, Q, nL⟩ := C
  obtain ⟨hx, hb, hts, hown, hK, hml, hA, hSF, rfl, -, -, -, rfl, rfl, rfl⟩ := F
  intro H locs ls hsz hPc hpre
  exact va_runSN (host := host) ⟨hx, hb, hml, hown, hts⟩ (hM H.size) ⟨va_cnB n9 hts g hw hrc hrs (hSF.1 _ hnest).now (hts _ hini) hd hR, hts _ hstat, trivial⟩ ⟨hpre.1, hpre.2⟩ rfl hn hsz hst (lv_room hcat) d hcs
theorem gw_callI (F : GF C X cc Ts own R0 n0 ret D0 G0 l0) {index maxL mc ms b : Nat} {y : MethodName} {bytes : ByteArray} {ws ws' : List Cond} {rm : Room} {bsr bs1 : List va_W} {As rest st0 : List Value} {Post : Option Value → List va_W → Prop}
    (hM : CM X l0 y ws rm D0 G0 (.ref b :: As) bs1 mc ms Post) (n9 : Nat) (g : GoodIn Ts ws) (hini : Cond.initialized y.cls ∈ Ts) (hlink : Cond.methodLink own index y ∈ Ts) (hinst : Cond.instanceMethod y ∈ Ts) (hy1 : y.name = "<init>") (hw : ws = Cond.code y bytes maxL none :: ws') (hrc : rm.cells = mc) (hrs : rm.slots = ms)
    (hd : y.cls ≠ "java/lang/invoke/MethodHandle" ∧ y.cls ≠ "java/lang/invoke/VarHandle" ∧ (parseMethodDescriptor y.desc).map (fun d => d.parameters.length) = some n9) (hR : rm.frames + 1 ≤ R0.frames ∧ 8 + (maxL + 11) + rm.locals ≤ R0.locals) (hn : As.length = n9) (hst : st0 = As.reverse ++ .ref b :: rest) (hcat : (rest.map fun v => v.category).sum ≤ 8) (hcs : k + mc ≤ R0.cells ∧ n + ms ≤ R0.slots)
    (is : List Nat) (hsel : is.map (fun i => bs[i]?) = (bsr ++ bs1).map some) (hnd : va_nd is = true) (d : decode cc pc = .ok (.invokespecial index, 3))
    (K : ∀ (v : Option Value) (bs2 : List va_W), Post v bs2 → GW C (k + mc) (n + ms) (bsr ++ bs2) (pc + 3) lv (v.toList ++ rest)) : GW C k n bs pc lv st0 := by
  refine gw_callB (As := .ref b :: As) F is hsel hnd ?_ K
  obtain ⟨p, l, e, R, s, m, args, below, meth, c, A, D, G, Q, nL⟩ := C
  obtain ⟨hx, hb, hts, hown, hK, hml, hA, hSF, rfl, -, -, -, rfl, rfl, rfl⟩ := F
  intro H locs ls hsz hPc hpre
  exact va_runI ⟨hx, hb, hml, hown, hts⟩ (hM H.size) (cwI n9 hts g hw hrc hrs (hts _ hini) (hts _ hlink) (hts _ hinst) hy1 hd hR) ⟨hpre.1, hpre.2⟩ rfl hn hsz hst (lv_room hcat) d hcs
/-- a private constructor of a class of the same nest -/
theorem gw_callIN (F : GF C X cc Ts own R0 n0 ret D0 G0 l0) {index maxL mc ms b : Nat} {y : MethodName} {host : String} {bytes : ByteArray} {ws ws' : List Cond} {rm : Room} {bsr bs1 : List va_W} {As rest st0 : List Value} {Post : Option Value → List va_W → Prop}
    (hM : CM X l0 y ws rm D0 G0 (.ref b :: As) bs1 mc ms Post) (n9 : Nat) (g : GoodIn Ts ws) (hnest : Cond.methodLinkNest own index y host ∈ nestW) (hini : Cond.initialized y.cls ∈ Ts) (hinst : Cond.instanceMethod y ∈ Ts) (hy1 : y.name = "<init>") (hw : ws = Cond.code y bytes maxL none :: ws') (hrc : rm.cells = mc) (hrs : rm.slots = ms)
    (hd : y.cls ≠ "java/lang/invoke/MethodHandle" ∧ y.cls ≠ "java/lang/invoke/VarHandle" ∧ (parseMethodDescriptor y.desc).map (fun d => d.parameters.length) = some n9) (hR : rm.frames + 1 ≤ R0.frames ∧ 8 + (maxL + 11) + rm.locals ≤ R0.locals) (hn : As.length = n9) (hst : st0 = As.reverse ++ .ref b :: rest) (hcat : (rest.map fun v => v.category).sum ≤ 8) (hcs : k + mc ≤ R0.cells ∧ n + ms ≤ R0.slots)
    (is : List Nat) (hsel : is.map (fun i => bs[i]?) = (bsr ++ bs1).map some) (hnd : va_nd is = true) (d : decode cc pc = .ok (.invokespecial index, 3))
    (K : ∀ (v : Option Value) (bs2 : List va_W), Post v bs2 → GW C (k + mc) (n + ms) (bsr ++ bs2) (pc + 3) lv (v.toList ++ rest)) : GW C k n bs pc lv st0 := by
  refine gw_callB (As := .ref b :: As) F is hsel hnd ?_ K
  obtain ⟨p, l, e, R, s, m, args, below, meth, c, A, D, G, Q, nL⟩ := C
  obtain ⟨hx, hb, hts, hown, hK, hml, hA, hSF, rfl, -, -, -, rfl, rfl, rfl⟩ := F
  intro H locs ls hsz hPc hpre
  exact va_runIN (host := host) ⟨hx, hb, hml, hown, hts⟩ (hM H.size) ⟨va_cnB n9 hts g hw hrc hrs (hSF.1 _ hnest).now (hts _ hini) hd hR, hy1, hts _ hinst⟩ ⟨hpre.1, hpre.2⟩ rfl hn hsz hst (lv_room hcat) d hcs
end GWH
/-- a contract by the walk of the body -/
theorem CM.of {X : List Cond} {l : Launch} {y : MethodName} {ws ws' : List Cond} {rm : Room} {D : va_G} {G : Nat → ClassId} {As : List Value} {bs : List va_W} {mc ms : Nat} {Post : Option Value → List va_W → Prop} {cc : ByteArray} {maxL : Nat} {ret : Option FieldType} {own : String} {lv : List (Nat × Value)}
    (hy : plainName y.cls = true) (hw : ws = Cond.code y cc maxL ret :: ws') (ho : y.cls = own) (hent : (lg_sl As).length ≤ maxL) (hlv : lv_args 0 As = lv) (body : ∀ C : Cx, GF C X cc ws own rm maxL ret D G l → GE C bs mc ms Post → GW C 0 0 bs 0 lv []) : CM X l y ws rm D G As bs mc ms Post := by
  intro sz
  refine Met.ofW hy hw ?_
  intro p e s m args below meth c s₁ B hml hv
  obtain ⟨rfl, hsz, hP, hK, hD0, hSF⟩ := hv
  subst hsz
  have hl := lv_entry As (n := maxL) hent
  rw [lg_entry_eq]
  generalize (lg_sl As ++ List.replicate (maxL - (lg_sl As).length) Slot.unset).toArray = ls at hl ⊢
  refine body (p, l, e, rm, s, m, As.toArray, below, meth, c, va_A bs.flatten s.heap.size, D, G, MQ below (PosB D bs s.heap.size Post) As.toArray s mc ms (va_A bs.flatten s.heap.size), maxL)
    ⟨B.exec, B.bytes, atoms_spec (ws := ws) B.pre, ho ▸ findClass_of_methodNamed B.named, hK, hml, fun q h => Or.inr h, hSF, rfl, rfl, B.returns, B.notSynchronized, rfl, rfl, rfl⟩
    ⟨rfl, fun H locs k n g hk hn w => W.widen hk hn w⟩ s.heap [] ls hP hD0.self va_S.rf (hlv ▸ hl)
theorem CMX.of {X : List Cond} {l : Launch} {y : MethodName} {ws ws' : List Cond} {rm : Room} {D : va_G} {G : Nat → ClassId} {As : List Value} {bs : List va_W} {mc ms : Nat} {Post : Option Value → List va_W → Prop} {PostX : String → List va_W → Prop} {cc : ByteArray} {maxL : Nat} {ret : Option FieldType} {own : String} {lv : List (Nat × Value)}
    (hy : plainName y.cls = true) (hw : ws = Cond.code y cc maxL ret :: ws') (ho : y.cls = own) (hent : (lg_sl As).length ≤ maxL) (hlv : lv_args 0 As = lv) (body : ∀ C : Cx, GF C X cc ws own rm maxL ret D G l → GEX C bs mc ms Post PostX → GW C 0 0 bs 0 lv []) : CMX X l y ws rm D G As bs mc ms Post PostX := by
  intro sz
  refine vx_ofW hy hw ?_
  intro p e s m args below meth c s₁ B hml htab hv
  obtain ⟨rfl, hsz, hP, hK, hD0, hSF⟩ := hv
  subst hsz
  have hl := lv_entry As (n := maxL) hent
  rw [lg_entry_eq]
  generalize (lg_sl As ++ List.replicate (maxL - (lg_sl As).length) Slot.unset).toArray = ls at hl ⊢
  refine body (p, l, e, rm, s, m, As.toArray, below, meth, c, va_A bs.flatten s.heap.size, D, G, vx_MQ below (PosB D bs s.heap.size Post) (XCB D bs s.heap.size PostX) As.toArray s mc ms (va_A bs.flatten s.heap.size), maxL)
    ⟨B.exec, B.bytes, atoms_spec (ws := ws) B.pre, ho ▸ findClass_of_methodNamed B.named, hK, hml, fun q h => Or.inr h, hSF, rfl, rfl, B.returns, B.notSynchronized, rfl, rfl, rfl⟩
    ⟨rfl, rfl, htab⟩ s.heap [] ls hP hD0.self va_S.rf (hlv ▸ hl)
