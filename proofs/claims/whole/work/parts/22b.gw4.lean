theorem va_RA.one {U : State} {cA cB : ClassId} {ty : FieldType} (h1 : va_RA U cA ty) (h2 : va_RA U cB ty) : cA = cB := by
  cases ty with
  | object Cn =>
    obtain ⟨k1, c1, -, -, -, e1⟩ := h1
    obtain ⟨k2, c2, -, -, -, e2⟩ := h2
    exact Option.some.inj (e1.symm.trans e2)
  | _ => exact Option.some.inj (Eq.trans (Eq.symm (show U.vm.findClass _ = some cA from h1)) (show U.vm.findClass _ = some cB from h2))
/-- the method is a constructor -/
def GI (C : Cx) : Prop := match C with | (_, _, _, _, _, _, _, _, meth, _) => meth.name = "<init>"
section GWN
variable {C : Cx} {X : List Cond} {cc : ByteArray} {Ts : List Cond} {own : String} {R0 : Room} {n0 : Nat} {ret : Option FieldType} {D0 : va_G} {G0 : Nat → ClassId} {l0 : Launch} {k n pc : Nat} {bs bs' : List va_W} {lv lv' : List (Nat × Value)} {st : List Value}
theorem fl_snoc {bs : List va_W} {x : Nat × va_E} : (bs ++ [[x]]).flatten = bs.flatten ++ [x] := by rw [List.flatten_append]; rfl
theorem gw_new (F : GF C X cc Ts own R0 n0 ret D0 G0 l0) {Cn : String} {T : u_T} {N ci index : Nat} (hin : ∀ w ∈ u_ws Cn T N, w ∈ Ts) (ty : Nat → FieldType) (hty : ∀ k, k < N → parseFieldDescriptor (T k).2.2.1 = some (ty k)) (h1 : Cond.classLink own index Cn ∈ Ts) (h2 : Cond.instantiable Cn N ∈ Ts) (h3 : Cond.initialized Cn ∈ Ts) (hc : myCl[ci]? = some (Cn, T, N)) {fs : List Value} (hfs : ∀ j, j < N → defaultValue (ty j) = vp_V fs j) (hcells : k + 1 ≤ R0.cells) (hslots : n + N ≤ R0.slots) (d : decode cc pc = .ok (.new index, 3)) (K : ∀ q : Nat, GW C (k + 1) (n + N) (bs ++ [[(q, .inr (ci, fs))]]) (pc + 3) lv (.ref q :: st)) : GW C k n bs pc lv st := by
  obtain ⟨p, l, e, R, s, m, args, below, meth, c, A, D, G, Q, nL⟩ := C
  obtain ⟨hx, hb, hts, hown, hK, hml, hA, hSF, rfl, -⟩ := F
  exact fun H locs ls hP hD hS hl => va_new hx hb hts hin ty hty hown (hts _ h1) (hts _ h2) (hts _ h3) hK hP hD hS hA hc hfs hcells hslots d (fun q H1 hP1 hD1 hS1 => K q H1 locs ls (by rw [fl_snoc]; exact hP1) (by rw [fl_snoc]; exact hD1) hS1 hl)
theorem gw_newa (F : GF C X cc Ts own R0 n0 ret D0 G0 l0) {atype : ArrayType} (harr : Cond.arrayClass (newarray.typeOf atype) ∈ Ts) {ty : FieldType} (hty : newarray.typeOf atype = ty) (t0 : Nat) (ht : ∀ G : Nat → ClassId, (tyG G)[t0]? = some (G t0, ty)) {z : Int32} {N' : Nat} {a0 : vp_A} (ha : ∀ cA : ClassId, vp_cell cA a0 = arrV cA N' (fun _ => defaultValue ty)) (hn : ¬ z < 0) (hN : z.toNatClampNeg = N') (hbytes : N' * componentBytes ty ≤ 536870912) (hcells : k + 1 ≤ R0.cells) (hslots : n + N' ≤ R0.slots) (d : decode cc pc = .ok (.newarray atype, 2)) (K : ∀ q : Nat, GW C (k + 1) (n + N') (bs ++ [[(q, .inl (G0 t0, a0))]]) (pc + 2) lv (.ref q :: st)) : GW C k n bs pc lv (.int z :: st) := by
  obtain ⟨p, l, e, R, s, m, args, below, meth, c, A, D, G, Q, nL⟩ := C
  obtain ⟨hx, hb, hts, hown, hK, hml, hA, hSF, rfl, -, -, -, -, rfl, -⟩ := F
  exact fun H locs ls hP hD hS hl => va_newa (atype := atype) hx hb (hts _ harr) hty hK hP hD hS hA ha hn hN hbytes hcells hslots d (fun q cA H1 hK1 hP1 hD1 hS1 => by
    have e1 : cA = G t0 := va_RA.one (hK1.2 6 _ rfl).2 (hK.2 t0 _ (ht G)).2
    subst e1
    exact K q H1 locs ls (by rw [fl_snoc]; exact hP1) (by rw [fl_snoc]; exact hD1) hS1 hl)
theorem gw_newq (F : GF C X cc Ts own R0 n0 ret D0 G0 l0) {index : Nat} (h1 : Cond.classLink own index "KeyWaves$Lodge" ∈ Ts) (h2 : Cond.arrayOver (.object "KeyWaves$Lodge") ∈ Ts) {z : Int32} {N' : Nat} (hn : ¬ z < 0) (hN : z.toNatClampNeg = N') (hbytes : N' * 4 ≤ 536870912) (hcells : k + 1 ≤ R0.cells) (hslots : n + N' ≤ R0.slots) (d : decode cc pc = .ok (.anewarray index, 3)) (K : ∀ q : Nat, GW C (k + 1) (n + N') (bs ++ [[(q, .inl (G0 5, N', .inr (.inr (.inr (.inr (fun _ => none))))))]]) (pc + 3) lv (.ref q :: st)) : GW C k n bs pc lv (.int z :: st) := by
  obtain ⟨p, l, e, R, s, m, args, below, meth, c, A, D, G, Q, nL⟩ := C
  obtain ⟨hx, hb, hts, hown, hK, hml, hA, hSF, rfl, -, -, -, -, rfl, -⟩ := F
  exact fun H locs ls hP hD hS hl => va_newq hx hb hown (hts _ h1) (va_AO.of (hts _ h2)) hK hP hD hS hA hn hN hbytes hcells hslots d (fun q cA H1 hK1 hP1 hD1 hS1 => by
    have e1 : cA = G 5 := va_RA.one (hK1.2 6 _ rfl).2 (hK.2 5 _ rfl).2
    subst e1
    exact K q H1 locs ls (by rw [fl_snoc]; exact hP1) (by rw [fl_snoc]; exact hD1) hS1 hl)
/-- a final field, in the class's own constructor -/
theorem gw_putF (F : GF C X cc Ts own R0 n0 ret D0 G0 l0) (hinit : GI C) {Cn : String} {T : u_T} {N ci index a : Nat} {fs : List Value} {v : Value} (hin : ∀ w ∈ u_ws Cn T N, w ∈ Ts) (ty0 : Nat → FieldType) (hty : ∀ k, k < N → parseFieldDescriptor (T k).2.2.1 = some (ty0 k)) (hnm : ∀ a, a < N → ∀ b, b < N → a ≠ b → (T a).2.1 ≠ (T b).2.1) (q0 : Nat) (he : bs.flatten[q0]? = some (a, .inr (ci, fs))) (hc : myCl[ci]? = some (Cn, T, N)) (kf : Nat) (hk : kf < N) (hlink : Cond.fieldLink own index (T kf).1 (T kf).2.1 (T kf).2.2.1 ∈ Ts) (hfin : (T kf).2.2.2 = true) (hdecl : (T kf).1 = own) (hn : narrow (ty0 kf) v = v) (hfit : fits (ty0 kf) v = true) (hl0 : kf < fs.length) (d : decode cc pc = .ok (.putfield index, 3)) (hset : bs.flatten.set q0 (a, .inr (ci, fs.set kf v)) = bs'.flatten) (K : GW C k n bs' (pc + 3) lv st) : GW C k n bs pc lv (v :: .ref a :: st) := by
  obtain ⟨p, l, e, R, s, m, args, below, meth, c, A, D, G, Q, nL⟩ := C
  obtain ⟨hx, hb, hts, hown, hK, -⟩ := F
  exact fun H locs ls hP hD hS hl => va_putF hx hb hts hin ty0 hty hnm hown hK hP hD hS q0 he hc kf hk (hts _ hlink) (fun _ h9 => h9) hfin hinit hdecl (hty kf hk) hn hfit hl0 d (fun H1 locs1 hP1 hD1 hS1 => K H1 locs1 ls (hset ▸ hP1) (hset ▸ hD1) hS1 hl)
-- references that may be null
theorem gw_aldq (F : GF C X cc Ts own R0 n0 ret D0 G0 l0) (q0 : Nat) {a nA : Nat} {f : Nat → Option Nat} (ha : bs.flatten[q0]? = some (a, .inl (G0 5, nA, .inr (.inr (.inr (.inr f)))))) {i : Int32} (hin : vp_in i nA) (d : decode cc pc = .ok (.aaload, 1)) (K : GW C k n bs (pc + 1) lv (va_rf (f i.toNatClampNeg) :: st)) : GW C k n bs pc lv (.int i :: .ref a :: st) := by
  obtain ⟨p, l, e, R, s, m, args, below, meth, c, A, D, G, Q, nL⟩ := C
  obtain ⟨hx, hb, hts, hown, hK, -, -, -, -, -, -, -, -, rfl, -⟩ := F
  exact fun H locs ls hP hD hS hl => va_aldq hx hb hK hP q0 5 ha rfl hin d (K H locs ls hP hD hS hl)
theorem gw_astq (F : GF C X cc Ts own R0 n0 ret D0 G0 l0) (q0 qk : Nat) {a nA v : Nat} {f : Nat → Option Nat} {vs : List Value} (ha : bs.flatten[q0]? = some (a, .inl (G0 5, nA, .inr (.inr (.inr (.inr f)))))) (hv : bs.flatten[qk]? = some (v, .inr (3, vs))) {i : Int32} (hin : vp_in i nA) (d : decode cc pc = .ok (.aastore, 1)) (hset : bs.flatten.set q0 (a, .inl (G0 5, nA, .inr (.inr (.inr (.inr (va_up f i.toNatClampNeg (some v))))))) = bs'.flatten) (K : GW C k n bs' (pc + 1) lv st) : GW C k n bs pc lv (.ref v :: .int i :: .ref a :: st) := by
  obtain ⟨p, l, e, R, s, m, args, below, meth, c, A, D, G, Q, nL⟩ := C
  obtain ⟨hx, hb, hts, hown, hK, -, -, -, -, -, -, -, -, rfl, -⟩ := F
  exact fun H locs ls hP hD hS hl => va_astq (r := (RX3, TX3, 14)) hx hb hK hP hD hS q0 5 qk 3 ha rfl hv rfl hin d (fun H1 locs1 hP1 hD1 hS1 => K H1 locs1 ls (hset ▸ hP1) (hset ▸ hD1) hS1 hl)
theorem gw_aret (F : GF C X cc Ts own R0 n0 ret D0 G0 l0) {bs0 : List va_W} {mc ms : Nat} {Post : Option Value → List va_W → Prop} (E : GE C bs0 mc ms Post) {nm : String} (hr : ret = some (.object nm)) {r : Option Nat} (hk : k ≤ mc) (hs : n ≤ ms) (d : decode cc pc = .ok (.areturn, 1)) (hp : Post (some (va_rf r)) bs) : GW C k n bs pc lv [va_rf r] := by
  obtain ⟨p, l, e, R, s, m, args, below, meth, c, A, D, G, Q, nL⟩ := C
  obtain ⟨hx, hb, hts, hown, hK, -, -, -, -, -, hr', hlocks, rfl, rfl, -⟩ := F
  obtain ⟨hA, hE⟩ := E
  subst hA
  exact fun H locs ls hP hD hS hl => hE H locs k n _ hk hs (W.aret hx hb (hr'.trans hr) (Or.inl ⟨_, rfl⟩) (by cases r with | none => exact Or.inl rfl | some a => exact Or.inr ⟨a, rfl⟩) (fun t ht _ => ⟨⟨some (va_rf r), bs, rfl, hp, by rw [ht]; exact hP, hD⟩, hS.F ht⟩) hS.2.2 d hlocks)
theorem gw_anull (F : GF C X cc Ts own R0 n0 ret D0 G0 l0) (d : decode cc pc = .ok (.aconst_null, 1)) (K : GW C k n bs (pc + 1) lv (.null :: st)) : GW C k n bs pc lv st := by
  obtain ⟨p, l, e, R, s, m, args, below, meth, c, A, D, G, Q, nL⟩ := C
  obtain ⟨hx, hb, -⟩ := F
  exact fun H locs ls hP hD hS hl => lv_null hx hb d (K H locs ls hP hD hS hl)
-- numbers with a point
theorem gw_i2d (F : GF C X cc Ts own R0 n0 ret D0 G0 l0) {x : Int32} (d : decode cc pc = .ok (.i2d, 1)) (K : GW C k n bs (pc + 1) lv (.double (FP.i2d x) :: st)) : GW C k n bs pc lv (.int x :: st) := by
  obtain ⟨p, l, e, R, s, m, args, below, meth, c, A, D, G, Q, nL⟩ := C
  obtain ⟨hx, hb, -⟩ := F
  exact fun H locs ls hP hD hS hl => lv_i2d hx hb d (K H locs ls hP hD hS hl)
theorem gw_i2f (F : GF C X cc Ts own R0 n0 ret D0 G0 l0) {x : Int32} (d : decode cc pc = .ok (.i2f, 1)) (K : GW C k n bs (pc + 1) lv (.float (FP.i2f x) :: st)) : GW C k n bs pc lv (.int x :: st) := by
  obtain ⟨p, l, e, R, s, m, args, below, meth, c, A, D, G, Q, nL⟩ := C
  obtain ⟨hx, hb, -⟩ := F
  exact fun H locs ls hP hD hS hl => lv_i2f hx hb d (K H locs ls hP hD hS hl)
theorem gw_ddiv (F : GF C X cc Ts own R0 n0 ret D0 G0 l0) {x y : UInt64} (d : decode cc pc = .ok (.ddiv, 1)) (hne : vf_n64 (FP.ddiv x y)) (K : GW C k n bs (pc + 1) lv (.double (FP.ddiv x y) :: st)) : GW C k n bs pc lv (.double y :: .double x :: st) := by
  obtain ⟨p, l, e, R, s, m, args, below, meth, c, A, D, G, Q, nL⟩ := C
  obtain ⟨hx, hb, -⟩ := F
  exact fun H locs ls hP hD hS hl => lv_ddiv hx hb d hne (K H locs ls hP hD hS hl)
theorem gw_fdiv (F : GF C X cc Ts own R0 n0 ret D0 G0 l0) {x y : UInt32} (d : decode cc pc = .ok (.fdiv, 1)) (hne : vf_n32 (FP.fdiv x y)) (K : GW C k n bs (pc + 1) lv (.float (FP.fdiv x y) :: st)) : GW C k n bs pc lv (.float y :: .float x :: st) := by
  obtain ⟨p, l, e, R, s, m, args, below, meth, c, A, D, G, Q, nL⟩ := C
  obtain ⟨hx, hb, -⟩ := F
  exact fun H locs ls hP hD hS hl => lv_fdiv hx hb d hne (K H locs ls hP hD hS hl)
theorem gw_dret (F : GF C X cc Ts own R0 n0 ret D0 G0 l0) {bs0 : List va_W} {mc ms : Nat} {Post : Option Value → List va_W → Prop} (E : GE C bs0 mc ms Post) (hr : ret = some .double) {x : UInt64} (hk : k ≤ mc) (hs : n ≤ ms) (d : decode cc pc = .ok (.dreturn, 1)) (hp : Post (some (.double x)) bs) : GW C k n bs pc lv [.double x] := by
  obtain ⟨p, l, e, R, s, m, args, below, meth, c, A, D, G, Q, nL⟩ := C
  obtain ⟨hx, hb, hts, hown, hK, -, -, -, -, -, hr', hlocks, rfl, rfl, -⟩ := F
  obtain ⟨hA, hE⟩ := E
  subst hA
  exact fun H locs ls hP hD hS hl => hE H locs k n _ hk hs (W.dret hx hb (hr'.trans hr) (fun t ht _ => ⟨⟨some (.double x), bs, rfl, hp, by rw [ht]; exact hP, hD⟩, hS.F ht⟩) hS.2.2 d hlocks)
theorem gw_fret (F : GF C X cc Ts own R0 n0 ret D0 G0 l0) {bs0 : List va_W} {mc ms : Nat} {Post : Option Value → List va_W → Prop} (E : GE C bs0 mc ms Post) (hr : ret = some .float) {x : UInt32} (hk : k ≤ mc) (hs : n ≤ ms) (d : decode cc pc = .ok (.freturn, 1)) (hp : Post (some (.float x)) bs) : GW C k n bs pc lv [.float x] := by
  obtain ⟨p, l, e, R, s, m, args, below, meth, c, A, D, G, Q, nL⟩ := C
  obtain ⟨hx, hb, hts, hown, hK, -, -, -, -, -, hr', hlocks, rfl, rfl, -⟩ := F
  obtain ⟨hA, hE⟩ := E
  subst hA
  exact fun H locs ls hP hD hS hl => hE H locs k n _ hk hs (W.fret hx hb (hr'.trans hr) (fun t ht _ => ⟨⟨some (.float x), bs, rfl, hp, by rw [ht]; exact hP, hD⟩, hS.F ht⟩) hS.2.2 d hlocks)
-- a call that may throw
theorem gw_callXB (F : GF C X cc Ts own R0 n0 ret D0 G0 l0) {bsr bs1 : List va_W} {mc ms : Nat} {As rest st0 : List Value} {Post : Option Value → List va_W → Prop} {PostX : String → List va_W → Prop} (is : List Nat) (hsel : is.map (fun i => bs[i]?) = (bsr ++ bs1).map some) (hnd : va_nd is = true)
    (hrun : GRunX C X D0 G0 As bs1 k n mc ms pc st0 rest Post PostX)
    (KX : ∀ (E : String) (bs2 : List va_W), PostX E bs2 → GWX C (k + mc) (n + ms) (bsr ++ bs2) pc lv E)
    (K : ∀ (v : Option Value) (bs2 : List va_W), Post v bs2 → GW C (k + mc) (n + ms) (bsr ++ bs2) (pc + 3) lv (v.toList ++ rest)) : GW C k n bs pc lv st0 := by
  obtain ⟨p, l, e, R, s, m, args, below, meth, c, A, D, G, Q, nL⟩ := C
  obtain ⟨hx, hb, hts, hown, hK, hml, hA, hSF, -, -, -, -, rfl, rfl, -⟩ := F
  intro H locs ls hP hD hS hl T hT X9
  have hF := wm_free hD hS hA hsel
  obtain ⟨hPc, hDc⟩ := wm_call hP hD hsel hnd
  have hr := hrun H locs ls hl.1 hPc ⟨blindB, fun U hU hW => ⟨rfl, by rw [hU], by rw [hU]; exact hPc, va_K.moved hW.alike hK, hDc, hSF.to hS hU hW hF⟩⟩
  rcases hr T hT X9 with ⟨v, st₀, t, T', L, h0, X', hL, e1, e2, ⟨⟨v', bs2, hv, hp, hP2, hD2⟩, hF9⟩, go⟩ | ⟨q, st₀, t, T', L, E, ce, h0, X', hL, e1, e2, ⟨⟨bs2, hp, hP2, hD2⟩, hF9⟩, hce, hcv, hcl, go⟩
  · cases hv
    obtain ⟨k1, k2, k3⟩ := vx_keep h0 e1 hS (fun q _ h => hF q h) hF hL hF9
    rw [← e1] at hP2
    obtain ⟨hP', hD'⟩ := wm_join hP hD hsel hnd k2 hF hP2 hD2
    obtain ⟨t2, a1, b1⟩ := K v bs2 hp T'.heap (locs ++ L) ls hP' hD' k3 hl T' rfl X'
    exact ⟨t2, go t2 a1, b1⟩
  · obtain ⟨k1, k2, k3⟩ := vx_keep h0 e1 hS (fun q _ h => hF q h) hF hL hF9
    rw [← e1] at hP2
    obtain ⟨hP', hD'⟩ := wm_join hP hD hsel hnd k2 hF hP2 hD2
    obtain ⟨t2, a1, b1⟩ := KX E bs2 hp T'.heap (locs ++ L) ls rest q ce hP' hD' k3 hl (by rw [e1]; exact hce) hcv hcl T' rfl X'
    exact ⟨t2, go.trans a1, b1⟩
theorem gw_callVX (F : GF C X cc Ts own R0 n0 ret D0 G0 l0) {Cn : String} {T : u_T} {N ci q0 index maxL mc ms b : Nat} {y : MethodName} {bytes : ByteArray} {ret2 : Option FieldType} {ws ws' : List Cond} {rm : Room} {bsr bs1 : List va_W} {As rest st0 : List Value} {fs : List Value} {Post : Option Value → List va_W → Prop} {PostX : String → List va_W → Prop}
    (hM : CMX X l0 y ws rm D0 G0 (.ref b :: As) bs1 mc ms Post PostX) (n9 : Nat) (g : GoodIn Ts (wsV own index Cn y ws)) (hw : ws = Cond.code y bytes maxL ret2 :: ws') (hrc : rm.cells = mc) (hrs : rm.slots = ms)
    (hd : y.cls = Cn ∧ y.cls ≠ "java/lang/invoke/MethodHandle" ∧ y.cls ≠ "java/lang/invoke/VarHandle" ∧ (parseMethodDescriptor y.desc).map (fun d => d.parameters.length) = some n9) (hR : rm.frames + 1 ≤ R0.frames ∧ 8 + (maxL + 11) + rm.locals ≤ R0.locals) (hn : As.length = n9) (hst : st0 = As.reverse ++ .ref b :: rest) (hcat : (rest.map fun v => v.category).sum ≤ 8) (hcs : k + mc ≤ R0.cells ∧ n + ms ≤ R0.slots)
    (is : List Nat) (hsel : is.map (fun i => bs[i]?) = (bsr ++ bs1).map some) (hnd : va_nd is = true) (hrecv : bs1.flatten[q0]? = some (b, .inr (ci, fs))) (hcl : myCl[ci]? = some (Cn, T, N)) (d : decode cc pc = .ok (.invokevirtual index, 3))
    (KX : ∀ (E : String) (bs2 : List va_W), PostX E bs2 → GWX C (k + mc) (n + ms) (bsr ++ bs2) pc lv E)
    (K : ∀ (v : Option Value) (bs2 : List va_W), Post v bs2 → GW C (k + mc) (n + ms) (bsr ++ bs2) (pc + 3) lv (v.toList ++ rest)) : GW C k n bs pc lv st0 := by
  refine gw_callXB (As := .ref b :: As) F is hsel hnd ?_ KX K
  obtain ⟨p, l, e, R, s, m, args, below, meth, c, A, D, G, Q, nL⟩ := C
  obtain ⟨hx, hb, hts, hown, hK, hml, hA, hSF, rfl, -, -, -, rfl, rfl, rfl⟩ := F
  intro H locs ls hsz hPc hpre
  exact vx_runV ⟨hx, hb, hml, hown, hts⟩ (hM H.size) (cwV n9 hts g hw hrc hrs hd hR) ⟨hpre.1, va_recv hK hPc hcl hrecv, hpre.2⟩ rfl hn hsz hst (lv_room hcat) d hcs
theorem gwx_sel (is : List Nat) {bs' : List va_W} {E : String} (hs : is.map (fun i => bs[i]?) = bs'.map some) (hn : va_nd is = true) (K : GWX C k n bs' pc lv E) : GWX C k n bs pc lv E := by
  obtain ⟨p, l, e, R, s, m, args, below, meth, c, A, D, G, Q, nL⟩ := C
  exact fun H locs ls rest q ce hP hD hS hl h1 h2 h3 => K H locs ls rest q ce (sel_P hP hs) (sel_D hD hs hn) hS hl h1 h2 h3
/-- it goes on to the caller -/
theorem gwx_out (F : GF C X cc Ts own R0 n0 ret D0 G0 l0) {bs0 : List va_W} {mc ms : Nat} {Post : Option Value → List va_W → Prop} {PostX : String → List va_W → Prop} (E : GEX C bs0 mc ms Post PostX) {En : String} (hk : k ≤ mc) (hs : n ≤ ms) (hp : PostX En bs) : GWX C k n bs pc lv En := by
  obtain ⟨p, l, e, R, s, m, args, below, meth, c, A, D, G, Q, nL⟩ := C
  obtain ⟨hx, hb, hts, hown, hK, -, -, -, -, -, hr', hlocks, rfl, rfl, -⟩ := F
  obtain ⟨hA, hQ, htab⟩ := E
  subst hA
  intro H locs ls rest q ce hP hD hS hl h1 h2 h3
  rw [hQ]
  exact vx_out (fun x hx => (htab x hx).elim) hlocks h1 h2 h3 (fun t ht _ => ⟨⟨bs, hp, by rw [ht]; exact hP, hD⟩, hS.F ht⟩) hS.2.2 hk hs
end GWN
