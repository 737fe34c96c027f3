section GWT
variable {C : Cx} {X : List Cond} {cc : ByteArray} {Ts : List Cond} {own : String} {R0 : Room} {n0 : Nat} {ret : Option FieldType} {D0 : va_G} {G0 : Nat → ClassId} {l0 : Launch} {k n pc : Nat} {bs bs' : List va_W} {lv lv' : List (Nat × Value)} {st : List Value}
theorem gw_widen {k' n' : Nat} (hk : k ≤ k') (hn : n ≤ n') (K : GW C k' n' bs pc lv st) : GW C k n bs pc lv st := by
  obtain ⟨p, l, e, R, s, m, args, below, meth, c, A, D, G, Q, nL⟩ := C
  exact fun H locs ls hP hD hS hl => W.widen hk hn (K H locs ls hP hD hS hl)
theorem gw_ldcw (F : GF C X cc Ts own R0 n0 ret D0 G0 l0) {index : Nat} {v : Int32} (hw : Cond.constant own index v ∈ Ts) (d : decode cc pc = .ok (.ldc_w index, 3)) (K : GW C k n bs (pc + 3) lv (.int v :: st)) : GW C k n bs pc lv st := by
  obtain ⟨p, l, e, R, s, m, args, below, meth, c, A, D, G, Q, nL⟩ := C
  obtain ⟨hx, hb, hts, hown, -⟩ := F
  exact fun H locs ls hP hD hS hl => lv_ldcw hx hb hown (hts _ hw) d (K H locs ls hP hD hS hl)
theorem gw_max (F : GF C X cc Ts own R0 n0 ret D0 G0 l0) {index : Nat} {x y : Int32} (h1 : Cond.methodLink own index Lib.Math.max.name ∈ Ts) (h2 : Cond.static Lib.Math.max.name ∈ Ts) (h3 : Cond.initialized "java/lang/Math" ∈ Ts) (h4 : Cond.code Lib.Math.max.name Lib.Math.max.code 2 (some .int) ∈ Ts) (hf : 1 ≤ R0.frames) (hl0 : (st.map fun v => v.category).sum + 13 ≤ R0.locals) (hc : k ≤ R0.cells) (hs : n ≤ R0.slots) (d : decode cc pc = .ok (.invokestatic index, 3)) (K : GW C k n bs (pc + 3) lv (.int (if x < y then y else x) :: st)) : GW C k n bs pc lv (.int y :: .int x :: st) := by
  obtain ⟨p, l, e, R, s, m, args, below, meth, c, A, D, G, Q, nL⟩ := C
  obtain ⟨hx, hb, hts, hown, hK, hml, hA, hSF, rfl, -⟩ := F
  exact fun H locs ls hP hD hS hl => va_mmax hx hb (hml.trans hl.1.symm) hown (hts _ h1) (hts _ h2) (hts _ h3) (hts _ h4) hf hl0 hc hs d (K H locs ls hP hD hS hl)
/-- System.arraycopy between two arrays of ints -/
theorem gw_copyi (F : GF C X cc Ts own R0 n0 ret D0 G0 l0) {index : Nat} (h1 : Cond.methodLink own index arraycopyName ∈ Ts) (h2 : Cond.native arraycopyName ∈ Ts) (h3 : Cond.static arraycopyName ∈ Ts) (h4 : Cond.initialized "java/lang/System" ∈ Ts) (q0 q1 : Nat) {a a0 m0 m1 : Nat} {f g : Nat → Int32} (ha0 : bs.flatten[q0]? = some (a0, .inl (G0 0, m0, .inl f))) (ha1 : bs.flatten[q1]? = some (a, .inl (G0 0, m1, .inl g))) {sp dp z : Int32} (e1 : ¬ sp < 0) (e2 : ¬ dp < 0) (e3 : ¬ z < 0) (e4 : sp.toNatClampNeg + z.toNatClampNeg ≤ m0) (e5 : dp.toNatClampNeg + z.toNatClampNeg ≤ m1) (hf : 1 ≤ R0.frames) (hl0 : (st.map fun v => v.category).sum + (nativeFrameWords "java/lang/System" "arraycopy" 5 + 11) ≤ R0.locals) (d : decode cc pc = .ok (.invokestatic index, 3)) (hset : bs.flatten.set q1 (a, .inl (G0 0, m1, .inl (va_cpy f g sp.toNatClampNeg dp.toNatClampNeg z.toNatClampNeg))) = bs'.flatten) (K : GW C k n bs' (pc + 3) lv st) : GW C k n bs pc lv (.int z :: .int dp :: .ref a :: .int sp :: .ref a0 :: st) := by
  obtain ⟨p, l, e, R, s, m, args, below, meth, c, A, D, G, Q, nL⟩ := C
  obtain ⟨hx, hb, hts, hown, hK, hml, hA, hSF, rfl, -, -, -, -, rfl, -⟩ := F
  exact fun H locs ls hP hD hS hl => va_copyi hx hb (hml.trans hl.1.symm) hown (hts _ h1) (hts _ h2) (hts _ h3) (hts _ h4) hK hP hD hS q0 q1 0 0 ha0 ha1 rfl rfl rfl e1 e2 e3 e4 e5 (fun _ _ => rfl) hf hl0 d (fun H1 locs1 hP1 hD1 hS1 => K H1 locs1 ls (hset ▸ hP1) (hset ▸ hD1) hS1 hl)
theorem gw_objInit (F : GF C X cc Ts own R0 n0 ret D0 G0 l0) {index a : Nat} (h1 : Cond.methodLink own index Lib.objectInit ∈ Ts) (h2 : Cond.instanceMethod Lib.objectInit ∈ Ts) (h3 : Cond.code Lib.objectInit ⟨#[0xb1]⟩ 1 none ∈ Ts) (hf : 1 ≤ R0.frames) (hl0 : (st.map fun v => v.category).sum + 12 ≤ R0.locals) (d : decode cc pc = .ok (.invokespecial index, 3)) (K : GW C k n bs (pc + 3) lv st) : GW C k n bs pc lv (.ref a :: st) := by
  obtain ⟨p, l, e, R, s, m, args, below, meth, c, A, D, G, Q, nL⟩ := C
  obtain ⟨hx, hb, hts, hown, hK, hml, hA, hSF, rfl, -⟩ := F
  exact fun H locs ls hP hD hS hl => W.objInit hx hb hown (hts _ h1) (hts _ h2) (hts _ h3) rfl (hl.1.trans hml.symm) rfl d hf (by show 2 * 0 + _ + 12 ≤ _; omega) (W.eq (g2 := F0 m (pc + 3) ls st) rfl (K H locs ls hP hD hS hl))
theorem gw_tin (F : GF C X cc Ts own R0 n0 ret D0 G0 l0) {dflt lo hi : Int} {offs : Array Int} {len : Nat} {x : Int32} {off j : Int} {tgt : Nat} (d : decode cc pc = .ok (.tableswitch dflt lo hi offs, len)) (hx : x.toInt = j) (h1 : ¬ j < lo) (h2 : ¬ hi < j) (ho : offs[(j - lo).toNat]? = some off) (ht : (pc : Int) + off = (tgt : Int)) (K : GW C k n bs tgt lv st) : GW C k n bs pc lv (.int x :: st) := by
  obtain ⟨p, l, e, R, s, m, args, below, meth, c, A, D, G, Q, nL⟩ := C
  obtain ⟨hx', hb, -⟩ := F
  subst hx
  exact fun H locs ls hP hD hS hl => lv_tableIn hx' hb d h1 h2 ho ht (K H locs ls hP hD hS hl)
theorem gw_tout (F : GF C X cc Ts own R0 n0 ret D0 G0 l0) {dflt lo hi : Int} {offs : Array Int} {len : Nat} {x : Int32} {tgt : Nat} (d : decode cc pc = .ok (.tableswitch dflt lo hi offs, len)) (hx : x.toInt < lo ∨ hi < x.toInt) (ht : (pc : Int) + dflt = (tgt : Int)) (K : GW C k n bs tgt lv st) : GW C k n bs pc lv (.int x :: st) := by
  obtain ⟨p, l, e, R, s, m, args, below, meth, c, A, D, G, Q, nL⟩ := C
  obtain ⟨hx', hb, -⟩ := F
  exact fun H locs ls hP hD hS hl => lv_tableOut hx' hb d hx ht (K H locs ls hP hD hS hl)
theorem gw_lookup (F : GF C X cc Ts own R0 n0 ret D0 G0 l0) {dflt : Int} {ps : Array (Int × Int)} {len : Nat} {x : Int32} {off : Int} {tgt : Nat} (d : decode cc pc = .ok (.lookupswitch dflt ps, len)) (hp : (ps.toList.zip (ps.toList.drop 1)).all (fun (a, next) => a.1 < next.1) = true) (ho : Op.lookupswitch.offset ps.toList dflt x.toInt = off) (ht : (pc : Int) + off = (tgt : Int)) (K : GW C k n bs tgt lv st) : GW C k n bs pc lv (.int x :: st) := by
  obtain ⟨p, l, e, R, s, m, args, below, meth, c, A, D, G, Q, nL⟩ := C
  obtain ⟨hx', hb, -⟩ := F
  exact fun H locs ls hP hD hS hl => lv_lookup hx' hb d hp ho ht (K H locs ls hP hD hS hl)
end GWT
-- BUNDLES: an object with its arrays; v.1 j: the array in slot j, v.2 j: the number in slot j
abbrev OV : Type := (Nat → Nat → Int32) × (Nat → Int32)
def sI (v : OV) (j : Nat) (x : Int32) : OV := (v.1, upd v.2 j x)
def sA (v : OV) (j i : Nat) (x : Int32) : OV := (fun a => if a = j then upd (v.1 j) i x else v.1 a, v.2)
def sF (v : OV) (j : Nat) (f : Nat → Int32) : OV := (fun a => if a = j then f else v.1 a, v.2)
def bLg (G : Nat → ClassId) (h : Nat) (q : Nat → Nat) (v : OV) : va_W := [(h, .inr (3, [.ref (q 0), .ref (q 1), .ref (q 2), .ref (q 3), .ref (q 4), .ref (q 5), .ref (q 6), .ref (q 7), .int (v.2 8), .int (v.2 9), .int (v.2 10), .int (v.2 11), .int (v.2 12), .int (v.2 13)])), (q 0, .inl (G 0, 10, .inl (v.1 0))), (q 1, .inl (G 0, 10, .inl (v.1 1))), (q 2, .inl (G 0, 10, .inl (v.1 2))), (q 3, .inl (G 0, 10, .inl (v.1 3))), (q 4, .inl (G 0, 10, .inl (v.1 4))), (q 5, .inl (G 0, 10, .inl (v.1 5))), (q 6, .inl (G 0, 10, .inl (v.1 6))), (q 7, .inl (G 0, 10, .inl (v.1 7)))]
def bRf (_ : Nat → ClassId) (h : Nat) (_ : Nat → Nat) (v : OV) : va_W := [(h, .inr (5, [.int (v.2 0), .int (v.2 1), .int (v.2 2)]))]
def bWv (G : Nat → ClassId) (h : Nat) (q : Nat → Nat) (v : OV) : va_W := [(h, .inr (6, [.ref (q 0), .ref (q 1), .int (v.2 2)])), (q 0, .inl (G 0, 10, .inl (v.1 0))), (q 1, .inl (G 1, 10, .inl (v.1 1)))]
def bPr (G : Nat → ClassId) (h : Nat) (q : Nat → Nat) (v : OV) : va_W := [(h, .inr (4, [.ref (q 0), .ref (q 1)])), (q 0, .inl (G 0, 10, .inl (v.1 0))), (q 1, .inl (G 1, 10, .inl (v.1 1)))]
def bTx (G : Nat → ClassId) (h : Nat) (q : Nat → Nat) (v : OV) : va_W := [(h, .inr (0, [.ref (q 0), .int (v.2 1), .int (v.2 2), .int (v.2 3), .int (v.2 4), .int (v.2 5), .int (v.2 6)])), (q 0, .inl (G 2, 60, .inl (v.1 0)))]
def bLn (G : Nat → ClassId) (h : Nat) (q : Nat → Nat) (v : OV) : va_W := [(h, .inr (2, [.ref (q 0), .int (v.2 1)])), (q 0, .inl (G 2, 80, .inl (v.1 0)))]
def bMd (G : Nat → ClassId) (h : Nat) (q : Nat → Nat) (v : OV) : va_W := [(h, .inr (8, [.ref (q 0), .ref (q 1), .ref (q 2), .ref (q 3), .ref (q 4), .int (v.2 5), .int (v.2 6), .int (v.2 7), .int (v.2 8), .int (v.2 9), .int (v.2 10), .int (v.2 11), .int (v.2 12), .ref (q 13), .int (v.2 14), .int (v.2 15), .ref (q 16), .int (v.2 17), .ref (q 18), .ref (q 19), .int (v.2 20), .int (v.2 21), .ref (q 22), .int (v.2 23)])), (q 0, .inl (G 0, 177, .inl (v.1 0))), (q 1, .inl (G 0, 1416, .inl (v.1 1))), (q 2, .inl (G 0, 177, .inl (v.1 2))), (q 3, .inl (G 0, 177, .inl (v.1 3))), (q 4, .inl (G 0, 177, .inl (v.1 4))), (q 13, .inl (G 0, 60, .inl (v.1 13))), (q 16, .inl (G 2, 90, .inl (v.1 16))), (q 18, .inl (G 0, 10, .inl (v.1 18))), (q 19, .inl (G 1, 10, .inl (v.1 19))), (q 22, .inl (G 0, 124, .inl (v.1 22)))]
/-- a row of ints alone -/
def bAr (G : Nat → ClassId) (z a : Nat) (f : Nat → Int32) : va_W := [(a, .inl (G 0, z, .inl f))]
