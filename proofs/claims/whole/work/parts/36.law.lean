/-- the law: its script, and its end -/
def GL (C : Cx) (bS L : Nat) (xs : Nat → Int32) : Prop :=
  match C with
  | (p, l, e, R, s, m, args, below, meth, c, A, _, _, Q, _) => va_X bS L xs s s.heap ∧ bS < s.heap.size ∧ ¬ A bS ∧ ∀ (H : Heap) (locs : List Loc) (ls : Array Slot) (pc : Nat), va_S A s.heap H locs → decode cL_law pc = .ok (.ireturn, 1) → W p l e R s m args below meth c H locs 603072 7207018 Q (F0 m pc ls [.int 1])
section GWLAW
variable {C : Cx} {X : List Cond} {cc : ByteArray} {Ts : List Cond} {own : String} {R0 : Room} {n0 : Nat} {ret : Option FieldType} {D0 : va_G} {G0 : Nat → ClassId} {l0 : Launch} {k n pc : Nat} {bs bs' : List va_W} {lv lv' : List (Nat × Value)} {st : List Value} {bS L : Nat} {xs : Nat → Int32}
theorem gw_lret (F : GF C X cc Ts own R0 n0 ret D0 G0 l0) (E : GL C bS L xs) {x : Int32} (hx : x = 1) (hk : k ≤ 603072) (hn : n ≤ 7207018) (d : decode cL_law pc = .ok (.ireturn, 1)) : GW C k n bs pc lv [.int x] := by
  obtain ⟨p, l, e, R, s, m, args, below, meth, c, A, D, G, Q, nL⟩ := C
  obtain ⟨-, -, -, hE⟩ := E
  subst hx
  exact fun H locs ls hP hD hS hl => W.widen hk hn (hE H locs ls pc hS d)
theorem gw_slen (F : GF C X cc Ts own R0 n0 ret D0 G0 l0) (E : GL C bS L xs) (d : decode cc pc = .ok (.arraylength, 1)) (K : GW C k n bs (pc + 1) lv (.int (Int32.ofNat L) :: st)) : GW C k n bs pc lv (.ref bS :: st) := by
  obtain ⟨p, l, e, R, s, m, args, below, meth, c, A, D, G, Q, nL⟩ := C
  obtain ⟨hx, hb, -⟩ := F
  obtain ⟨e1, e2, e3, -⟩ := E
  exact fun H locs ls hP hD hS hl => va_slen hx hb e1 e2 e3 hS d (K H locs ls hP hD hS hl)
theorem gw_sld (F : GF C X cc Ts own R0 n0 ret D0 G0 l0) (E : GL C bS L xs) {i : Int32} (hin : vp_in i L) (d : decode cc pc = .ok (.iaload, 1)) (K : GW C k n bs (pc + 1) lv (.int (xs i.toNatClampNeg) :: st)) : GW C k n bs pc lv (.int i :: .ref bS :: st) := by
  obtain ⟨p, l, e, R, s, m, args, below, meth, c, A, D, G, Q, nL⟩ := C
  obtain ⟨hx, hb, -⟩ := F
  obtain ⟨e1, e2, e3, -⟩ := E
  exact fun H locs ls hP hD hS hl => va_sld hx hb e1 e2 e3 hS hin d (K H locs ls hP hD hS hl)
theorem gw_dload (F : GF C X cc Ts own R0 n0 ret D0 G0 l0) {j : Nat} {x : UInt64} (d : decode cc pc = .ok (.dload j, 2)) (i : Nat) (h : lv[i]? = some (j, .double x)) (K : GW C k n bs (pc + 2) lv (.double x :: st)) : GW C k n bs pc lv st := by
  obtain ⟨p, l, e, R, s, m, args, below, meth, c, A, D, G, Q, nL⟩ := C
  obtain ⟨hx, hb, -⟩ := F
  exact fun H locs ls hP hD hS hl => lv_dload hx hb d (lv_at hl i h) (K H locs ls hP hD hS hl)
theorem gw_fload (F : GF C X cc Ts own R0 n0 ret D0 G0 l0) {j : Nat} {x : UInt32} (d : decode cc pc = .ok (.fload j, 2)) (i : Nat) (h : lv[i]? = some (j, .float x)) (K : GW C k n bs (pc + 2) lv (.float x :: st)) : GW C k n bs pc lv st := by
  obtain ⟨p, l, e, R, s, m, args, below, meth, c, A, D, G, Q, nL⟩ := C
  obtain ⟨hx, hb, -⟩ := F
  exact fun H locs ls hP hD hS hl => lv_fload hx hb d (lv_at hl i h) (K H locs ls hP hD hS hl)
theorem gw_dstore (F : GF C X cc Ts own R0 n0 ret D0 G0 l0) {j : Nat} {x : UInt64} (d : decode cc pc = .ok (.dstore j, 2)) (hn : j + 1 < n0) (hl' : (j, Value.double x) :: lv.filter (fun q => !(q.1 == j) && (!(q.1 == j + 1) && !(q.1 + 1 == j && q.2.category == 2))) = lv') (K : GW C k n bs (pc + 2) lv' st) : GW C k n bs pc lv (.double x :: st) := by
  obtain ⟨p, l, e, R, s, m, args, below, meth, c, A, D, G, Q, nL⟩ := C
  obtain ⟨hx, hb, -, -, -, -, -, -, -, h0, -⟩ := F
  exact fun H locs ls hP hD hS hl => lv_dstore hx hb d hl (h0 ▸ hn) hl' (fun ls' hl => K H locs ls' hP hD hS hl)
theorem gw_fstore (F : GF C X cc Ts own R0 n0 ret D0 G0 l0) {j : Nat} {x : UInt32} (d : decode cc pc = .ok (.fstore j, 2)) (hn : j < n0) (hl' : (j, Value.float x) :: lv.filter (fun q => !(q.1 == j) && !(q.1 + 1 == j && q.2.category == 2)) = lv') (K : GW C k n bs (pc + 2) lv' st) : GW C k n bs pc lv (.float x :: st) := by
  obtain ⟨p, l, e, R, s, m, args, below, meth, c, A, D, G, Q, nL⟩ := C
  obtain ⟨hx, hb, -, -, -, -, -, -, -, h0, -⟩ := F
  exact fun H locs ls hP hD hS hl => lv_fstore hx hb d hl (h0 ▸ hn) hl' (fun ls' hl => K H locs ls' hP hD hS hl)
end GWLAW
theorem tb_0_35 (x : Int32) : (x.toInt < 0 ∨ 35 < x.toInt) ∨ x.toInt = 0 ∨ x.toInt = 1 ∨ x.toInt = 2 ∨ x.toInt = 3 ∨ x.toInt = 4 ∨ x.toInt = 5 ∨ x.toInt = 6 ∨ x.toInt = 7 ∨ x.toInt = 8 ∨ x.toInt = 9 ∨ x.toInt = 10 ∨ x.toInt = 11 ∨ x.toInt = 12 ∨ x.toInt = 13 ∨ x.toInt = 14 ∨ x.toInt = 15 ∨ x.toInt = 16 ∨ x.toInt = 17 ∨ x.toInt = 18 ∨ x.toInt = 19 ∨ x.toInt = 20 ∨ x.toInt = 21 ∨ x.toInt = 22 ∨ x.toInt = 23 ∨ x.toInt = 24 ∨ x.toInt = 25 ∨ x.toInt = 26 ∨ x.toInt = 27 ∨ x.toInt = 28 ∨ x.toInt = 29 ∨ x.toInt = 30 ∨ x.toInt = 31 ∨ x.toInt = 32 ∨ x.toInt = 33 ∨ x.toInt = 34 ∨ x.toInt = 35 := by omega
def wp_L_law_2081 (L : Nat) (xs : Nat → Int32) (K28 : Int32 → OV → OV → OV → OV → OV → OV → OV → OV → OV → OV → HV → OV → (Nat → Int64) → (Nat → UInt64) → Prop) (x5 : Int32) (vKW : OV) (vLg : OV) (vLg2 : OV) (vLg3 : OV) (vLg4 : OV) (vWv : OV) (vPr : OV) (vRf : OV) (vTx : OV) (vLn : OV) (vHs : HV) (vMd : OV) (vLa : (Nat → Int64)) (vDa : (Nat → UInt64)) : Prop :=
  (∀ i_4 : Int32, i_4 = x5 + (4 : Int32) → (K28 i_4 vKW vLg vLg2 vLg3 vLg4 vWv vPr vRf vTx vLn vHs vMd vLa vDa))
set_option maxRecDepth 20000 in
theorem lb_L_law_2081 {l : Launch} {D : va_G} {G : Nat → ClassId} {C : Cx} {bS L : Nat} {xs : Nat → Int32} {k0 n0 : Nat} {hKW : Nat} {qKW : Nat → Nat} {qLg : Nat → Nat} {qLg2 : Nat → Nat} {qLg3 : Nat → Nat} {qLg4 : Nat → Nat} {qWv : Nat → Nat} {qPr : Nat → Nat} {qRf : Nat → Nat} {qTx : Nat → Nat} {qLn : Nat → Nat} {qHs : Nat → Nat → Nat} {hMd : Nat} {qMd : Nat → Nat} {aLa : Nat} {aDa : Nat} {K28 : Int32 → OV → OV → OV → OV → OV → OV → OV → OV → OV → OV → HV → OV → (Nat → Int64) → (Nat → UInt64) → Prop} (hl0 : l.stackTraces = false) (hk : k0 + 20 ≤ 603072 ∧ n0 + 100 ≤ 7207018) (F : GF C XL cL_law lw_tbl RL room_1 9 (some .boolean) D G l) (E : GL C bS L xs) (hK28 : ∀ (x5 : Int32) (vKW : OV) (vLg : OV) (vLg2 : OV) (vLg3 : OV) (vLg4 : OV) (vWv : OV) (vPr : OV) (vRf : OV) (vTx : OV) (vLn : OV) (vHs : HV) (vMd : OV) (vLa : (Nat → Int64)) (vDa : (Nat → UInt64)), K28 x5 vKW vLg vLg2 vLg3 vLg4 vWv vPr vRf vTx vLn vHs vMd vLa vDa → GW C (k0 + 2) (n0 + 12) [bKW G hKW qKW vKW, bLg G (qKW 0) qLg vLg, bLg G (qKW 1) qLg2 vLg2, bLg G (qKW 2) qLg3 vLg3, bLg G (qKW 3) qLg4 vLg4, bWv G (qKW 5) qWv vWv, bPr G (qKW 6) qPr vPr, bRf G (qKW 7) qRf vRf, bTx G (qKW 8) qTx vTx, bLn G (qKW 9) qLn vLn, bHo G (qKW 4) qHs vHs, bRo G qHs vHs 0, bRo G qHs vHs 1, bRo G qHs vHs 2, bRo G qHs vHs 3, bRo G qHs vHs 4, bRo G qHs vHs 5, bRo G qHs vHs 6, bRo G qHs vHs 7, bMd G hMd qMd vMd, bLa G aLa vLa, bDa G aDa vDa] 28 [(0, .ref bS), (1, .ref hKW), (2, .ref hMd), (3, .ref aLa), (4, .ref aDa), (5, .int x5)] []) {x5 : Int32} {vKW : OV} {vLg : OV} {vLg2 : OV} {vLg3 : OV} {vLg4 : OV} {vWv : OV} {vPr : OV} {vRf : OV} {vTx : OV} {vLn : OV} {vHs : HV} {vMd : OV} {vLa : (Nat → Int64)} {vDa : (Nat → UInt64)} (hw : wp_L_law_2081 L xs K28 x5 vKW vLg vLg2 vLg3 vLg4 vWv vPr vRf vTx vLn vHs vMd vLa vDa) : GW C (k0 + 2) (n0 + 12) [bKW G hKW qKW vKW, bLg G (qKW 0) qLg vLg, bLg G (qKW 1) qLg2 vLg2, bLg G (qKW 2) qLg3 vLg3, bLg G (qKW 3) qLg4 vLg4, bWv G (qKW 5) qWv vWv, bPr G (qKW 6) qPr vPr, bRf G (qKW 7) qRf vRf, bTx G (qKW 8) qTx vTx, bLn G (qKW 9) qLn vLn, bHo G (qKW 4) qHs vHs, bRo G qHs vHs 0, bRo G qHs vHs 1, bRo G qHs vHs 2, bRo G qHs vHs 3, bRo G qHs vHs 4, bRo G qHs vHs 5, bRo G qHs vHs 6, bRo G qHs vHs 7, bMd G hMd qMd vMd, bLa G aLa vLa, bDa G aDa vDa] 2081 [(0, .ref bS), (1, .ref hKW), (2, .ref hMd), (3, .ref aLa), (4, .ref aDa), (5, .int x5)] [] := by
  unfold wp_L_law_2081 at hw
  obtain ⟨i_4, e_i_4⟩ : ∃ z : Int32, z = x5 + (4 : Int32) := ⟨_, rfl⟩
  have hw := hw i_4 e_i_4
  refine gw_iinc (v := i_4) (lv' := [(5, .int i_4), (0, .ref bS), (1, .ref hKW), (2, .ref hMd), (3, .ref aLa), (4, .ref aDa)]) F dL_law_2081 5 rfl (by rw [e_i_4]; rfl) (by decide) rfl ?_
  refine gw_goto (tgt := 28) F dL_law_2084 (by decide) ?_
  refine gw_lv [1, 2, 3, 4, 5, 0] rfl ?_
  exact hK28 _ _ _ _ _ _ _ _ _ _ _ _ _ _ _ hw
def wp_L_law_269 (L : Nat) (xs : Nat → Int32) (K28 : Int32 → OV → OV → OV → OV → OV → OV → OV → OV → OV → OV → HV → OV → (Nat → Int64) → (Nat → UInt64) → Prop) (x5 : Int32) (vKW : OV) (vLg : OV) (vLg2 : OV) (vLg3 : OV) (vLg4 : OV) (vWv : OV) (vPr : OV) (vRf : OV) (vTx : OV) (vLn : OV) (vHs : HV) (vMd : OV) (vLa : (Nat → Int64)) (vDa : (Nat → UInt64)) : Prop :=
  (wp_L_law_2081 L xs K28 x5 vKW vLg vLg2 vLg3 vLg4 vWv vPr vRf vTx vLn vHs vMd vLa vDa)
set_option maxRecDepth 20000 in
theorem lb_L_law_269 {l : Launch} {D : va_G} {G : Nat → ClassId} {C : Cx} {bS L : Nat} {xs : Nat → Int32} {k0 n0 : Nat} {hKW : Nat} {qKW : Nat → Nat} {qLg : Nat → Nat} {qLg2 : Nat → Nat} {qLg3 : Nat → Nat} {qLg4 : Nat → Nat} {qWv : Nat → Nat} {qPr : Nat → Nat} {qRf : Nat → Nat} {qTx : Nat → Nat} {qLn : Nat → Nat} {qHs : Nat → Nat → Nat} {hMd : Nat} {qMd : Nat → Nat} {aLa : Nat} {aDa : Nat} {K28 : Int32 → OV → OV → OV → OV → OV → OV → OV → OV → OV → OV → HV → OV → (Nat → Int64) → (Nat → UInt64) → Prop} (hl0 : l.stackTraces = false) (hk : k0 + 20 ≤ 603072 ∧ n0 + 100 ≤ 7207018) (F : GF C XL cL_law lw_tbl RL room_1 9 (some .boolean) D G l) (E : GL C bS L xs) (hK28 : ∀ (x5 : Int32) (vKW : OV) (vLg : OV) (vLg2 : OV) (vLg3 : OV) (vLg4 : OV) (vWv : OV) (vPr : OV) (vRf : OV) (vTx : OV) (vLn : OV) (vHs : HV) (vMd : OV) (vLa : (Nat → Int64)) (vDa : (Nat → UInt64)), K28 x5 vKW vLg vLg2 vLg3 vLg4 vWv vPr vRf vTx vLn vHs vMd vLa vDa → GW C (k0 + 2) (n0 + 12) [bKW G hKW qKW vKW, bLg G (qKW 0) qLg vLg, bLg G (qKW 1) qLg2 vLg2, bLg G (qKW 2) qLg3 vLg3, bLg G (qKW 3) qLg4 vLg4, bWv G (qKW 5) qWv vWv, bPr G (qKW 6) qPr vPr, bRf G (qKW 7) qRf vRf, bTx G (qKW 8) qTx vTx, bLn G (qKW 9) qLn vLn, bHo G (qKW 4) qHs vHs, bRo G qHs vHs 0, bRo G qHs vHs 1, bRo G qHs vHs 2, bRo G qHs vHs 3, bRo G qHs vHs 4, bRo G qHs vHs 5, bRo G qHs vHs 6, bRo G qHs vHs 7, bMd G hMd qMd vMd, bLa G aLa vLa, bDa G aDa vDa] 28 [(0, .ref bS), (1, .ref hKW), (2, .ref hMd), (3, .ref aLa), (4, .ref aDa), (5, .int x5)] []) {x5 : Int32} {vKW : OV} {vLg : OV} {vLg2 : OV} {vLg3 : OV} {vLg4 : OV} {vWv : OV} {vPr : OV} {vRf : OV} {vTx : OV} {vLn : OV} {vHs : HV} {vMd : OV} {vLa : (Nat → Int64)} {vDa : (Nat → UInt64)} (hw : wp_L_law_269 L xs K28 x5 vKW vLg vLg2 vLg3 vLg4 vWv vPr vRf vTx vLn vHs vMd vLa vDa) : GW C (k0 + 1) (n0 + 6) [bKW G hKW qKW vKW, bLg G (qKW 0) qLg vLg, bLg G (qKW 1) qLg2 vLg2, bLg G (qKW 2) qLg3 vLg3, bLg G (qKW 3) qLg4 vLg4, bWv G (qKW 5) qWv vWv, bPr G (qKW 6) qPr vPr, bRf G (qKW 7) qRf vRf, bTx G (qKW 8) qTx vTx, bLn G (qKW 9) qLn vLn, bHo G (qKW 4) qHs vHs, bRo G qHs vHs 0, bRo G qHs vHs 1, bRo G qHs vHs 2, bRo G qHs vHs 3, bRo G qHs vHs 4, bRo G qHs vHs 5, bRo G qHs vHs 6, bRo G qHs vHs 7, bMd G hMd qMd vMd, bLa G aLa vLa, bDa G aDa vDa] 269 [(0, .ref bS), (1, .ref hKW), (2, .ref hMd), (3, .ref aLa), (4, .ref aDa), (5, .int x5)] [] := by
  unfold wp_L_law_269 at hw
  refine gw_goto (tgt := 2081) F dL_law_269 (by decide) ?_
  refine gw_widen (k' := k0 + 2) (n' := n0 + 12) (by omega) (by omega) ?_
  exact lb_L_law_2081 hl0 hk F E hK28 hw
def wp_L_law_325 (L : Nat) (xs : Nat → Int32) (K28 : Int32 → OV → OV → OV → OV → OV → OV → OV → OV → OV → OV → HV → OV → (Nat → Int64) → (Nat → UInt64) → Prop) (x5 : Int32) (vKW : OV) (vLg : OV) (vLg2 : OV) (vLg3 : OV) (vLg4 : OV) (vWv : OV) (vPr : OV) (vRf : OV) (vTx : OV) (vLn : OV) (vHs : HV) (vMd : OV) (vLa : (Nat → Int64)) (vDa : (Nat → UInt64)) : Prop :=
  (wp_L_law_2081 L xs K28 x5 vKW vLg vLg2 vLg3 vLg4 vWv vPr vRf vTx vLn vHs vMd vLa vDa)
set_option maxRecDepth 20000 in
theorem lb_L_law_325 {l : Launch} {D : va_G} {G : Nat → ClassId} {C : Cx} {bS L : Nat} {xs : Nat → Int32} {k0 n0 : Nat} {hKW : Nat} {qKW : Nat → Nat} {qLg : Nat → Nat} {qLg2 : Nat → Nat} {qLg3 : Nat → Nat} {qLg4 : Nat → Nat} {qWv : Nat → Nat} {qPr : Nat → Nat} {qRf : Nat → Nat} {qTx : Nat → Nat} {qLn : Nat → Nat} {qHs : Nat → Nat → Nat} {hMd : Nat} {qMd : Nat → Nat} {aLa : Nat} {aDa : Nat} {K28 : Int32 → OV → OV → OV → OV → OV → OV → OV → OV → OV → OV → HV → OV → (Nat → Int64) → (Nat → UInt64) → Prop} (hl0 : l.stackTraces = false) (hk : k0 + 20 ≤ 603072 ∧ n0 + 100 ≤ 7207018) (F : GF C XL cL_law lw_tbl RL room_1 9 (some .boolean) D G l) (E : GL C bS L xs) (hK28 : ∀ (x5 : Int32) (vKW : OV) (vLg : OV) (vLg2 : OV) (vLg3 : OV) (vLg4 : OV) (vWv : OV) (vPr : OV) (vRf : OV) (vTx : OV) (vLn : OV) (vHs : HV) (vMd : OV) (vLa : (Nat → Int64)) (vDa : (Nat → UInt64)), K28 x5 vKW vLg vLg2 vLg3 vLg4 vWv vPr vRf vTx vLn vHs vMd vLa vDa → GW C (k0 + 2) (n0 + 12) [bKW G hKW qKW vKW, bLg G (qKW 0) qLg vLg, bLg G (qKW 1) qLg2 vLg2, bLg G (qKW 2) qLg3 vLg3, bLg G (qKW 3) qLg4 vLg4, bWv G (qKW 5) qWv vWv, bPr G (qKW 6) qPr vPr, bRf G (qKW 7) qRf vRf, bTx G (qKW 8) qTx vTx, bLn G (qKW 9) qLn vLn, bHo G (qKW 4) qHs vHs, bRo G qHs vHs 0, bRo G qHs vHs 1, bRo G qHs vHs 2, bRo G qHs vHs 3, bRo G qHs vHs 4, bRo G qHs vHs 5, bRo G qHs vHs 6, bRo G qHs vHs 7, bMd G hMd qMd vMd, bLa G aLa vLa, bDa G aDa vDa] 28 [(0, .ref bS), (1, .ref hKW), (2, .ref hMd), (3, .ref aLa), (4, .ref aDa), (5, .int x5)] []) {x5 : Int32} {vKW : OV} {vLg : OV} {vLg2 : OV} {vLg3 : OV} {vLg4 : OV} {vWv : OV} {vPr : OV} {vRf : OV} {vTx : OV} {vLn : OV} {vHs : HV} {vMd : OV} {vLa : (Nat → Int64)} {vDa : (Nat → UInt64)} (hw : wp_L_law_325 L xs K28 x5 vKW vLg vLg2 vLg3 vLg4 vWv vPr vRf vTx vLn vHs vMd vLa vDa) : GW C (k0 + 1) (n0 + 6) [bKW G hKW qKW vKW, bLg G (qKW 0) qLg vLg, bLg G (qKW 1) qLg2 vLg2, bLg G (qKW 2) qLg3 vLg3, bLg G (qKW 3) qLg4 vLg4, bWv G (qKW 5) qWv vWv, bPr G (qKW 6) qPr vPr, bRf G (qKW 7) qRf vRf, bTx G (qKW 8) qTx vTx, bLn G (qKW 9) qLn vLn, bHo G (qKW 4) qHs vHs, bRo G qHs vHs 0, bRo G qHs vHs 1, bRo G qHs vHs 2, bRo G qHs vHs 3, bRo G qHs vHs 4, bRo G qHs vHs 5, bRo G qHs vHs 6, bRo G qHs vHs 7, bMd G hMd qMd vMd, bLa G aLa vLa, bDa G aDa vDa] 325 [(0, .ref bS), (1, .ref hKW), (2, .ref hMd), (3, .ref aLa), (4, .ref aDa), (5, .int x5)] [] := by
  unfold wp_L_law_325 at hw
  refine gw_goto (tgt := 2081) F dL_law_325 (by decide) ?_
  refine gw_widen (k' := k0 + 2) (n' := n0 + 12) (by omega) (by omega) ?_
  exact lb_L_law_2081 hl0 hk F E hK28 hw
def wp_L_law_393 (L : Nat) (xs : Nat → Int32) (K28 : Int32 → OV → OV → OV → OV → OV → OV → OV → OV → OV → OV → HV → OV → (Nat → Int64) → (Nat → UInt64) → Prop) (x5 : Int32) (vKW : OV) (vLg : OV) (vLg2 : OV) (vLg3 : OV) (vLg4 : OV) (vWv : OV) (vPr : OV) (vRf : OV) (vTx : OV) (vLn : OV) (vHs : HV) (vMd : OV) (vLa : (Nat → Int64)) (vDa : (Nat → UInt64)) : Prop :=
  (wp_L_law_2081 L xs K28 x5 vKW vLg vLg2 vLg3 vLg4 vWv vPr vRf vTx vLn vHs vMd vLa vDa)
set_option maxRecDepth 20000 in
theorem lb_L_law_393 {l : Launch} {D : va_G} {G : Nat → ClassId} {C : Cx} {bS L : Nat} {xs : Nat → Int32} {k0 n0 : Nat} {hKW : Nat} {qKW : Nat → Nat} {qLg : Nat → Nat} {qLg2 : Nat → Nat} {qLg3 : Nat → Nat} {qLg4 : Nat → Nat} {qWv : Nat → Nat} {qPr : Nat → Nat} {qRf : Nat → Nat} {qTx : Nat → Nat} {qLn : Nat → Nat} {qHs : Nat → Nat → Nat} {hMd : Nat} {qMd : Nat → Nat} {aLa : Nat} {aDa : Nat} {K28 : Int32 → OV → OV → OV → OV → OV → OV → OV → OV → OV → OV → HV → OV → (Nat → Int64) → (Nat → UInt64) → Prop} (hl0 : l.stackTraces = false) (hk : k0 + 20 ≤ 603072 ∧ n0 + 100 ≤ 7207018) (F : GF C XL cL_law lw_tbl RL room_1 9 (some .boolean) D G l) (E : GL C bS L xs) (hK28 : ∀ (x5 : Int32) (vKW : OV) (vLg : OV) (vLg2 : OV) (vLg3 : OV) (vLg4 : OV) (vWv : OV) (vPr : OV) (vRf : OV) (vTx : OV) (vLn : OV) (vHs : HV) (vMd : OV) (vLa : (Nat → Int64)) (vDa : (Nat → UInt64)), K28 x5 vKW vLg vLg2 vLg3 vLg4 vWv vPr vRf vTx vLn vHs vMd vLa vDa → GW C (k0 + 2) (n0 + 12) [bKW G hKW qKW vKW, bLg G (qKW 0) qLg vLg, bLg G (qKW 1) qLg2 vLg2, bLg G (qKW 2) qLg3 vLg3, bLg G (qKW 3) qLg4 vLg4, bWv G (qKW 5) qWv vWv, bPr G (qKW 6) qPr vPr, bRf G (qKW 7) qRf vRf, bTx G (qKW 8) qTx vTx, bLn G (qKW 9) qLn vLn, bHo G (qKW 4) qHs vHs, bRo G qHs vHs 0, bRo G qHs vHs 1, bRo G qHs vHs 2, bRo G qHs vHs 3, bRo G qHs vHs 4, bRo G qHs vHs 5, bRo G qHs vHs 6, bRo G qHs vHs 7, bMd G hMd qMd vMd, bLa G aLa vLa, bDa G aDa vDa] 28 [(0, .ref bS), (1, .ref hKW), (2, .ref hMd), (3, .ref aLa), (4, .ref aDa), (5, .int x5)] []) {x5 : Int32} {vKW : OV} {vLg : OV} {vLg2 : OV} {vLg3 : OV} {vLg4 : OV} {vWv : OV} {vPr : OV} {vRf : OV} {vTx : OV} {vLn : OV} {vHs : HV} {vMd : OV} {vLa : (Nat → Int64)} {vDa : (Nat → UInt64)} (hw : wp_L_law_393 L xs K28 x5 vKW vLg vLg2 vLg3 vLg4 vWv vPr vRf vTx vLn vHs vMd vLa vDa) : GW C (k0 + 1) (n0 + 6) [bKW G hKW qKW vKW, bLg G (qKW 0) qLg vLg, bLg G (qKW 1) qLg2 vLg2, bLg G (qKW 2) qLg3 vLg3, bLg G (qKW 3) qLg4 vLg4, bWv G (qKW 5) qWv vWv, bPr G (qKW 6) qPr vPr, bRf G (qKW 7) qRf vRf, bTx G (qKW 8) qTx vTx, bLn G (qKW 9) qLn vLn, bHo G (qKW 4) qHs vHs, bRo G qHs vHs 0, bRo G qHs vHs 1, bRo G qHs vHs 2, bRo G qHs vHs 3, bRo G qHs vHs 4, bRo G qHs vHs 5, bRo G qHs vHs 6, bRo G qHs vHs 7, bMd G hMd qMd vMd, bLa G aLa vLa, bDa G aDa vDa] 393 [(0, .ref bS), (1, .ref hKW), (2, .ref hMd), (3, .ref aLa), (4, .ref aDa), (5, .int x5)] [] := by
  unfold wp_L_law_393 at hw
  refine gw_goto (tgt := 2081) F dL_law_393 (by decide) ?_
  refine gw_widen (k' := k0 + 2) (n' := n0 + 12) (by omega) (by omega) ?_
  exact lb_L_law_2081 hl0 hk F E hK28 hw
def wp_L_law_489 (L : Nat) (xs : Nat → Int32) (K28 : Int32 → OV → OV → OV → OV → OV → OV → OV → OV → OV → OV → HV → OV → (Nat → Int64) → (Nat → UInt64) → Prop) (x5 : Int32) (vKW : OV) (vLg : OV) (vLg2 : OV) (vLg3 : OV) (vLg4 : OV) (vWv : OV) (vPr : OV) (vRf : OV) (vTx : OV) (vLn : OV) (vHs : HV) (vMd : OV) (vLa : (Nat → Int64)) (vDa : (Nat → UInt64)) : Prop :=
  (wp_L_law_2081 L xs K28 x5 vKW vLg vLg2 vLg3 vLg4 vWv vPr vRf vTx vLn vHs vMd vLa vDa)
set_option maxRecDepth 20000 in
theorem lb_L_law_489 {l : Launch} {D : va_G} {G : Nat → ClassId} {C : Cx} {bS L : Nat} {xs : Nat → Int32} {k0 n0 : Nat} {hKW : Nat} {qKW : Nat → Nat} {qLg : Nat → Nat} {qLg2 : Nat → Nat} {qLg3 : Nat → Nat} {qLg4 : Nat → Nat} {qWv : Nat → Nat} {qPr : Nat → Nat} {qRf : Nat → Nat} {qTx : Nat → Nat} {qLn : Nat → Nat} {qHs : Nat → Nat → Nat} {hMd : Nat} {qMd : Nat → Nat} {aLa : Nat} {aDa : Nat} {K28 : Int32 → OV → OV → OV → OV → OV → OV → OV → OV → OV → OV → HV → OV → (Nat → Int64) → (Nat → UInt64) → Prop} (hl0 : l.stackTraces = false) (hk : k0 + 20 ≤ 603072 ∧ n0 + 100 ≤ 7207018) (F : GF C XL cL_law lw_tbl RL room_1 9 (some .boolean) D G l) (E : GL C bS L xs) (hK28 : ∀ (x5 : Int32) (vKW : OV) (vLg : OV) (vLg2 : OV) (vLg3 : OV) (vLg4 : OV) (vWv : OV) (vPr : OV) (vRf : OV) (vTx : OV) (vLn : OV) (vHs : HV) (vMd : OV) (vLa : (Nat → Int64)) (vDa : (Nat → UInt64)), K28 x5 vKW vLg vLg2 vLg3 vLg4 vWv vPr vRf vTx vLn vHs vMd vLa vDa → GW C (k0 + 2) (n0 + 12) [bKW G hKW qKW vKW, bLg G (qKW 0) qLg vLg, bLg G (qKW 1) qLg2 vLg2, bLg G (qKW 2) qLg3 vLg3, bLg G (qKW 3) qLg4 vLg4, bWv G (qKW 5) qWv vWv, bPr G (qKW 6) qPr vPr, bRf G (qKW 7) qRf vRf, bTx G (qKW 8) qTx vTx, bLn G (qKW 9) qLn vLn, bHo G (qKW 4) qHs vHs, bRo G qHs vHs 0, bRo G qHs vHs 1, bRo G qHs vHs 2, bRo G qHs vHs 3, bRo G qHs vHs 4, bRo G qHs vHs 5, bRo G qHs vHs 6, bRo G qHs vHs 7, bMd G hMd qMd vMd, bLa G aLa vLa, bDa G aDa vDa] 28 [(0, .ref bS), (1, .ref hKW), (2, .ref hMd), (3, .ref aLa), (4, .ref aDa), (5, .int x5)] []) {x5 : Int32} {vKW : OV} {vLg : OV} {vLg2 : OV} {vLg3 : OV} {vLg4 : OV} {vWv : OV} {vPr : OV} {vRf : OV} {vTx : OV} {vLn : OV} {vHs : HV} {vMd : OV} {vLa : (Nat → Int64)} {vDa : (Nat → UInt64)} (hw : wp_L_law_489 L xs K28 x5 vKW vLg vLg2 vLg3 vLg4 vWv vPr vRf vTx vLn vHs vMd vLa vDa) : GW C (k0 + 1) (n0 + 6) [bKW G hKW qKW vKW, bLg G (qKW 0) qLg vLg, bLg G (qKW 1) qLg2 vLg2, bLg G (qKW 2) qLg3 vLg3, bLg G (qKW 3) qLg4 vLg4, bWv G (qKW 5) qWv vWv, bPr G (qKW 6) qPr vPr, bRf G (qKW 7) qRf vRf, bTx G (qKW 8) qTx vTx, bLn G (qKW 9) qLn vLn, bHo G (qKW 4) qHs vHs, bRo G qHs vHs 0, bRo G qHs vHs 1, bRo G qHs vHs 2, bRo G qHs vHs 3, bRo G qHs vHs 4, bRo G qHs vHs 5, bRo G qHs vHs 6, bRo G qHs vHs 7, bMd G hMd qMd vMd, bLa G aLa vLa, bDa G aDa vDa] 489 [(0, .ref bS), (1, .ref hKW), (2, .ref hMd), (3, .ref aLa), (4, .ref aDa), (5, .int x5)] [] := by
  unfold wp_L_law_489 at hw
  refine gw_goto (tgt := 2081) F dL_law_489 (by decide) ?_
  refine gw_widen (k' := k0 + 2) (n' := n0 + 12) (by omega) (by omega) ?_
  exact lb_L_law_2081 hl0 hk F E hK28 hw
def wp_L_law_456 (L : Nat) (xs : Nat → Int32) (K28 : Int32 → OV → OV → OV → OV → OV → OV → OV → OV → OV → OV → HV → OV → (Nat → Int64) → (Nat → UInt64) → Prop) (x5 x6 s1 s2 s3 : Int32) (vKW : OV) (vLg : OV) (vLg2 : OV) (vLg3 : OV) (vLg4 : OV) (vWv : OV) (vPr : OV) (vRf : OV) (vTx : OV) (vLn : OV) (vHs : HV) (vMd : OV) (vLa : (Nat → Int64)) (vDa : (Nat → UInt64)) : Prop :=
  (wp_X8_bar (fun (r_65 : Int32) (v_66 : OV) => (wp_X8_thrown (fun (r_67 : Int32) => ((r_67 = x6 → ((¬ x6 = 0 → (wp_L_law_489 L xs K28 x5 vKW vLg vLg2 vLg3 vLg4 vWv vPr vRf vTx vLn vHs v_66 vLa vDa)) ∧ (x6 = 0 → (((lcm3 (vLa (0 : Int32).toNatClampNeg) (r_65).toInt64) = 0 → (wp_L_law_489 L xs K28 x5 vKW vLg vLg2 vLg3 vLg4 vWv vPr vRf vTx vLn vHs v_66 vLa vDa)) ∧ (¬ ((lcm3 (vLa (0 : Int32).toNatClampNeg) (r_65).toInt64) = 0) → ((0 : Int32) = 1)))))) ∧ (¬ (r_67 = x6) → ((0 : Int32) = 1)))) v_66)) s1 s2 s3 vMd)
set_option maxRecDepth 20000 in
theorem lb_L_law_456 {l : Launch} {D : va_G} {G : Nat → ClassId} {C : Cx} {bS L : Nat} {xs : Nat → Int32} {k0 n0 : Nat} {hKW : Nat} {qKW : Nat → Nat} {qLg : Nat → Nat} {qLg2 : Nat → Nat} {qLg3 : Nat → Nat} {qLg4 : Nat → Nat} {qWv : Nat → Nat} {qPr : Nat → Nat} {qRf : Nat → Nat} {qTx : Nat → Nat} {qLn : Nat → Nat} {qHs : Nat → Nat → Nat} {hMd : Nat} {qMd : Nat → Nat} {aLa : Nat} {aDa : Nat} {K28 : Int32 → OV → OV → OV → OV → OV → OV → OV → OV → OV → OV → HV → OV → (Nat → Int64) → (Nat → UInt64) → Prop} (hl0 : l.stackTraces = false) (hk : k0 + 20 ≤ 603072 ∧ n0 + 100 ≤ 7207018) (F : GF C XL cL_law lw_tbl RL room_1 9 (some .boolean) D G l) (E : GL C bS L xs) (hK28 : ∀ (x5 : Int32) (vKW : OV) (vLg : OV) (vLg2 : OV) (vLg3 : OV) (vLg4 : OV) (vWv : OV) (vPr : OV) (vRf : OV) (vTx : OV) (vLn : OV) (vHs : HV) (vMd : OV) (vLa : (Nat → Int64)) (vDa : (Nat → UInt64)), K28 x5 vKW vLg vLg2 vLg3 vLg4 vWv vPr vRf vTx vLn vHs vMd vLa vDa → GW C (k0 + 2) (n0 + 12) [bKW G hKW qKW vKW, bLg G (qKW 0) qLg vLg, bLg G (qKW 1) qLg2 vLg2, bLg G (qKW 2) qLg3 vLg3, bLg G (qKW 3) qLg4 vLg4, bWv G (qKW 5) qWv vWv, bPr G (qKW 6) qPr vPr, bRf G (qKW 7) qRf vRf, bTx G (qKW 8) qTx vTx, bLn G (qKW 9) qLn vLn, bHo G (qKW 4) qHs vHs, bRo G qHs vHs 0, bRo G qHs vHs 1, bRo G qHs vHs 2, bRo G qHs vHs 3, bRo G qHs vHs 4, bRo G qHs vHs 5, bRo G qHs vHs 6, bRo G qHs vHs 7, bMd G hMd qMd vMd, bLa G aLa vLa, bDa G aDa vDa] 28 [(0, .ref bS), (1, .ref hKW), (2, .ref hMd), (3, .ref aLa), (4, .ref aDa), (5, .int x5)] []) {x5 x6 s1 s2 s3 : Int32} {vKW : OV} {vLg : OV} {vLg2 : OV} {vLg3 : OV} {vLg4 : OV} {vWv : OV} {vPr : OV} {vRf : OV} {vTx : OV} {vLn : OV} {vHs : HV} {vMd : OV} {vLa : (Nat → Int64)} {vDa : (Nat → UInt64)} (hw : wp_L_law_456 L xs K28 x5 x6 s1 s2 s3 vKW vLg vLg2 vLg3 vLg4 vWv vPr vRf vTx vLn vHs vMd vLa vDa) : GW C (k0 + 1) (n0 + 6) [bKW G hKW qKW vKW, bLg G (qKW 0) qLg vLg, bLg G (qKW 1) qLg2 vLg2, bLg G (qKW 2) qLg3 vLg3, bLg G (qKW 3) qLg4 vLg4, bWv G (qKW 5) qWv vWv, bPr G (qKW 6) qPr vPr, bRf G (qKW 7) qRf vRf, bTx G (qKW 8) qTx vTx, bLn G (qKW 9) qLn vLn, bHo G (qKW 4) qHs vHs, bRo G qHs vHs 0, bRo G qHs vHs 1, bRo G qHs vHs 2, bRo G qHs vHs 3, bRo G qHs vHs 4, bRo G qHs vHs 5, bRo G qHs vHs 6, bRo G qHs vHs 7, bMd G hMd qMd vMd, bLa G aLa vLa, bDa G aDa vDa] 456 [(0, .ref bS), (1, .ref hKW), (2, .ref hMd), (3, .ref aLa), (4, .ref aDa), (5, .int x5), (6, .int x6)] [.int s3, .int s2, .int s1, .ref hMd] := by
  unfold wp_L_law_456 at hw
  refine gw_callV F (ct_X8_bar hw) 3 la_138 rfl rfl rfl hd_X8_bar ⟨(Nat.le_of_ble_eq_true rfl), (Nat.le_of_ble_eq_true rfl)⟩ rfl rfl (Nat.le_of_ble_eq_true rfl) ⟨by show _ ≤ 603072; omega, by show _ ≤ 7207018; omega⟩ [0, 1, 2, 3, 4, 5, 6, 7, 8, 9, 10, 11, 12, 13, 14, 15, 16, 17, 18, 20, 21, 19] (bsr := [bKW G hKW qKW vKW, bLg G (qKW 0) qLg vLg, bLg G (qKW 1) qLg2 vLg2, bLg G (qKW 2) qLg3 vLg3, bLg G (qKW 3) qLg4 vLg4, bWv G (qKW 5) qWv vWv, bPr G (qKW 6) qPr vPr, bRf G (qKW 7) qRf vRf, bTx G (qKW 8) qTx vTx, bLn G (qKW 9) qLn vLn, bHo G (qKW 4) qHs vHs, bRo G qHs vHs 0, bRo G qHs vHs 1, bRo G qHs vHs 2, bRo G qHs vHs 3, bRo G qHs vHs 4, bRo G qHs vHs 5, bRo G qHs vHs 6, bRo G qHs vHs 7, bLa G aLa vLa, bDa G aDa vDa]) rfl rfl (q0 := 0) rfl rfl dL_law_456 ?_
  rintro _ _ ⟨r_65, v_66, rfl, rfl, hw⟩
  refine gw_sel [0, 1, 2, 3, 4, 5, 6, 7, 8, 9, 10, 11, 12, 13, 14, 15, 16, 17, 18, 21, 19, 20] (bs' := [bKW G hKW qKW vKW, bLg G (qKW 0) qLg vLg, bLg G (qKW 1) qLg2 vLg2, bLg G (qKW 2) qLg3 vLg3, bLg G (qKW 3) qLg4 vLg4, bWv G (qKW 5) qWv vWv, bPr G (qKW 6) qPr vPr, bRf G (qKW 7) qRf vRf, bTx G (qKW 8) qTx vTx, bLn G (qKW 9) qLn vLn, bHo G (qKW 4) qHs vHs, bRo G qHs vHs 0, bRo G qHs vHs 1, bRo G qHs vHs 2, bRo G qHs vHs 3, bRo G qHs vHs 4, bRo G qHs vHs 5, bRo G qHs vHs 6, bRo G qHs vHs 7, bMd G hMd qMd v_66, bLa G aLa vLa, bDa G aDa vDa]) rfl rfl ?_
  change GW C (k0 + 1) (n0 + 6) _ 459 _ [.int r_65]
  refine gw_istore (lv' := [(7, .int r_65), (0, .ref bS), (1, .ref hKW), (2, .ref hMd), (3, .ref aLa), (4, .ref aDa), (5, .int x5), (6, .int x6)]) F dL_law_459 (by decide) rfl ?_
  refine gw_aload_n F dL_law_461 3 rfl ?_
  refine gw_callV F (ct_X8_thrown hw) 0 la_125 rfl rfl rfl hd_X8_thrown ⟨(Nat.le_of_ble_eq_true rfl), (Nat.le_of_ble_eq_true rfl)⟩ rfl rfl (Nat.le_of_ble_eq_true rfl) ⟨by show _ ≤ 603072; omega, by show _ ≤ 7207018; omega⟩ [0, 1, 2, 3, 4, 5, 6, 7, 8, 9, 10, 11, 12, 13, 14, 15, 16, 17, 18, 20, 21, 19] (bsr := [bKW G hKW qKW vKW, bLg G (qKW 0) qLg vLg, bLg G (qKW 1) qLg2 vLg2, bLg G (qKW 2) qLg3 vLg3, bLg G (qKW 3) qLg4 vLg4, bWv G (qKW 5) qWv vWv, bPr G (qKW 6) qPr vPr, bRf G (qKW 7) qRf vRf, bTx G (qKW 8) qTx vTx, bLn G (qKW 9) qLn vLn, bHo G (qKW 4) qHs vHs, bRo G qHs vHs 0, bRo G qHs vHs 1, bRo G qHs vHs 2, bRo G qHs vHs 3, bRo G qHs vHs 4, bRo G qHs vHs 5, bRo G qHs vHs 6, bRo G qHs vHs 7, bLa G aLa vLa, bDa G aDa vDa]) rfl rfl (q0 := 0) rfl rfl dL_law_462 ?_
  rintro _ _ ⟨r_67, rfl, rfl, hw⟩
  refine gw_sel [0, 1, 2, 3, 4, 5, 6, 7, 8, 9, 10, 11, 12, 13, 14, 15, 16, 17, 18, 21, 19, 20] (bs' := [bKW G hKW qKW vKW, bLg G (qKW 0) qLg vLg, bLg G (qKW 1) qLg2 vLg2, bLg G (qKW 2) qLg3 vLg3, bLg G (qKW 3) qLg4 vLg4, bWv G (qKW 5) qWv vWv, bPr G (qKW 6) qPr vPr, bRf G (qKW 7) qRf vRf, bTx G (qKW 8) qTx vTx, bLn G (qKW 9) qLn vLn, bHo G (qKW 4) qHs vHs, bRo G qHs vHs 0, bRo G qHs vHs 1, bRo G qHs vHs 2, bRo G qHs vHs 3, bRo G qHs vHs 4, bRo G qHs vHs 5, bRo G qHs vHs 6, bRo G qHs vHs 7, bMd G hMd qMd v_66, bLa G aLa vLa, bDa G aDa vDa]) rfl rfl ?_
  change GW C (k0 + 1) (n0 + 6) _ 465 _ [.int r_67]
  refine gw_iload F dL_law_465 7 rfl ?_
  refine gw_icmp_eq (tgt := 472) F dL_law_467 (by decide) (fun c_68 => ?_) (fun c_68 => ?_)
  · have hw := hw.1 c_68
    refine gw_iload F dL_law_472 7 rfl ?_
    refine gw_if_ne (tgt := 489) F dL_law_474 (by decide) (fun c_69 => ?_) (fun c_69 => ?_)
    · have hw := hw.1 c_69
      refine gw_lv [1, 2, 3, 4, 5, 6] rfl ?_
      exact lb_L_law_489 hl0 hk F E hK28 hw
    · have hw := hw.2 c_69
      refine gw_aload_n F dL_law_477 4 rfl ?_
      refine gw_iconst (v := (0 : Int32)) F dL_law_478 ic_iconst_0 ?_
      refine gw_lald F 133 rfl (by unfold vp_in; decide) dL_law_479 ?_
      refine gw_iload F dL_law_480 0 rfl ?_
      refine gw_i2l F dL_law_482 ?_
      refine gw_lcmp F dL_law_483 ?_
      refine gw_if_eq (tgt := 489) F dL_law_484 (by decide) (fun c_70 => ?_) (fun c_70 => ?_)
      · have hw := hw.1 c_70
        refine gw_lv [1, 2, 3, 4, 5, 6] rfl ?_
        exact lb_L_law_489 hl0 hk F E hK28 hw
      · have hw := hw.2 c_70
        refine gw_iconst (v := (0 : Int32)) F dL_law_487 ic_iconst_0 ?_
        exact gw_lret F E hw (by omega) (by omega) dL_law_488
  · have hw := hw.2 c_68
    refine gw_iconst (v := (0 : Int32)) F dL_law_470 ic_iconst_0 ?_
    exact gw_lret F E hw (by omega) (by omega) dL_law_471
def wp_L_law_423 (L : Nat) (xs : Nat → Int32) (K28 : Int32 → OV → OV → OV → OV → OV → OV → OV → OV → OV → OV → HV → OV → (Nat → Int64) → (Nat → UInt64) → Prop) (x5 s1 s2 s3 : Int32) (vKW : OV) (vLg : OV) (vLg2 : OV) (vLg3 : OV) (vLg4 : OV) (vWv : OV) (vPr : OV) (vRf : OV) (vTx : OV) (vLn : OV) (vHs : HV) (vMd : OV) (vLa : (Nat → Int64)) (vDa : (Nat → UInt64)) : Prop :=
  (wp_L_bar (fun (r_55 : Int32) (v_56 : OV) (v_57 : OV) (v_58 : OV) (v_59 : HV) (v_60 : (Nat → Int64)) => (vp_in (x5 + (1 : Int32)) L ∧ (vp_in (x5 + (2 : Int32)) L ∧ (vp_in (x5 + (3 : Int32)) L ∧ (((xs (x5 + (3 : Int32)).toNatClampNeg) = 0 → (wp_L_law_456 L xs K28 x5 r_55 (xs (x5 + (1 : Int32)).toNatClampNeg) (xs (x5 + (2 : Int32)).toNatClampNeg) (0 : Int32) vKW v_56 v_57 vLg3 vLg4 vWv vPr v_58 vTx vLn v_59 vMd v_60 vDa)) ∧ (¬ ((xs (x5 + (3 : Int32)).toNatClampNeg) = 0) → (wp_L_law_456 L xs K28 x5 r_55 (xs (x5 + (1 : Int32)).toNatClampNeg) (xs (x5 + (2 : Int32)).toNatClampNeg) (1 : Int32) vKW v_56 v_57 vLg3 vLg4 vWv vPr v_58 vTx vLn v_59 vMd v_60 vDa))))))) s1 s2 s3 vKW vLg vLg2 vLg3 vLg4 vWv vPr vRf vTx vLn vHs vLa)
set_option maxRecDepth 20000 in
theorem lb_L_law_423 {l : Launch} {D : va_G} {G : Nat → ClassId} {C : Cx} {bS L : Nat} {xs : Nat → Int32} {k0 n0 : Nat} {hKW : Nat} {qKW : Nat → Nat} {qLg : Nat → Nat} {qLg2 : Nat → Nat} {qLg3 : Nat → Nat} {qLg4 : Nat → Nat} {qWv : Nat → Nat} {qPr : Nat → Nat} {qRf : Nat → Nat} {qTx : Nat → Nat} {qLn : Nat → Nat} {qHs : Nat → Nat → Nat} {hMd : Nat} {qMd : Nat → Nat} {aLa : Nat} {aDa : Nat} {K28 : Int32 → OV → OV → OV → OV → OV → OV → OV → OV → OV → OV → HV → OV → (Nat → Int64) → (Nat → UInt64) → Prop} (hl0 : l.stackTraces = false) (hk : k0 + 20 ≤ 603072 ∧ n0 + 100 ≤ 7207018) (F : GF C XL cL_law lw_tbl RL room_1 9 (some .boolean) D G l) (E : GL C bS L xs) (hK28 : ∀ (x5 : Int32) (vKW : OV) (vLg : OV) (vLg2 : OV) (vLg3 : OV) (vLg4 : OV) (vWv : OV) (vPr : OV) (vRf : OV) (vTx : OV) (vLn : OV) (vHs : HV) (vMd : OV) (vLa : (Nat → Int64)) (vDa : (Nat → UInt64)), K28 x5 vKW vLg vLg2 vLg3 vLg4 vWv vPr vRf vTx vLn vHs vMd vLa vDa → GW C (k0 + 2) (n0 + 12) [bKW G hKW qKW vKW, bLg G (qKW 0) qLg vLg, bLg G (qKW 1) qLg2 vLg2, bLg G (qKW 2) qLg3 vLg3, bLg G (qKW 3) qLg4 vLg4, bWv G (qKW 5) qWv vWv, bPr G (qKW 6) qPr vPr, bRf G (qKW 7) qRf vRf, bTx G (qKW 8) qTx vTx, bLn G (qKW 9) qLn vLn, bHo G (qKW 4) qHs vHs, bRo G qHs vHs 0, bRo G qHs vHs 1, bRo G qHs vHs 2, bRo G qHs vHs 3, bRo G qHs vHs 4, bRo G qHs vHs 5, bRo G qHs vHs 6, bRo G qHs vHs 7, bMd G hMd qMd vMd, bLa G aLa vLa, bDa G aDa vDa] 28 [(0, .ref bS), (1, .ref hKW), (2, .ref hMd), (3, .ref aLa), (4, .ref aDa), (5, .int x5)] []) {x5 s1 s2 s3 : Int32} {vKW : OV} {vLg : OV} {vLg2 : OV} {vLg3 : OV} {vLg4 : OV} {vWv : OV} {vPr : OV} {vRf : OV} {vTx : OV} {vLn : OV} {vHs : HV} {vMd : OV} {vLa : (Nat → Int64)} {vDa : (Nat → UInt64)} (hw : wp_L_law_423 L xs K28 x5 s1 s2 s3 vKW vLg vLg2 vLg3 vLg4 vWv vPr vRf vTx vLn vHs vMd vLa vDa) : GW C k0 n0 [bKW G hKW qKW vKW, bLg G (qKW 0) qLg vLg, bLg G (qKW 1) qLg2 vLg2, bLg G (qKW 2) qLg3 vLg3, bLg G (qKW 3) qLg4 vLg4, bWv G (qKW 5) qWv vWv, bPr G (qKW 6) qPr vPr, bRf G (qKW 7) qRf vRf, bTx G (qKW 8) qTx vTx, bLn G (qKW 9) qLn vLn, bHo G (qKW 4) qHs vHs, bRo G qHs vHs 0, bRo G qHs vHs 1, bRo G qHs vHs 2, bRo G qHs vHs 3, bRo G qHs vHs 4, bRo G qHs vHs 5, bRo G qHs vHs 6, bRo G qHs vHs 7, bMd G hMd qMd vMd, bLa G aLa vLa, bDa G aDa vDa] 423 [(0, .ref bS), (1, .ref hKW), (2, .ref hMd), (3, .ref aLa), (4, .ref aDa), (5, .int x5)] [.int s3, .int s2, .int s1, .ref hKW] := by
  unfold wp_L_law_423 at hw
  refine gw_aload_n F dL_law_423 3 rfl ?_
  refine gw_callSX F (ct_L_bar hl0 hw) 5 la_135 rfl rfl rfl hd_L_bar ⟨(Nat.le_of_ble_eq_true rfl), (Nat.le_of_ble_eq_true rfl)⟩ rfl rfl (Nat.le_of_ble_eq_true rfl) ⟨by show _ ≤ 603072; omega, by show _ ≤ 7207018; omega⟩ [19, 21, 0, 1, 2, 3, 4, 5, 6, 7, 8, 9, 10, 11, 12, 13, 14, 15, 16, 17, 18, 20] (bsr := [bMd G hMd qMd vMd, bDa G aDa vDa]) rfl rfl dL_law_424 ?_
  rintro _ _ ⟨r_55, v_56, v_57, v_58, v_59, v_60, rfl, rfl, hw⟩
  refine gw_sel [2, 3, 4, 5, 6, 7, 8, 9, 10, 11, 12, 13, 14, 15, 16, 17, 18, 19, 20, 0, 21, 1] (bs' := [bKW G hKW qKW vKW, bLg G (qKW 0) qLg v_56, bLg G (qKW 1) qLg2 v_57, bLg G (qKW 2) qLg3 vLg3, bLg G (qKW 3) qLg4 vLg4, bWv G (qKW 5) qWv vWv, bPr G (qKW 6) qPr vPr, bRf G (qKW 7) qRf v_58, bTx G (qKW 8) qTx vTx, bLn G (qKW 9) qLn vLn, bHo G (qKW 4) qHs v_59, bRo G qHs v_59 0, bRo G qHs v_59 1, bRo G qHs v_59 2, bRo G qHs v_59 3, bRo G qHs v_59 4, bRo G qHs v_59 5, bRo G qHs v_59 6, bRo G qHs v_59 7, bMd G hMd qMd vMd, bLa G aLa v_60, bDa G aDa vDa]) rfl rfl ?_
  change GW C (k0 + 1) (n0 + 6) _ 427 _ [.int r_55]
  refine gw_istore (lv' := [(6, .int r_55), (0, .ref bS), (1, .ref hKW), (2, .ref hMd), (3, .ref aLa), (4, .ref aDa), (5, .int x5)]) F dL_law_427 (by decide) rfl ?_
  refine gw_aload_n F dL_law_429 3 rfl ?_
  refine gw_aload_n F dL_law_430 1 rfl ?_
  refine gw_iload F dL_law_431 6 rfl ?_
  refine gw_iconst (v := (1 : Int32)) F dL_law_433 ic_iconst_1 ?_
  refine gw_iadd F dL_law_434 ?_
  obtain ⟨h_61, hw⟩ := hw
  refine gw_sld F E h_61 dL_law_435 ?_
  refine gw_aload_n F dL_law_436 1 rfl ?_
  refine gw_iload F dL_law_437 6 rfl ?_
  refine gw_iconst (v := (2 : Int32)) F dL_law_439 ic_iconst_2 ?_
  refine gw_iadd F dL_law_440 ?_
  obtain ⟨h_62, hw⟩ := hw
  refine gw_sld F E h_62 dL_law_441 ?_
  refine gw_aload_n F dL_law_442 1 rfl ?_
  refine gw_iload F dL_law_443 6 rfl ?_
  refine gw_iconst (v := (3 : Int32)) F dL_law_445 ic_iconst_3 ?_
  refine gw_iadd F dL_law_446 ?_
  obtain ⟨h_63, hw⟩ := hw
  refine gw_sld F E h_63 dL_law_447 ?_
  refine gw_if_eq (tgt := 455) F dL_law_448 (by decide) (fun c_64 => ?_) (fun c_64 => ?_)
  · have hw := hw.1 c_64
    refine gw_iconst (v := (0 : Int32)) F dL_law_455 ic_iconst_0 ?_
    refine gw_lv [1, 2, 3, 4, 5, 6, 0] rfl ?_
    exact lb_L_law_456 hl0 hk F E hK28 hw
  · have hw := hw.2 c_64
    refine gw_iconst (v := (1 : Int32)) F dL_law_451 ic_iconst_1 ?_
    refine gw_goto (tgt := 456) F dL_law_452 (by decide) ?_
    refine gw_lv [1, 2, 3, 4, 5, 6, 0] rfl ?_
    exact lb_L_law_456 hl0 hk F E hK28 hw
def wp_L_law_545 (L : Nat) (xs : Nat → Int32) (K28 : Int32 → OV → OV → OV → OV → OV → OV → OV → OV → OV → OV → HV → OV → (Nat → Int64) → (Nat → UInt64) → Prop) (x5 : Int32) (vKW : OV) (vLg : OV) (vLg2 : OV) (vLg3 : OV) (vLg4 : OV) (vWv : OV) (vPr : OV) (vRf : OV) (vTx : OV) (vLn : OV) (vHs : HV) (vMd : OV) (vLa : (Nat → Int64)) (vDa : (Nat → UInt64)) : Prop :=
  (wp_L_law_2081 L xs K28 x5 vKW vLg vLg2 vLg3 vLg4 vWv vPr vRf vTx vLn vHs vMd vLa vDa)
set_option maxRecDepth 20000 in
theorem lb_L_law_545 {l : Launch} {D : va_G} {G : Nat → ClassId} {C : Cx} {bS L : Nat} {xs : Nat → Int32} {k0 n0 : Nat} {hKW : Nat} {qKW : Nat → Nat} {qLg : Nat → Nat} {qLg2 : Nat → Nat} {qLg3 : Nat → Nat} {qLg4 : Nat → Nat} {qWv : Nat → Nat} {qPr : Nat → Nat} {qRf : Nat → Nat} {qTx : Nat → Nat} {qLn : Nat → Nat} {qHs : Nat → Nat → Nat} {hMd : Nat} {qMd : Nat → Nat} {aLa : Nat} {aDa : Nat} {K28 : Int32 → OV → OV → OV → OV → OV → OV → OV → OV → OV → OV → HV → OV → (Nat → Int64) → (Nat → UInt64) → Prop} (hl0 : l.stackTraces = false) (hk : k0 + 20 ≤ 603072 ∧ n0 + 100 ≤ 7207018) (F : GF C XL cL_law lw_tbl RL room_1 9 (some .boolean) D G l) (E : GL C bS L xs) (hK28 : ∀ (x5 : Int32) (vKW : OV) (vLg : OV) (vLg2 : OV) (vLg3 : OV) (vLg4 : OV) (vWv : OV) (vPr : OV) (vRf : OV) (vTx : OV) (vLn : OV) (vHs : HV) (vMd : OV) (vLa : (Nat → Int64)) (vDa : (Nat → UInt64)), K28 x5 vKW vLg vLg2 vLg3 vLg4 vWv vPr vRf vTx vLn vHs vMd vLa vDa → GW C (k0 + 2) (n0 + 12) [bKW G hKW qKW vKW, bLg G (qKW 0) qLg vLg, bLg G (qKW 1) qLg2 vLg2, bLg G (qKW 2) qLg3 vLg3, bLg G (qKW 3) qLg4 vLg4, bWv G (qKW 5) qWv vWv, bPr G (qKW 6) qPr vPr, bRf G (qKW 7) qRf vRf, bTx G (qKW 8) qTx vTx, bLn G (qKW 9) qLn vLn, bHo G (qKW 4) qHs vHs, bRo G qHs vHs 0, bRo G qHs vHs 1, bRo G qHs vHs 2, bRo G qHs vHs 3, bRo G qHs vHs 4, bRo G qHs vHs 5, bRo G qHs vHs 6, bRo G qHs vHs 7, bMd G hMd qMd vMd, bLa G aLa vLa, bDa G aDa vDa] 28 [(0, .ref bS), (1, .ref hKW), (2, .ref hMd), (3, .ref aLa), (4, .ref aDa), (5, .int x5)] []) {x5 : Int32} {vKW : OV} {vLg : OV} {vLg2 : OV} {vLg3 : OV} {vLg4 : OV} {vWv : OV} {vPr : OV} {vRf : OV} {vTx : OV} {vLn : OV} {vHs : HV} {vMd : OV} {vLa : (Nat → Int64)} {vDa : (Nat → UInt64)} (hw : wp_L_law_545 L xs K28 x5 vKW vLg vLg2 vLg3 vLg4 vWv vPr vRf vTx vLn vHs vMd vLa vDa) : GW C (k0 + 1) (n0 + 6) [bKW G hKW qKW vKW, bLg G (qKW 0) qLg vLg, bLg G (qKW 1) qLg2 vLg2, bLg G (qKW 2) qLg3 vLg3, bLg G (qKW 3) qLg4 vLg4, bWv G (qKW 5) qWv vWv, bPr G (qKW 6) qPr vPr, bRf G (qKW 7) qRf vRf, bTx G (qKW 8) qTx vTx, bLn G (qKW 9) qLn vLn, bHo G (qKW 4) qHs vHs, bRo G qHs vHs 0, bRo G qHs vHs 1, bRo G qHs vHs 2, bRo G qHs vHs 3, bRo G qHs vHs 4, bRo G qHs vHs 5, bRo G qHs vHs 6, bRo G qHs vHs 7, bMd G hMd qMd vMd, bLa G aLa vLa, bDa G aDa vDa] 545 [(0, .ref bS), (1, .ref hKW), (2, .ref hMd), (3, .ref aLa), (4, .ref aDa), (5, .int x5)] [] := by
  unfold wp_L_law_545 at hw
  refine gw_goto (tgt := 2081) F dL_law_545 (by decide) ?_
  refine gw_widen (k' := k0 + 2) (n' := n0 + 12) (by omega) (by omega) ?_
  exact lb_L_law_2081 hl0 hk F E hK28 hw
def wp_L_law_613 (L : Nat) (xs : Nat → Int32) (K28 : Int32 → OV → OV → OV → OV → OV → OV → OV → OV → OV → OV → HV → OV → (Nat → Int64) → (Nat → UInt64) → Prop) (x5 : Int32) (vKW : OV) (vLg : OV) (vLg2 : OV) (vLg3 : OV) (vLg4 : OV) (vWv : OV) (vPr : OV) (vRf : OV) (vTx : OV) (vLn : OV) (vHs : HV) (vMd : OV) (vLa : (Nat → Int64)) (vDa : (Nat → UInt64)) : Prop :=
  (wp_L_law_2081 L xs K28 x5 vKW vLg vLg2 vLg3 vLg4 vWv vPr vRf vTx vLn vHs vMd vLa vDa)
set_option maxRecDepth 20000 in
theorem lb_L_law_613 {l : Launch} {D : va_G} {G : Nat → ClassId} {C : Cx} {bS L : Nat} {xs : Nat → Int32} {k0 n0 : Nat} {hKW : Nat} {qKW : Nat → Nat} {qLg : Nat → Nat} {qLg2 : Nat → Nat} {qLg3 : Nat → Nat} {qLg4 : Nat → Nat} {qWv : Nat → Nat} {qPr : Nat → Nat} {qRf : Nat → Nat} {qTx : Nat → Nat} {qLn : Nat → Nat} {qHs : Nat → Nat → Nat} {hMd : Nat} {qMd : Nat → Nat} {aLa : Nat} {aDa : Nat} {K28 : Int32 → OV → OV → OV → OV → OV → OV → OV → OV → OV → OV → HV → OV → (Nat → Int64) → (Nat → UInt64) → Prop} (hl0 : l.stackTraces = false) (hk : k0 + 20 ≤ 603072 ∧ n0 + 100 ≤ 7207018) (F : GF C XL cL_law lw_tbl RL room_1 9 (some .boolean) D G l) (E : GL C bS L xs) (hK28 : ∀ (x5 : Int32) (vKW : OV) (vLg : OV) (vLg2 : OV) (vLg3 : OV) (vLg4 : OV) (vWv : OV) (vPr : OV) (vRf : OV) (vTx : OV) (vLn : OV) (vHs : HV) (vMd : OV) (vLa : (Nat → Int64)) (vDa : (Nat → UInt64)), K28 x5 vKW vLg vLg2 vLg3 vLg4 vWv vPr vRf vTx vLn vHs vMd vLa vDa → GW C (k0 + 2) (n0 + 12) [bKW G hKW qKW vKW, bLg G (qKW 0) qLg vLg, bLg G (qKW 1) qLg2 vLg2, bLg G (qKW 2) qLg3 vLg3, bLg G (qKW 3) qLg4 vLg4, bWv G (qKW 5) qWv vWv, bPr G (qKW 6) qPr vPr, bRf G (qKW 7) qRf vRf, bTx G (qKW 8) qTx vTx, bLn G (qKW 9) qLn vLn, bHo G (qKW 4) qHs vHs, bRo G qHs vHs 0, bRo G qHs vHs 1, bRo G qHs vHs 2, bRo G qHs vHs 3, bRo G qHs vHs 4, bRo G qHs vHs 5, bRo G qHs vHs 6, bRo G qHs vHs 7, bMd G hMd qMd vMd, bLa G aLa vLa, bDa G aDa vDa] 28 [(0, .ref bS), (1, .ref hKW), (2, .ref hMd), (3, .ref aLa), (4, .ref aDa), (5, .int x5)] []) {x5 : Int32} {vKW : OV} {vLg : OV} {vLg2 : OV} {vLg3 : OV} {vLg4 : OV} {vWv : OV} {vPr : OV} {vRf : OV} {vTx : OV} {vLn : OV} {vHs : HV} {vMd : OV} {vLa : (Nat → Int64)} {vDa : (Nat → UInt64)} (hw : wp_L_law_613 L xs K28 x5 vKW vLg vLg2 vLg3 vLg4 vWv vPr vRf vTx vLn vHs vMd vLa vDa) : GW C (k0 + 1) (n0 + 6) [bKW G hKW qKW vKW, bLg G (qKW 0) qLg vLg, bLg G (qKW 1) qLg2 vLg2, bLg G (qKW 2) qLg3 vLg3, bLg G (qKW 3) qLg4 vLg4, bWv G (qKW 5) qWv vWv, bPr G (qKW 6) qPr vPr, bRf G (qKW 7) qRf vRf, bTx G (qKW 8) qTx vTx, bLn G (qKW 9) qLn vLn, bHo G (qKW 4) qHs vHs, bRo G qHs vHs 0, bRo G qHs vHs 1, bRo G qHs vHs 2, bRo G qHs vHs 3, bRo G qHs vHs 4, bRo G qHs vHs 5, bRo G qHs vHs 6, bRo G qHs vHs 7, bMd G hMd qMd vMd, bLa G aLa vLa, bDa G aDa vDa] 613 [(0, .ref bS), (1, .ref hKW), (2, .ref hMd), (3, .ref aLa), (4, .ref aDa), (5, .int x5)] [] := by
  unfold wp_L_law_613 at hw
  refine gw_goto (tgt := 2081) F dL_law_613 (by decide) ?_
  refine gw_widen (k' := k0 + 2) (n' := n0 + 12) (by omega) (by omega) ?_
  exact lb_L_law_2081 hl0 hk F E hK28 hw
def wp_L_law_669 (L : Nat) (xs : Nat → Int32) (K28 : Int32 → OV → OV → OV → OV → OV → OV → OV → OV → OV → OV → HV → OV → (Nat → Int64) → (Nat → UInt64) → Prop) (x5 : Int32) (vKW : OV) (vLg : OV) (vLg2 : OV) (vLg3 : OV) (vLg4 : OV) (vWv : OV) (vPr : OV) (vRf : OV) (vTx : OV) (vLn : OV) (vHs : HV) (vMd : OV) (vLa : (Nat → Int64)) (vDa : (Nat → UInt64)) : Prop :=
  (wp_L_law_2081 L xs K28 x5 vKW vLg vLg2 vLg3 vLg4 vWv vPr vRf vTx vLn vHs vMd vLa vDa)
set_option maxRecDepth 20000 in
theorem lb_L_law_669 {l : Launch} {D : va_G} {G : Nat → ClassId} {C : Cx} {bS L : Nat} {xs : Nat → Int32} {k0 n0 : Nat} {hKW : Nat} {qKW : Nat → Nat} {qLg : Nat → Nat} {qLg2 : Nat → Nat} {qLg3 : Nat → Nat} {qLg4 : Nat → Nat} {qWv : Nat → Nat} {qPr : Nat → Nat} {qRf : Nat → Nat} {qTx : Nat → Nat} {qLn : Nat → Nat} {qHs : Nat → Nat → Nat} {hMd : Nat} {qMd : Nat → Nat} {aLa : Nat} {aDa : Nat} {K28 : Int32 → OV → OV → OV → OV → OV → OV → OV → OV → OV → OV → HV → OV → (Nat → Int64) → (Nat → UInt64) → Prop} (hl0 : l.stackTraces = false) (hk : k0 + 20 ≤ 603072 ∧ n0 + 100 ≤ 7207018) (F : GF C XL cL_law lw_tbl RL room_1 9 (some .boolean) D G l) (E : GL C bS L xs) (hK28 : ∀ (x5 : Int32) (vKW : OV) (vLg : OV) (vLg2 : OV) (vLg3 : OV) (vLg4 : OV) (vWv : OV) (vPr : OV) (vRf : OV) (vTx : OV) (vLn : OV) (vHs : HV) (vMd : OV) (vLa : (Nat → Int64)) (vDa : (Nat → UInt64)), K28 x5 vKW vLg vLg2 vLg3 vLg4 vWv vPr vRf vTx vLn vHs vMd vLa vDa → GW C (k0 + 2) (n0 + 12) [bKW G hKW qKW vKW, bLg G (qKW 0) qLg vLg, bLg G (qKW 1) qLg2 vLg2, bLg G (qKW 2) qLg3 vLg3, bLg G (qKW 3) qLg4 vLg4, bWv G (qKW 5) qWv vWv, bPr G (qKW 6) qPr vPr, bRf G (qKW 7) qRf vRf, bTx G (qKW 8) qTx vTx, bLn G (qKW 9) qLn vLn, bHo G (qKW 4) qHs vHs, bRo G qHs vHs 0, bRo G qHs vHs 1, bRo G qHs vHs 2, bRo G qHs vHs 3, bRo G qHs vHs 4, bRo G qHs vHs 5, bRo G qHs vHs 6, bRo G qHs vHs 7, bMd G hMd qMd vMd, bLa G aLa vLa, bDa G aDa vDa] 28 [(0, .ref bS), (1, .ref hKW), (2, .ref hMd), (3, .ref aLa), (4, .ref aDa), (5, .int x5)] []) {x5 : Int32} {vKW : OV} {vLg : OV} {vLg2 : OV} {vLg3 : OV} {vLg4 : OV} {vWv : OV} {vPr : OV} {vRf : OV} {vTx : OV} {vLn : OV} {vHs : HV} {vMd : OV} {vLa : (Nat → Int64)} {vDa : (Nat → UInt64)} (hw : wp_L_law_669 L xs K28 x5 vKW vLg vLg2 vLg3 vLg4 vWv vPr vRf vTx vLn vHs vMd vLa vDa) : GW C (k0 + 1) (n0 + 6) [bKW G hKW qKW vKW, bLg G (qKW 0) qLg vLg, bLg G (qKW 1) qLg2 vLg2, bLg G (qKW 2) qLg3 vLg3, bLg G (qKW 3) qLg4 vLg4, bWv G (qKW 5) qWv vWv, bPr G (qKW 6) qPr vPr, bRf G (qKW 7) qRf vRf, bTx G (qKW 8) qTx vTx, bLn G (qKW 9) qLn vLn, bHo G (qKW 4) qHs vHs, bRo G qHs vHs 0, bRo G qHs vHs 1, bRo G qHs vHs 2, bRo G qHs vHs 3, bRo G qHs vHs 4, bRo G qHs vHs 5, bRo G qHs vHs 6, bRo G qHs vHs 7, bMd G hMd qMd vMd, bLa G aLa vLa, bDa G aDa vDa] 669 [(0, .ref bS), (1, .ref hKW), (2, .ref hMd), (3, .ref aLa), (4, .ref aDa), (5, .int x5)] [] := by
  unfold wp_L_law_669 at hw
  refine gw_goto (tgt := 2081) F dL_law_669 (by decide) ?_
  refine gw_widen (k' := k0 + 2) (n' := n0 + 12) (by omega) (by omega) ?_
  exact lb_L_law_2081 hl0 hk F E hK28 hw
def wp_L_law_713 (L : Nat) (xs : Nat → Int32) (K28 : Int32 → OV → OV → OV → OV → OV → OV → OV → OV → OV → OV → HV → OV → (Nat → Int64) → (Nat → UInt64) → Prop) (x5 : Int32) (vKW : OV) (vLg : OV) (vLg2 : OV) (vLg3 : OV) (vLg4 : OV) (vWv : OV) (vPr : OV) (vRf : OV) (vTx : OV) (vLn : OV) (vHs : HV) (vMd : OV) (vLa : (Nat → Int64)) (vDa : (Nat → UInt64)) : Prop :=
  (wp_L_law_2081 L xs K28 x5 vKW vLg vLg2 vLg3 vLg4 vWv vPr vRf vTx vLn vHs vMd vLa vDa)
set_option maxRecDepth 20000 in
theorem lb_L_law_713 {l : Launch} {D : va_G} {G : Nat → ClassId} {C : Cx} {bS L : Nat} {xs : Nat → Int32} {k0 n0 : Nat} {hKW : Nat} {qKW : Nat → Nat} {qLg : Nat → Nat} {qLg2 : Nat → Nat} {qLg3 : Nat → Nat} {qLg4 : Nat → Nat} {qWv : Nat → Nat} {qPr : Nat → Nat} {qRf : Nat → Nat} {qTx : Nat → Nat} {qLn : Nat → Nat} {qHs : Nat → Nat → Nat} {hMd : Nat} {qMd : Nat → Nat} {aLa : Nat} {aDa : Nat} {K28 : Int32 → OV → OV → OV → OV → OV → OV → OV → OV → OV → OV → HV → OV → (Nat → Int64) → (Nat → UInt64) → Prop} (hl0 : l.stackTraces = false) (hk : k0 + 20 ≤ 603072 ∧ n0 + 100 ≤ 7207018) (F : GF C XL cL_law lw_tbl RL room_1 9 (some .boolean) D G l) (E : GL C bS L xs) (hK28 : ∀ (x5 : Int32) (vKW : OV) (vLg : OV) (vLg2 : OV) (vLg3 : OV) (vLg4 : OV) (vWv : OV) (vPr : OV) (vRf : OV) (vTx : OV) (vLn : OV) (vHs : HV) (vMd : OV) (vLa : (Nat → Int64)) (vDa : (Nat → UInt64)), K28 x5 vKW vLg vLg2 vLg3 vLg4 vWv vPr vRf vTx vLn vHs vMd vLa vDa → GW C (k0 + 2) (n0 + 12) [bKW G hKW qKW vKW, bLg G (qKW 0) qLg vLg, bLg G (qKW 1) qLg2 vLg2, bLg G (qKW 2) qLg3 vLg3, bLg G (qKW 3) qLg4 vLg4, bWv G (qKW 5) qWv vWv, bPr G (qKW 6) qPr vPr, bRf G (qKW 7) qRf vRf, bTx G (qKW 8) qTx vTx, bLn G (qKW 9) qLn vLn, bHo G (qKW 4) qHs vHs, bRo G qHs vHs 0, bRo G qHs vHs 1, bRo G qHs vHs 2, bRo G qHs vHs 3, bRo G qHs vHs 4, bRo G qHs vHs 5, bRo G qHs vHs 6, bRo G qHs vHs 7, bMd G hMd qMd vMd, bLa G aLa vLa, bDa G aDa vDa] 28 [(0, .ref bS), (1, .ref hKW), (2, .ref hMd), (3, .ref aLa), (4, .ref aDa), (5, .int x5)] []) {x5 : Int32} {vKW : OV} {vLg : OV} {vLg2 : OV} {vLg3 : OV} {vLg4 : OV} {vWv : OV} {vPr : OV} {vRf : OV} {vTx : OV} {vLn : OV} {vHs : HV} {vMd : OV} {vLa : (Nat → Int64)} {vDa : (Nat → UInt64)} (hw : wp_L_law_713 L xs K28 x5 vKW vLg vLg2 vLg3 vLg4 vWv vPr vRf vTx vLn vHs vMd vLa vDa) : GW C (k0 + 1) (n0 + 6) [bKW G hKW qKW vKW, bLg G (qKW 0) qLg vLg, bLg G (qKW 1) qLg2 vLg2, bLg G (qKW 2) qLg3 vLg3, bLg G (qKW 3) qLg4 vLg4, bWv G (qKW 5) qWv vWv, bPr G (qKW 6) qPr vPr, bRf G (qKW 7) qRf vRf, bTx G (qKW 8) qTx vTx, bLn G (qKW 9) qLn vLn, bHo G (qKW 4) qHs vHs, bRo G qHs vHs 0, bRo G qHs vHs 1, bRo G qHs vHs 2, bRo G qHs vHs 3, bRo G qHs vHs 4, bRo G qHs vHs 5, bRo G qHs vHs 6, bRo G qHs vHs 7, bMd G hMd qMd vMd, bLa G aLa vLa, bDa G aDa vDa] 713 [(0, .ref bS), (1, .ref hKW), (2, .ref hMd), (3, .ref aLa), (4, .ref aDa), (5, .int x5)] [] := by
  unfold wp_L_law_713 at hw
  refine gw_goto (tgt := 2081) F dL_law_713 (by decide) ?_
  refine gw_widen (k' := k0 + 2) (n' := n0 + 12) (by omega) (by omega) ?_
  exact lb_L_law_2081 hl0 hk F E hK28 hw
def wp_L_law_781 (L : Nat) (xs : Nat → Int32) (K28 : Int32 → OV → OV → OV → OV → OV → OV → OV → OV → OV → OV → HV → OV → (Nat → Int64) → (Nat → UInt64) → Prop) (x5 : Int32) (vKW : OV) (vLg : OV) (vLg2 : OV) (vLg3 : OV) (vLg4 : OV) (vWv : OV) (vPr : OV) (vRf : OV) (vTx : OV) (vLn : OV) (vHs : HV) (vMd : OV) (vLa : (Nat → Int64)) (vDa : (Nat → UInt64)) : Prop :=
  (wp_L_law_2081 L xs K28 x5 vKW vLg vLg2 vLg3 vLg4 vWv vPr vRf vTx vLn vHs vMd vLa vDa)
set_option maxRecDepth 20000 in
theorem lb_L_law_781 {l : Launch} {D : va_G} {G : Nat → ClassId} {C : Cx} {bS L : Nat} {xs : Nat → Int32} {k0 n0 : Nat} {hKW : Nat} {qKW : Nat → Nat} {qLg : Nat → Nat} {qLg2 : Nat → Nat} {qLg3 : Nat → Nat} {qLg4 : Nat → Nat} {qWv : Nat → Nat} {qPr : Nat → Nat} {qRf : Nat → Nat} {qTx : Nat → Nat} {qLn : Nat → Nat} {qHs : Nat → Nat → Nat} {hMd : Nat} {qMd : Nat → Nat} {aLa : Nat} {aDa : Nat} {K28 : Int32 → OV → OV → OV → OV → OV → OV → OV → OV → OV → OV → HV → OV → (Nat → Int64) → (Nat → UInt64) → Prop} (hl0 : l.stackTraces = false) (hk : k0 + 20 ≤ 603072 ∧ n0 + 100 ≤ 7207018) (F : GF C XL cL_law lw_tbl RL room_1 9 (some .boolean) D G l) (E : GL C bS L xs) (hK28 : ∀ (x5 : Int32) (vKW : OV) (vLg : OV) (vLg2 : OV) (vLg3 : OV) (vLg4 : OV) (vWv : OV) (vPr : OV) (vRf : OV) (vTx : OV) (vLn : OV) (vHs : HV) (vMd : OV) (vLa : (Nat → Int64)) (vDa : (Nat → UInt64)), K28 x5 vKW vLg vLg2 vLg3 vLg4 vWv vPr vRf vTx vLn vHs vMd vLa vDa → GW C (k0 + 2) (n0 + 12) [bKW G hKW qKW vKW, bLg G (qKW 0) qLg vLg, bLg G (qKW 1) qLg2 vLg2, bLg G (qKW 2) qLg3 vLg3, bLg G (qKW 3) qLg4 vLg4, bWv G (qKW 5) qWv vWv, bPr G (qKW 6) qPr vPr, bRf G (qKW 7) qRf vRf, bTx G (qKW 8) qTx vTx, bLn G (qKW 9) qLn vLn, bHo G (qKW 4) qHs vHs, bRo G qHs vHs 0, bRo G qHs vHs 1, bRo G qHs vHs 2, bRo G qHs vHs 3, bRo G qHs vHs 4, bRo G qHs vHs 5, bRo G qHs vHs 6, bRo G qHs vHs 7, bMd G hMd qMd vMd, bLa G aLa vLa, bDa G aDa vDa] 28 [(0, .ref bS), (1, .ref hKW), (2, .ref hMd), (3, .ref aLa), (4, .ref aDa), (5, .int x5)] []) {x5 : Int32} {vKW : OV} {vLg : OV} {vLg2 : OV} {vLg3 : OV} {vLg4 : OV} {vWv : OV} {vPr : OV} {vRf : OV} {vTx : OV} {vLn : OV} {vHs : HV} {vMd : OV} {vLa : (Nat → Int64)} {vDa : (Nat → UInt64)} (hw : wp_L_law_781 L xs K28 x5 vKW vLg vLg2 vLg3 vLg4 vWv vPr vRf vTx vLn vHs vMd vLa vDa) : GW C (k0 + 2) (n0 + 12) [bKW G hKW qKW vKW, bLg G (qKW 0) qLg vLg, bLg G (qKW 1) qLg2 vLg2, bLg G (qKW 2) qLg3 vLg3, bLg G (qKW 3) qLg4 vLg4, bWv G (qKW 5) qWv vWv, bPr G (qKW 6) qPr vPr, bRf G (qKW 7) qRf vRf, bTx G (qKW 8) qTx vTx, bLn G (qKW 9) qLn vLn, bHo G (qKW 4) qHs vHs, bRo G qHs vHs 0, bRo G qHs vHs 1, bRo G qHs vHs 2, bRo G qHs vHs 3, bRo G qHs vHs 4, bRo G qHs vHs 5, bRo G qHs vHs 6, bRo G qHs vHs 7, bMd G hMd qMd vMd, bLa G aLa vLa, bDa G aDa vDa] 781 [(0, .ref bS), (1, .ref hKW), (2, .ref hMd), (3, .ref aLa), (4, .ref aDa), (5, .int x5)] [] := by
  unfold wp_L_law_781 at hw
  refine gw_goto (tgt := 2081) F dL_law_781 (by decide) ?_
  exact lb_L_law_2081 hl0 hk F E hK28 hw
def wp_L_law_849 (L : Nat) (xs : Nat → Int32) (K28 : Int32 → OV → OV → OV → OV → OV → OV → OV → OV → OV → OV → HV → OV → (Nat → Int64) → (Nat → UInt64) → Prop) (x5 : Int32) (vKW : OV) (vLg : OV) (vLg2 : OV) (vLg3 : OV) (vLg4 : OV) (vWv : OV) (vPr : OV) (vRf : OV) (vTx : OV) (vLn : OV) (vHs : HV) (vMd : OV) (vLa : (Nat → Int64)) (vDa : (Nat → UInt64)) : Prop :=
  (wp_L_law_2081 L xs K28 x5 vKW vLg vLg2 vLg3 vLg4 vWv vPr vRf vTx vLn vHs vMd vLa vDa)
set_option maxRecDepth 20000 in
theorem lb_L_law_849 {l : Launch} {D : va_G} {G : Nat → ClassId} {C : Cx} {bS L : Nat} {xs : Nat → Int32} {k0 n0 : Nat} {hKW : Nat} {qKW : Nat → Nat} {qLg : Nat → Nat} {qLg2 : Nat → Nat} {qLg3 : Nat → Nat} {qLg4 : Nat → Nat} {qWv : Nat → Nat} {qPr : Nat → Nat} {qRf : Nat → Nat} {qTx : Nat → Nat} {qLn : Nat → Nat} {qHs : Nat → Nat → Nat} {hMd : Nat} {qMd : Nat → Nat} {aLa : Nat} {aDa : Nat} {K28 : Int32 → OV → OV → OV → OV → OV → OV → OV → OV → OV → OV → HV → OV → (Nat → Int64) → (Nat → UInt64) → Prop} (hl0 : l.stackTraces = false) (hk : k0 + 20 ≤ 603072 ∧ n0 + 100 ≤ 7207018) (F : GF C XL cL_law lw_tbl RL room_1 9 (some .boolean) D G l) (E : GL C bS L xs) (hK28 : ∀ (x5 : Int32) (vKW : OV) (vLg : OV) (vLg2 : OV) (vLg3 : OV) (vLg4 : OV) (vWv : OV) (vPr : OV) (vRf : OV) (vTx : OV) (vLn : OV) (vHs : HV) (vMd : OV) (vLa : (Nat → Int64)) (vDa : (Nat → UInt64)), K28 x5 vKW vLg vLg2 vLg3 vLg4 vWv vPr vRf vTx vLn vHs vMd vLa vDa → GW C (k0 + 2) (n0 + 12) [bKW G hKW qKW vKW, bLg G (qKW 0) qLg vLg, bLg G (qKW 1) qLg2 vLg2, bLg G (qKW 2) qLg3 vLg3, bLg G (qKW 3) qLg4 vLg4, bWv G (qKW 5) qWv vWv, bPr G (qKW 6) qPr vPr, bRf G (qKW 7) qRf vRf, bTx G (qKW 8) qTx vTx, bLn G (qKW 9) qLn vLn, bHo G (qKW 4) qHs vHs, bRo G qHs vHs 0, bRo G qHs vHs 1, bRo G qHs vHs 2, bRo G qHs vHs 3, bRo G qHs vHs 4, bRo G qHs vHs 5, bRo G qHs vHs 6, bRo G qHs vHs 7, bMd G hMd qMd vMd, bLa G aLa vLa, bDa G aDa vDa] 28 [(0, .ref bS), (1, .ref hKW), (2, .ref hMd), (3, .ref aLa), (4, .ref aDa), (5, .int x5)] []) {x5 : Int32} {vKW : OV} {vLg : OV} {vLg2 : OV} {vLg3 : OV} {vLg4 : OV} {vWv : OV} {vPr : OV} {vRf : OV} {vTx : OV} {vLn : OV} {vHs : HV} {vMd : OV} {vLa : (Nat → Int64)} {vDa : (Nat → UInt64)} (hw : wp_L_law_849 L xs K28 x5 vKW vLg vLg2 vLg3 vLg4 vWv vPr vRf vTx vLn vHs vMd vLa vDa) : GW C (k0 + 2) (n0 + 12) [bKW G hKW qKW vKW, bLg G (qKW 0) qLg vLg, bLg G (qKW 1) qLg2 vLg2, bLg G (qKW 2) qLg3 vLg3, bLg G (qKW 3) qLg4 vLg4, bWv G (qKW 5) qWv vWv, bPr G (qKW 6) qPr vPr, bRf G (qKW 7) qRf vRf, bTx G (qKW 8) qTx vTx, bLn G (qKW 9) qLn vLn, bHo G (qKW 4) qHs vHs, bRo G qHs vHs 0, bRo G qHs vHs 1, bRo G qHs vHs 2, bRo G qHs vHs 3, bRo G qHs vHs 4, bRo G qHs vHs 5, bRo G qHs vHs 6, bRo G qHs vHs 7, bMd G hMd qMd vMd, bLa G aLa vLa, bDa G aDa vDa] 849 [(0, .ref bS), (1, .ref hKW), (2, .ref hMd), (3, .ref aLa), (4, .ref aDa), (5, .int x5)] [] := by
  unfold wp_L_law_849 at hw
  refine gw_goto (tgt := 2081) F dL_law_849 (by decide) ?_
  exact lb_L_law_2081 hl0 hk F E hK28 hw
def wp_L_law_924 (L : Nat) (xs : Nat → Int32) (K28 : Int32 → OV → OV → OV → OV → OV → OV → OV → OV → OV → OV → HV → OV → (Nat → Int64) → (Nat → UInt64) → Prop) (x5 : Int32) (vKW : OV) (vLg : OV) (vLg2 : OV) (vLg3 : OV) (vLg4 : OV) (vWv : OV) (vPr : OV) (vRf : OV) (vTx : OV) (vLn : OV) (vHs : HV) (vMd : OV) (vLa : (Nat → Int64)) (vDa : (Nat → UInt64)) : Prop :=
  (wp_L_law_2081 L xs K28 x5 vKW vLg vLg2 vLg3 vLg4 vWv vPr vRf vTx vLn vHs vMd vLa vDa)
set_option maxRecDepth 20000 in
theorem lb_L_law_924 {l : Launch} {D : va_G} {G : Nat → ClassId} {C : Cx} {bS L : Nat} {xs : Nat → Int32} {k0 n0 : Nat} {hKW : Nat} {qKW : Nat → Nat} {qLg : Nat → Nat} {qLg2 : Nat → Nat} {qLg3 : Nat → Nat} {qLg4 : Nat → Nat} {qWv : Nat → Nat} {qPr : Nat → Nat} {qRf : Nat → Nat} {qTx : Nat → Nat} {qLn : Nat → Nat} {qHs : Nat → Nat → Nat} {hMd : Nat} {qMd : Nat → Nat} {aLa : Nat} {aDa : Nat} {K28 : Int32 → OV → OV → OV → OV → OV → OV → OV → OV → OV → OV → HV → OV → (Nat → Int64) → (Nat → UInt64) → Prop} (hl0 : l.stackTraces = false) (hk : k0 + 20 ≤ 603072 ∧ n0 + 100 ≤ 7207018) (F : GF C XL cL_law lw_tbl RL room_1 9 (some .boolean) D G l) (E : GL C bS L xs) (hK28 : ∀ (x5 : Int32) (vKW : OV) (vLg : OV) (vLg2 : OV) (vLg3 : OV) (vLg4 : OV) (vWv : OV) (vPr : OV) (vRf : OV) (vTx : OV) (vLn : OV) (vHs : HV) (vMd : OV) (vLa : (Nat → Int64)) (vDa : (Nat → UInt64)), K28 x5 vKW vLg vLg2 vLg3 vLg4 vWv vPr vRf vTx vLn vHs vMd vLa vDa → GW C (k0 + 2) (n0 + 12) [bKW G hKW qKW vKW, bLg G (qKW 0) qLg vLg, bLg G (qKW 1) qLg2 vLg2, bLg G (qKW 2) qLg3 vLg3, bLg G (qKW 3) qLg4 vLg4, bWv G (qKW 5) qWv vWv, bPr G (qKW 6) qPr vPr, bRf G (qKW 7) qRf vRf, bTx G (qKW 8) qTx vTx, bLn G (qKW 9) qLn vLn, bHo G (qKW 4) qHs vHs, bRo G qHs vHs 0, bRo G qHs vHs 1, bRo G qHs vHs 2, bRo G qHs vHs 3, bRo G qHs vHs 4, bRo G qHs vHs 5, bRo G qHs vHs 6, bRo G qHs vHs 7, bMd G hMd qMd vMd, bLa G aLa vLa, bDa G aDa vDa] 28 [(0, .ref bS), (1, .ref hKW), (2, .ref hMd), (3, .ref aLa), (4, .ref aDa), (5, .int x5)] []) {x5 : Int32} {vKW : OV} {vLg : OV} {vLg2 : OV} {vLg3 : OV} {vLg4 : OV} {vWv : OV} {vPr : OV} {vRf : OV} {vTx : OV} {vLn : OV} {vHs : HV} {vMd : OV} {vLa : (Nat → Int64)} {vDa : (Nat → UInt64)} (hw : wp_L_law_924 L xs K28 x5 vKW vLg vLg2 vLg3 vLg4 vWv vPr vRf vTx vLn vHs vMd vLa vDa) : GW C (k0 + 2) (n0 + 12) [bKW G hKW qKW vKW, bLg G (qKW 0) qLg vLg, bLg G (qKW 1) qLg2 vLg2, bLg G (qKW 2) qLg3 vLg3, bLg G (qKW 3) qLg4 vLg4, bWv G (qKW 5) qWv vWv, bPr G (qKW 6) qPr vPr, bRf G (qKW 7) qRf vRf, bTx G (qKW 8) qTx vTx, bLn G (qKW 9) qLn vLn, bHo G (qKW 4) qHs vHs, bRo G qHs vHs 0, bRo G qHs vHs 1, bRo G qHs vHs 2, bRo G qHs vHs 3, bRo G qHs vHs 4, bRo G qHs vHs 5, bRo G qHs vHs 6, bRo G qHs vHs 7, bMd G hMd qMd vMd, bLa G aLa vLa, bDa G aDa vDa] 924 [(0, .ref bS), (1, .ref hKW), (2, .ref hMd), (3, .ref aLa), (4, .ref aDa), (5, .int x5)] [] := by
  unfold wp_L_law_924 at hw
  refine gw_goto (tgt := 2081) F dL_law_924 (by decide) ?_
  exact lb_L_law_2081 hl0 hk F E hK28 hw
def wp_L_law_999 (L : Nat) (xs : Nat → Int32) (K28 : Int32 → OV → OV → OV → OV → OV → OV → OV → OV → OV → OV → HV → OV → (Nat → Int64) → (Nat → UInt64) → Prop) (x5 : Int32) (vKW : OV) (vLg : OV) (vLg2 : OV) (vLg3 : OV) (vLg4 : OV) (vWv : OV) (vPr : OV) (vRf : OV) (vTx : OV) (vLn : OV) (vHs : HV) (vMd : OV) (vLa : (Nat → Int64)) (vDa : (Nat → UInt64)) : Prop :=
  (wp_L_law_2081 L xs K28 x5 vKW vLg vLg2 vLg3 vLg4 vWv vPr vRf vTx vLn vHs vMd vLa vDa)
set_option maxRecDepth 20000 in
theorem lb_L_law_999 {l : Launch} {D : va_G} {G : Nat → ClassId} {C : Cx} {bS L : Nat} {xs : Nat → Int32} {k0 n0 : Nat} {hKW : Nat} {qKW : Nat → Nat} {qLg : Nat → Nat} {qLg2 : Nat → Nat} {qLg3 : Nat → Nat} {qLg4 : Nat → Nat} {qWv : Nat → Nat} {qPr : Nat → Nat} {qRf : Nat → Nat} {qTx : Nat → Nat} {qLn : Nat → Nat} {qHs : Nat → Nat → Nat} {hMd : Nat} {qMd : Nat → Nat} {aLa : Nat} {aDa : Nat} {K28 : Int32 → OV → OV → OV → OV → OV → OV → OV → OV → OV → OV → HV → OV → (Nat → Int64) → (Nat → UInt64) → Prop} (hl0 : l.stackTraces = false) (hk : k0 + 20 ≤ 603072 ∧ n0 + 100 ≤ 7207018) (F : GF C XL cL_law lw_tbl RL room_1 9 (some .boolean) D G l) (E : GL C bS L xs) (hK28 : ∀ (x5 : Int32) (vKW : OV) (vLg : OV) (vLg2 : OV) (vLg3 : OV) (vLg4 : OV) (vWv : OV) (vPr : OV) (vRf : OV) (vTx : OV) (vLn : OV) (vHs : HV) (vMd : OV) (vLa : (Nat → Int64)) (vDa : (Nat → UInt64)), K28 x5 vKW vLg vLg2 vLg3 vLg4 vWv vPr vRf vTx vLn vHs vMd vLa vDa → GW C (k0 + 2) (n0 + 12) [bKW G hKW qKW vKW, bLg G (qKW 0) qLg vLg, bLg G (qKW 1) qLg2 vLg2, bLg G (qKW 2) qLg3 vLg3, bLg G (qKW 3) qLg4 vLg4, bWv G (qKW 5) qWv vWv, bPr G (qKW 6) qPr vPr, bRf G (qKW 7) qRf vRf, bTx G (qKW 8) qTx vTx, bLn G (qKW 9) qLn vLn, bHo G (qKW 4) qHs vHs, bRo G qHs vHs 0, bRo G qHs vHs 1, bRo G qHs vHs 2, bRo G qHs vHs 3, bRo G qHs vHs 4, bRo G qHs vHs 5, bRo G qHs vHs 6, bRo G qHs vHs 7, bMd G hMd qMd vMd, bLa G aLa vLa, bDa G aDa vDa] 28 [(0, .ref bS), (1, .ref hKW), (2, .ref hMd), (3, .ref aLa), (4, .ref aDa), (5, .int x5)] []) {x5 : Int32} {vKW : OV} {vLg : OV} {vLg2 : OV} {vLg3 : OV} {vLg4 : OV} {vWv : OV} {vPr : OV} {vRf : OV} {vTx : OV} {vLn : OV} {vHs : HV} {vMd : OV} {vLa : (Nat → Int64)} {vDa : (Nat → UInt64)} (hw : wp_L_law_999 L xs K28 x5 vKW vLg vLg2 vLg3 vLg4 vWv vPr vRf vTx vLn vHs vMd vLa vDa) : GW C (k0 + 2) (n0 + 12) [bKW G hKW qKW vKW, bLg G (qKW 0) qLg vLg, bLg G (qKW 1) qLg2 vLg2, bLg G (qKW 2) qLg3 vLg3, bLg G (qKW 3) qLg4 vLg4, bWv G (qKW 5) qWv vWv, bPr G (qKW 6) qPr vPr, bRf G (qKW 7) qRf vRf, bTx G (qKW 8) qTx vTx, bLn G (qKW 9) qLn vLn, bHo G (qKW 4) qHs vHs, bRo G qHs vHs 0, bRo G qHs vHs 1, bRo G qHs vHs 2, bRo G qHs vHs 3, bRo G qHs vHs 4, bRo G qHs vHs 5, bRo G qHs vHs 6, bRo G qHs vHs 7, bMd G hMd qMd vMd, bLa G aLa vLa, bDa G aDa vDa] 999 [(0, .ref bS), (1, .ref hKW), (2, .ref hMd), (3, .ref aLa), (4, .ref aDa), (5, .int x5)] [] := by
  unfold wp_L_law_999 at hw
  refine gw_goto (tgt := 2081) F dL_law_999 (by decide) ?_
  exact lb_L_law_2081 hl0 hk F E hK28 hw
def wp_L_law_1067 (L : Nat) (xs : Nat → Int32) (K28 : Int32 → OV → OV → OV → OV → OV → OV → OV → OV → OV → OV → HV → OV → (Nat → Int64) → (Nat → UInt64) → Prop) (x5 : Int32) (vKW : OV) (vLg : OV) (vLg2 : OV) (vLg3 : OV) (vLg4 : OV) (vWv : OV) (vPr : OV) (vRf : OV) (vTx : OV) (vLn : OV) (vHs : HV) (vMd : OV) (vLa : (Nat → Int64)) (vDa : (Nat → UInt64)) : Prop :=
  (wp_L_law_2081 L xs K28 x5 vKW vLg vLg2 vLg3 vLg4 vWv vPr vRf vTx vLn vHs vMd vLa vDa)
set_option maxRecDepth 20000 in
theorem lb_L_law_1067 {l : Launch} {D : va_G} {G : Nat → ClassId} {C : Cx} {bS L : Nat} {xs : Nat → Int32} {k0 n0 : Nat} {hKW : Nat} {qKW : Nat → Nat} {qLg : Nat → Nat} {qLg2 : Nat → Nat} {qLg3 : Nat → Nat} {qLg4 : Nat → Nat} {qWv : Nat → Nat} {qPr : Nat → Nat} {qRf : Nat → Nat} {qTx : Nat → Nat} {qLn : Nat → Nat} {qHs : Nat → Nat → Nat} {hMd : Nat} {qMd : Nat → Nat} {aLa : Nat} {aDa : Nat} {K28 : Int32 → OV → OV → OV → OV → OV → OV → OV → OV → OV → OV → HV → OV → (Nat → Int64) → (Nat → UInt64) → Prop} (hl0 : l.stackTraces = false) (hk : k0 + 20 ≤ 603072 ∧ n0 + 100 ≤ 7207018) (F : GF C XL cL_law lw_tbl RL room_1 9 (some .boolean) D G l) (E : GL C bS L xs) (hK28 : ∀ (x5 : Int32) (vKW : OV) (vLg : OV) (vLg2 : OV) (vLg3 : OV) (vLg4 : OV) (vWv : OV) (vPr : OV) (vRf : OV) (vTx : OV) (vLn : OV) (vHs : HV) (vMd : OV) (vLa : (Nat → Int64)) (vDa : (Nat → UInt64)), K28 x5 vKW vLg vLg2 vLg3 vLg4 vWv vPr vRf vTx vLn vHs vMd vLa vDa → GW C (k0 + 2) (n0 + 12) [bKW G hKW qKW vKW, bLg G (qKW 0) qLg vLg, bLg G (qKW 1) qLg2 vLg2, bLg G (qKW 2) qLg3 vLg3, bLg G (qKW 3) qLg4 vLg4, bWv G (qKW 5) qWv vWv, bPr G (qKW 6) qPr vPr, bRf G (qKW 7) qRf vRf, bTx G (qKW 8) qTx vTx, bLn G (qKW 9) qLn vLn, bHo G (qKW 4) qHs vHs, bRo G qHs vHs 0, bRo G qHs vHs 1, bRo G qHs vHs 2, bRo G qHs vHs 3, bRo G qHs vHs 4, bRo G qHs vHs 5, bRo G qHs vHs 6, bRo G qHs vHs 7, bMd G hMd qMd vMd, bLa G aLa vLa, bDa G aDa vDa] 28 [(0, .ref bS), (1, .ref hKW), (2, .ref hMd), (3, .ref aLa), (4, .ref aDa), (5, .int x5)] []) {x5 : Int32} {vKW : OV} {vLg : OV} {vLg2 : OV} {vLg3 : OV} {vLg4 : OV} {vWv : OV} {vPr : OV} {vRf : OV} {vTx : OV} {vLn : OV} {vHs : HV} {vMd : OV} {vLa : (Nat → Int64)} {vDa : (Nat → UInt64)} (hw : wp_L_law_1067 L xs K28 x5 vKW vLg vLg2 vLg3 vLg4 vWv vPr vRf vTx vLn vHs vMd vLa vDa) : GW C (k0 + 2) (n0 + 12) [bKW G hKW qKW vKW, bLg G (qKW 0) qLg vLg, bLg G (qKW 1) qLg2 vLg2, bLg G (qKW 2) qLg3 vLg3, bLg G (qKW 3) qLg4 vLg4, bWv G (qKW 5) qWv vWv, bPr G (qKW 6) qPr vPr, bRf G (qKW 7) qRf vRf, bTx G (qKW 8) qTx vTx, bLn G (qKW 9) qLn vLn, bHo G (qKW 4) qHs vHs, bRo G qHs vHs 0, bRo G qHs vHs 1, bRo G qHs vHs 2, bRo G qHs vHs 3, bRo G qHs vHs 4, bRo G qHs vHs 5, bRo G qHs vHs 6, bRo G qHs vHs 7, bMd G hMd qMd vMd, bLa G aLa vLa, bDa G aDa vDa] 1067 [(0, .ref bS), (1, .ref hKW), (2, .ref hMd), (3, .ref aLa), (4, .ref aDa), (5, .int x5)] [] := by
  unfold wp_L_law_1067 at hw
  refine gw_goto (tgt := 2081) F dL_law_1067 (by decide) ?_
  exact lb_L_law_2081 hl0 hk F E hK28 hw
def wp_L_law_1135 (L : Nat) (xs : Nat → Int32) (K28 : Int32 → OV → OV → OV → OV → OV → OV → OV → OV → OV → OV → HV → OV → (Nat → Int64) → (Nat → UInt64) → Prop) (x5 : Int32) (vKW : OV) (vLg : OV) (vLg2 : OV) (vLg3 : OV) (vLg4 : OV) (vWv : OV) (vPr : OV) (vRf : OV) (vTx : OV) (vLn : OV) (vHs : HV) (vMd : OV) (vLa : (Nat → Int64)) (vDa : (Nat → UInt64)) : Prop :=
  (wp_L_law_2081 L xs K28 x5 vKW vLg vLg2 vLg3 vLg4 vWv vPr vRf vTx vLn vHs vMd vLa vDa)
set_option maxRecDepth 20000 in
theorem lb_L_law_1135 {l : Launch} {D : va_G} {G : Nat → ClassId} {C : Cx} {bS L : Nat} {xs : Nat → Int32} {k0 n0 : Nat} {hKW : Nat} {qKW : Nat → Nat} {qLg : Nat → Nat} {qLg2 : Nat → Nat} {qLg3 : Nat → Nat} {qLg4 : Nat → Nat} {qWv : Nat → Nat} {qPr : Nat → Nat} {qRf : Nat → Nat} {qTx : Nat → Nat} {qLn : Nat → Nat} {qHs : Nat → Nat → Nat} {hMd : Nat} {qMd : Nat → Nat} {aLa : Nat} {aDa : Nat} {K28 : Int32 → OV → OV → OV → OV → OV → OV → OV → OV → OV → OV → HV → OV → (Nat → Int64) → (Nat → UInt64) → Prop} (hl0 : l.stackTraces = false) (hk : k0 + 20 ≤ 603072 ∧ n0 + 100 ≤ 7207018) (F : GF C XL cL_law lw_tbl RL room_1 9 (some .boolean) D G l) (E : GL C bS L xs) (hK28 : ∀ (x5 : Int32) (vKW : OV) (vLg : OV) (vLg2 : OV) (vLg3 : OV) (vLg4 : OV) (vWv : OV) (vPr : OV) (vRf : OV) (vTx : OV) (vLn : OV) (vHs : HV) (vMd : OV) (vLa : (Nat → Int64)) (vDa : (Nat → UInt64)), K28 x5 vKW vLg vLg2 vLg3 vLg4 vWv vPr vRf vTx vLn vHs vMd vLa vDa → GW C (k0 + 2) (n0 + 12) [bKW G hKW qKW vKW, bLg G (qKW 0) qLg vLg, bLg G (qKW 1) qLg2 vLg2, bLg G (qKW 2) qLg3 vLg3, bLg G (qKW 3) qLg4 vLg4, bWv G (qKW 5) qWv vWv, bPr G (qKW 6) qPr vPr, bRf G (qKW 7) qRf vRf, bTx G (qKW 8) qTx vTx, bLn G (qKW 9) qLn vLn, bHo G (qKW 4) qHs vHs, bRo G qHs vHs 0, bRo G qHs vHs 1, bRo G qHs vHs 2, bRo G qHs vHs 3, bRo G qHs vHs 4, bRo G qHs vHs 5, bRo G qHs vHs 6, bRo G qHs vHs 7, bMd G hMd qMd vMd, bLa G aLa vLa, bDa G aDa vDa] 28 [(0, .ref bS), (1, .ref hKW), (2, .ref hMd), (3, .ref aLa), (4, .ref aDa), (5, .int x5)] []) {x5 : Int32} {vKW : OV} {vLg : OV} {vLg2 : OV} {vLg3 : OV} {vLg4 : OV} {vWv : OV} {vPr : OV} {vRf : OV} {vTx : OV} {vLn : OV} {vHs : HV} {vMd : OV} {vLa : (Nat → Int64)} {vDa : (Nat → UInt64)} (hw : wp_L_law_1135 L xs K28 x5 vKW vLg vLg2 vLg3 vLg4 vWv vPr vRf vTx vLn vHs vMd vLa vDa) : GW C (k0 + 2) (n0 + 12) [bKW G hKW qKW vKW, bLg G (qKW 0) qLg vLg, bLg G (qKW 1) qLg2 vLg2, bLg G (qKW 2) qLg3 vLg3, bLg G (qKW 3) qLg4 vLg4, bWv G (qKW 5) qWv vWv, bPr G (qKW 6) qPr vPr, bRf G (qKW 7) qRf vRf, bTx G (qKW 8) qTx vTx, bLn G (qKW 9) qLn vLn, bHo G (qKW 4) qHs vHs, bRo G qHs vHs 0, bRo G qHs vHs 1, bRo G qHs vHs 2, bRo G qHs vHs 3, bRo G qHs vHs 4, bRo G qHs vHs 5, bRo G qHs vHs 6, bRo G qHs vHs 7, bMd G hMd qMd vMd, bLa G aLa vLa, bDa G aDa vDa] 1135 [(0, .ref bS), (1, .ref hKW), (2, .ref hMd), (3, .ref aLa), (4, .ref aDa), (5, .int x5)] [] := by
  unfold wp_L_law_1135 at hw
  refine gw_goto (tgt := 2081) F dL_law_1135 (by decide) ?_
  exact lb_L_law_2081 hl0 hk F E hK28 hw
def wp_L_law_1179 (L : Nat) (xs : Nat → Int32) (K28 : Int32 → OV → OV → OV → OV → OV → OV → OV → OV → OV → OV → HV → OV → (Nat → Int64) → (Nat → UInt64) → Prop) (x5 : Int32) (vKW : OV) (vLg : OV) (vLg2 : OV) (vLg3 : OV) (vLg4 : OV) (vWv : OV) (vPr : OV) (vRf : OV) (vTx : OV) (vLn : OV) (vHs : HV) (vMd : OV) (vLa : (Nat → Int64)) (vDa : (Nat → UInt64)) : Prop :=
  (wp_L_law_2081 L xs K28 x5 vKW vLg vLg2 vLg3 vLg4 vWv vPr vRf vTx vLn vHs vMd vLa vDa)
set_option maxRecDepth 20000 in
theorem lb_L_law_1179 {l : Launch} {D : va_G} {G : Nat → ClassId} {C : Cx} {bS L : Nat} {xs : Nat → Int32} {k0 n0 : Nat} {hKW : Nat} {qKW : Nat → Nat} {qLg : Nat → Nat} {qLg2 : Nat → Nat} {qLg3 : Nat → Nat} {qLg4 : Nat → Nat} {qWv : Nat → Nat} {qPr : Nat → Nat} {qRf : Nat → Nat} {qTx : Nat → Nat} {qLn : Nat → Nat} {qHs : Nat → Nat → Nat} {hMd : Nat} {qMd : Nat → Nat} {aLa : Nat} {aDa : Nat} {K28 : Int32 → OV → OV → OV → OV → OV → OV → OV → OV → OV → OV → HV → OV → (Nat → Int64) → (Nat → UInt64) → Prop} (hl0 : l.stackTraces = false) (hk : k0 + 20 ≤ 603072 ∧ n0 + 100 ≤ 7207018) (F : GF C XL cL_law lw_tbl RL room_1 9 (some .boolean) D G l) (E : GL C bS L xs) (hK28 : ∀ (x5 : Int32) (vKW : OV) (vLg : OV) (vLg2 : OV) (vLg3 : OV) (vLg4 : OV) (vWv : OV) (vPr : OV) (vRf : OV) (vTx : OV) (vLn : OV) (vHs : HV) (vMd : OV) (vLa : (Nat → Int64)) (vDa : (Nat → UInt64)), K28 x5 vKW vLg vLg2 vLg3 vLg4 vWv vPr vRf vTx vLn vHs vMd vLa vDa → GW C (k0 + 2) (n0 + 12) [bKW G hKW qKW vKW, bLg G (qKW 0) qLg vLg, bLg G (qKW 1) qLg2 vLg2, bLg G (qKW 2) qLg3 vLg3, bLg G (qKW 3) qLg4 vLg4, bWv G (qKW 5) qWv vWv, bPr G (qKW 6) qPr vPr, bRf G (qKW 7) qRf vRf, bTx G (qKW 8) qTx vTx, bLn G (qKW 9) qLn vLn, bHo G (qKW 4) qHs vHs, bRo G qHs vHs 0, bRo G qHs vHs 1, bRo G qHs vHs 2, bRo G qHs vHs 3, bRo G qHs vHs 4, bRo G qHs vHs 5, bRo G qHs vHs 6, bRo G qHs vHs 7, bMd G hMd qMd vMd, bLa G aLa vLa, bDa G aDa vDa] 28 [(0, .ref bS), (1, .ref hKW), (2, .ref hMd), (3, .ref aLa), (4, .ref aDa), (5, .int x5)] []) {x5 : Int32} {vKW : OV} {vLg : OV} {vLg2 : OV} {vLg3 : OV} {vLg4 : OV} {vWv : OV} {vPr : OV} {vRf : OV} {vTx : OV} {vLn : OV} {vHs : HV} {vMd : OV} {vLa : (Nat → Int64)} {vDa : (Nat → UInt64)} (hw : wp_L_law_1179 L xs K28 x5 vKW vLg vLg2 vLg3 vLg4 vWv vPr vRf vTx vLn vHs vMd vLa vDa) : GW C (k0 + 1) (n0 + 6) [bKW G hKW qKW vKW, bLg G (qKW 0) qLg vLg, bLg G (qKW 1) qLg2 vLg2, bLg G (qKW 2) qLg3 vLg3, bLg G (qKW 3) qLg4 vLg4, bWv G (qKW 5) qWv vWv, bPr G (qKW 6) qPr vPr, bRf G (qKW 7) qRf vRf, bTx G (qKW 8) qTx vTx, bLn G (qKW 9) qLn vLn, bHo G (qKW 4) qHs vHs, bRo G qHs vHs 0, bRo G qHs vHs 1, bRo G qHs vHs 2, bRo G qHs vHs 3, bRo G qHs vHs 4, bRo G qHs vHs 5, bRo G qHs vHs 6, bRo G qHs vHs 7, bMd G hMd qMd vMd, bLa G aLa vLa, bDa G aDa vDa] 1179 [(0, .ref bS), (1, .ref hKW), (2, .ref hMd), (3, .ref aLa), (4, .ref aDa), (5, .int x5)] [] := by
  unfold wp_L_law_1179 at hw
  refine gw_goto (tgt := 2081) F dL_law_1179 (by decide) ?_
  refine gw_widen (k' := k0 + 2) (n' := n0 + 12) (by omega) (by omega) ?_
  exact lb_L_law_2081 hl0 hk F E hK28 hw
def wp_L_law_1267 (L : Nat) (xs : Nat → Int32) (K28 : Int32 → OV → OV → OV → OV → OV → OV → OV → OV → OV → OV → HV → OV → (Nat → Int64) → (Nat → UInt64) → Prop) (x5 s0 s2 : Int32) (vKW : OV) (vLg : OV) (vLg2 : OV) (vLg3 : OV) (vLg4 : OV) (vWv : OV) (vPr : OV) (vRf : OV) (vTx : OV) (vLn : OV) (vHs : HV) (vMd : OV) (vLa : (Nat → Int64)) (vDa : (Nat → UInt64)) : Prop :=
  (wp_X8_cover (fun (r_244 : Int32) (v_245 : OV) => ((s0 = r_244 → (wp_L_law_2081 L xs K28 x5 vKW vLg vLg2 vLg3 vLg4 vWv vPr vRf vTx vLn vHs v_245 vLa vDa)) ∧ (¬ (s0 = r_244) → ((0 : Int32) = 1)))) s2 vMd)
set_option maxRecDepth 20000 in
theorem lb_L_law_1267 {l : Launch} {D : va_G} {G : Nat → ClassId} {C : Cx} {bS L : Nat} {xs : Nat → Int32} {k0 n0 : Nat} {hKW : Nat} {qKW : Nat → Nat} {qLg : Nat → Nat} {qLg2 : Nat → Nat} {qLg3 : Nat → Nat} {qLg4 : Nat → Nat} {qWv : Nat → Nat} {qPr : Nat → Nat} {qRf : Nat → Nat} {qTx : Nat → Nat} {qLn : Nat → Nat} {qHs : Nat → Nat → Nat} {hMd : Nat} {qMd : Nat → Nat} {aLa : Nat} {aDa : Nat} {K28 : Int32 → OV → OV → OV → OV → OV → OV → OV → OV → OV → OV → HV → OV → (Nat → Int64) → (Nat → UInt64) → Prop} (hl0 : l.stackTraces = false) (hk : k0 + 20 ≤ 603072 ∧ n0 + 100 ≤ 7207018) (F : GF C XL cL_law lw_tbl RL room_1 9 (some .boolean) D G l) (E : GL C bS L xs) (hK28 : ∀ (x5 : Int32) (vKW : OV) (vLg : OV) (vLg2 : OV) (vLg3 : OV) (vLg4 : OV) (vWv : OV) (vPr : OV) (vRf : OV) (vTx : OV) (vLn : OV) (vHs : HV) (vMd : OV) (vLa : (Nat → Int64)) (vDa : (Nat → UInt64)), K28 x5 vKW vLg vLg2 vLg3 vLg4 vWv vPr vRf vTx vLn vHs vMd vLa vDa → GW C (k0 + 2) (n0 + 12) [bKW G hKW qKW vKW, bLg G (qKW 0) qLg vLg, bLg G (qKW 1) qLg2 vLg2, bLg G (qKW 2) qLg3 vLg3, bLg G (qKW 3) qLg4 vLg4, bWv G (qKW 5) qWv vWv, bPr G (qKW 6) qPr vPr, bRf G (qKW 7) qRf vRf, bTx G (qKW 8) qTx vTx, bLn G (qKW 9) qLn vLn, bHo G (qKW 4) qHs vHs, bRo G qHs vHs 0, bRo G qHs vHs 1, bRo G qHs vHs 2, bRo G qHs vHs 3, bRo G qHs vHs 4, bRo G qHs vHs 5, bRo G qHs vHs 6, bRo G qHs vHs 7, bMd G hMd qMd vMd, bLa G aLa vLa, bDa G aDa vDa] 28 [(0, .ref bS), (1, .ref hKW), (2, .ref hMd), (3, .ref aLa), (4, .ref aDa), (5, .int x5)] []) {x5 s0 s2 : Int32} {vKW : OV} {vLg : OV} {vLg2 : OV} {vLg3 : OV} {vLg4 : OV} {vWv : OV} {vPr : OV} {vRf : OV} {vTx : OV} {vLn : OV} {vHs : HV} {vMd : OV} {vLa : (Nat → Int64)} {vDa : (Nat → UInt64)} (hw : wp_L_law_1267 L xs K28 x5 s0 s2 vKW vLg vLg2 vLg3 vLg4 vWv vPr vRf vTx vLn vHs vMd vLa vDa) : GW C k0 n0 [bKW G hKW qKW vKW, bLg G (qKW 0) qLg vLg, bLg G (qKW 1) qLg2 vLg2, bLg G (qKW 2) qLg3 vLg3, bLg G (qKW 3) qLg4 vLg4, bWv G (qKW 5) qWv vWv, bPr G (qKW 6) qPr vPr, bRf G (qKW 7) qRf vRf, bTx G (qKW 8) qTx vTx, bLn G (qKW 9) qLn vLn, bHo G (qKW 4) qHs vHs, bRo G qHs vHs 0, bRo G qHs vHs 1, bRo G qHs vHs 2, bRo G qHs vHs 3, bRo G qHs vHs 4, bRo G qHs vHs 5, bRo G qHs vHs 6, bRo G qHs vHs 7, bMd G hMd qMd vMd, bLa G aLa vLa, bDa G aDa vDa] 1267 [(0, .ref bS), (1, .ref hKW), (2, .ref hMd), (3, .ref aLa), (4, .ref aDa), (5, .int x5)] [.int s2, .ref hMd, .int s0] := by
  unfold wp_L_law_1267 at hw
  refine gw_callV F (ct_X8_cover hw) 1 la_193 rfl rfl rfl hd_X8_cover ⟨(Nat.le_of_ble_eq_true rfl), (Nat.le_of_ble_eq_true rfl)⟩ rfl rfl (Nat.le_of_ble_eq_true rfl) ⟨by show _ ≤ 603072; omega, by show _ ≤ 7207018; omega⟩ [0, 1, 2, 3, 4, 5, 6, 7, 8, 9, 10, 11, 12, 13, 14, 15, 16, 17, 18, 20, 21, 19] (bsr := [bKW G hKW qKW vKW, bLg G (qKW 0) qLg vLg, bLg G (qKW 1) qLg2 vLg2, bLg G (qKW 2) qLg3 vLg3, bLg G (qKW 3) qLg4 vLg4, bWv G (qKW 5) qWv vWv, bPr G (qKW 6) qPr vPr, bRf G (qKW 7) qRf vRf, bTx G (qKW 8) qTx vTx, bLn G (qKW 9) qLn vLn, bHo G (qKW 4) qHs vHs, bRo G qHs vHs 0, bRo G qHs vHs 1, bRo G qHs vHs 2, bRo G qHs vHs 3, bRo G qHs vHs 4, bRo G qHs vHs 5, bRo G qHs vHs 6, bRo G qHs vHs 7, bLa G aLa vLa, bDa G aDa vDa]) rfl rfl (q0 := 0) rfl rfl dL_law_1267 ?_
  rintro _ _ ⟨r_244, v_245, rfl, rfl, hw⟩
  refine gw_sel [0, 1, 2, 3, 4, 5, 6, 7, 8, 9, 10, 11, 12, 13, 14, 15, 16, 17, 18, 21, 19, 20] (bs' := [bKW G hKW qKW vKW, bLg G (qKW 0) qLg vLg, bLg G (qKW 1) qLg2 vLg2, bLg G (qKW 2) qLg3 vLg3, bLg G (qKW 3) qLg4 vLg4, bWv G (qKW 5) qWv vWv, bPr G (qKW 6) qPr vPr, bRf G (qKW 7) qRf vRf, bTx G (qKW 8) qTx vTx, bLn G (qKW 9) qLn vLn, bHo G (qKW 4) qHs vHs, bRo G qHs vHs 0, bRo G qHs vHs 1, bRo G qHs vHs 2, bRo G qHs vHs 3, bRo G qHs vHs 4, bRo G qHs vHs 5, bRo G qHs vHs 6, bRo G qHs vHs 7, bMd G hMd qMd v_245, bLa G aLa vLa, bDa G aDa vDa]) rfl rfl ?_
  change GW C k0 n0 _ 1270 _ [.int r_244, .int s0]
  refine gw_icmp_eq (tgt := 2081) F dL_law_1270 (by decide) (fun c_246 => ?_) (fun c_246 => ?_)
  · have hw := hw.1 c_246
    refine gw_widen (k' := k0 + 2) (n' := n0 + 12) (by omega) (by omega) ?_
    exact lb_L_law_2081 hl0 hk F E hK28 hw
  · have hw := hw.2 c_246
    refine gw_iconst (v := (0 : Int32)) F dL_law_1273 ic_iconst_0 ?_
    exact gw_lret F E hw (by omega) (by omega) dL_law_1274
def wp_L_law_1249 (L : Nat) (xs : Nat → Int32) (K28 : Int32 → OV → OV → OV → OV → OV → OV → OV → OV → OV → OV → HV → OV → (Nat → Int64) → (Nat → UInt64) → Prop) (x5 s1 : Int32) (vKW : OV) (vLg : OV) (vLg2 : OV) (vLg3 : OV) (vLg4 : OV) (vWv : OV) (vPr : OV) (vRf : OV) (vTx : OV) (vLn : OV) (vHs : HV) (vMd : OV) (vLa : (Nat → Int64)) (vDa : (Nat → UInt64)) : Prop :=
  (wp_X7_cover (fun (r_239 : Int32) (v_240 : OV) (v_241 : OV) => (vp_in (x5 + (1 : Int32)) L ∧ (((xs (x5 + (1 : Int32)).toNatClampNeg) = 0 → (wp_L_law_1267 L xs K28 x5 r_239 (0 : Int32) vKW vLg vLg2 vLg3 v_240 v_241 vPr vRf vTx vLn vHs vMd vLa vDa)) ∧ (¬ ((xs (x5 + (1 : Int32)).toNatClampNeg) = 0) → (wp_L_law_1267 L xs K28 x5 r_239 (1 : Int32) vKW vLg vLg2 vLg3 v_240 v_241 vPr vRf vTx vLn vHs vMd vLa vDa))))) s1 vKW vLg vLg2 vLg3 vLg4 vWv vPr vRf vTx vLn vHs)
set_option maxRecDepth 20000 in
theorem lb_L_law_1249 {l : Launch} {D : va_G} {G : Nat → ClassId} {C : Cx} {bS L : Nat} {xs : Nat → Int32} {k0 n0 : Nat} {hKW : Nat} {qKW : Nat → Nat} {qLg : Nat → Nat} {qLg2 : Nat → Nat} {qLg3 : Nat → Nat} {qLg4 : Nat → Nat} {qWv : Nat → Nat} {qPr : Nat → Nat} {qRf : Nat → Nat} {qTx : Nat → Nat} {qLn : Nat → Nat} {qHs : Nat → Nat → Nat} {hMd : Nat} {qMd : Nat → Nat} {aLa : Nat} {aDa : Nat} {K28 : Int32 → OV → OV → OV → OV → OV → OV → OV → OV → OV → OV → HV → OV → (Nat → Int64) → (Nat → UInt64) → Prop} (hl0 : l.stackTraces = false) (hk : k0 + 20 ≤ 603072 ∧ n0 + 100 ≤ 7207018) (F : GF C XL cL_law lw_tbl RL room_1 9 (some .boolean) D G l) (E : GL C bS L xs) (hK28 : ∀ (x5 : Int32) (vKW : OV) (vLg : OV) (vLg2 : OV) (vLg3 : OV) (vLg4 : OV) (vWv : OV) (vPr : OV) (vRf : OV) (vTx : OV) (vLn : OV) (vHs : HV) (vMd : OV) (vLa : (Nat → Int64)) (vDa : (Nat → UInt64)), K28 x5 vKW vLg vLg2 vLg3 vLg4 vWv vPr vRf vTx vLn vHs vMd vLa vDa → GW C (k0 + 2) (n0 + 12) [bKW G hKW qKW vKW, bLg G (qKW 0) qLg vLg, bLg G (qKW 1) qLg2 vLg2, bLg G (qKW 2) qLg3 vLg3, bLg G (qKW 3) qLg4 vLg4, bWv G (qKW 5) qWv vWv, bPr G (qKW 6) qPr vPr, bRf G (qKW 7) qRf vRf, bTx G (qKW 8) qTx vTx, bLn G (qKW 9) qLn vLn, bHo G (qKW 4) qHs vHs, bRo G qHs vHs 0, bRo G qHs vHs 1, bRo G qHs vHs 2, bRo G qHs vHs 3, bRo G qHs vHs 4, bRo G qHs vHs 5, bRo G qHs vHs 6, bRo G qHs vHs 7, bMd G hMd qMd vMd, bLa G aLa vLa, bDa G aDa vDa] 28 [(0, .ref bS), (1, .ref hKW), (2, .ref hMd), (3, .ref aLa), (4, .ref aDa), (5, .int x5)] []) {x5 s1 : Int32} {vKW : OV} {vLg : OV} {vLg2 : OV} {vLg3 : OV} {vLg4 : OV} {vWv : OV} {vPr : OV} {vRf : OV} {vTx : OV} {vLn : OV} {vHs : HV} {vMd : OV} {vLa : (Nat → Int64)} {vDa : (Nat → UInt64)} (hw : wp_L_law_1249 L xs K28 x5 s1 vKW vLg vLg2 vLg3 vLg4 vWv vPr vRf vTx vLn vHs vMd vLa vDa) : GW C k0 n0 [bKW G hKW qKW vKW, bLg G (qKW 0) qLg vLg, bLg G (qKW 1) qLg2 vLg2, bLg G (qKW 2) qLg3 vLg3, bLg G (qKW 3) qLg4 vLg4, bWv G (qKW 5) qWv vWv, bPr G (qKW 6) qPr vPr, bRf G (qKW 7) qRf vRf, bTx G (qKW 8) qTx vTx, bLn G (qKW 9) qLn vLn, bHo G (qKW 4) qHs vHs, bRo G qHs vHs 0, bRo G qHs vHs 1, bRo G qHs vHs 2, bRo G qHs vHs 3, bRo G qHs vHs 4, bRo G qHs vHs 5, bRo G qHs vHs 6, bRo G qHs vHs 7, bMd G hMd qMd vMd, bLa G aLa vLa, bDa G aDa vDa] 1249 [(0, .ref bS), (1, .ref hKW), (2, .ref hMd), (3, .ref aLa), (4, .ref aDa), (5, .int x5)] [.int s1, .ref hKW] := by
  unfold wp_L_law_1249 at hw
  refine gw_callV (F.mono XL_sub) (ct_X7_cover hl0 hw) 1 la_189 rfl rfl rfl hd_X7_cover ⟨(Nat.le_of_ble_eq_true rfl), (Nat.le_of_ble_eq_true rfl)⟩ rfl rfl (Nat.le_of_ble_eq_true rfl) ⟨by show _ ≤ 603072; omega, by show _ ≤ 7207018; omega⟩ [19, 20, 21, 0, 1, 2, 3, 4, 5, 6, 7, 8, 9, 10, 11, 12, 13, 14, 15, 16, 17, 18] (bsr := [bMd G hMd qMd vMd, bLa G aLa vLa, bDa G aDa vDa]) rfl rfl (q0 := 0) rfl rfl dL_law_1249 ?_
  rintro _ _ ⟨r_239, v_240, v_241, rfl, rfl, hw⟩
  refine gw_sel [3, 4, 5, 6, 7, 8, 9, 10, 11, 12, 13, 14, 15, 16, 17, 18, 19, 20, 21, 0, 1, 2] (bs' := [bKW G hKW qKW vKW, bLg G (qKW 0) qLg vLg, bLg G (qKW 1) qLg2 vLg2, bLg G (qKW 2) qLg3 vLg3, bLg G (qKW 3) qLg4 v_240, bWv G (qKW 5) qWv v_241, bPr G (qKW 6) qPr vPr, bRf G (qKW 7) qRf vRf, bTx G (qKW 8) qTx vTx, bLn G (qKW 9) qLn vLn, bHo G (qKW 4) qHs vHs, bRo G qHs vHs 0, bRo G qHs vHs 1, bRo G qHs vHs 2, bRo G qHs vHs 3, bRo G qHs vHs 4, bRo G qHs vHs 5, bRo G qHs vHs 6, bRo G qHs vHs 7, bMd G hMd qMd vMd, bLa G aLa vLa, bDa G aDa vDa]) rfl rfl ?_
  change GW C k0 n0 _ 1252 _ [.int r_239]
  refine gw_aload_n F dL_law_1252 2 rfl ?_
  refine gw_aload_n F dL_law_1253 0 rfl ?_
  refine gw_iload F dL_law_1254 5 rfl ?_
  refine gw_iconst (v := (1 : Int32)) F dL_law_1256 ic_iconst_1 ?_
  refine gw_iadd F dL_law_1257 ?_
  obtain ⟨h_242, hw⟩ := hw
  refine gw_sld F E h_242 dL_law_1258 ?_
  refine gw_if_eq (tgt := 1266) F dL_law_1259 (by decide) (fun c_243 => ?_) (fun c_243 => ?_)
  · have hw := hw.1 c_243
    refine gw_iconst (v := (0 : Int32)) F dL_law_1266 ic_iconst_0 ?_
    exact lb_L_law_1267 hl0 hk F E hK28 hw
  · have hw := hw.2 c_243
    refine gw_iconst (v := (1 : Int32)) F dL_law_1262 ic_iconst_1 ?_
    refine gw_goto (tgt := 1267) F dL_law_1263 (by decide) ?_
    exact lb_L_law_1267 hl0 hk F E hK28 hw
def wp_L_law_1335 (L : Nat) (xs : Nat → Int32) (K28 : Int32 → OV → OV → OV → OV → OV → OV → OV → OV → OV → OV → HV → OV → (Nat → Int64) → (Nat → UInt64) → Prop) (x5 : Int32) (vKW : OV) (vLg : OV) (vLg2 : OV) (vLg3 : OV) (vLg4 : OV) (vWv : OV) (vPr : OV) (vRf : OV) (vTx : OV) (vLn : OV) (vHs : HV) (vMd : OV) (vLa : (Nat → Int64)) (vDa : (Nat → UInt64)) : Prop :=
  (wp_L_law_2081 L xs K28 x5 vKW vLg vLg2 vLg3 vLg4 vWv vPr vRf vTx vLn vHs vMd vLa vDa)
set_option maxRecDepth 20000 in
theorem lb_L_law_1335 {l : Launch} {D : va_G} {G : Nat → ClassId} {C : Cx} {bS L : Nat} {xs : Nat → Int32} {k0 n0 : Nat} {hKW : Nat} {qKW : Nat → Nat} {qLg : Nat → Nat} {qLg2 : Nat → Nat} {qLg3 : Nat → Nat} {qLg4 : Nat → Nat} {qWv : Nat → Nat} {qPr : Nat → Nat} {qRf : Nat → Nat} {qTx : Nat → Nat} {qLn : Nat → Nat} {qHs : Nat → Nat → Nat} {hMd : Nat} {qMd : Nat → Nat} {aLa : Nat} {aDa : Nat} {K28 : Int32 → OV → OV → OV → OV → OV → OV → OV → OV → OV → OV → HV → OV → (Nat → Int64) → (Nat → UInt64) → Prop} (hl0 : l.stackTraces = false) (hk : k0 + 20 ≤ 603072 ∧ n0 + 100 ≤ 7207018) (F : GF C XL cL_law lw_tbl RL room_1 9 (some .boolean) D G l) (E : GL C bS L xs) (hK28 : ∀ (x5 : Int32) (vKW : OV) (vLg : OV) (vLg2 : OV) (vLg3 : OV) (vLg4 : OV) (vWv : OV) (vPr : OV) (vRf : OV) (vTx : OV) (vLn : OV) (vHs : HV) (vMd : OV) (vLa : (Nat → Int64)) (vDa : (Nat → UInt64)), K28 x5 vKW vLg vLg2 vLg3 vLg4 vWv vPr vRf vTx vLn vHs vMd vLa vDa → GW C (k0 + 2) (n0 + 12) [bKW G hKW qKW vKW, bLg G (qKW 0) qLg vLg, bLg G (qKW 1) qLg2 vLg2, bLg G (qKW 2) qLg3 vLg3, bLg G (qKW 3) qLg4 vLg4, bWv G (qKW 5) qWv vWv, bPr G (qKW 6) qPr vPr, bRf G (qKW 7) qRf vRf, bTx G (qKW 8) qTx vTx, bLn G (qKW 9) qLn vLn, bHo G (qKW 4) qHs vHs, bRo G qHs vHs 0, bRo G qHs vHs 1, bRo G qHs vHs 2, bRo G qHs vHs 3, bRo G qHs vHs 4, bRo G qHs vHs 5, bRo G qHs vHs 6, bRo G qHs vHs 7, bMd G hMd qMd vMd, bLa G aLa vLa, bDa G aDa vDa] 28 [(0, .ref bS), (1, .ref hKW), (2, .ref hMd), (3, .ref aLa), (4, .ref aDa), (5, .int x5)] []) {x5 : Int32} {vKW : OV} {vLg : OV} {vLg2 : OV} {vLg3 : OV} {vLg4 : OV} {vWv : OV} {vPr : OV} {vRf : OV} {vTx : OV} {vLn : OV} {vHs : HV} {vMd : OV} {vLa : (Nat → Int64)} {vDa : (Nat → UInt64)} (hw : wp_L_law_1335 L xs K28 x5 vKW vLg vLg2 vLg3 vLg4 vWv vPr vRf vTx vLn vHs vMd vLa vDa) : GW C (k0 + 1) (n0 + 6) [bKW G hKW qKW vKW, bLg G (qKW 0) qLg vLg, bLg G (qKW 1) qLg2 vLg2, bLg G (qKW 2) qLg3 vLg3, bLg G (qKW 3) qLg4 vLg4, bWv G (qKW 5) qWv vWv, bPr G (qKW 6) qPr vPr, bRf G (qKW 7) qRf vRf, bTx G (qKW 8) qTx vTx, bLn G (qKW 9) qLn vLn, bHo G (qKW 4) qHs vHs, bRo G qHs vHs 0, bRo G qHs vHs 1, bRo G qHs vHs 2, bRo G qHs vHs 3, bRo G qHs vHs 4, bRo G qHs vHs 5, bRo G qHs vHs 6, bRo G qHs vHs 7, bMd G hMd qMd vMd, bLa G aLa vLa, bDa G aDa vDa] 1335 [(0, .ref bS), (1, .ref hKW), (2, .ref hMd), (3, .ref aLa), (4, .ref aDa), (5, .int x5)] [] := by
  unfold wp_L_law_1335 at hw
  refine gw_goto (tgt := 2081) F dL_law_1335 (by decide) ?_
  refine gw_widen (k' := k0 + 2) (n' := n0 + 12) (by omega) (by omega) ?_
  exact lb_L_law_2081 hl0 hk F E hK28 hw
def wp_L_law_1398 (L : Nat) (xs : Nat → Int32) (K28 : Int32 → OV → OV → OV → OV → OV → OV → OV → OV → OV → OV → HV → OV → (Nat → Int64) → (Nat → UInt64) → Prop) (x5 : Int32) (vKW : OV) (vLg : OV) (vLg2 : OV) (vLg3 : OV) (vLg4 : OV) (vWv : OV) (vPr : OV) (vRf : OV) (vTx : OV) (vLn : OV) (vHs : HV) (vMd : OV) (vLa : (Nat → Int64)) (vDa : (Nat → UInt64)) : Prop :=
  (wp_L_law_2081 L xs K28 x5 vKW vLg vLg2 vLg3 vLg4 vWv vPr vRf vTx vLn vHs vMd vLa vDa)
set_option maxRecDepth 20000 in
theorem lb_L_law_1398 {l : Launch} {D : va_G} {G : Nat → ClassId} {C : Cx} {bS L : Nat} {xs : Nat → Int32} {k0 n0 : Nat} {hKW : Nat} {qKW : Nat → Nat} {qLg : Nat → Nat} {qLg2 : Nat → Nat} {qLg3 : Nat → Nat} {qLg4 : Nat → Nat} {qWv : Nat → Nat} {qPr : Nat → Nat} {qRf : Nat → Nat} {qTx : Nat → Nat} {qLn : Nat → Nat} {qHs : Nat → Nat → Nat} {hMd : Nat} {qMd : Nat → Nat} {aLa : Nat} {aDa : Nat} {K28 : Int32 → OV → OV → OV → OV → OV → OV → OV → OV → OV → OV → HV → OV → (Nat → Int64) → (Nat → UInt64) → Prop} (hl0 : l.stackTraces = false) (hk : k0 + 20 ≤ 603072 ∧ n0 + 100 ≤ 7207018) (F : GF C XL cL_law lw_tbl RL room_1 9 (some .boolean) D G l) (E : GL C bS L xs) (hK28 : ∀ (x5 : Int32) (vKW : OV) (vLg : OV) (vLg2 : OV) (vLg3 : OV) (vLg4 : OV) (vWv : OV) (vPr : OV) (vRf : OV) (vTx : OV) (vLn : OV) (vHs : HV) (vMd : OV) (vLa : (Nat → Int64)) (vDa : (Nat → UInt64)), K28 x5 vKW vLg vLg2 vLg3 vLg4 vWv vPr vRf vTx vLn vHs vMd vLa vDa → GW C (k0 + 2) (n0 + 12) [bKW G hKW qKW vKW, bLg G (qKW 0) qLg vLg, bLg G (qKW 1) qLg2 vLg2, bLg G (qKW 2) qLg3 vLg3, bLg G (qKW 3) qLg4 vLg4, bWv G (qKW 5) qWv vWv, bPr G (qKW 6) qPr vPr, bRf G (qKW 7) qRf vRf, bTx G (qKW 8) qTx vTx, bLn G (qKW 9) qLn vLn, bHo G (qKW 4) qHs vHs, bRo G qHs vHs 0, bRo G qHs vHs 1, bRo G qHs vHs 2, bRo G qHs vHs 3, bRo G qHs vHs 4, bRo G qHs vHs 5, bRo G qHs vHs 6, bRo G qHs vHs 7, bMd G hMd qMd vMd, bLa G aLa vLa, bDa G aDa vDa] 28 [(0, .ref bS), (1, .ref hKW), (2, .ref hMd), (3, .ref aLa), (4, .ref aDa), (5, .int x5)] []) {x5 : Int32} {vKW : OV} {vLg : OV} {vLg2 : OV} {vLg3 : OV} {vLg4 : OV} {vWv : OV} {vPr : OV} {vRf : OV} {vTx : OV} {vLn : OV} {vHs : HV} {vMd : OV} {vLa : (Nat → Int64)} {vDa : (Nat → UInt64)} (hw : wp_L_law_1398 L xs K28 x5 vKW vLg vLg2 vLg3 vLg4 vWv vPr vRf vTx vLn vHs vMd vLa vDa) : GW C (k0 + 1) (n0 + 6) [bKW G hKW qKW vKW, bLg G (qKW 0) qLg vLg, bLg G (qKW 1) qLg2 vLg2, bLg G (qKW 2) qLg3 vLg3, bLg G (qKW 3) qLg4 vLg4, bWv G (qKW 5) qWv vWv, bPr G (qKW 6) qPr vPr, bRf G (qKW 7) qRf vRf, bTx G (qKW 8) qTx vTx, bLn G (qKW 9) qLn vLn, bHo G (qKW 4) qHs vHs, bRo G qHs vHs 0, bRo G qHs vHs 1, bRo G qHs vHs 2, bRo G qHs vHs 3, bRo G qHs vHs 4, bRo G qHs vHs 5, bRo G qHs vHs 6, bRo G qHs vHs 7, bMd G hMd qMd vMd, bLa G aLa vLa, bDa G aDa vDa] 1398 [(0, .ref bS), (1, .ref hKW), (2, .ref hMd), (3, .ref aLa), (4, .ref aDa), (5, .int x5)] [] := by
  unfold wp_L_law_1398 at hw
  refine gw_goto (tgt := 2081) F dL_law_1398 (by decide) ?_
  refine gw_widen (k' := k0 + 2) (n' := n0 + 12) (by omega) (by omega) ?_
  exact lb_L_law_2081 hl0 hk F E hK28 hw
def wp_L_law_1466 (L : Nat) (xs : Nat → Int32) (K28 : Int32 → OV → OV → OV → OV → OV → OV → OV → OV → OV → OV → HV → OV → (Nat → Int64) → (Nat → UInt64) → Prop) (x5 : Int32) (vKW : OV) (vLg : OV) (vLg2 : OV) (vLg3 : OV) (vLg4 : OV) (vWv : OV) (vPr : OV) (vRf : OV) (vTx : OV) (vLn : OV) (vHs : HV) (vMd : OV) (vLa : (Nat → Int64)) (vDa : (Nat → UInt64)) : Prop :=
  (wp_L_law_2081 L xs K28 x5 vKW vLg vLg2 vLg3 vLg4 vWv vPr vRf vTx vLn vHs vMd vLa vDa)
set_option maxRecDepth 20000 in
theorem lb_L_law_1466 {l : Launch} {D : va_G} {G : Nat → ClassId} {C : Cx} {bS L : Nat} {xs : Nat → Int32} {k0 n0 : Nat} {hKW : Nat} {qKW : Nat → Nat} {qLg : Nat → Nat} {qLg2 : Nat → Nat} {qLg3 : Nat → Nat} {qLg4 : Nat → Nat} {qWv : Nat → Nat} {qPr : Nat → Nat} {qRf : Nat → Nat} {qTx : Nat → Nat} {qLn : Nat → Nat} {qHs : Nat → Nat → Nat} {hMd : Nat} {qMd : Nat → Nat} {aLa : Nat} {aDa : Nat} {K28 : Int32 → OV → OV → OV → OV → OV → OV → OV → OV → OV → OV → HV → OV → (Nat → Int64) → (Nat → UInt64) → Prop} (hl0 : l.stackTraces = false) (hk : k0 + 20 ≤ 603072 ∧ n0 + 100 ≤ 7207018) (F : GF C XL cL_law lw_tbl RL room_1 9 (some .boolean) D G l) (E : GL C bS L xs) (hK28 : ∀ (x5 : Int32) (vKW : OV) (vLg : OV) (vLg2 : OV) (vLg3 : OV) (vLg4 : OV) (vWv : OV) (vPr : OV) (vRf : OV) (vTx : OV) (vLn : OV) (vHs : HV) (vMd : OV) (vLa : (Nat → Int64)) (vDa : (Nat → UInt64)), K28 x5 vKW vLg vLg2 vLg3 vLg4 vWv vPr vRf vTx vLn vHs vMd vLa vDa → GW C (k0 + 2) (n0 + 12) [bKW G hKW qKW vKW, bLg G (qKW 0) qLg vLg, bLg G (qKW 1) qLg2 vLg2, bLg G (qKW 2) qLg3 vLg3, bLg G (qKW 3) qLg4 vLg4, bWv G (qKW 5) qWv vWv, bPr G (qKW 6) qPr vPr, bRf G (qKW 7) qRf vRf, bTx G (qKW 8) qTx vTx, bLn G (qKW 9) qLn vLn, bHo G (qKW 4) qHs vHs, bRo G qHs vHs 0, bRo G qHs vHs 1, bRo G qHs vHs 2, bRo G qHs vHs 3, bRo G qHs vHs 4, bRo G qHs vHs 5, bRo G qHs vHs 6, bRo G qHs vHs 7, bMd G hMd qMd vMd, bLa G aLa vLa, bDa G aDa vDa] 28 [(0, .ref bS), (1, .ref hKW), (2, .ref hMd), (3, .ref aLa), (4, .ref aDa), (5, .int x5)] []) {x5 : Int32} {vKW : OV} {vLg : OV} {vLg2 : OV} {vLg3 : OV} {vLg4 : OV} {vWv : OV} {vPr : OV} {vRf : OV} {vTx : OV} {vLn : OV} {vHs : HV} {vMd : OV} {vLa : (Nat → Int64)} {vDa : (Nat → UInt64)} (hw : wp_L_law_1466 L xs K28 x5 vKW vLg vLg2 vLg3 vLg4 vWv vPr vRf vTx vLn vHs vMd vLa vDa) : GW C (k0 + 1) (n0 + 6) [bKW G hKW qKW vKW, bLg G (qKW 0) qLg vLg, bLg G (qKW 1) qLg2 vLg2, bLg G (qKW 2) qLg3 vLg3, bLg G (qKW 3) qLg4 vLg4, bWv G (qKW 5) qWv vWv, bPr G (qKW 6) qPr vPr, bRf G (qKW 7) qRf vRf, bTx G (qKW 8) qTx vTx, bLn G (qKW 9) qLn vLn, bHo G (qKW 4) qHs vHs, bRo G qHs vHs 0, bRo G qHs vHs 1, bRo G qHs vHs 2, bRo G qHs vHs 3, bRo G qHs vHs 4, bRo G qHs vHs 5, bRo G qHs vHs 6, bRo G qHs vHs 7, bMd G hMd qMd vMd, bLa G aLa vLa, bDa G aDa vDa] 1466 [(0, .ref bS), (1, .ref hKW), (2, .ref hMd), (3, .ref aLa), (4, .ref aDa), (5, .int x5)] [] := by
  unfold wp_L_law_1466 at hw
  refine gw_goto (tgt := 2081) F dL_law_1466 (by decide) ?_
  refine gw_widen (k' := k0 + 2) (n' := n0 + 12) (by omega) (by omega) ?_
  exact lb_L_law_2081 hl0 hk F E hK28 hw
def wp_L_law_1522 (L : Nat) (xs : Nat → Int32) (K28 : Int32 → OV → OV → OV → OV → OV → OV → OV → OV → OV → OV → HV → OV → (Nat → Int64) → (Nat → UInt64) → Prop) (x5 : Int32) (vKW : OV) (vLg : OV) (vLg2 : OV) (vLg3 : OV) (vLg4 : OV) (vWv : OV) (vPr : OV) (vRf : OV) (vTx : OV) (vLn : OV) (vHs : HV) (vMd : OV) (vLa : (Nat → Int64)) (vDa : (Nat → UInt64)) : Prop :=
  (wp_L_law_2081 L xs K28 x5 vKW vLg vLg2 vLg3 vLg4 vWv vPr vRf vTx vLn vHs vMd vLa vDa)
set_option maxRecDepth 20000 in
theorem lb_L_law_1522 {l : Launch} {D : va_G} {G : Nat → ClassId} {C : Cx} {bS L : Nat} {xs : Nat → Int32} {k0 n0 : Nat} {hKW : Nat} {qKW : Nat → Nat} {qLg : Nat → Nat} {qLg2 : Nat → Nat} {qLg3 : Nat → Nat} {qLg4 : Nat → Nat} {qWv : Nat → Nat} {qPr : Nat → Nat} {qRf : Nat → Nat} {qTx : Nat → Nat} {qLn : Nat → Nat} {qHs : Nat → Nat → Nat} {hMd : Nat} {qMd : Nat → Nat} {aLa : Nat} {aDa : Nat} {K28 : Int32 → OV → OV → OV → OV → OV → OV → OV → OV → OV → OV → HV → OV → (Nat → Int64) → (Nat → UInt64) → Prop} (hl0 : l.stackTraces = false) (hk : k0 + 20 ≤ 603072 ∧ n0 + 100 ≤ 7207018) (F : GF C XL cL_law lw_tbl RL room_1 9 (some .boolean) D G l) (E : GL C bS L xs) (hK28 : ∀ (x5 : Int32) (vKW : OV) (vLg : OV) (vLg2 : OV) (vLg3 : OV) (vLg4 : OV) (vWv : OV) (vPr : OV) (vRf : OV) (vTx : OV) (vLn : OV) (vHs : HV) (vMd : OV) (vLa : (Nat → Int64)) (vDa : (Nat → UInt64)), K28 x5 vKW vLg vLg2 vLg3 vLg4 vWv vPr vRf vTx vLn vHs vMd vLa vDa → GW C (k0 + 2) (n0 + 12) [bKW G hKW qKW vKW, bLg G (qKW 0) qLg vLg, bLg G (qKW 1) qLg2 vLg2, bLg G (qKW 2) qLg3 vLg3, bLg G (qKW 3) qLg4 vLg4, bWv G (qKW 5) qWv vWv, bPr G (qKW 6) qPr vPr, bRf G (qKW 7) qRf vRf, bTx G (qKW 8) qTx vTx, bLn G (qKW 9) qLn vLn, bHo G (qKW 4) qHs vHs, bRo G qHs vHs 0, bRo G qHs vHs 1, bRo G qHs vHs 2, bRo G qHs vHs 3, bRo G qHs vHs 4, bRo G qHs vHs 5, bRo G qHs vHs 6, bRo G qHs vHs 7, bMd G hMd qMd vMd, bLa G aLa vLa, bDa G aDa vDa] 28 [(0, .ref bS), (1, .ref hKW), (2, .ref hMd), (3, .ref aLa), (4, .ref aDa), (5, .int x5)] []) {x5 : Int32} {vKW : OV} {vLg : OV} {vLg2 : OV} {vLg3 : OV} {vLg4 : OV} {vWv : OV} {vPr : OV} {vRf : OV} {vTx : OV} {vLn : OV} {vHs : HV} {vMd : OV} {vLa : (Nat → Int64)} {vDa : (Nat → UInt64)} (hw : wp_L_law_1522 L xs K28 x5 vKW vLg vLg2 vLg3 vLg4 vWv vPr vRf vTx vLn vHs vMd vLa vDa) : GW C (k0 + 1) (n0 + 6) [bKW G hKW qKW vKW, bLg G (qKW 0) qLg vLg, bLg G (qKW 1) qLg2 vLg2, bLg G (qKW 2) qLg3 vLg3, bLg G (qKW 3) qLg4 vLg4, bWv G (qKW 5) qWv vWv, bPr G (qKW 6) qPr vPr, bRf G (qKW 7) qRf vRf, bTx G (qKW 8) qTx vTx, bLn G (qKW 9) qLn vLn, bHo G (qKW 4) qHs vHs, bRo G qHs vHs 0, bRo G qHs vHs 1, bRo G qHs vHs 2, bRo G qHs vHs 3, bRo G qHs vHs 4, bRo G qHs vHs 5, bRo G qHs vHs 6, bRo G qHs vHs 7, bMd G hMd qMd vMd, bLa G aLa vLa, bDa G aDa vDa] 1522 [(0, .ref bS), (1, .ref hKW), (2, .ref hMd), (3, .ref aLa), (4, .ref aDa), (5, .int x5)] [] := by
  unfold wp_L_law_1522 at hw
  refine gw_goto (tgt := 2081) F dL_law_1522 (by decide) ?_
  refine gw_widen (k' := k0 + 2) (n' := n0 + 12) (by omega) (by omega) ?_
  exact lb_L_law_2081 hl0 hk F E hK28 hw
def wp_L_law_1580 (L : Nat) (xs : Nat → Int32) (K28 : Int32 → OV → OV → OV → OV → OV → OV → OV → OV → OV → OV → HV → OV → (Nat → Int64) → (Nat → UInt64) → Prop) (x5 : Int32) (vKW : OV) (vLg : OV) (vLg2 : OV) (vLg3 : OV) (vLg4 : OV) (vWv : OV) (vPr : OV) (vRf : OV) (vTx : OV) (vLn : OV) (vHs : HV) (vMd : OV) (vLa : (Nat → Int64)) (vDa : (Nat → UInt64)) : Prop :=
  (wp_L_law_2081 L xs K28 x5 vKW vLg vLg2 vLg3 vLg4 vWv vPr vRf vTx vLn vHs vMd vLa vDa)
set_option maxRecDepth 20000 in
theorem lb_L_law_1580 {l : Launch} {D : va_G} {G : Nat → ClassId} {C : Cx} {bS L : Nat} {xs : Nat → Int32} {k0 n0 : Nat} {hKW : Nat} {qKW : Nat → Nat} {qLg : Nat → Nat} {qLg2 : Nat → Nat} {qLg3 : Nat → Nat} {qLg4 : Nat → Nat} {qWv : Nat → Nat} {qPr : Nat → Nat} {qRf : Nat → Nat} {qTx : Nat → Nat} {qLn : Nat → Nat} {qHs : Nat → Nat → Nat} {hMd : Nat} {qMd : Nat → Nat} {aLa : Nat} {aDa : Nat} {K28 : Int32 → OV → OV → OV → OV → OV → OV → OV → OV → OV → OV → HV → OV → (Nat → Int64) → (Nat → UInt64) → Prop} (hl0 : l.stackTraces = false) (hk : k0 + 20 ≤ 603072 ∧ n0 + 100 ≤ 7207018) (F : GF C XL cL_law lw_tbl RL room_1 9 (some .boolean) D G l) (E : GL C bS L xs) (hK28 : ∀ (x5 : Int32) (vKW : OV) (vLg : OV) (vLg2 : OV) (vLg3 : OV) (vLg4 : OV) (vWv : OV) (vPr : OV) (vRf : OV) (vTx : OV) (vLn : OV) (vHs : HV) (vMd : OV) (vLa : (Nat → Int64)) (vDa : (Nat → UInt64)), K28 x5 vKW vLg vLg2 vLg3 vLg4 vWv vPr vRf vTx vLn vHs vMd vLa vDa → GW C (k0 + 2) (n0 + 12) [bKW G hKW qKW vKW, bLg G (qKW 0) qLg vLg, bLg G (qKW 1) qLg2 vLg2, bLg G (qKW 2) qLg3 vLg3, bLg G (qKW 3) qLg4 vLg4, bWv G (qKW 5) qWv vWv, bPr G (qKW 6) qPr vPr, bRf G (qKW 7) qRf vRf, bTx G (qKW 8) qTx vTx, bLn G (qKW 9) qLn vLn, bHo G (qKW 4) qHs vHs, bRo G qHs vHs 0, bRo G qHs vHs 1, bRo G qHs vHs 2, bRo G qHs vHs 3, bRo G qHs vHs 4, bRo G qHs vHs 5, bRo G qHs vHs 6, bRo G qHs vHs 7, bMd G hMd qMd vMd, bLa G aLa vLa, bDa G aDa vDa] 28 [(0, .ref bS), (1, .ref hKW), (2, .ref hMd), (3, .ref aLa), (4, .ref aDa), (5, .int x5)] []) {x5 : Int32} {vKW : OV} {vLg : OV} {vLg2 : OV} {vLg3 : OV} {vLg4 : OV} {vWv : OV} {vPr : OV} {vRf : OV} {vTx : OV} {vLn : OV} {vHs : HV} {vMd : OV} {vLa : (Nat → Int64)} {vDa : (Nat → UInt64)} (hw : wp_L_law_1580 L xs K28 x5 vKW vLg vLg2 vLg3 vLg4 vWv vPr vRf vTx vLn vHs vMd vLa vDa) : GW C (k0 + 1) (n0 + 6) [bKW G hKW qKW vKW, bLg G (qKW 0) qLg vLg, bLg G (qKW 1) qLg2 vLg2, bLg G (qKW 2) qLg3 vLg3, bLg G (qKW 3) qLg4 vLg4, bWv G (qKW 5) qWv vWv, bPr G (qKW 6) qPr vPr, bRf G (qKW 7) qRf vRf, bTx G (qKW 8) qTx vTx, bLn G (qKW 9) qLn vLn, bHo G (qKW 4) qHs vHs, bRo G qHs vHs 0, bRo G qHs vHs 1, bRo G qHs vHs 2, bRo G qHs vHs 3, bRo G qHs vHs 4, bRo G qHs vHs 5, bRo G qHs vHs 6, bRo G qHs vHs 7, bMd G hMd qMd vMd, bLa G aLa vLa, bDa G aDa vDa] 1580 [(0, .ref bS), (1, .ref hKW), (2, .ref hMd), (3, .ref aLa), (4, .ref aDa), (5, .int x5)] [] := by
  unfold wp_L_law_1580 at hw
  refine gw_goto (tgt := 2081) F dL_law_1580 (by decide) ?_
  refine gw_widen (k' := k0 + 2) (n' := n0 + 12) (by omega) (by omega) ?_
  exact lb_L_law_2081 hl0 hk F E hK28 hw
def wp_L_law_1624 (L : Nat) (xs : Nat → Int32) (K28 : Int32 → OV → OV → OV → OV → OV → OV → OV → OV → OV → OV → HV → OV → (Nat → Int64) → (Nat → UInt64) → Prop) (x5 : Int32) (vKW : OV) (vLg : OV) (vLg2 : OV) (vLg3 : OV) (vLg4 : OV) (vWv : OV) (vPr : OV) (vRf : OV) (vTx : OV) (vLn : OV) (vHs : HV) (vMd : OV) (vLa : (Nat → Int64)) (vDa : (Nat → UInt64)) : Prop :=
  (wp_L_law_2081 L xs K28 x5 vKW vLg vLg2 vLg3 vLg4 vWv vPr vRf vTx vLn vHs vMd vLa vDa)
set_option maxRecDepth 20000 in
theorem lb_L_law_1624 {l : Launch} {D : va_G} {G : Nat → ClassId} {C : Cx} {bS L : Nat} {xs : Nat → Int32} {k0 n0 : Nat} {hKW : Nat} {qKW : Nat → Nat} {qLg : Nat → Nat} {qLg2 : Nat → Nat} {qLg3 : Nat → Nat} {qLg4 : Nat → Nat} {qWv : Nat → Nat} {qPr : Nat → Nat} {qRf : Nat → Nat} {qTx : Nat → Nat} {qLn : Nat → Nat} {qHs : Nat → Nat → Nat} {hMd : Nat} {qMd : Nat → Nat} {aLa : Nat} {aDa : Nat} {K28 : Int32 → OV → OV → OV → OV → OV → OV → OV → OV → OV → OV → HV → OV → (Nat → Int64) → (Nat → UInt64) → Prop} (hl0 : l.stackTraces = false) (hk : k0 + 20 ≤ 603072 ∧ n0 + 100 ≤ 7207018) (F : GF C XL cL_law lw_tbl RL room_1 9 (some .boolean) D G l) (E : GL C bS L xs) (hK28 : ∀ (x5 : Int32) (vKW : OV) (vLg : OV) (vLg2 : OV) (vLg3 : OV) (vLg4 : OV) (vWv : OV) (vPr : OV) (vRf : OV) (vTx : OV) (vLn : OV) (vHs : HV) (vMd : OV) (vLa : (Nat → Int64)) (vDa : (Nat → UInt64)), K28 x5 vKW vLg vLg2 vLg3 vLg4 vWv vPr vRf vTx vLn vHs vMd vLa vDa → GW C (k0 + 2) (n0 + 12) [bKW G hKW qKW vKW, bLg G (qKW 0) qLg vLg, bLg G (qKW 1) qLg2 vLg2, bLg G (qKW 2) qLg3 vLg3, bLg G (qKW 3) qLg4 vLg4, bWv G (qKW 5) qWv vWv, bPr G (qKW 6) qPr vPr, bRf G (qKW 7) qRf vRf, bTx G (qKW 8) qTx vTx, bLn G (qKW 9) qLn vLn, bHo G (qKW 4) qHs vHs, bRo G qHs vHs 0, bRo G qHs vHs 1, bRo G qHs vHs 2, bRo G qHs vHs 3, bRo G qHs vHs 4, bRo G qHs vHs 5, bRo G qHs vHs 6, bRo G qHs vHs 7, bMd G hMd qMd vMd, bLa G aLa vLa, bDa G aDa vDa] 28 [(0, .ref bS), (1, .ref hKW), (2, .ref hMd), (3, .ref aLa), (4, .ref aDa), (5, .int x5)] []) {x5 : Int32} {vKW : OV} {vLg : OV} {vLg2 : OV} {vLg3 : OV} {vLg4 : OV} {vWv : OV} {vPr : OV} {vRf : OV} {vTx : OV} {vLn : OV} {vHs : HV} {vMd : OV} {vLa : (Nat → Int64)} {vDa : (Nat → UInt64)} (hw : wp_L_law_1624 L xs K28 x5 vKW vLg vLg2 vLg3 vLg4 vWv vPr vRf vTx vLn vHs vMd vLa vDa) : GW C (k0 + 1) (n0 + 6) [bKW G hKW qKW vKW, bLg G (qKW 0) qLg vLg, bLg G (qKW 1) qLg2 vLg2, bLg G (qKW 2) qLg3 vLg3, bLg G (qKW 3) qLg4 vLg4, bWv G (qKW 5) qWv vWv, bPr G (qKW 6) qPr vPr, bRf G (qKW 7) qRf vRf, bTx G (qKW 8) qTx vTx, bLn G (qKW 9) qLn vLn, bHo G (qKW 4) qHs vHs, bRo G qHs vHs 0, bRo G qHs vHs 1, bRo G qHs vHs 2, bRo G qHs vHs 3, bRo G qHs vHs 4, bRo G qHs vHs 5, bRo G qHs vHs 6, bRo G qHs vHs 7, bMd G hMd qMd vMd, bLa G aLa vLa, bDa G aDa vDa] 1624 [(0, .ref bS), (1, .ref hKW), (2, .ref hMd), (3, .ref aLa), (4, .ref aDa), (5, .int x5)] [] := by
  unfold wp_L_law_1624 at hw
  refine gw_goto (tgt := 2081) F dL_law_1624 (by decide) ?_
  refine gw_widen (k' := k0 + 2) (n' := n0 + 12) (by omega) (by omega) ?_
  exact lb_L_law_2081 hl0 hk F E hK28 hw
def wp_L_law_1693 (L : Nat) (xs : Nat → Int32) (K28 : Int32 → OV → OV → OV → OV → OV → OV → OV → OV → OV → OV → HV → OV → (Nat → Int64) → (Nat → UInt64) → Prop) (x5 : Int32) (vKW : OV) (vLg : OV) (vLg2 : OV) (vLg3 : OV) (vLg4 : OV) (vWv : OV) (vPr : OV) (vRf : OV) (vTx : OV) (vLn : OV) (vHs : HV) (vMd : OV) (vLa : (Nat → Int64)) (vDa : (Nat → UInt64)) : Prop :=
  (wp_L_law_2081 L xs K28 x5 vKW vLg vLg2 vLg3 vLg4 vWv vPr vRf vTx vLn vHs vMd vLa vDa)
set_option maxRecDepth 20000 in
theorem lb_L_law_1693 {l : Launch} {D : va_G} {G : Nat → ClassId} {C : Cx} {bS L : Nat} {xs : Nat → Int32} {k0 n0 : Nat} {hKW : Nat} {qKW : Nat → Nat} {qLg : Nat → Nat} {qLg2 : Nat → Nat} {qLg3 : Nat → Nat} {qLg4 : Nat → Nat} {qWv : Nat → Nat} {qPr : Nat → Nat} {qRf : Nat → Nat} {qTx : Nat → Nat} {qLn : Nat → Nat} {qHs : Nat → Nat → Nat} {hMd : Nat} {qMd : Nat → Nat} {aLa : Nat} {aDa : Nat} {K28 : Int32 → OV → OV → OV → OV → OV → OV → OV → OV → OV → OV → HV → OV → (Nat → Int64) → (Nat → UInt64) → Prop} (hl0 : l.stackTraces = false) (hk : k0 + 20 ≤ 603072 ∧ n0 + 100 ≤ 7207018) (F : GF C XL cL_law lw_tbl RL room_1 9 (some .boolean) D G l) (E : GL C bS L xs) (hK28 : ∀ (x5 : Int32) (vKW : OV) (vLg : OV) (vLg2 : OV) (vLg3 : OV) (vLg4 : OV) (vWv : OV) (vPr : OV) (vRf : OV) (vTx : OV) (vLn : OV) (vHs : HV) (vMd : OV) (vLa : (Nat → Int64)) (vDa : (Nat → UInt64)), K28 x5 vKW vLg vLg2 vLg3 vLg4 vWv vPr vRf vTx vLn vHs vMd vLa vDa → GW C (k0 + 2) (n0 + 12) [bKW G hKW qKW vKW, bLg G (qKW 0) qLg vLg, bLg G (qKW 1) qLg2 vLg2, bLg G (qKW 2) qLg3 vLg3, bLg G (qKW 3) qLg4 vLg4, bWv G (qKW 5) qWv vWv, bPr G (qKW 6) qPr vPr, bRf G (qKW 7) qRf vRf, bTx G (qKW 8) qTx vTx, bLn G (qKW 9) qLn vLn, bHo G (qKW 4) qHs vHs, bRo G qHs vHs 0, bRo G qHs vHs 1, bRo G qHs vHs 2, bRo G qHs vHs 3, bRo G qHs vHs 4, bRo G qHs vHs 5, bRo G qHs vHs 6, bRo G qHs vHs 7, bMd G hMd qMd vMd, bLa G aLa vLa, bDa G aDa vDa] 28 [(0, .ref bS), (1, .ref hKW), (2, .ref hMd), (3, .ref aLa), (4, .ref aDa), (5, .int x5)] []) {x5 : Int32} {vKW : OV} {vLg : OV} {vLg2 : OV} {vLg3 : OV} {vLg4 : OV} {vWv : OV} {vPr : OV} {vRf : OV} {vTx : OV} {vLn : OV} {vHs : HV} {vMd : OV} {vLa : (Nat → Int64)} {vDa : (Nat → UInt64)} (hw : wp_L_law_1693 L xs K28 x5 vKW vLg vLg2 vLg3 vLg4 vWv vPr vRf vTx vLn vHs vMd vLa vDa) : GW C (k0 + 1) (n0 + 6) [bKW G hKW qKW vKW, bLg G (qKW 0) qLg vLg, bLg G (qKW 1) qLg2 vLg2, bLg G (qKW 2) qLg3 vLg3, bLg G (qKW 3) qLg4 vLg4, bWv G (qKW 5) qWv vWv, bPr G (qKW 6) qPr vPr, bRf G (qKW 7) qRf vRf, bTx G (qKW 8) qTx vTx, bLn G (qKW 9) qLn vLn, bHo G (qKW 4) qHs vHs, bRo G qHs vHs 0, bRo G qHs vHs 1, bRo G qHs vHs 2, bRo G qHs vHs 3, bRo G qHs vHs 4, bRo G qHs vHs 5, bRo G qHs vHs 6, bRo G qHs vHs 7, bMd G hMd qMd vMd, bLa G aLa vLa, bDa G aDa vDa] 1693 [(0, .ref bS), (1, .ref hKW), (2, .ref hMd), (3, .ref aLa), (4, .ref aDa), (5, .int x5)] [] := by
  unfold wp_L_law_1693 at hw
  refine gw_goto (tgt := 2081) F dL_law_1693 (by decide) ?_
  refine gw_widen (k' := k0 + 2) (n' := n0 + 12) (by omega) (by omega) ?_
  exact lb_L_law_2081 hl0 hk F E hK28 hw
def wp_L_law_1729 (L : Nat) (xs : Nat → Int32) (K28 : Int32 → OV → OV → OV → OV → OV → OV → OV → OV → OV → OV → HV → OV → (Nat → Int64) → (Nat → UInt64) → Prop) (x5 s0 s2 : Int32) (vKW : OV) (vLg : OV) (vLg2 : OV) (vLg3 : OV) (vLg4 : OV) (vWv : OV) (vPr : OV) (vRf : OV) (vTx : OV) (vLn : OV) (vHs : HV) (vMd : OV) (vLa : (Nat → Int64)) (vDa : (Nat → UInt64)) : Prop :=
  (wp_X8_line (fun (r_340 : Int32) (v_341 : OV) => ((s0 = r_340 → (wp_L_law_2081 L xs K28 x5 vKW vLg vLg2 vLg3 vLg4 vWv vPr vRf vTx vLn vHs v_341 vLa vDa)) ∧ (¬ (s0 = r_340) → ((0 : Int32) = 1)))) s2 vMd)
set_option maxRecDepth 20000 in
theorem lb_L_law_1729 {l : Launch} {D : va_G} {G : Nat → ClassId} {C : Cx} {bS L : Nat} {xs : Nat → Int32} {k0 n0 : Nat} {hKW : Nat} {qKW : Nat → Nat} {qLg : Nat → Nat} {qLg2 : Nat → Nat} {qLg3 : Nat → Nat} {qLg4 : Nat → Nat} {qWv : Nat → Nat} {qPr : Nat → Nat} {qRf : Nat → Nat} {qTx : Nat → Nat} {qLn : Nat → Nat} {qHs : Nat → Nat → Nat} {hMd : Nat} {qMd : Nat → Nat} {aLa : Nat} {aDa : Nat} {K28 : Int32 → OV → OV → OV → OV → OV → OV → OV → OV → OV → OV → HV → OV → (Nat → Int64) → (Nat → UInt64) → Prop} (hl0 : l.stackTraces = false) (hk : k0 + 20 ≤ 603072 ∧ n0 + 100 ≤ 7207018) (F : GF C XL cL_law lw_tbl RL room_1 9 (some .boolean) D G l) (E : GL C bS L xs) (hK28 : ∀ (x5 : Int32) (vKW : OV) (vLg : OV) (vLg2 : OV) (vLg3 : OV) (vLg4 : OV) (vWv : OV) (vPr : OV) (vRf : OV) (vTx : OV) (vLn : OV) (vHs : HV) (vMd : OV) (vLa : (Nat → Int64)) (vDa : (Nat → UInt64)), K28 x5 vKW vLg vLg2 vLg3 vLg4 vWv vPr vRf vTx vLn vHs vMd vLa vDa → GW C (k0 + 2) (n0 + 12) [bKW G hKW qKW vKW, bLg G (qKW 0) qLg vLg, bLg G (qKW 1) qLg2 vLg2, bLg G (qKW 2) qLg3 vLg3, bLg G (qKW 3) qLg4 vLg4, bWv G (qKW 5) qWv vWv, bPr G (qKW 6) qPr vPr, bRf G (qKW 7) qRf vRf, bTx G (qKW 8) qTx vTx, bLn G (qKW 9) qLn vLn, bHo G (qKW 4) qHs vHs, bRo G qHs vHs 0, bRo G qHs vHs 1, bRo G qHs vHs 2, bRo G qHs vHs 3, bRo G qHs vHs 4, bRo G qHs vHs 5, bRo G qHs vHs 6, bRo G qHs vHs 7, bMd G hMd qMd vMd, bLa G aLa vLa, bDa G aDa vDa] 28 [(0, .ref bS), (1, .ref hKW), (2, .ref hMd), (3, .ref aLa), (4, .ref aDa), (5, .int x5)] []) {x5 s0 s2 : Int32} {vKW : OV} {vLg : OV} {vLg2 : OV} {vLg3 : OV} {vLg4 : OV} {vWv : OV} {vPr : OV} {vRf : OV} {vTx : OV} {vLn : OV} {vHs : HV} {vMd : OV} {vLa : (Nat → Int64)} {vDa : (Nat → UInt64)} (hw : wp_L_law_1729 L xs K28 x5 s0 s2 vKW vLg vLg2 vLg3 vLg4 vWv vPr vRf vTx vLn vHs vMd vLa vDa) : GW C k0 n0 [bKW G hKW qKW vKW, bLg G (qKW 0) qLg vLg, bLg G (qKW 1) qLg2 vLg2, bLg G (qKW 2) qLg3 vLg3, bLg G (qKW 3) qLg4 vLg4, bWv G (qKW 5) qWv vWv, bPr G (qKW 6) qPr vPr, bRf G (qKW 7) qRf vRf, bTx G (qKW 8) qTx vTx, bLn G (qKW 9) qLn vLn, bHo G (qKW 4) qHs vHs, bRo G qHs vHs 0, bRo G qHs vHs 1, bRo G qHs vHs 2, bRo G qHs vHs 3, bRo G qHs vHs 4, bRo G qHs vHs 5, bRo G qHs vHs 6, bRo G qHs vHs 7, bMd G hMd qMd vMd, bLa G aLa vLa, bDa G aDa vDa] 1729 [(0, .ref bS), (1, .ref hKW), (2, .ref hMd), (3, .ref aLa), (4, .ref aDa), (5, .int x5)] [.int s2, .ref hMd, .int s0] := by
  unfold wp_L_law_1729 at hw
  refine gw_callV F (ct_X8_line hw) 1 la_223 rfl rfl rfl hd_X8_line ⟨(Nat.le_of_ble_eq_true rfl), (Nat.le_of_ble_eq_true rfl)⟩ rfl rfl (Nat.le_of_ble_eq_true rfl) ⟨by show _ ≤ 603072; omega, by show _ ≤ 7207018; omega⟩ [0, 1, 2, 3, 4, 5, 6, 7, 8, 9, 10, 11, 12, 13, 14, 15, 16, 17, 18, 20, 21, 19] (bsr := [bKW G hKW qKW vKW, bLg G (qKW 0) qLg vLg, bLg G (qKW 1) qLg2 vLg2, bLg G (qKW 2) qLg3 vLg3, bLg G (qKW 3) qLg4 vLg4, bWv G (qKW 5) qWv vWv, bPr G (qKW 6) qPr vPr, bRf G (qKW 7) qRf vRf, bTx G (qKW 8) qTx vTx, bLn G (qKW 9) qLn vLn, bHo G (qKW 4) qHs vHs, bRo G qHs vHs 0, bRo G qHs vHs 1, bRo G qHs vHs 2, bRo G qHs vHs 3, bRo G qHs vHs 4, bRo G qHs vHs 5, bRo G qHs vHs 6, bRo G qHs vHs 7, bLa G aLa vLa, bDa G aDa vDa]) rfl rfl (q0 := 0) rfl rfl dL_law_1729 ?_
  rintro _ _ ⟨r_340, v_341, rfl, rfl, hw⟩
  refine gw_sel [0, 1, 2, 3, 4, 5, 6, 7, 8, 9, 10, 11, 12, 13, 14, 15, 16, 17, 18, 21, 19, 20] (bs' := [bKW G hKW qKW vKW, bLg G (qKW 0) qLg vLg, bLg G (qKW 1) qLg2 vLg2, bLg G (qKW 2) qLg3 vLg3, bLg G (qKW 3) qLg4 vLg4, bWv G (qKW 5) qWv vWv, bPr G (qKW 6) qPr vPr, bRf G (qKW 7) qRf vRf, bTx G (qKW 8) qTx vTx, bLn G (qKW 9) qLn vLn, bHo G (qKW 4) qHs vHs, bRo G qHs vHs 0, bRo G qHs vHs 1, bRo G qHs vHs 2, bRo G qHs vHs 3, bRo G qHs vHs 4, bRo G qHs vHs 5, bRo G qHs vHs 6, bRo G qHs vHs 7, bMd G hMd qMd v_341, bLa G aLa vLa, bDa G aDa vDa]) rfl rfl ?_
  change GW C k0 n0 _ 1732 _ [.int r_340, .int s0]
  refine gw_icmp_eq (tgt := 2081) F dL_law_1732 (by decide) (fun c_342 => ?_) (fun c_342 => ?_)
  · have hw := hw.1 c_342
    refine gw_widen (k' := k0 + 2) (n' := n0 + 12) (by omega) (by omega) ?_
    exact lb_L_law_2081 hl0 hk F E hK28 hw
  · have hw := hw.2 c_342
    refine gw_iconst (v := (0 : Int32)) F dL_law_1735 ic_iconst_0 ?_
    exact gw_lret F E hw (by omega) (by omega) dL_law_1736
def wp_L_law_1711 (L : Nat) (xs : Nat → Int32) (K28 : Int32 → OV → OV → OV → OV → OV → OV → OV → OV → OV → OV → HV → OV → (Nat → Int64) → (Nat → UInt64) → Prop) (x5 s1 : Int32) (vKW : OV) (vLg : OV) (vLg2 : OV) (vLg3 : OV) (vLg4 : OV) (vWv : OV) (vPr : OV) (vRf : OV) (vTx : OV) (vLn : OV) (vHs : HV) (vMd : OV) (vLa : (Nat → Int64)) (vDa : (Nat → UInt64)) : Prop :=
  (wp_X7_line (fun (r_336 : Int32) (v_337 : OV) => (vp_in (x5 + (1 : Int32)) L ∧ (((xs (x5 + (1 : Int32)).toNatClampNeg) = 0 → (wp_L_law_1729 L xs K28 x5 r_336 (0 : Int32) vKW vLg vLg2 vLg3 vLg4 vWv vPr vRf vTx v_337 vHs vMd vLa vDa)) ∧ (¬ ((xs (x5 + (1 : Int32)).toNatClampNeg) = 0) → (wp_L_law_1729 L xs K28 x5 r_336 (1 : Int32) vKW vLg vLg2 vLg3 vLg4 vWv vPr vRf vTx v_337 vHs vMd vLa vDa))))) s1 vKW vLg vLg2 vLg3 vLg4 vWv vPr vRf vTx vLn vHs)
set_option maxRecDepth 20000 in
theorem lb_L_law_1711 {l : Launch} {D : va_G} {G : Nat → ClassId} {C : Cx} {bS L : Nat} {xs : Nat → Int32} {k0 n0 : Nat} {hKW : Nat} {qKW : Nat → Nat} {qLg : Nat → Nat} {qLg2 : Nat → Nat} {qLg3 : Nat → Nat} {qLg4 : Nat → Nat} {qWv : Nat → Nat} {qPr : Nat → Nat} {qRf : Nat → Nat} {qTx : Nat → Nat} {qLn : Nat → Nat} {qHs : Nat → Nat → Nat} {hMd : Nat} {qMd : Nat → Nat} {aLa : Nat} {aDa : Nat} {K28 : Int32 → OV → OV → OV → OV → OV → OV → OV → OV → OV → OV → HV → OV → (Nat → Int64) → (Nat → UInt64) → Prop} (hl0 : l.stackTraces = false) (hk : k0 + 20 ≤ 603072 ∧ n0 + 100 ≤ 7207018) (F : GF C XL cL_law lw_tbl RL room_1 9 (some .boolean) D G l) (E : GL C bS L xs) (hK28 : ∀ (x5 : Int32) (vKW : OV) (vLg : OV) (vLg2 : OV) (vLg3 : OV) (vLg4 : OV) (vWv : OV) (vPr : OV) (vRf : OV) (vTx : OV) (vLn : OV) (vHs : HV) (vMd : OV) (vLa : (Nat → Int64)) (vDa : (Nat → UInt64)), K28 x5 vKW vLg vLg2 vLg3 vLg4 vWv vPr vRf vTx vLn vHs vMd vLa vDa → GW C (k0 + 2) (n0 + 12) [bKW G hKW qKW vKW, bLg G (qKW 0) qLg vLg, bLg G (qKW 1) qLg2 vLg2, bLg G (qKW 2) qLg3 vLg3, bLg G (qKW 3) qLg4 vLg4, bWv G (qKW 5) qWv vWv, bPr G (qKW 6) qPr vPr, bRf G (qKW 7) qRf vRf, bTx G (qKW 8) qTx vTx, bLn G (qKW 9) qLn vLn, bHo G (qKW 4) qHs vHs, bRo G qHs vHs 0, bRo G qHs vHs 1, bRo G qHs vHs 2, bRo G qHs vHs 3, bRo G qHs vHs 4, bRo G qHs vHs 5, bRo G qHs vHs 6, bRo G qHs vHs 7, bMd G hMd qMd vMd, bLa G aLa vLa, bDa G aDa vDa] 28 [(0, .ref bS), (1, .ref hKW), (2, .ref hMd), (3, .ref aLa), (4, .ref aDa), (5, .int x5)] []) {x5 s1 : Int32} {vKW : OV} {vLg : OV} {vLg2 : OV} {vLg3 : OV} {vLg4 : OV} {vWv : OV} {vPr : OV} {vRf : OV} {vTx : OV} {vLn : OV} {vHs : HV} {vMd : OV} {vLa : (Nat → Int64)} {vDa : (Nat → UInt64)} (hw : wp_L_law_1711 L xs K28 x5 s1 vKW vLg vLg2 vLg3 vLg4 vWv vPr vRf vTx vLn vHs vMd vLa vDa) : GW C k0 n0 [bKW G hKW qKW vKW, bLg G (qKW 0) qLg vLg, bLg G (qKW 1) qLg2 vLg2, bLg G (qKW 2) qLg3 vLg3, bLg G (qKW 3) qLg4 vLg4, bWv G (qKW 5) qWv vWv, bPr G (qKW 6) qPr vPr, bRf G (qKW 7) qRf vRf, bTx G (qKW 8) qTx vTx, bLn G (qKW 9) qLn vLn, bHo G (qKW 4) qHs vHs, bRo G qHs vHs 0, bRo G qHs vHs 1, bRo G qHs vHs 2, bRo G qHs vHs 3, bRo G qHs vHs 4, bRo G qHs vHs 5, bRo G qHs vHs 6, bRo G qHs vHs 7, bMd G hMd qMd vMd, bLa G aLa vLa, bDa G aDa vDa] 1711 [(0, .ref bS), (1, .ref hKW), (2, .ref hMd), (3, .ref aLa), (4, .ref aDa), (5, .int x5)] [.int s1, .ref hKW] := by
  unfold wp_L_law_1711 at hw
  refine gw_callV (F.mono XL_sub) (ct_X7_line hl0 hw) 1 la_220 rfl rfl rfl hd_X7_line ⟨(Nat.le_of_ble_eq_true rfl), (Nat.le_of_ble_eq_true rfl)⟩ rfl rfl (Nat.le_of_ble_eq_true rfl) ⟨by show _ ≤ 603072; omega, by show _ ≤ 7207018; omega⟩ [19, 20, 21, 0, 1, 2, 3, 4, 5, 6, 7, 8, 9, 10, 11, 12, 13, 14, 15, 16, 17, 18] (bsr := [bMd G hMd qMd vMd, bLa G aLa vLa, bDa G aDa vDa]) rfl rfl (q0 := 0) rfl rfl dL_law_1711 ?_
  rintro _ _ ⟨r_336, v_337, rfl, rfl, hw⟩
  refine gw_sel [3, 4, 5, 6, 7, 8, 9, 10, 11, 12, 13, 14, 15, 16, 17, 18, 19, 20, 21, 0, 1, 2] (bs' := [bKW G hKW qKW vKW, bLg G (qKW 0) qLg vLg, bLg G (qKW 1) qLg2 vLg2, bLg G (qKW 2) qLg3 vLg3, bLg G (qKW 3) qLg4 vLg4, bWv G (qKW 5) qWv vWv, bPr G (qKW 6) qPr vPr, bRf G (qKW 7) qRf vRf, bTx G (qKW 8) qTx vTx, bLn G (qKW 9) qLn v_337, bHo G (qKW 4) qHs vHs, bRo G qHs vHs 0, bRo G qHs vHs 1, bRo G qHs vHs 2, bRo G qHs vHs 3, bRo G qHs vHs 4, bRo G qHs vHs 5, bRo G qHs vHs 6, bRo G qHs vHs 7, bMd G hMd qMd vMd, bLa G aLa vLa, bDa G aDa vDa]) rfl rfl ?_
  change GW C k0 n0 _ 1714 _ [.int r_336]
  refine gw_aload_n F dL_law_1714 2 rfl ?_
  refine gw_aload_n F dL_law_1715 0 rfl ?_
  refine gw_iload F dL_law_1716 5 rfl ?_
  refine gw_iconst (v := (1 : Int32)) F dL_law_1718 ic_iconst_1 ?_
  refine gw_iadd F dL_law_1719 ?_
  obtain ⟨h_338, hw⟩ := hw
  refine gw_sld F E h_338 dL_law_1720 ?_
  refine gw_if_eq (tgt := 1728) F dL_law_1721 (by decide) (fun c_339 => ?_) (fun c_339 => ?_)
  · have hw := hw.1 c_339
    refine gw_iconst (v := (0 : Int32)) F dL_law_1728 ic_iconst_0 ?_
    exact lb_L_law_1729 hl0 hk F E hK28 hw
  · have hw := hw.2 c_339
    refine gw_iconst (v := (1 : Int32)) F dL_law_1724 ic_iconst_1 ?_
    refine gw_goto (tgt := 1729) F dL_law_1725 (by decide) ?_
    exact lb_L_law_1729 hl0 hk F E hK28 hw
def wp_L_law_1790 (L : Nat) (xs : Nat → Int32) (K28 : Int32 → OV → OV → OV → OV → OV → OV → OV → OV → OV → OV → HV → OV → (Nat → Int64) → (Nat → UInt64) → Prop) (x5 : Int32) (vKW : OV) (vLg : OV) (vLg2 : OV) (vLg3 : OV) (vLg4 : OV) (vWv : OV) (vPr : OV) (vRf : OV) (vTx : OV) (vLn : OV) (vHs : HV) (vMd : OV) (vLa : (Nat → Int64)) (vDa : (Nat → UInt64)) : Prop :=
  (wp_L_law_2081 L xs K28 x5 vKW vLg vLg2 vLg3 vLg4 vWv vPr vRf vTx vLn vHs vMd vLa vDa)
set_option maxRecDepth 20000 in
theorem lb_L_law_1790 {l : Launch} {D : va_G} {G : Nat → ClassId} {C : Cx} {bS L : Nat} {xs : Nat → Int32} {k0 n0 : Nat} {hKW : Nat} {qKW : Nat → Nat} {qLg : Nat → Nat} {qLg2 : Nat → Nat} {qLg3 : Nat → Nat} {qLg4 : Nat → Nat} {qWv : Nat → Nat} {qPr : Nat → Nat} {qRf : Nat → Nat} {qTx : Nat → Nat} {qLn : Nat → Nat} {qHs : Nat → Nat → Nat} {hMd : Nat} {qMd : Nat → Nat} {aLa : Nat} {aDa : Nat} {K28 : Int32 → OV → OV → OV → OV → OV → OV → OV → OV → OV → OV → HV → OV → (Nat → Int64) → (Nat → UInt64) → Prop} (hl0 : l.stackTraces = false) (hk : k0 + 20 ≤ 603072 ∧ n0 + 100 ≤ 7207018) (F : GF C XL cL_law lw_tbl RL room_1 9 (some .boolean) D G l) (E : GL C bS L xs) (hK28 : ∀ (x5 : Int32) (vKW : OV) (vLg : OV) (vLg2 : OV) (vLg3 : OV) (vLg4 : OV) (vWv : OV) (vPr : OV) (vRf : OV) (vTx : OV) (vLn : OV) (vHs : HV) (vMd : OV) (vLa : (Nat → Int64)) (vDa : (Nat → UInt64)), K28 x5 vKW vLg vLg2 vLg3 vLg4 vWv vPr vRf vTx vLn vHs vMd vLa vDa → GW C (k0 + 2) (n0 + 12) [bKW G hKW qKW vKW, bLg G (qKW 0) qLg vLg, bLg G (qKW 1) qLg2 vLg2, bLg G (qKW 2) qLg3 vLg3, bLg G (qKW 3) qLg4 vLg4, bWv G (qKW 5) qWv vWv, bPr G (qKW 6) qPr vPr, bRf G (qKW 7) qRf vRf, bTx G (qKW 8) qTx vTx, bLn G (qKW 9) qLn vLn, bHo G (qKW 4) qHs vHs, bRo G qHs vHs 0, bRo G qHs vHs 1, bRo G qHs vHs 2, bRo G qHs vHs 3, bRo G qHs vHs 4, bRo G qHs vHs 5, bRo G qHs vHs 6, bRo G qHs vHs 7, bMd G hMd qMd vMd, bLa G aLa vLa, bDa G aDa vDa] 28 [(0, .ref bS), (1, .ref hKW), (2, .ref hMd), (3, .ref aLa), (4, .ref aDa), (5, .int x5)] []) {x5 : Int32} {vKW : OV} {vLg : OV} {vLg2 : OV} {vLg3 : OV} {vLg4 : OV} {vWv : OV} {vPr : OV} {vRf : OV} {vTx : OV} {vLn : OV} {vHs : HV} {vMd : OV} {vLa : (Nat → Int64)} {vDa : (Nat → UInt64)} (hw : wp_L_law_1790 L xs K28 x5 vKW vLg vLg2 vLg3 vLg4 vWv vPr vRf vTx vLn vHs vMd vLa vDa) : GW C (k0 + 1) (n0 + 6) [bKW G hKW qKW vKW, bLg G (qKW 0) qLg vLg, bLg G (qKW 1) qLg2 vLg2, bLg G (qKW 2) qLg3 vLg3, bLg G (qKW 3) qLg4 vLg4, bWv G (qKW 5) qWv vWv, bPr G (qKW 6) qPr vPr, bRf G (qKW 7) qRf vRf, bTx G (qKW 8) qTx vTx, bLn G (qKW 9) qLn vLn, bHo G (qKW 4) qHs vHs, bRo G qHs vHs 0, bRo G qHs vHs 1, bRo G qHs vHs 2, bRo G qHs vHs 3, bRo G qHs vHs 4, bRo G qHs vHs 5, bRo G qHs vHs 6, bRo G qHs vHs 7, bMd G hMd qMd vMd, bLa G aLa vLa, bDa G aDa vDa] 1790 [(0, .ref bS), (1, .ref hKW), (2, .ref hMd), (3, .ref aLa), (4, .ref aDa), (5, .int x5)] [] := by
  unfold wp_L_law_1790 at hw
  refine gw_goto (tgt := 2081) F dL_law_1790 (by decide) ?_
  refine gw_widen (k' := k0 + 2) (n' := n0 + 12) (by omega) (by omega) ?_
  exact lb_L_law_2081 hl0 hk F E hK28 hw
def wp_L_law_1855 (L : Nat) (xs : Nat → Int32) (K28 : Int32 → OV → OV → OV → OV → OV → OV → OV → OV → OV → OV → HV → OV → (Nat → Int64) → (Nat → UInt64) → Prop) (x5 : Int32) (vKW : OV) (vLg : OV) (vLg2 : OV) (vLg3 : OV) (vLg4 : OV) (vWv : OV) (vPr : OV) (vRf : OV) (vTx : OV) (vLn : OV) (vHs : HV) (vMd : OV) (vLa : (Nat → Int64)) (vDa : (Nat → UInt64)) : Prop :=
  (wp_L_law_2081 L xs K28 x5 vKW vLg vLg2 vLg3 vLg4 vWv vPr vRf vTx vLn vHs vMd vLa vDa)
set_option maxRecDepth 20000 in
theorem lb_L_law_1855 {l : Launch} {D : va_G} {G : Nat → ClassId} {C : Cx} {bS L : Nat} {xs : Nat → Int32} {k0 n0 : Nat} {hKW : Nat} {qKW : Nat → Nat} {qLg : Nat → Nat} {qLg2 : Nat → Nat} {qLg3 : Nat → Nat} {qLg4 : Nat → Nat} {qWv : Nat → Nat} {qPr : Nat → Nat} {qRf : Nat → Nat} {qTx : Nat → Nat} {qLn : Nat → Nat} {qHs : Nat → Nat → Nat} {hMd : Nat} {qMd : Nat → Nat} {aLa : Nat} {aDa : Nat} {K28 : Int32 → OV → OV → OV → OV → OV → OV → OV → OV → OV → OV → HV → OV → (Nat → Int64) → (Nat → UInt64) → Prop} (hl0 : l.stackTraces = false) (hk : k0 + 20 ≤ 603072 ∧ n0 + 100 ≤ 7207018) (F : GF C XL cL_law lw_tbl RL room_1 9 (some .boolean) D G l) (E : GL C bS L xs) (hK28 : ∀ (x5 : Int32) (vKW : OV) (vLg : OV) (vLg2 : OV) (vLg3 : OV) (vLg4 : OV) (vWv : OV) (vPr : OV) (vRf : OV) (vTx : OV) (vLn : OV) (vHs : HV) (vMd : OV) (vLa : (Nat → Int64)) (vDa : (Nat → UInt64)), K28 x5 vKW vLg vLg2 vLg3 vLg4 vWv vPr vRf vTx vLn vHs vMd vLa vDa → GW C (k0 + 2) (n0 + 12) [bKW G hKW qKW vKW, bLg G (qKW 0) qLg vLg, bLg G (qKW 1) qLg2 vLg2, bLg G (qKW 2) qLg3 vLg3, bLg G (qKW 3) qLg4 vLg4, bWv G (qKW 5) qWv vWv, bPr G (qKW 6) qPr vPr, bRf G (qKW 7) qRf vRf, bTx G (qKW 8) qTx vTx, bLn G (qKW 9) qLn vLn, bHo G (qKW 4) qHs vHs, bRo G qHs vHs 0, bRo G qHs vHs 1, bRo G qHs vHs 2, bRo G qHs vHs 3, bRo G qHs vHs 4, bRo G qHs vHs 5, bRo G qHs vHs 6, bRo G qHs vHs 7, bMd G hMd qMd vMd, bLa G aLa vLa, bDa G aDa vDa] 28 [(0, .ref bS), (1, .ref hKW), (2, .ref hMd), (3, .ref aLa), (4, .ref aDa), (5, .int x5)] []) {x5 : Int32} {vKW : OV} {vLg : OV} {vLg2 : OV} {vLg3 : OV} {vLg4 : OV} {vWv : OV} {vPr : OV} {vRf : OV} {vTx : OV} {vLn : OV} {vHs : HV} {vMd : OV} {vLa : (Nat → Int64)} {vDa : (Nat → UInt64)} (hw : wp_L_law_1855 L xs K28 x5 vKW vLg vLg2 vLg3 vLg4 vWv vPr vRf vTx vLn vHs vMd vLa vDa) : GW C (k0 + 1) (n0 + 6) [bKW G hKW qKW vKW, bLg G (qKW 0) qLg vLg, bLg G (qKW 1) qLg2 vLg2, bLg G (qKW 2) qLg3 vLg3, bLg G (qKW 3) qLg4 vLg4, bWv G (qKW 5) qWv vWv, bPr G (qKW 6) qPr vPr, bRf G (qKW 7) qRf vRf, bTx G (qKW 8) qTx vTx, bLn G (qKW 9) qLn vLn, bHo G (qKW 4) qHs vHs, bRo G qHs vHs 0, bRo G qHs vHs 1, bRo G qHs vHs 2, bRo G qHs vHs 3, bRo G qHs vHs 4, bRo G qHs vHs 5, bRo G qHs vHs 6, bRo G qHs vHs 7, bMd G hMd qMd vMd, bLa G aLa vLa, bDa G aDa vDa] 1855 [(0, .ref bS), (1, .ref hKW), (2, .ref hMd), (3, .ref aLa), (4, .ref aDa), (5, .int x5)] [] := by
  unfold wp_L_law_1855 at hw
  refine gw_goto (tgt := 2081) F dL_law_1855 (by decide) ?_
  refine gw_widen (k' := k0 + 2) (n' := n0 + 12) (by omega) (by omega) ?_
  exact lb_L_law_2081 hl0 hk F E hK28 hw
def wp_L_law_1853 (L : Nat) (xs : Nat → Int32) (K28 : Int32 → OV → OV → OV → OV → OV → OV → OV → OV → OV → OV → HV → OV → (Nat → Int64) → (Nat → UInt64) → Prop) (vKW : OV) (vLg : OV) (vLg2 : OV) (vLg3 : OV) (vLg4 : OV) (vWv : OV) (vPr : OV) (vRf : OV) (vTx : OV) (vLn : OV) (vHs : HV) (vMd : OV) (vLa : (Nat → Int64)) (vDa : (Nat → UInt64)) : Prop :=
  ((0 : Int32) = 1)
set_option maxRecDepth 20000 in
theorem lb_L_law_1853 {l : Launch} {D : va_G} {G : Nat → ClassId} {C : Cx} {bS L : Nat} {xs : Nat → Int32} {k0 n0 : Nat} {hKW : Nat} {qKW : Nat → Nat} {qLg : Nat → Nat} {qLg2 : Nat → Nat} {qLg3 : Nat → Nat} {qLg4 : Nat → Nat} {qWv : Nat → Nat} {qPr : Nat → Nat} {qRf : Nat → Nat} {qTx : Nat → Nat} {qLn : Nat → Nat} {qHs : Nat → Nat → Nat} {hMd : Nat} {qMd : Nat → Nat} {aLa : Nat} {aDa : Nat} {K28 : Int32 → OV → OV → OV → OV → OV → OV → OV → OV → OV → OV → HV → OV → (Nat → Int64) → (Nat → UInt64) → Prop} (hl0 : l.stackTraces = false) (hk : k0 + 20 ≤ 603072 ∧ n0 + 100 ≤ 7207018) (F : GF C XL cL_law lw_tbl RL room_1 9 (some .boolean) D G l) (E : GL C bS L xs) (hK28 : ∀ (x5 : Int32) (vKW : OV) (vLg : OV) (vLg2 : OV) (vLg3 : OV) (vLg4 : OV) (vWv : OV) (vPr : OV) (vRf : OV) (vTx : OV) (vLn : OV) (vHs : HV) (vMd : OV) (vLa : (Nat → Int64)) (vDa : (Nat → UInt64)), K28 x5 vKW vLg vLg2 vLg3 vLg4 vWv vPr vRf vTx vLn vHs vMd vLa vDa → GW C (k0 + 2) (n0 + 12) [bKW G hKW qKW vKW, bLg G (qKW 0) qLg vLg, bLg G (qKW 1) qLg2 vLg2, bLg G (qKW 2) qLg3 vLg3, bLg G (qKW 3) qLg4 vLg4, bWv G (qKW 5) qWv vWv, bPr G (qKW 6) qPr vPr, bRf G (qKW 7) qRf vRf, bTx G (qKW 8) qTx vTx, bLn G (qKW 9) qLn vLn, bHo G (qKW 4) qHs vHs, bRo G qHs vHs 0, bRo G qHs vHs 1, bRo G qHs vHs 2, bRo G qHs vHs 3, bRo G qHs vHs 4, bRo G qHs vHs 5, bRo G qHs vHs 6, bRo G qHs vHs 7, bMd G hMd qMd vMd, bLa G aLa vLa, bDa G aDa vDa] 28 [(0, .ref bS), (1, .ref hKW), (2, .ref hMd), (3, .ref aLa), (4, .ref aDa), (5, .int x5)] []) {vKW : OV} {vLg : OV} {vLg2 : OV} {vLg3 : OV} {vLg4 : OV} {vWv : OV} {vPr : OV} {vRf : OV} {vTx : OV} {vLn : OV} {vHs : HV} {vMd : OV} {vLa : (Nat → Int64)} {vDa : (Nat → UInt64)} (hw : wp_L_law_1853 L xs K28 vKW vLg vLg2 vLg3 vLg4 vWv vPr vRf vTx vLn vHs vMd vLa vDa) : GW C (k0 + 1) (n0 + 6) [bKW G hKW qKW vKW, bLg G (qKW 0) qLg vLg, bLg G (qKW 1) qLg2 vLg2, bLg G (qKW 2) qLg3 vLg3, bLg G (qKW 3) qLg4 vLg4, bWv G (qKW 5) qWv vWv, bPr G (qKW 6) qPr vPr, bRf G (qKW 7) qRf vRf, bTx G (qKW 8) qTx vTx, bLn G (qKW 9) qLn vLn, bHo G (qKW 4) qHs vHs, bRo G qHs vHs 0, bRo G qHs vHs 1, bRo G qHs vHs 2, bRo G qHs vHs 3, bRo G qHs vHs 4, bRo G qHs vHs 5, bRo G qHs vHs 6, bRo G qHs vHs 7, bMd G hMd qMd vMd, bLa G aLa vLa, bDa G aDa vDa] 1853 [] [] := by
  unfold wp_L_law_1853 at hw
  refine gw_iconst (v := (0 : Int32)) F dL_law_1853 ic_iconst_0 ?_
  exact gw_lret F E hw (by omega) (by omega) dL_law_1854
def wp_L_law_1921 (L : Nat) (xs : Nat → Int32) (K28 : Int32 → OV → OV → OV → OV → OV → OV → OV → OV → OV → OV → HV → OV → (Nat → Int64) → (Nat → UInt64) → Prop) (x5 : Int32) (vKW : OV) (vLg : OV) (vLg2 : OV) (vLg3 : OV) (vLg4 : OV) (vWv : OV) (vPr : OV) (vRf : OV) (vTx : OV) (vLn : OV) (vHs : HV) (vMd : OV) (vLa : (Nat → Int64)) (vDa : (Nat → UInt64)) : Prop :=
  (wp_L_law_2081 L xs K28 x5 vKW vLg vLg2 vLg3 vLg4 vWv vPr vRf vTx vLn vHs vMd vLa vDa)
set_option maxRecDepth 20000 in
theorem lb_L_law_1921 {l : Launch} {D : va_G} {G : Nat → ClassId} {C : Cx} {bS L : Nat} {xs : Nat → Int32} {k0 n0 : Nat} {hKW : Nat} {qKW : Nat → Nat} {qLg : Nat → Nat} {qLg2 : Nat → Nat} {qLg3 : Nat → Nat} {qLg4 : Nat → Nat} {qWv : Nat → Nat} {qPr : Nat → Nat} {qRf : Nat → Nat} {qTx : Nat → Nat} {qLn : Nat → Nat} {qHs : Nat → Nat → Nat} {hMd : Nat} {qMd : Nat → Nat} {aLa : Nat} {aDa : Nat} {K28 : Int32 → OV → OV → OV → OV → OV → OV → OV → OV → OV → OV → HV → OV → (Nat → Int64) → (Nat → UInt64) → Prop} (hl0 : l.stackTraces = false) (hk : k0 + 20 ≤ 603072 ∧ n0 + 100 ≤ 7207018) (F : GF C XL cL_law lw_tbl RL room_1 9 (some .boolean) D G l) (E : GL C bS L xs) (hK28 : ∀ (x5 : Int32) (vKW : OV) (vLg : OV) (vLg2 : OV) (vLg3 : OV) (vLg4 : OV) (vWv : OV) (vPr : OV) (vRf : OV) (vTx : OV) (vLn : OV) (vHs : HV) (vMd : OV) (vLa : (Nat → Int64)) (vDa : (Nat → UInt64)), K28 x5 vKW vLg vLg2 vLg3 vLg4 vWv vPr vRf vTx vLn vHs vMd vLa vDa → GW C (k0 + 2) (n0 + 12) [bKW G hKW qKW vKW, bLg G (qKW 0) qLg vLg, bLg G (qKW 1) qLg2 vLg2, bLg G (qKW 2) qLg3 vLg3, bLg G (qKW 3) qLg4 vLg4, bWv G (qKW 5) qWv vWv, bPr G (qKW 6) qPr vPr, bRf G (qKW 7) qRf vRf, bTx G (qKW 8) qTx vTx, bLn G (qKW 9) qLn vLn, bHo G (qKW 4) qHs vHs, bRo G qHs vHs 0, bRo G qHs vHs 1, bRo G qHs vHs 2, bRo G qHs vHs 3, bRo G qHs vHs 4, bRo G qHs vHs 5, bRo G qHs vHs 6, bRo G qHs vHs 7, bMd G hMd qMd vMd, bLa G aLa vLa, bDa G aDa vDa] 28 [(0, .ref bS), (1, .ref hKW), (2, .ref hMd), (3, .ref aLa), (4, .ref aDa), (5, .int x5)] []) {x5 : Int32} {vKW : OV} {vLg : OV} {vLg2 : OV} {vLg3 : OV} {vLg4 : OV} {vWv : OV} {vPr : OV} {vRf : OV} {vTx : OV} {vLn : OV} {vHs : HV} {vMd : OV} {vLa : (Nat → Int64)} {vDa : (Nat → UInt64)} (hw : wp_L_law_1921 L xs K28 x5 vKW vLg vLg2 vLg3 vLg4 vWv vPr vRf vTx vLn vHs vMd vLa vDa) : GW C (k0 + 1) (n0 + 6) [bKW G hKW qKW vKW, bLg G (qKW 0) qLg vLg, bLg G (qKW 1) qLg2 vLg2, bLg G (qKW 2) qLg3 vLg3, bLg G (qKW 3) qLg4 vLg4, bWv G (qKW 5) qWv vWv, bPr G (qKW 6) qPr vPr, bRf G (qKW 7) qRf vRf, bTx G (qKW 8) qTx vTx, bLn G (qKW 9) qLn vLn, bHo G (qKW 4) qHs vHs, bRo G qHs vHs 0, bRo G qHs vHs 1, bRo G qHs vHs 2, bRo G qHs vHs 3, bRo G qHs vHs 4, bRo G qHs vHs 5, bRo G qHs vHs 6, bRo G qHs vHs 7, bMd G hMd qMd vMd, bLa G aLa vLa, bDa G aDa vDa] 1921 [(0, .ref bS), (1, .ref hKW), (2, .ref hMd), (3, .ref aLa), (4, .ref aDa), (5, .int x5)] [] := by
  unfold wp_L_law_1921 at hw
  refine gw_goto (tgt := 2081) F dL_law_1921 (by decide) ?_
  refine gw_widen (k' := k0 + 2) (n' := n0 + 12) (by omega) (by omega) ?_
  exact lb_L_law_2081 hl0 hk F E hK28 hw
def wp_L_law_1919 (L : Nat) (xs : Nat → Int32) (K28 : Int32 → OV → OV → OV → OV → OV → OV → OV → OV → OV → OV → HV → OV → (Nat → Int64) → (Nat → UInt64) → Prop) (vKW : OV) (vLg : OV) (vLg2 : OV) (vLg3 : OV) (vLg4 : OV) (vWv : OV) (vPr : OV) (vRf : OV) (vTx : OV) (vLn : OV) (vHs : HV) (vMd : OV) (vLa : (Nat → Int64)) (vDa : (Nat → UInt64)) : Prop :=
  ((0 : Int32) = 1)
set_option maxRecDepth 20000 in
theorem lb_L_law_1919 {l : Launch} {D : va_G} {G : Nat → ClassId} {C : Cx} {bS L : Nat} {xs : Nat → Int32} {k0 n0 : Nat} {hKW : Nat} {qKW : Nat → Nat} {qLg : Nat → Nat} {qLg2 : Nat → Nat} {qLg3 : Nat → Nat} {qLg4 : Nat → Nat} {qWv : Nat → Nat} {qPr : Nat → Nat} {qRf : Nat → Nat} {qTx : Nat → Nat} {qLn : Nat → Nat} {qHs : Nat → Nat → Nat} {hMd : Nat} {qMd : Nat → Nat} {aLa : Nat} {aDa : Nat} {K28 : Int32 → OV → OV → OV → OV → OV → OV → OV → OV → OV → OV → HV → OV → (Nat → Int64) → (Nat → UInt64) → Prop} (hl0 : l.stackTraces = false) (hk : k0 + 20 ≤ 603072 ∧ n0 + 100 ≤ 7207018) (F : GF C XL cL_law lw_tbl RL room_1 9 (some .boolean) D G l) (E : GL C bS L xs) (hK28 : ∀ (x5 : Int32) (vKW : OV) (vLg : OV) (vLg2 : OV) (vLg3 : OV) (vLg4 : OV) (vWv : OV) (vPr : OV) (vRf : OV) (vTx : OV) (vLn : OV) (vHs : HV) (vMd : OV) (vLa : (Nat → Int64)) (vDa : (Nat → UInt64)), K28 x5 vKW vLg vLg2 vLg3 vLg4 vWv vPr vRf vTx vLn vHs vMd vLa vDa → GW C (k0 + 2) (n0 + 12) [bKW G hKW qKW vKW, bLg G (qKW 0) qLg vLg, bLg G (qKW 1) qLg2 vLg2, bLg G (qKW 2) qLg3 vLg3, bLg G (qKW 3) qLg4 vLg4, bWv G (qKW 5) qWv vWv, bPr G (qKW 6) qPr vPr, bRf G (qKW 7) qRf vRf, bTx G (qKW 8) qTx vTx, bLn G (qKW 9) qLn vLn, bHo G (qKW 4) qHs vHs, bRo G qHs vHs 0, bRo G qHs vHs 1, bRo G qHs vHs 2, bRo G qHs vHs 3, bRo G qHs vHs 4, bRo G qHs vHs 5, bRo G qHs vHs 6, bRo G qHs vHs 7, bMd G hMd qMd vMd, bLa G aLa vLa, bDa G aDa vDa] 28 [(0, .ref bS), (1, .ref hKW), (2, .ref hMd), (3, .ref aLa), (4, .ref aDa), (5, .int x5)] []) {vKW : OV} {vLg : OV} {vLg2 : OV} {vLg3 : OV} {vLg4 : OV} {vWv : OV} {vPr : OV} {vRf : OV} {vTx : OV} {vLn : OV} {vHs : HV} {vMd : OV} {vLa : (Nat → Int64)} {vDa : (Nat → UInt64)} (hw : wp_L_law_1919 L xs K28 vKW vLg vLg2 vLg3 vLg4 vWv vPr vRf vTx vLn vHs vMd vLa vDa) : GW C (k0 + 1) (n0 + 6) [bKW G hKW qKW vKW, bLg G (qKW 0) qLg vLg, bLg G (qKW 1) qLg2 vLg2, bLg G (qKW 2) qLg3 vLg3, bLg G (qKW 3) qLg4 vLg4, bWv G (qKW 5) qWv vWv, bPr G (qKW 6) qPr vPr, bRf G (qKW 7) qRf vRf, bTx G (qKW 8) qTx vTx, bLn G (qKW 9) qLn vLn, bHo G (qKW 4) qHs vHs, bRo G qHs vHs 0, bRo G qHs vHs 1, bRo G qHs vHs 2, bRo G qHs vHs 3, bRo G qHs vHs 4, bRo G qHs vHs 5, bRo G qHs vHs 6, bRo G qHs vHs 7, bMd G hMd qMd vMd, bLa G aLa vLa, bDa G aDa vDa] 1919 [] [] := by
  unfold wp_L_law_1919 at hw
  refine gw_iconst (v := (0 : Int32)) F dL_law_1919 ic_iconst_0 ?_
  exact gw_lret F E hw (by omega) (by omega) dL_law_1920
def wp_L_law_1977 (L : Nat) (xs : Nat → Int32) (K28 : Int32 → OV → OV → OV → OV → OV → OV → OV → OV → OV → OV → HV → OV → (Nat → Int64) → (Nat → UInt64) → Prop) (x5 : Int32) (vKW : OV) (vLg : OV) (vLg2 : OV) (vLg3 : OV) (vLg4 : OV) (vWv : OV) (vPr : OV) (vRf : OV) (vTx : OV) (vLn : OV) (vHs : HV) (vMd : OV) (vLa : (Nat → Int64)) (vDa : (Nat → UInt64)) : Prop :=
  (wp_L_law_2081 L xs K28 x5 vKW vLg vLg2 vLg3 vLg4 vWv vPr vRf vTx vLn vHs vMd vLa vDa)
set_option maxRecDepth 20000 in
theorem lb_L_law_1977 {l : Launch} {D : va_G} {G : Nat → ClassId} {C : Cx} {bS L : Nat} {xs : Nat → Int32} {k0 n0 : Nat} {hKW : Nat} {qKW : Nat → Nat} {qLg : Nat → Nat} {qLg2 : Nat → Nat} {qLg3 : Nat → Nat} {qLg4 : Nat → Nat} {qWv : Nat → Nat} {qPr : Nat → Nat} {qRf : Nat → Nat} {qTx : Nat → Nat} {qLn : Nat → Nat} {qHs : Nat → Nat → Nat} {hMd : Nat} {qMd : Nat → Nat} {aLa : Nat} {aDa : Nat} {K28 : Int32 → OV → OV → OV → OV → OV → OV → OV → OV → OV → OV → HV → OV → (Nat → Int64) → (Nat → UInt64) → Prop} (hl0 : l.stackTraces = false) (hk : k0 + 20 ≤ 603072 ∧ n0 + 100 ≤ 7207018) (F : GF C XL cL_law lw_tbl RL room_1 9 (some .boolean) D G l) (E : GL C bS L xs) (hK28 : ∀ (x5 : Int32) (vKW : OV) (vLg : OV) (vLg2 : OV) (vLg3 : OV) (vLg4 : OV) (vWv : OV) (vPr : OV) (vRf : OV) (vTx : OV) (vLn : OV) (vHs : HV) (vMd : OV) (vLa : (Nat → Int64)) (vDa : (Nat → UInt64)), K28 x5 vKW vLg vLg2 vLg3 vLg4 vWv vPr vRf vTx vLn vHs vMd vLa vDa → GW C (k0 + 2) (n0 + 12) [bKW G hKW qKW vKW, bLg G (qKW 0) qLg vLg, bLg G (qKW 1) qLg2 vLg2, bLg G (qKW 2) qLg3 vLg3, bLg G (qKW 3) qLg4 vLg4, bWv G (qKW 5) qWv vWv, bPr G (qKW 6) qPr vPr, bRf G (qKW 7) qRf vRf, bTx G (qKW 8) qTx vTx, bLn G (qKW 9) qLn vLn, bHo G (qKW 4) qHs vHs, bRo G qHs vHs 0, bRo G qHs vHs 1, bRo G qHs vHs 2, bRo G qHs vHs 3, bRo G qHs vHs 4, bRo G qHs vHs 5, bRo G qHs vHs 6, bRo G qHs vHs 7, bMd G hMd qMd vMd, bLa G aLa vLa, bDa G aDa vDa] 28 [(0, .ref bS), (1, .ref hKW), (2, .ref hMd), (3, .ref aLa), (4, .ref aDa), (5, .int x5)] []) {x5 : Int32} {vKW : OV} {vLg : OV} {vLg2 : OV} {vLg3 : OV} {vLg4 : OV} {vWv : OV} {vPr : OV} {vRf : OV} {vTx : OV} {vLn : OV} {vHs : HV} {vMd : OV} {vLa : (Nat → Int64)} {vDa : (Nat → UInt64)} (hw : wp_L_law_1977 L xs K28 x5 vKW vLg vLg2 vLg3 vLg4 vWv vPr vRf vTx vLn vHs vMd vLa vDa) : GW C (k0 + 1) (n0 + 6) [bKW G hKW qKW vKW, bLg G (qKW 0) qLg vLg, bLg G (qKW 1) qLg2 vLg2, bLg G (qKW 2) qLg3 vLg3, bLg G (qKW 3) qLg4 vLg4, bWv G (qKW 5) qWv vWv, bPr G (qKW 6) qPr vPr, bRf G (qKW 7) qRf vRf, bTx G (qKW 8) qTx vTx, bLn G (qKW 9) qLn vLn, bHo G (qKW 4) qHs vHs, bRo G qHs vHs 0, bRo G qHs vHs 1, bRo G qHs vHs 2, bRo G qHs vHs 3, bRo G qHs vHs 4, bRo G qHs vHs 5, bRo G qHs vHs 6, bRo G qHs vHs 7, bMd G hMd qMd vMd, bLa G aLa vLa, bDa G aDa vDa] 1977 [(0, .ref bS), (1, .ref hKW), (2, .ref hMd), (3, .ref aLa), (4, .ref aDa), (5, .int x5)] [] := by
  unfold wp_L_law_1977 at hw
  refine gw_goto (tgt := 2081) F dL_law_1977 (by decide) ?_
  refine gw_widen (k' := k0 + 2) (n' := n0 + 12) (by omega) (by omega) ?_
  exact lb_L_law_2081 hl0 hk F E hK28 hw
def wp_L_law_2021 (L : Nat) (xs : Nat → Int32) (K28 : Int32 → OV → OV → OV → OV → OV → OV → OV → OV → OV → OV → HV → OV → (Nat → Int64) → (Nat → UInt64) → Prop) (x5 : Int32) (vKW : OV) (vLg : OV) (vLg2 : OV) (vLg3 : OV) (vLg4 : OV) (vWv : OV) (vPr : OV) (vRf : OV) (vTx : OV) (vLn : OV) (vHs : HV) (vMd : OV) (vLa : (Nat → Int64)) (vDa : (Nat → UInt64)) : Prop :=
  (wp_L_law_2081 L xs K28 x5 vKW vLg vLg2 vLg3 vLg4 vWv vPr vRf vTx vLn vHs vMd vLa vDa)
set_option maxRecDepth 20000 in
theorem lb_L_law_2021 {l : Launch} {D : va_G} {G : Nat → ClassId} {C : Cx} {bS L : Nat} {xs : Nat → Int32} {k0 n0 : Nat} {hKW : Nat} {qKW : Nat → Nat} {qLg : Nat → Nat} {qLg2 : Nat → Nat} {qLg3 : Nat → Nat} {qLg4 : Nat → Nat} {qWv : Nat → Nat} {qPr : Nat → Nat} {qRf : Nat → Nat} {qTx : Nat → Nat} {qLn : Nat → Nat} {qHs : Nat → Nat → Nat} {hMd : Nat} {qMd : Nat → Nat} {aLa : Nat} {aDa : Nat} {K28 : Int32 → OV → OV → OV → OV → OV → OV → OV → OV → OV → OV → HV → OV → (Nat → Int64) → (Nat → UInt64) → Prop} (hl0 : l.stackTraces = false) (hk : k0 + 20 ≤ 603072 ∧ n0 + 100 ≤ 7207018) (F : GF C XL cL_law lw_tbl RL room_1 9 (some .boolean) D G l) (E : GL C bS L xs) (hK28 : ∀ (x5 : Int32) (vKW : OV) (vLg : OV) (vLg2 : OV) (vLg3 : OV) (vLg4 : OV) (vWv : OV) (vPr : OV) (vRf : OV) (vTx : OV) (vLn : OV) (vHs : HV) (vMd : OV) (vLa : (Nat → Int64)) (vDa : (Nat → UInt64)), K28 x5 vKW vLg vLg2 vLg3 vLg4 vWv vPr vRf vTx vLn vHs vMd vLa vDa → GW C (k0 + 2) (n0 + 12) [bKW G hKW qKW vKW, bLg G (qKW 0) qLg vLg, bLg G (qKW 1) qLg2 vLg2, bLg G (qKW 2) qLg3 vLg3, bLg G (qKW 3) qLg4 vLg4, bWv G (qKW 5) qWv vWv, bPr G (qKW 6) qPr vPr, bRf G (qKW 7) qRf vRf, bTx G (qKW 8) qTx vTx, bLn G (qKW 9) qLn vLn, bHo G (qKW 4) qHs vHs, bRo G qHs vHs 0, bRo G qHs vHs 1, bRo G qHs vHs 2, bRo G qHs vHs 3, bRo G qHs vHs 4, bRo G qHs vHs 5, bRo G qHs vHs 6, bRo G qHs vHs 7, bMd G hMd qMd vMd, bLa G aLa vLa, bDa G aDa vDa] 28 [(0, .ref bS), (1, .ref hKW), (2, .ref hMd), (3, .ref aLa), (4, .ref aDa), (5, .int x5)] []) {x5 : Int32} {vKW : OV} {vLg : OV} {vLg2 : OV} {vLg3 : OV} {vLg4 : OV} {vWv : OV} {vPr : OV} {vRf : OV} {vTx : OV} {vLn : OV} {vHs : HV} {vMd : OV} {vLa : (Nat → Int64)} {vDa : (Nat → UInt64)} (hw : wp_L_law_2021 L xs K28 x5 vKW vLg vLg2 vLg3 vLg4 vWv vPr vRf vTx vLn vHs vMd vLa vDa) : GW C (k0 + 1) (n0 + 6) [bKW G hKW qKW vKW, bLg G (qKW 0) qLg vLg, bLg G (qKW 1) qLg2 vLg2, bLg G (qKW 2) qLg3 vLg3, bLg G (qKW 3) qLg4 vLg4, bWv G (qKW 5) qWv vWv, bPr G (qKW 6) qPr vPr, bRf G (qKW 7) qRf vRf, bTx G (qKW 8) qTx vTx, bLn G (qKW 9) qLn vLn, bHo G (qKW 4) qHs vHs, bRo G qHs vHs 0, bRo G qHs vHs 1, bRo G qHs vHs 2, bRo G qHs vHs 3, bRo G qHs vHs 4, bRo G qHs vHs 5, bRo G qHs vHs 6, bRo G qHs vHs 7, bMd G hMd qMd vMd, bLa G aLa vLa, bDa G aDa vDa] 2021 [(0, .ref bS), (1, .ref hKW), (2, .ref hMd), (3, .ref aLa), (4, .ref aDa), (5, .int x5)] [] := by
  unfold wp_L_law_2021 at hw
  refine gw_goto (tgt := 2081) F dL_law_2021 (by decide) ?_
  refine gw_widen (k' := k0 + 2) (n' := n0 + 12) (by omega) (by omega) ?_
  exact lb_L_law_2081 hl0 hk F E hK28 hw
def wp_L_law_2078 (L : Nat) (xs : Nat → Int32) (K28 : Int32 → OV → OV → OV → OV → OV → OV → OV → OV → OV → OV → HV → OV → (Nat → Int64) → (Nat → UInt64) → Prop) (x5 : Int32) (vKW : OV) (vLg : OV) (vLg2 : OV) (vLg3 : OV) (vLg4 : OV) (vWv : OV) (vPr : OV) (vRf : OV) (vTx : OV) (vLn : OV) (vHs : HV) (vMd : OV) (vLa : (Nat → Int64)) (vDa : (Nat → UInt64)) : Prop :=
  (wp_L_law_2081 L xs K28 x5 vKW vLg vLg2 vLg3 vLg4 vWv vPr vRf vTx vLn vHs vMd vLa vDa)
set_option maxRecDepth 20000 in
theorem lb_L_law_2078 {l : Launch} {D : va_G} {G : Nat → ClassId} {C : Cx} {bS L : Nat} {xs : Nat → Int32} {k0 n0 : Nat} {hKW : Nat} {qKW : Nat → Nat} {qLg : Nat → Nat} {qLg2 : Nat → Nat} {qLg3 : Nat → Nat} {qLg4 : Nat → Nat} {qWv : Nat → Nat} {qPr : Nat → Nat} {qRf : Nat → Nat} {qTx : Nat → Nat} {qLn : Nat → Nat} {qHs : Nat → Nat → Nat} {hMd : Nat} {qMd : Nat → Nat} {aLa : Nat} {aDa : Nat} {K28 : Int32 → OV → OV → OV → OV → OV → OV → OV → OV → OV → OV → HV → OV → (Nat → Int64) → (Nat → UInt64) → Prop} (hl0 : l.stackTraces = false) (hk : k0 + 20 ≤ 603072 ∧ n0 + 100 ≤ 7207018) (F : GF C XL cL_law lw_tbl RL room_1 9 (some .boolean) D G l) (E : GL C bS L xs) (hK28 : ∀ (x5 : Int32) (vKW : OV) (vLg : OV) (vLg2 : OV) (vLg3 : OV) (vLg4 : OV) (vWv : OV) (vPr : OV) (vRf : OV) (vTx : OV) (vLn : OV) (vHs : HV) (vMd : OV) (vLa : (Nat → Int64)) (vDa : (Nat → UInt64)), K28 x5 vKW vLg vLg2 vLg3 vLg4 vWv vPr vRf vTx vLn vHs vMd vLa vDa → GW C (k0 + 2) (n0 + 12) [bKW G hKW qKW vKW, bLg G (qKW 0) qLg vLg, bLg G (qKW 1) qLg2 vLg2, bLg G (qKW 2) qLg3 vLg3, bLg G (qKW 3) qLg4 vLg4, bWv G (qKW 5) qWv vWv, bPr G (qKW 6) qPr vPr, bRf G (qKW 7) qRf vRf, bTx G (qKW 8) qTx vTx, bLn G (qKW 9) qLn vLn, bHo G (qKW 4) qHs vHs, bRo G qHs vHs 0, bRo G qHs vHs 1, bRo G qHs vHs 2, bRo G qHs vHs 3, bRo G qHs vHs 4, bRo G qHs vHs 5, bRo G qHs vHs 6, bRo G qHs vHs 7, bMd G hMd qMd vMd, bLa G aLa vLa, bDa G aDa vDa] 28 [(0, .ref bS), (1, .ref hKW), (2, .ref hMd), (3, .ref aLa), (4, .ref aDa), (5, .int x5)] []) {x5 : Int32} {vKW : OV} {vLg : OV} {vLg2 : OV} {vLg3 : OV} {vLg4 : OV} {vWv : OV} {vPr : OV} {vRf : OV} {vTx : OV} {vLn : OV} {vHs : HV} {vMd : OV} {vLa : (Nat → Int64)} {vDa : (Nat → UInt64)} (hw : wp_L_law_2078 L xs K28 x5 vKW vLg vLg2 vLg3 vLg4 vWv vPr vRf vTx vLn vHs vMd vLa vDa) : GW C (k0 + 1) (n0 + 6) [bKW G hKW qKW vKW, bLg G (qKW 0) qLg vLg, bLg G (qKW 1) qLg2 vLg2, bLg G (qKW 2) qLg3 vLg3, bLg G (qKW 3) qLg4 vLg4, bWv G (qKW 5) qWv vWv, bPr G (qKW 6) qPr vPr, bRf G (qKW 7) qRf vRf, bTx G (qKW 8) qTx vTx, bLn G (qKW 9) qLn vLn, bHo G (qKW 4) qHs vHs, bRo G qHs vHs 0, bRo G qHs vHs 1, bRo G qHs vHs 2, bRo G qHs vHs 3, bRo G qHs vHs 4, bRo G qHs vHs 5, bRo G qHs vHs 6, bRo G qHs vHs 7, bMd G hMd qMd vMd, bLa G aLa vLa, bDa G aDa vDa] 2078 [(0, .ref bS), (1, .ref hKW), (2, .ref hMd), (3, .ref aLa), (4, .ref aDa), (5, .int x5)] [] := by
  unfold wp_L_law_2078 at hw
  refine gw_goto (tgt := 2081) F dL_law_2078 (by decide) ?_
  refine gw_widen (k' := k0 + 2) (n' := n0 + 12) (by omega) (by omega) ?_
  exact lb_L_law_2081 hl0 hk F E hK28 hw
def wp_L_law_28 (L : Nat) (xs : Nat → Int32) (K28 : Int32 → OV → OV → OV → OV → OV → OV → OV → OV → OV → OV → HV → OV → (Nat → Int64) → (Nat → UInt64) → Prop) (x5 : Int32) (vKW : OV) (vLg : OV) (vLg2 : OV) (vLg3 : OV) (vLg4 : OV) (vWv : OV) (vPr : OV) (vRf : OV) (vTx : OV) (vLn : OV) (vHs : HV) (vMd : OV) (vLa : (Nat → Int64)) (vDa : (Nat → UInt64)) : Prop :=
  ((((Int32.ofNat L) - (4 : Int32)) < x5 → ((1 : Int32) = 1)) ∧ (¬ (((Int32.ofNat L) - (4 : Int32)) < x5) → (vp_in x5 L ∧ (((((xs x5.toNatClampNeg) &&& (63 : Int32))).toInt < 0 ∨ 35 < (((xs x5.toNatClampNeg) &&& (63 : Int32))).toInt → (wp_L_law_2081 L xs K28 x5 vKW vLg vLg2 vLg3 vLg4 vWv vPr vRf vTx vLn vHs vMd vLa vDa)) ∧ ((((xs x5.toNatClampNeg) &&& (63 : Int32))).toInt = 0 → (vp_in (x5 + (1 : Int32)) L ∧ (vp_in (x5 + (2 : Int32)) L ∧ (wp_L_key (fun (r_7 : Int32) (v_8 : OV) (v_9 : OV) (v_10 : OV) (v_11 : HV) (v_12 : (Nat → Int64)) => (vp_in (x5 + (1 : Int32)) L ∧ (vp_in (x5 + (2 : Int32)) L ∧ (wp_X8_key (fun (r_15 : Int32) (v_16 : OV) => (wp_X8_thrown (fun (r_17 : Int32) => ((r_17 = r_7 → ((¬ r_7 = 0 → (wp_L_law_269 L xs K28 x5 vKW v_8 v_9 vLg3 vLg4 vWv vPr v_10 vTx vLn v_11 v_16 v_12 vDa)) ∧ (r_7 = 0 → (((lcm3 (v_12 (0 : Int32).toNatClampNeg) (r_15).toInt64) = 0 → (wp_L_law_269 L xs K28 x5 vKW v_8 v_9 vLg3 vLg4 vWv vPr v_10 vTx vLn v_11 v_16 v_12 vDa)) ∧ (¬ ((lcm3 (v_12 (0 : Int32).toNatClampNeg) (r_15).toInt64) = 0) → ((0 : Int32) = 1)))))) ∧ (¬ (r_17 = r_7) → ((0 : Int32) = 1)))) v_16)) (xs (x5 + (1 : Int32)).toNatClampNeg) (xs (x5 + (2 : Int32)).toNatClampNeg) vMd)))) (xs (x5 + (1 : Int32)).toNatClampNeg) (xs (x5 + (2 : Int32)).toNatClampNeg) vKW vLg vLg2 vLg3 vLg4 vWv vPr vRf vTx vLn vHs vLa)))) ∧ ((((xs x5.toNatClampNeg) &&& (63 : Int32))).toInt = 1 → (vp_in (x5 + (1 : Int32)) L ∧ (wp_L_lock (fun (r_22 : Int32) (v_23 : OV) (v_24 : OV) (v_25 : OV) (v_26 : HV) (v_27 : (Nat → Int64)) => (vp_in (x5 + (1 : Int32)) L ∧ (wp_X8_lock (fun (r_29 : Int32) (v_30 : OV) => (wp_X8_thrown (fun (r_31 : Int32) => ((r_31 = r_22 → ((¬ r_22 = 0 → (wp_L_law_325 L xs K28 x5 vKW v_23 v_24 vLg3 vLg4 vWv vPr v_25 vTx vLn v_26 v_30 v_27 vDa)) ∧ (r_22 = 0 → (((lcm3 (v_27 (0 : Int32).toNatClampNeg) (r_29).toInt64) = 0 → (wp_L_law_325 L xs K28 x5 vKW v_23 v_24 vLg3 vLg4 vWv vPr v_25 vTx vLn v_26 v_30 v_27 vDa)) ∧ (¬ ((lcm3 (v_27 (0 : Int32).toNatClampNeg) (r_29).toInt64) = 0) → ((0 : Int32) = 1)))))) ∧ (¬ (r_31 = r_22) → ((0 : Int32) = 1)))) v_30)) (xs (x5 + (1 : Int32)).toNatClampNeg) vMd))) (xs (x5 + (1 : Int32)).toNatClampNeg) vKW vLg vLg2 vLg3 vLg4 vWv vPr vRf vTx vLn vHs vLa))) ∧ ((((xs x5.toNatClampNeg) &&& (63 : Int32))).toInt = 2 → (vp_in (x5 + (1 : Int32)) L ∧ (vp_in (x5 + (2 : Int32)) L ∧ (wp_L_cut (fun (r_37 : Int32) (v_38 : OV) (v_39 : OV) (v_40 : OV) (v_41 : HV) (v_42 : (Nat → Int64)) => (vp_in (x5 + (1 : Int32)) L ∧ (vp_in (x5 + (2 : Int32)) L ∧ (wp_X8_cut (fun (r_45 : Int32) (v_46 : OV) => (wp_X8_thrown (fun (r_47 : Int32) => ((r_47 = r_37 → ((¬ r_37 = 0 → (wp_L_law_393 L xs K28 x5 vKW v_38 v_39 vLg3 vLg4 vWv vPr v_40 vTx vLn v_41 v_46 v_42 vDa)) ∧ (r_37 = 0 → (((lcm3 (v_42 (0 : Int32).toNatClampNeg) (r_45).toInt64) = 0 → (wp_L_law_393 L xs K28 x5 vKW v_38 v_39 vLg3 vLg4 vWv vPr v_40 vTx vLn v_41 v_46 v_42 vDa)) ∧ (¬ ((lcm3 (v_42 (0 : Int32).toNatClampNeg) (r_45).toInt64) = 0) → ((0 : Int32) = 1)))))) ∧ (¬ (r_47 = r_37) → ((0 : Int32) = 1)))) v_46)) (xs (x5 + (1 : Int32)).toNatClampNeg) (xs (x5 + (2 : Int32)).toNatClampNeg) vMd)))) (xs (x5 + (1 : Int32)).toNatClampNeg) (xs (x5 + (2 : Int32)).toNatClampNeg) vKW vLg vLg2 vLg3 vLg4 vWv vPr vRf vTx vLn vHs vLa)))) ∧ ((((xs x5.toNatClampNeg) &&& (63 : Int32))).toInt = 3 → (vp_in (x5 + (1 : Int32)) L ∧ (vp_in (x5 + (2 : Int32)) L ∧ (vp_in (x5 + (3 : Int32)) L ∧ (((xs (x5 + (3 : Int32)).toNatClampNeg) = 0 → (wp_L_law_423 L xs K28 x5 (xs (x5 + (1 : Int32)).toNatClampNeg) (xs (x5 + (2 : Int32)).toNatClampNeg) (0 : Int32) vKW vLg vLg2 vLg3 vLg4 vWv vPr vRf vTx vLn vHs vMd vLa vDa)) ∧ (¬ ((xs (x5 + (3 : Int32)).toNatClampNeg) = 0) → (wp_L_law_423 L xs K28 x5 (xs (x5 + (1 : Int32)).toNatClampNeg) (xs (x5 + (2 : Int32)).toNatClampNeg) (1 : Int32) vKW vLg vLg2 vLg3 vLg4 vWv vPr vRf vTx vLn vHs vMd vLa vDa))))))) ∧ ((((xs x5.toNatClampNeg) &&& (63 : Int32))).toInt = 4 → (vp_in (x5 + (1 : Int32)) L ∧ (wp_L_slack (fun (r_72 : Int32) (v_73 : OV) (v_74 : OV) (v_75 : OV) (v_76 : HV) (v_77 : (Nat → Int64)) => (vp_in (x5 + (1 : Int32)) L ∧ (wp_X8_slack (fun (r_79 : Int32) (v_80 : OV) => (wp_X8_thrown (fun (r_81 : Int32) => ((r_81 = r_72 → ((¬ r_72 = 0 → (wp_L_law_545 L xs K28 x5 vKW v_73 v_74 vLg3 vLg4 vWv vPr v_75 vTx vLn v_76 v_80 v_77 vDa)) ∧ (r_72 = 0 → (((lcm3 (v_77 (0 : Int32).toNatClampNeg) (r_79).toInt64) = 0 → (wp_L_law_545 L xs K28 x5 vKW v_73 v_74 vLg3 vLg4 vWv vPr v_75 vTx vLn v_76 v_80 v_77 vDa)) ∧ (¬ ((lcm3 (v_77 (0 : Int32).toNatClampNeg) (r_79).toInt64) = 0) → ((0 : Int32) = 1)))))) ∧ (¬ (r_81 = r_72) → ((0 : Int32) = 1)))) v_80)) (xs (x5 + (1 : Int32)).toNatClampNeg) vMd))) (xs (x5 + (1 : Int32)).toNatClampNeg) vKW vLg vLg2 vLg3 vLg4 vWv vPr vRf vTx vLn vHs vLa))) ∧ ((((xs x5.toNatClampNeg) &&& (63 : Int32))).toInt = 5 → (vp_in (x5 + (1 : Int32)) L ∧ (vp_in (x5 + (2 : Int32)) L ∧ (wp_L_put (fun (r_87 : Int32) (v_88 : OV) (v_89 : OV) (v_90 : OV) (v_91 : HV) (v_92 : (Nat → Int64)) => (vp_in (x5 + (1 : Int32)) L ∧ (vp_in (x5 + (2 : Int32)) L ∧ (wp_X8_put (fun (r_95 : Int32) (v_96 : OV) => (wp_X8_thrown (fun (r_97 : Int32) => ((r_97 = r_87 → ((¬ r_87 = 0 → (wp_L_law_613 L xs K28 x5 vKW v_88 v_89 vLg3 vLg4 vWv vPr v_90 vTx vLn v_91 v_96 v_92 vDa)) ∧ (r_87 = 0 → (((lcm3 (v_92 (0 : Int32).toNatClampNeg) (r_95).toInt64) = 0 → (wp_L_law_613 L xs K28 x5 vKW v_88 v_89 vLg3 vLg4 vWv vPr v_90 vTx vLn v_91 v_96 v_92 vDa)) ∧ (¬ ((lcm3 (v_92 (0 : Int32).toNatClampNeg) (r_95).toInt64) = 0) → ((0 : Int32) = 1)))))) ∧ (¬ (r_97 = r_87) → ((0 : Int32) = 1)))) v_96)) (xs (x5 + (1 : Int32)).toNatClampNeg) (xs (x5 + (2 : Int32)).toNatClampNeg) vMd)))) (xs (x5 + (1 : Int32)).toNatClampNeg) (xs (x5 + (2 : Int32)).toNatClampNeg) vKW vLg vLg2 vLg3 vLg4 vWv vPr vRf vTx vLn vHs vLa)))) ∧ ((((xs x5.toNatClampNeg) &&& (63 : Int32))).toInt = 6 → (vp_in (x5 + (1 : Int32)) L ∧ (wp_L_take (fun (r_102 : Int32) (v_103 : OV) (v_104 : OV) (v_105 : OV) (v_106 : HV) (v_107 : (Nat → Int64)) => (vp_in (x5 + (1 : Int32)) L ∧ (wp_X8_take (fun (r_109 : Int32) (v_110 : OV) => (wp_X8_thrown (fun (r_111 : Int32) => ((r_111 = r_102 → ((¬ r_102 = 0 → (wp_L_law_669 L xs K28 x5 vKW v_103 v_104 vLg3 vLg4 vWv vPr v_105 vTx vLn v_106 v_110 v_107 vDa)) ∧ (r_102 = 0 → (((lcm3 (v_107 (0 : Int32).toNatClampNeg) (r_109).toInt64) = 0 → (wp_L_law_669 L xs K28 x5 vKW v_103 v_104 vLg3 vLg4 vWv vPr v_105 vTx vLn v_106 v_110 v_107 vDa)) ∧ (¬ ((lcm3 (v_107 (0 : Int32).toNatClampNeg) (r_109).toInt64) = 0) → ((0 : Int32) = 1)))))) ∧ (¬ (r_111 = r_102) → ((0 : Int32) = 1)))) v_110)) (xs (x5 + (1 : Int32)).toNatClampNeg) vMd))) (xs (x5 + (1 : Int32)).toNatClampNeg) vKW vLg vLg2 vLg3 vLg4 vWv vPr vRf vTx vLn vHs vLa))) ∧ ((((xs x5.toNatClampNeg) &&& (63 : Int32))).toInt = 7 → (wp_L_wave (fun (r_115 : Int32) (v_116 : OV) (v_117 : OV) (v_118 : OV) (v_119 : OV) (v_120 : HV) (v_121 : (Nat → Int64)) => (wp_X8_wave (fun (r_122 : Int32) (v_123 : OV) => (wp_X8_thrown (fun (r_124 : Int32) => ((r_124 = r_115 → ((¬ r_115 = 0 → (wp_L_law_713 L xs K28 x5 vKW v_116 v_117 vLg3 vLg4 v_118 vPr v_119 vTx vLn v_120 v_123 v_121 vDa)) ∧ (r_115 = 0 → (((lcm3 (v_121 (0 : Int32).toNatClampNeg) (r_122).toInt64) = 0 → (wp_L_law_713 L xs K28 x5 vKW v_116 v_117 vLg3 vLg4 v_118 vPr v_119 vTx vLn v_120 v_123 v_121 vDa)) ∧ (¬ ((lcm3 (v_121 (0 : Int32).toNatClampNeg) (r_122).toInt64) = 0) → ((0 : Int32) = 1)))))) ∧ (¬ (r_124 = r_115) → ((0 : Int32) = 1)))) v_123)) vMd)) vKW vLg vLg2 vLg3 vLg4 vWv vPr vRf vTx vLn vHs vLa)) ∧ ((((xs x5.toNatClampNeg) &&& (63 : Int32))).toInt = 8 → (vp_in (x5 + (1 : Int32)) L ∧ (vp_in (x5 + (2 : Int32)) L ∧ (wp_L_keyOf (fun (r_130 : Int32) (v_131 : OV) (v_132 : (Nat → Int64)) => (vp_in (x5 + (1 : Int32)) L ∧ (vp_in (x5 + (2 : Int32)) L ∧ (wp_X8_keyOf (fun (r_135 : Int32) (v_136 : OV) => (wp_X8_thrown (fun (r_137 : Int32) => ((r_137 = r_130 → ((¬ r_130 = 0 → (wp_L_law_781 L xs K28 x5 vKW vLg vLg2 vLg3 vLg4 v_131 vPr vRf vTx vLn vHs v_136 v_132 vDa)) ∧ (r_130 = 0 → (((lcm3 (v_132 (0 : Int32).toNatClampNeg) (r_135).toInt64) = 0 → (wp_L_law_781 L xs K28 x5 vKW vLg vLg2 vLg3 vLg4 v_131 vPr vRf vTx vLn vHs v_136 v_132 vDa)) ∧ (¬ ((lcm3 (v_132 (0 : Int32).toNatClampNeg) (r_135).toInt64) = 0) → ((0 : Int32) = 1)))))) ∧ (¬ (r_137 = r_130) → ((0 : Int32) = 1)))) v_136)) (xs (x5 + (1 : Int32)).toNatClampNeg) (xs (x5 + (2 : Int32)).toNatClampNeg) vMd)))) (xs (x5 + (1 : Int32)).toNatClampNeg) (xs (x5 + (2 : Int32)).toNatClampNeg) vKW vLg vLg2 vLg3 vLg4 vWv vPr vRf vTx vLn vHs vLa)))) ∧ ((((xs x5.toNatClampNeg) &&& (63 : Int32))).toInt = 9 → (vp_in (x5 + (1 : Int32)) L ∧ (vp_in (x5 + (2 : Int32)) L ∧ (wp_L_lockOf (fun (r_143 : Int32) (v_144 : (Nat → Int64)) => (vp_in (x5 + (1 : Int32)) L ∧ (vp_in (x5 + (2 : Int32)) L ∧ (wp_X8_lockOf (fun (r_147 : Int32) (v_148 : OV) => (wp_X8_thrown (fun (r_149 : Int32) => ((r_149 = r_143 → ((¬ r_143 = 0 → (wp_L_law_849 L xs K28 x5 vKW vLg vLg2 vLg3 vLg4 vWv vPr vRf vTx vLn vHs v_148 v_144 vDa)) ∧ (r_143 = 0 → (((lcm3 (v_144 (0 : Int32).toNatClampNeg) (r_147).toInt64) = 0 → (wp_L_law_849 L xs K28 x5 vKW vLg vLg2 vLg3 vLg4 vWv vPr vRf vTx vLn vHs v_148 v_144 vDa)) ∧ (¬ ((lcm3 (v_144 (0 : Int32).toNatClampNeg) (r_147).toInt64) = 0) → ((0 : Int32) = 1)))))) ∧ (¬ (r_149 = r_143) → ((0 : Int32) = 1)))) v_148)) (xs (x5 + (1 : Int32)).toNatClampNeg) (xs (x5 + (2 : Int32)).toNatClampNeg) vMd)))) (xs (x5 + (1 : Int32)).toNatClampNeg) (xs (x5 + (2 : Int32)).toNatClampNeg) vKW vLg vLg2 vLg3 vLg4 vWv vPr vRf vTx vLn vHs vLa)))) ∧ ((((xs x5.toNatClampNeg) &&& (63 : Int32))).toInt = 10 → (vp_in (x5 + (1 : Int32)) L ∧ (vp_in (x5 + (2 : Int32)) L ∧ (wp_L_fits (fun (r_155 : Int32) (v_156 : (Nat → Int64)) => (vp_in (x5 + (1 : Int32)) L ∧ (vp_in (x5 + (2 : Int32)) L ∧ (wp_X8_fits (fun (r_159 : Int32) (v_160 : OV) => (wp_X8_thrown (fun (r_161 : Int32) => ((r_161 = r_155 → ((¬ r_155 = 0 → (wp_L_law_924 L xs K28 x5 vKW vLg vLg2 vLg3 vLg4 vWv vPr vRf vTx vLn vHs v_160 v_156 vDa)) ∧ (r_155 = 0 → ((r_159 = 0 → (((lcm3 (v_156 (0 : Int32).toNatClampNeg) (0 : Int64)) = 0 → (wp_L_law_924 L xs K28 x5 vKW vLg vLg2 vLg3 vLg4 vWv vPr vRf vTx vLn vHs v_160 v_156 vDa)) ∧ (¬ ((lcm3 (v_156 (0 : Int32).toNatClampNeg) (0 : Int64)) = 0) → ((0 : Int32) = 1)))) ∧ (¬ (r_159 = 0) → (((lcm3 (v_156 (0 : Int32).toNatClampNeg) (1 : Int64)) = 0 → (wp_L_law_924 L xs K28 x5 vKW vLg vLg2 vLg3 vLg4 vWv vPr vRf vTx vLn vHs v_160 v_156 vDa)) ∧ (¬ ((lcm3 (v_156 (0 : Int32).toNatClampNeg) (1 : Int64)) = 0) → ((0 : Int32) = 1)))))))) ∧ (¬ (r_161 = r_155) → ((0 : Int32) = 1)))) v_160)) (xs (x5 + (1 : Int32)).toNatClampNeg) (xs (x5 + (2 : Int32)).toNatClampNeg) vMd)))) (xs (x5 + (1 : Int32)).toNatClampNeg) (xs (x5 + (2 : Int32)).toNatClampNeg) vKW vLg vLg2 vLg3 vLg4 vWv vPr vRf vTx vLn vHs vLa)))) ∧ ((((xs x5.toNatClampNeg) &&& (63 : Int32))).toInt = 11 → (vp_in (x5 + (1 : Int32)) L ∧ (vp_in (x5 + (2 : Int32)) L ∧ (wp_L_isBarred (fun (r_169 : Int32) (v_170 : (Nat → Int64)) => (vp_in (x5 + (1 : Int32)) L ∧ (vp_in (x5 + (2 : Int32)) L ∧ (wp_X8_isBarred (fun (r_173 : Int32) (v_174 : OV) => (wp_X8_thrown (fun (r_175 : Int32) => ((r_175 = r_169 → ((¬ r_169 = 0 → (wp_L_law_999 L xs K28 x5 vKW vLg vLg2 vLg3 vLg4 vWv vPr vRf vTx vLn vHs v_174 v_170 vDa)) ∧ (r_169 = 0 → ((r_173 = 0 → (((lcm3 (v_170 (0 : Int32).toNatClampNeg) (0 : Int64)) = 0 → (wp_L_law_999 L xs K28 x5 vKW vLg vLg2 vLg3 vLg4 vWv vPr vRf vTx vLn vHs v_174 v_170 vDa)) ∧ (¬ ((lcm3 (v_170 (0 : Int32).toNatClampNeg) (0 : Int64)) = 0) → ((0 : Int32) = 1)))) ∧ (¬ (r_173 = 0) → (((lcm3 (v_170 (0 : Int32).toNatClampNeg) (1 : Int64)) = 0 → (wp_L_law_999 L xs K28 x5 vKW vLg vLg2 vLg3 vLg4 vWv vPr vRf vTx vLn vHs v_174 v_170 vDa)) ∧ (¬ ((lcm3 (v_170 (0 : Int32).toNatClampNeg) (1 : Int64)) = 0) → ((0 : Int32) = 1)))))))) ∧ (¬ (r_175 = r_169) → ((0 : Int32) = 1)))) v_174)) (xs (x5 + (1 : Int32)).toNatClampNeg) (xs (x5 + (2 : Int32)).toNatClampNeg) vMd)))) (xs (x5 + (1 : Int32)).toNatClampNeg) (xs (x5 + (2 : Int32)).toNatClampNeg) vKW vLg vLg2 vLg3 vLg4 vWv vPr vRf vTx vLn vHs vLa)))) ∧ ((((xs x5.toNatClampNeg) &&& (63 : Int32))).toInt = 12 → (vp_in (x5 + (1 : Int32)) L ∧ (vp_in (x5 + (2 : Int32)) L ∧ (wp_L_costFor (fun (r_183 : Int32) (v_184 : (Nat → Int64)) => (vp_in (x5 + (1 : Int32)) L ∧ (vp_in (x5 + (2 : Int32)) L ∧ (wp_X8_costFor (fun (r_187 : Int32) (v_188 : OV) => (wp_X8_thrown (fun (r_189 : Int32) => ((r_189 = r_183 → ((¬ r_183 = 0 → (wp_L_law_1067 L xs K28 x5 vKW vLg vLg2 vLg3 vLg4 vWv vPr vRf vTx vLn vHs v_188 v_184 vDa)) ∧ (r_183 = 0 → (((lcm3 (v_184 (0 : Int32).toNatClampNeg) (r_187).toInt64) = 0 → (wp_L_law_1067 L xs K28 x5 vKW vLg vLg2 vLg3 vLg4 vWv vPr vRf vTx vLn vHs v_188 v_184 vDa)) ∧ (¬ ((lcm3 (v_184 (0 : Int32).toNatClampNeg) (r_187).toInt64) = 0) → ((0 : Int32) = 1)))))) ∧ (¬ (r_189 = r_183) → ((0 : Int32) = 1)))) v_188)) (xs (x5 + (1 : Int32)).toNatClampNeg) (xs (x5 + (2 : Int32)).toNatClampNeg) vMd)))) (xs (x5 + (1 : Int32)).toNatClampNeg) (xs (x5 + (2 : Int32)).toNatClampNeg) vKW vLg vLg2 vLg3 vLg4 vWv vPr vRf vTx vLn vHs vLa)))) ∧ ((((xs x5.toNatClampNeg) &&& (63 : Int32))).toInt = 13 → (vp_in (x5 + (1 : Int32)) L ∧ (vp_in (x5 + (2 : Int32)) L ∧ (wp_L_cheapest (fun (r_195 : Int32) (v_196 : (Nat → Int64)) => (vp_in (x5 + (1 : Int32)) L ∧ (vp_in (x5 + (2 : Int32)) L ∧ (wp_X8_cheapest (fun (r_199 : Int32) (v_200 : OV) => (wp_X8_thrown (fun (r_201 : Int32) => ((r_201 = r_195 → ((¬ r_195 = 0 → (wp_L_law_1135 L xs K28 x5 vKW vLg vLg2 vLg3 vLg4 vWv vPr vRf vTx vLn vHs v_200 v_196 vDa)) ∧ (r_195 = 0 → (((lcm3 (v_196 (0 : Int32).toNatClampNeg) (r_199).toInt64) = 0 → (wp_L_law_1135 L xs K28 x5 vKW vLg vLg2 vLg3 vLg4 vWv vPr vRf vTx vLn vHs v_200 v_196 vDa)) ∧ (¬ ((lcm3 (v_196 (0 : Int32).toNatClampNeg) (r_199).toInt64) = 0) → ((0 : Int32) = 1)))))) ∧ (¬ (r_201 = r_195) → ((0 : Int32) = 1)))) v_200)) (xs (x5 + (1 : Int32)).toNatClampNeg) (xs (x5 + (2 : Int32)).toNatClampNeg) vMd)))) (xs (x5 + (1 : Int32)).toNatClampNeg) (xs (x5 + (2 : Int32)).toNatClampNeg) vKW vLg vLg2 vLg3 vLg4 vWv vPr vRf vTx vLn vHs vLa)))) ∧ ((((xs x5.toNatClampNeg) &&& (63 : Int32))).toInt = 14 → (wp_L_length (fun (r_205 : Int32) (v_206 : OV) (v_207 : (Nat → Int64)) => (wp_X8_length (fun (r_208 : Int32) (v_209 : OV) => (wp_X8_thrown (fun (r_210 : Int32) => ((r_210 = r_205 → ((¬ r_205 = 0 → (wp_L_law_1179 L xs K28 x5 vKW vLg vLg2 vLg3 vLg4 v_206 vPr vRf vTx vLn vHs v_209 v_207 vDa)) ∧ (r_205 = 0 → (((lcm3 (v_207 (0 : Int32).toNatClampNeg) (r_208).toInt64) = 0 → (wp_L_law_1179 L xs K28 x5 vKW vLg vLg2 vLg3 vLg4 v_206 vPr vRf vTx vLn vHs v_209 v_207 vDa)) ∧ (¬ ((lcm3 (v_207 (0 : Int32).toNatClampNeg) (r_208).toInt64) = 0) → ((0 : Int32) = 1)))))) ∧ (¬ (r_210 = r_205) → ((0 : Int32) = 1)))) v_209)) vMd)) vKW vLg vLg2 vLg3 vLg4 vWv vPr vRf vTx vLn vHs vLa)) ∧ ((((xs x5.toNatClampNeg) &&& (63 : Int32))).toInt = 15 → (wp_X7_adds (fun (r_214 : Int32) (v_215 : OV) (v_216 : OV) => (wp_X8_adds (fun (r_217 : Int32) (v_218 : OV) => ((r_214 = r_217 → (wp_L_law_2081 L xs K28 x5 vKW vLg vLg2 vLg3 v_215 v_216 vPr vRf vTx vLn vHs v_218 vLa vDa)) ∧ (¬ (r_214 = r_217) → ((0 : Int32) = 1)))) vMd)) vKW vLg vLg2 vLg3 vLg4 vWv vPr vRf vTx vLn vHs)) ∧ ((((xs x5.toNatClampNeg) &&& (63 : Int32))).toInt = 16 → (wp_X7_waves (fun (r_220 : Int32) (v_221 : OV) (v_222 : OV) => (wp_X8_waves (fun (r_223 : Int32) (v_224 : OV) => ((r_220 = r_223 → (wp_L_law_2081 L xs K28 x5 vKW vLg vLg2 vLg3 v_221 v_222 vPr vRf vTx vLn vHs v_224 vLa vDa)) ∧ (¬ (r_220 = r_223) → ((0 : Int32) = 1)))) vMd)) vKW vLg vLg2 vLg3 vLg4 vWv vPr vRf vTx vLn vHs)) ∧ ((((xs x5.toNatClampNeg) &&& (63 : Int32))).toInt = 17 → (wp_X7_most (fun (r_226 : Int32) (v_227 : OV) (v_228 : OV) => (wp_X8_most (fun (r_229 : Int32) (v_230 : OV) => ((r_226 = r_229 → (wp_L_law_2081 L xs K28 x5 vKW vLg vLg2 vLg3 v_227 v_228 vPr vRf vTx vLn vHs v_230 vLa vDa)) ∧ (¬ (r_226 = r_229) → ((0 : Int32) = 1)))) vMd)) vKW vLg vLg2 vLg3 vLg4 vWv vPr vRf vTx vLn vHs)) ∧ ((((xs x5.toNatClampNeg) &&& (63 : Int32))).toInt = 18 → (wp_X7_mostAgain (fun (r_232 : Int32) (v_233 : OV) => (wp_X8_mostAgain (fun (r_234 : Int32) (v_235 : OV) => ((r_232 = r_234 → (wp_L_law_2081 L xs K28 x5 vKW vLg vLg2 vLg3 vLg4 vWv v_233 vRf vTx vLn vHs v_235 vLa vDa)) ∧ (¬ (r_232 = r_234) → ((0 : Int32) = 1)))) vMd)) vKW vLg vLg2 vLg3 vLg4 vWv vPr vRf vTx vLn vHs)) ∧ ((((xs x5.toNatClampNeg) &&& (63 : Int32))).toInt = 19 → (vp_in (x5 + (1 : Int32)) L ∧ (((xs (x5 + (1 : Int32)).toNatClampNeg) = 0 → (wp_L_law_1249 L xs K28 x5 (0 : Int32) vKW vLg vLg2 vLg3 vLg4 vWv vPr vRf vTx vLn vHs vMd vLa vDa)) ∧ (¬ ((xs (x5 + (1 : Int32)).toNatClampNeg) = 0) → (wp_L_law_1249 L xs K28 x5 (1 : Int32) vKW vLg vLg2 vLg3 vLg4 vWv vPr vRf vTx vLn vHs vMd vLa vDa))))) ∧ ((((xs x5.toNatClampNeg) &&& (63 : Int32))).toInt = 20 → (vp_in (x5 + (1 : Int32)) L ∧ (wp_L_canBeOpen (fun (r_248 : Int32) (v_249 : (Nat → Int64)) => (vp_in (x5 + (1 : Int32)) L ∧ (wp_X8_canBeOpen (fun (r_251 : Int32) (v_252 : OV) => (wp_X8_thrown (fun (r_253 : Int32) => ((r_253 = r_248 → ((¬ r_248 = 0 → (wp_L_law_1335 L xs K28 x5 vKW vLg vLg2 vLg3 vLg4 vWv vPr vRf vTx vLn vHs v_252 v_249 vDa)) ∧ (r_248 = 0 → ((r_251 = 0 → (((lcm3 (v_249 (0 : Int32).toNatClampNeg) (0 : Int64)) = 0 → (wp_L_law_1335 L xs K28 x5 vKW vLg vLg2 vLg3 vLg4 vWv vPr vRf vTx vLn vHs v_252 v_249 vDa)) ∧ (¬ ((lcm3 (v_249 (0 : Int32).toNatClampNeg) (0 : Int64)) = 0) → ((0 : Int32) = 1)))) ∧ (¬ (r_251 = 0) → (((lcm3 (v_249 (0 : Int32).toNatClampNeg) (1 : Int64)) = 0 → (wp_L_law_1335 L xs K28 x5 vKW vLg vLg2 vLg3 vLg4 vWv vPr vRf vTx vLn vHs v_252 v_249 vDa)) ∧ (¬ ((lcm3 (v_249 (0 : Int32).toNatClampNeg) (1 : Int64)) = 0) → ((0 : Int32) = 1)))))))) ∧ (¬ (r_253 = r_248) → ((0 : Int32) = 1)))) v_252)) (xs (x5 + (1 : Int32)).toNatClampNeg) vMd))) (xs (x5 + (1 : Int32)).toNatClampNeg) vKW vLg vLg2 vLg3 vLg4 vWv vPr vRf vTx vLn vHs vLa))) ∧ ((((xs x5.toNatClampNeg) &&& (63 : Int32))).toInt = 21 → (vp_in (x5 + (1 : Int32)) L ∧ (wp_L_isNeeded (fun (r_260 : Int32) (v_261 : OV) (v_262 : (Nat → Int64)) => (vp_in (x5 + (1 : Int32)) L ∧ (wp_X8_isNeeded (fun (r_264 : Int32) (v_265 : OV) => (wp_X8_thrown (fun (r_266 : Int32) => ((r_266 = r_260 → ((¬ r_260 = 0 → (wp_L_law_1398 L xs K28 x5 vKW vLg vLg2 vLg3 vLg4 vWv v_261 vRf vTx vLn vHs v_265 v_262 vDa)) ∧ (r_260 = 0 → ((r_264 = 0 → (((lcm3 (v_262 (0 : Int32).toNatClampNeg) (0 : Int64)) = 0 → (wp_L_law_1398 L xs K28 x5 vKW vLg vLg2 vLg3 vLg4 vWv v_261 vRf vTx vLn vHs v_265 v_262 vDa)) ∧ (¬ ((lcm3 (v_262 (0 : Int32).toNatClampNeg) (0 : Int64)) = 0) → ((0 : Int32) = 1)))) ∧ (¬ (r_264 = 0) → (((lcm3 (v_262 (0 : Int32).toNatClampNeg) (1 : Int64)) = 0 → (wp_L_law_1398 L xs K28 x5 vKW vLg vLg2 vLg3 vLg4 vWv v_261 vRf vTx vLn vHs v_265 v_262 vDa)) ∧ (¬ ((lcm3 (v_262 (0 : Int32).toNatClampNeg) (1 : Int64)) = 0) → ((0 : Int32) = 1)))))))) ∧ (¬ (r_266 = r_260) → ((0 : Int32) = 1)))) v_265)) (xs (x5 + (1 : Int32)).toNatClampNeg) vMd))) (xs (x5 + (1 : Int32)).toNatClampNeg) vKW vLg vLg2 vLg3 vLg4 vWv vPr vRf vTx vLn vHs vLa))) ∧ ((((xs x5.toNatClampNeg) &&& (63 : Int32))).toInt = 22 → (vp_in (x5 + (1 : Int32)) L ∧ (vp_in (x5 + (2 : Int32)) L ∧ (wp_L_porterOf (fun (r_274 : Int32) (v_275 : (Nat → Int64)) => (vp_in (x5 + (1 : Int32)) L ∧ (vp_in (x5 + (2 : Int32)) L ∧ (wp_X8_porterOf (fun (r_278 : Int32) (v_279 : OV) => (wp_X8_thrown (fun (r_280 : Int32) => ((r_280 = r_274 → ((¬ r_274 = 0 → (wp_L_law_1466 L xs K28 x5 vKW vLg vLg2 vLg3 vLg4 vWv vPr vRf vTx vLn vHs v_279 v_275 vDa)) ∧ (r_274 = 0 → (((lcm3 (v_275 (0 : Int32).toNatClampNeg) (r_278).toInt64) = 0 → (wp_L_law_1466 L xs K28 x5 vKW vLg vLg2 vLg3 vLg4 vWv vPr vRf vTx vLn vHs v_279 v_275 vDa)) ∧ (¬ ((lcm3 (v_275 (0 : Int32).toNatClampNeg) (r_278).toInt64) = 0) → ((0 : Int32) = 1)))))) ∧ (¬ (r_280 = r_274) → ((0 : Int32) = 1)))) v_279)) (xs (x5 + (1 : Int32)).toNatClampNeg) (xs (x5 + (2 : Int32)).toNatClampNeg) vMd)))) (xs (x5 + (1 : Int32)).toNatClampNeg) (xs (x5 + (2 : Int32)).toNatClampNeg) vKW vLg vLg2 vLg3 vLg4 vWv vPr vRf vTx vLn vHs vLa)))) ∧ ((((xs x5.toNatClampNeg) &&& (63 : Int32))).toInt = 23 → (vp_in (x5 + (1 : Int32)) L ∧ (wp_L_ranked (fun (r_285 : Int32) (v_286 : (Nat → Int64)) => (vp_in (x5 + (1 : Int32)) L ∧ (wp_X8_ranked (fun (r_288 : Int32) (v_289 : OV) => (wp_X8_thrown (fun (r_290 : Int32) => ((r_290 = r_285 → ((¬ r_285 = 0 → (wp_L_law_1522 L xs K28 x5 vKW vLg vLg2 vLg3 vLg4 vWv vPr vRf vTx vLn vHs v_289 v_286 vDa)) ∧ (r_285 = 0 → (((lcm3 (v_286 (0 : Int32).toNatClampNeg) (r_288).toInt64) = 0 → (wp_L_law_1522 L xs K28 x5 vKW vLg vLg2 vLg3 vLg4 vWv vPr vRf vTx vLn vHs v_289 v_286 vDa)) ∧ (¬ ((lcm3 (v_286 (0 : Int32).toNatClampNeg) (r_288).toInt64) = 0) → ((0 : Int32) = 1)))))) ∧ (¬ (r_290 = r_285) → ((0 : Int32) = 1)))) v_289)) (xs (x5 + (1 : Int32)).toNatClampNeg) vMd))) (xs (x5 + (1 : Int32)).toNatClampNeg) vKW vLg vLg2 vLg3 vLg4 vWv vPr vRf vTx vLn vHs vLa))) ∧ ((((xs x5.toNatClampNeg) &&& (63 : Int32))).toInt = 24 → (vp_in (x5 + (1 : Int32)) L ∧ (wp_L_append (fun (r_295 : Int32) (v_296 : OV) (v_297 : (Nat → Int64)) => (vp_in (x5 + (1 : Int32)) L ∧ (wp_X8_append (fun (r_299 : Int32) (v_300 : OV) => (wp_X8_thrown (fun (r_301 : Int32) => ((r_301 = r_295 → ((¬ r_295 = 0 → (wp_L_law_1580 L xs K28 x5 vKW vLg vLg2 vLg3 vLg4 vWv vPr vRf v_296 vLn vHs v_300 v_297 vDa)) ∧ (r_295 = 0 → (((lcm3 (v_297 (0 : Int32).toNatClampNeg) (r_299).toInt64) = 0 → (wp_L_law_1580 L xs K28 x5 vKW vLg vLg2 vLg3 vLg4 vWv vPr vRf v_296 vLn vHs v_300 v_297 vDa)) ∧ (¬ ((lcm3 (v_297 (0 : Int32).toNatClampNeg) (r_299).toInt64) = 0) → ((0 : Int32) = 1)))))) ∧ (¬ (r_301 = r_295) → ((0 : Int32) = 1)))) v_300)) (((xs (x5 + (1 : Int32)).toNatClampNeg)).toUInt32 % 65536).toInt32 vMd))) (((xs (x5 + (1 : Int32)).toNatClampNeg)).toUInt32 % 65536).toInt32 vKW vLg vLg2 vLg3 vLg4 vWv vPr vRf vTx vLn vHs vLa))) ∧ ((((xs x5.toNatClampNeg) &&& (63 : Int32))).toInt = 25 → (wp_L_commands (fun (r_305 : Int32) (v_306 : OV) (v_307 : OV) (v_308 : OV) (v_309 : OV) (v_310 : OV) (v_311 : OV) (v_312 : HV) (v_313 : (Nat → Int64)) => (wp_X8_commands (fun (r_314 : Int32) (v_315 : OV) => (wp_X8_thrown (fun (r_316 : Int32) => ((r_316 = r_305 → ((¬ r_305 = 0 → (wp_L_law_1624 L xs K28 x5 v_306 v_307 v_308 vLg3 vLg4 v_309 vPr v_310 v_311 vLn v_312 v_315 v_313 vDa)) ∧ (r_305 = 0 → (((lcm3 (v_313 (0 : Int32).toNatClampNeg) (r_314).toInt64) = 0 → (wp_L_law_1624 L xs K28 x5 v_306 v_307 v_308 vLg3 vLg4 v_309 vPr v_310 v_311 vLn v_312 v_315 v_313 vDa)) ∧ (¬ ((lcm3 (v_313 (0 : Int32).toNatClampNeg) (r_314).toInt64) = 0) → ((0 : Int32) = 1)))))) ∧ (¬ (r_316 = r_305) → ((0 : Int32) = 1)))) v_315)) vMd)) vKW vLg vLg2 vLg3 vLg4 vWv vPr vRf vTx vLn vHs vLa)) ∧ ((((xs x5.toNatClampNeg) &&& (63 : Int32))).toInt = 26 → (wp_X7_faultPosition (fun (r_320 : Int32) => (wp_X8_faultPosition (fun (r_321 : Int32) (v_322 : OV) => ((r_320 = r_321 → (wp_L_law_2081 L xs K28 x5 vKW vLg vLg2 vLg3 vLg4 vWv vPr vRf vTx vLn vHs v_322 vLa vDa)) ∧ (¬ (r_320 = r_321) → ((0 : Int32) = 1)))) vMd)) vKW vLg vLg2 vLg3 vLg4 vWv vPr vRf vTx vLn vHs)) ∧ ((((xs x5.toNatClampNeg) &&& (63 : Int32))).toInt = 27 → (vp_in (x5 + (1 : Int32)) L ∧ (wp_L_reason (fun (r_325 : Int32) (v_326 : (Nat → Int64)) => (vp_in (x5 + (1 : Int32)) L ∧ (wp_X8_reason (fun (r_328 : Int32) (v_329 : OV) => (wp_X8_thrown (fun (r_330 : Int32) => ((r_330 = r_325 → ((¬ r_325 = 0 → (wp_L_law_1693 L xs K28 x5 vKW vLg vLg2 vLg3 vLg4 vWv vPr vRf vTx vLn vHs v_329 v_326 vDa)) ∧ (r_325 = 0 → (((lcm3 (v_326 (0 : Int32).toNatClampNeg) (r_328).toInt64) = 0 → (wp_L_law_1693 L xs K28 x5 vKW vLg vLg2 vLg3 vLg4 vWv vPr vRf vTx vLn vHs v_329 v_326 vDa)) ∧ (¬ ((lcm3 (v_326 (0 : Int32).toNatClampNeg) (r_328).toInt64) = 0) → ((0 : Int32) = 1)))))) ∧ (¬ (r_330 = r_325) → ((0 : Int32) = 1)))) v_329)) (xs (x5 + (1 : Int32)).toNatClampNeg) vMd))) (xs (x5 + (1 : Int32)).toNatClampNeg) vKW vLg vLg2 vLg3 vLg4 vWv vPr vRf vTx vLn vHs vLa))) ∧ ((((xs x5.toNatClampNeg) &&& (63 : Int32))).toInt = 28 → (vp_in (x5 + (1 : Int32)) L ∧ (((xs (x5 + (1 : Int32)).toNatClampNeg) = 0 → (wp_L_law_1711 L xs K28 x5 (0 : Int32) vKW vLg vLg2 vLg3 vLg4 vWv vPr vRf vTx vLn vHs vMd vLa vDa)) ∧ (¬ ((xs (x5 + (1 : Int32)).toNatClampNeg) = 0) → (wp_L_law_1711 L xs K28 x5 (1 : Int32) vKW vLg vLg2 vLg3 vLg4 vWv vPr vRf vTx vLn vHs vMd vLa vDa))))) ∧ ((((xs x5.toNatClampNeg) &&& (63 : Int32))).toInt = 29 → (vp_in (x5 + (1 : Int32)) L ∧ (wp_L_character (fun (r_344 : Int32) (v_345 : (Nat → Int64)) => (vp_in (x5 + (1 : Int32)) L ∧ (wp_X8_character (fun (r_347 : Int32) (v_348 : OV) => (wp_X8_thrown (fun (r_349 : Int32) => ((r_349 = r_344 → ((¬ r_344 = 0 → (wp_L_law_1790 L xs K28 x5 vKW vLg vLg2 vLg3 vLg4 vWv vPr vRf vTx vLn vHs v_348 v_345 vDa)) ∧ (r_344 = 0 → (((lcm3 (v_345 (0 : Int32).toNatClampNeg) (r_347).toInt64) = 0 → (wp_L_law_1790 L xs K28 x5 vKW vLg vLg2 vLg3 vLg4 vWv vPr vRf vTx vLn vHs v_348 v_345 vDa)) ∧ (¬ ((lcm3 (v_345 (0 : Int32).toNatClampNeg) (r_347).toInt64) = 0) → ((0 : Int32) = 1)))))) ∧ (¬ (r_349 = r_344) → ((0 : Int32) = 1)))) v_348)) (xs (x5 + (1 : Int32)).toNatClampNeg) vMd))) (xs (x5 + (1 : Int32)).toNatClampNeg) vKW vLg vLg2 vLg3 vLg4 vWv vPr vRf vTx vLn vHs vLa))) ∧ ((((xs x5.toNatClampNeg) &&& (63 : Int32))).toInt = 30 → (wp_L_meanFits (fun (r_353 : Int32) (v_354 : (Nat → UInt64)) => (wp_X8_meanFits (fun (r_355 : UInt64) (v_356 : OV) => (wp_X8_thrown (fun (r_357 : Int32) => ((r_357 = r_353 → ((¬ r_353 = 0 → (wp_L_law_1855 L xs K28 x5 vKW vLg vLg2 vLg3 vLg4 vWv vPr vRf vTx vLn vHs v_356 vLa v_354)) ∧ (r_353 = 0 → (((Op.cmpValue (FP.dcmp (v_354 (0 : Int32).toNatClampNeg) r_355) .l) = 0 → (wp_L_law_1855 L xs K28 x5 vKW vLg vLg2 vLg3 vLg4 vWv vPr vRf vTx vLn vHs v_356 vLa v_354)) ∧ (¬ ((Op.cmpValue (FP.dcmp (v_354 (0 : Int32).toNatClampNeg) r_355) .l) = 0) → (((Op.cmpValue (FP.dcmp (v_354 (0 : Int32).toNatClampNeg) (v_354 (0 : Int32).toNatClampNeg)) .l) = 0 → (wp_L_law_1853 L xs K28 vKW vLg vLg2 vLg3 vLg4 vWv vPr vRf vTx vLn vHs v_356 vLa v_354)) ∧ (¬ ((Op.cmpValue (FP.dcmp (v_354 (0 : Int32).toNatClampNeg) (v_354 (0 : Int32).toNatClampNeg)) .l) = 0) → ((¬ (Op.cmpValue (FP.dcmp r_355 r_355) .l) = 0 → (wp_L_law_1855 L xs K28 x5 vKW vLg vLg2 vLg3 vLg4 vWv vPr vRf vTx vLn vHs v_356 vLa v_354)) ∧ ((Op.cmpValue (FP.dcmp r_355 r_355) .l) = 0 → (wp_L_law_1853 L xs K28 vKW vLg vLg2 vLg3 vLg4 vWv vPr vRf vTx vLn vHs v_356 vLa v_354)))))))))) ∧ (¬ (r_357 = r_353) → ((0 : Int32) = 1)))) v_356)) vMd)) vKW vLg vLg2 vLg3 vLg4 vWv vPr vRf vTx vLn vHs vDa)) ∧ ((((xs x5.toNatClampNeg) &&& (63 : Int32))).toInt = 31 → (wp_L_openShare (fun (r_363 : Int32) (v_364 : (Nat → UInt64)) => (wp_X8_openShare (fun (r_365 : UInt32) (v_366 : OV) => (wp_X8_thrown (fun (r_367 : Int32) => ((r_367 = r_363 → ((¬ r_363 = 0 → (wp_L_law_1921 L xs K28 x5 vKW vLg vLg2 vLg3 vLg4 vWv vPr vRf vTx vLn vHs v_366 vLa v_364)) ∧ (r_363 = 0 → (vf_n64 (FP.f2d r_365) ∧ (((Op.cmpValue (FP.dcmp (v_364 (0 : Int32).toNatClampNeg) (FP.f2d r_365)) .l) = 0 → (wp_L_law_1921 L xs K28 x5 vKW vLg vLg2 vLg3 vLg4 vWv vPr vRf vTx vLn vHs v_366 vLa v_364)) ∧ (¬ ((Op.cmpValue (FP.dcmp (v_364 (0 : Int32).toNatClampNeg) (FP.f2d r_365)) .l) = 0) → (((Op.cmpValue (FP.dcmp (v_364 (0 : Int32).toNatClampNeg) (v_364 (0 : Int32).toNatClampNeg)) .l) = 0 → (wp_L_law_1919 L xs K28 vKW vLg vLg2 vLg3 vLg4 vWv vPr vRf vTx vLn vHs v_366 vLa v_364)) ∧ (¬ ((Op.cmpValue (FP.dcmp (v_364 (0 : Int32).toNatClampNeg) (v_364 (0 : Int32).toNatClampNeg)) .l) = 0) → ((¬ (Op.cmpValue (FP.fcmp r_365 r_365) .l) = 0 → (wp_L_law_1921 L xs K28 x5 vKW vLg vLg2 vLg3 vLg4 vWv vPr vRf vTx vLn vHs v_366 vLa v_364)) ∧ ((Op.cmpValue (FP.fcmp r_365 r_365) .l) = 0 → (wp_L_law_1919 L xs K28 vKW vLg vLg2 vLg3 vLg4 vWv vPr vRf vTx vLn vHs v_366 vLa v_364))))))))))) ∧ (¬ (r_367 = r_363) → ((0 : Int32) = 1)))) v_366)) vMd)) vKW vLg vLg2 vLg3 vLg4 vWv vPr vRf vTx vLn vHs vDa)) ∧ ((((xs x5.toNatClampNeg) &&& (63 : Int32))).toInt = 32 → (vp_in (x5 + (1 : Int32)) L ∧ (wp_L_account (fun (r_375 : Int32) (v_376 : (Nat → Int64)) => (vp_in (x5 + (1 : Int32)) L ∧ (wp_X8_account (fun (r_378 : Int32) (v_379 : OV) => (wp_X8_thrown (fun (r_380 : Int32) => ((r_380 = r_375 → ((¬ r_375 = 0 → (wp_L_law_1977 L xs K28 x5 vKW vLg vLg2 vLg3 vLg4 vWv vPr vRf vTx vLn vHs v_379 v_376 vDa)) ∧ (r_375 = 0 → (((lcm3 (v_376 (0 : Int32).toNatClampNeg) (r_378).toInt64) = 0 → (wp_L_law_1977 L xs K28 x5 vKW vLg vLg2 vLg3 vLg4 vWv vPr vRf vTx vLn vHs v_379 v_376 vDa)) ∧ (¬ ((lcm3 (v_376 (0 : Int32).toNatClampNeg) (r_378).toInt64) = 0) → ((0 : Int32) = 1)))))) ∧ (¬ (r_380 = r_375) → ((0 : Int32) = 1)))) v_379)) (xs (x5 + (1 : Int32)).toNatClampNeg) vMd))) (xs (x5 + (1 : Int32)).toNatClampNeg) vKW vLg vLg2 vLg3 vLg4 vWv vPr vRf vTx vLn vHs vLa))) ∧ ((((xs x5.toNatClampNeg) &&& (63 : Int32))).toInt = 33 → (wp_L_undo (fun (r_384 : Int32) (v_385 : OV) (v_386 : HV) (v_387 : (Nat → Int64)) => (wp_X8_undo (fun (r_388 : Int32) (v_389 : OV) => (wp_X8_thrown (fun (r_390 : Int32) => ((r_390 = r_384 → ((¬ r_384 = 0 → (wp_L_law_2021 L xs K28 x5 vKW v_385 vLg2 vLg3 vLg4 vWv vPr vRf vTx vLn v_386 v_389 v_387 vDa)) ∧ (r_384 = 0 → (((lcm3 (v_387 (0 : Int32).toNatClampNeg) (r_388).toInt64) = 0 → (wp_L_law_2021 L xs K28 x5 vKW v_385 vLg2 vLg3 vLg4 vWv vPr vRf vTx vLn v_386 v_389 v_387 vDa)) ∧ (¬ ((lcm3 (v_387 (0 : Int32).toNatClampNeg) (r_388).toInt64) = 0) → ((0 : Int32) = 1)))))) ∧ (¬ (r_390 = r_384) → ((0 : Int32) = 1)))) v_389)) vMd)) vKW vLg vLg2 vLg3 vLg4 vWv vPr vRf vTx vLn vHs vLa)) ∧ ((((xs x5.toNatClampNeg) &&& (63 : Int32))).toInt = 34 → (wp_X7_save (fun (r_394 : Int32) (v_395 : OV) (v_396 : OV) => (wp_X8_save (fun (r_397 : Int32) (v_398 : OV) => ((r_394 = r_397 → (wp_L_law_2081 L xs K28 x5 v_395 vLg vLg2 v_396 vLg4 vWv vPr vRf vTx vLn vHs v_398 vLa vDa)) ∧ (¬ (r_394 = r_397) → ((0 : Int32) = 1)))) vMd)) vKW vLg vLg2 vLg3 vLg4 vWv vPr vRf vTx vLn vHs)) ∧ ((((xs x5.toNatClampNeg) &&& (63 : Int32))).toInt = 35 → (wp_L_restore (fun (r_400 : Int32) (v_401 : OV) (v_402 : HV) (v_403 : (Nat → Int64)) => (wp_X8_restore (fun (r_404 : Int32) (v_405 : OV) => (wp_X8_thrown (fun (r_406 : Int32) => ((r_406 = r_400 → ((¬ r_400 = 0 → (wp_L_law_2078 L xs K28 x5 vKW v_401 vLg2 vLg3 vLg4 vWv vPr vRf vTx vLn v_402 v_405 v_403 vDa)) ∧ (r_400 = 0 → (((lcm3 (v_403 (0 : Int32).toNatClampNeg) (r_404).toInt64) = 0 → (wp_L_law_2078 L xs K28 x5 vKW v_401 vLg2 vLg3 vLg4 vWv vPr vRf vTx vLn v_402 v_405 v_403 vDa)) ∧ (¬ ((lcm3 (v_403 (0 : Int32).toNatClampNeg) (r_404).toInt64) = 0) → ((0 : Int32) = 1)))))) ∧ (¬ (r_406 = r_400) → ((0 : Int32) = 1)))) v_405)) vMd)) vKW vLg vLg2 vLg3 vLg4 vWv vPr vRf vTx vLn vHs vLa))))))
set_option maxRecDepth 20000 in
theorem lb_L_law_28 {l : Launch} {D : va_G} {G : Nat → ClassId} {C : Cx} {bS L : Nat} {xs : Nat → Int32} {k0 n0 : Nat} {hKW : Nat} {qKW : Nat → Nat} {qLg : Nat → Nat} {qLg2 : Nat → Nat} {qLg3 : Nat → Nat} {qLg4 : Nat → Nat} {qWv : Nat → Nat} {qPr : Nat → Nat} {qRf : Nat → Nat} {qTx : Nat → Nat} {qLn : Nat → Nat} {qHs : Nat → Nat → Nat} {hMd : Nat} {qMd : Nat → Nat} {aLa : Nat} {aDa : Nat} {K28 : Int32 → OV → OV → OV → OV → OV → OV → OV → OV → OV → OV → HV → OV → (Nat → Int64) → (Nat → UInt64) → Prop} (hl0 : l.stackTraces = false) (hk : k0 + 20 ≤ 603072 ∧ n0 + 100 ≤ 7207018) (F : GF C XL cL_law lw_tbl RL room_1 9 (some .boolean) D G l) (E : GL C bS L xs) (hK28 : ∀ (x5 : Int32) (vKW : OV) (vLg : OV) (vLg2 : OV) (vLg3 : OV) (vLg4 : OV) (vWv : OV) (vPr : OV) (vRf : OV) (vTx : OV) (vLn : OV) (vHs : HV) (vMd : OV) (vLa : (Nat → Int64)) (vDa : (Nat → UInt64)), K28 x5 vKW vLg vLg2 vLg3 vLg4 vWv vPr vRf vTx vLn vHs vMd vLa vDa → GW C (k0 + 2) (n0 + 12) [bKW G hKW qKW vKW, bLg G (qKW 0) qLg vLg, bLg G (qKW 1) qLg2 vLg2, bLg G (qKW 2) qLg3 vLg3, bLg G (qKW 3) qLg4 vLg4, bWv G (qKW 5) qWv vWv, bPr G (qKW 6) qPr vPr, bRf G (qKW 7) qRf vRf, bTx G (qKW 8) qTx vTx, bLn G (qKW 9) qLn vLn, bHo G (qKW 4) qHs vHs, bRo G qHs vHs 0, bRo G qHs vHs 1, bRo G qHs vHs 2, bRo G qHs vHs 3, bRo G qHs vHs 4, bRo G qHs vHs 5, bRo G qHs vHs 6, bRo G qHs vHs 7, bMd G hMd qMd vMd, bLa G aLa vLa, bDa G aDa vDa] 28 [(0, .ref bS), (1, .ref hKW), (2, .ref hMd), (3, .ref aLa), (4, .ref aDa), (5, .int x5)] []) {x5 : Int32} {vKW : OV} {vLg : OV} {vLg2 : OV} {vLg3 : OV} {vLg4 : OV} {vWv : OV} {vPr : OV} {vRf : OV} {vTx : OV} {vLn : OV} {vHs : HV} {vMd : OV} {vLa : (Nat → Int64)} {vDa : (Nat → UInt64)} (hw : wp_L_law_28 L xs K28 x5 vKW vLg vLg2 vLg3 vLg4 vWv vPr vRf vTx vLn vHs vMd vLa vDa) : GW C k0 n0 [bKW G hKW qKW vKW, bLg G (qKW 0) qLg vLg, bLg G (qKW 1) qLg2 vLg2, bLg G (qKW 2) qLg3 vLg3, bLg G (qKW 3) qLg4 vLg4, bWv G (qKW 5) qWv vWv, bPr G (qKW 6) qPr vPr, bRf G (qKW 7) qRf vRf, bTx G (qKW 8) qTx vTx, bLn G (qKW 9) qLn vLn, bHo G (qKW 4) qHs vHs, bRo G qHs vHs 0, bRo G qHs vHs 1, bRo G qHs vHs 2, bRo G qHs vHs 3, bRo G qHs vHs 4, bRo G qHs vHs 5, bRo G qHs vHs 6, bRo G qHs vHs 7, bMd G hMd qMd vMd, bLa G aLa vLa, bDa G aDa vDa] 28 [(0, .ref bS), (1, .ref hKW), (2, .ref hMd), (3, .ref aLa), (4, .ref aDa), (5, .int x5)] [] := by
  unfold wp_L_law_28 at hw
  refine gw_iload F dL_law_28 5 rfl ?_
  refine gw_aload_n F dL_law_30 0 rfl ?_
  refine gw_slen F E dL_law_31 ?_
  refine gw_iconst (v := (4 : Int32)) F dL_law_32 ic_iconst_4 ?_
  refine gw_isub F dL_law_33 ?_
  refine gw_icmp_gt (tgt := 2087) F dL_law_34 (by decide) (fun c_1 => ?_) (fun c_1 => ?_)
  · have hw := hw.1 c_1
    refine gw_iconst (v := (1 : Int32)) F dL_law_2087 ic_iconst_1 ?_
    exact gw_lret F E hw (by omega) (by omega) dL_law_2088
  · have hw := hw.2 c_1
    refine gw_aload_n F dL_law_37 0 rfl ?_
    refine gw_iload F dL_law_38 5 rfl ?_
    obtain ⟨h_2, hw⟩ := hw
    refine gw_sld F E h_2 dL_law_40 ?_
    refine gw_bipush (v := (63 : Int32)) F dL_law_41 ic_bipush_63 ?_
    refine gw_iand F dL_law_43 ?_
    rcases tb_0_35 (((xs x5.toNatClampNeg) &&& (63 : Int32))) with c_3 | c_3 | c_3 | c_3 | c_3 | c_3 | c_3 | c_3 | c_3 | c_3 | c_3 | c_3 | c_3 | c_3 | c_3 | c_3 | c_3 | c_3 | c_3 | c_3 | c_3 | c_3 | c_3 | c_3 | c_3 | c_3 | c_3 | c_3 | c_3 | c_3 | c_3 | c_3 | c_3 | c_3 | c_3 | c_3 | c_3
    · have hw := hw.1 c_3
      refine gw_tout (tgt := 2081) F dL_law_44 c_3 (by decide) ?_
      refine gw_widen (k' := k0 + 2) (n' := n0 + 12) (by omega) (by omega) ?_
      exact lb_L_law_2081 hl0 hk F E hK28 hw
    · have hw := hw.2.1 c_3
      refine gw_tin (j := 0) (off := 160) (tgt := 204) F dL_law_44 c_3 (by decide) (by decide) rfl (by decide) ?_
      refine gw_aload_n F dL_law_204 1 rfl ?_
      refine gw_aload_n F dL_law_205 0 rfl ?_
      refine gw_iload F dL_law_206 5 rfl ?_
      refine gw_iconst (v := (1 : Int32)) F dL_law_208 ic_iconst_1 ?_
      refine gw_iadd F dL_law_209 ?_
      obtain ⟨h_5, hw⟩ := hw
      refine gw_sld F E h_5 dL_law_210 ?_
      refine gw_aload_n F dL_law_211 0 rfl ?_
      refine gw_iload F dL_law_212 5 rfl ?_
      refine gw_iconst (v := (2 : Int32)) F dL_law_214 ic_iconst_2 ?_
      refine gw_iadd F dL_law_215 ?_
      obtain ⟨h_6, hw⟩ := hw
      refine gw_sld F E h_6 dL_law_216 ?_
      refine gw_aload_n F dL_law_217 3 rfl ?_
      refine gw_callSX F (ct_L_key hl0 hw) 4 la_119 rfl rfl rfl hd_L_key ⟨(Nat.le_of_ble_eq_true rfl), (Nat.le_of_ble_eq_true rfl)⟩ rfl rfl (Nat.le_of_ble_eq_true rfl) ⟨by show _ ≤ 603072; omega, by show _ ≤ 7207018; omega⟩ [19, 21, 0, 1, 2, 3, 4, 5, 6, 7, 8, 9, 10, 11, 12, 13, 14, 15, 16, 17, 18, 20] (bsr := [bMd G hMd qMd vMd, bDa G aDa vDa]) rfl rfl dL_law_218 ?_
      rintro _ _ ⟨r_7, v_8, v_9, v_10, v_11, v_12, rfl, rfl, hw⟩
      refine gw_sel [2, 3, 4, 5, 6, 7, 8, 9, 10, 11, 12, 13, 14, 15, 16, 17, 18, 19, 20, 0, 21, 1] (bs' := [bKW G hKW qKW vKW, bLg G (qKW 0) qLg v_8, bLg G (qKW 1) qLg2 v_9, bLg G (qKW 2) qLg3 vLg3, bLg G (qKW 3) qLg4 vLg4, bWv G (qKW 5) qWv vWv, bPr G (qKW 6) qPr vPr, bRf G (qKW 7) qRf v_10, bTx G (qKW 8) qTx vTx, bLn G (qKW 9) qLn vLn, bHo G (qKW 4) qHs v_11, bRo G qHs v_11 0, bRo G qHs v_11 1, bRo G qHs v_11 2, bRo G qHs v_11 3, bRo G qHs v_11 4, bRo G qHs v_11 5, bRo G qHs v_11 6, bRo G qHs v_11 7, bMd G hMd qMd vMd, bLa G aLa v_12, bDa G aDa vDa]) rfl rfl ?_
      change GW C (k0 + 1) (n0 + 6) _ 221 _ [.int r_7]
      refine gw_istore (lv' := [(6, .int r_7), (0, .ref bS), (1, .ref hKW), (2, .ref hMd), (3, .ref aLa), (4, .ref aDa), (5, .int x5)]) F dL_law_221 (by decide) rfl ?_
      refine gw_aload_n F dL_law_223 3 rfl ?_
      refine gw_aload_n F dL_law_224 1 rfl ?_
      refine gw_iload F dL_law_225 6 rfl ?_
      refine gw_iconst (v := (1 : Int32)) F dL_law_227 ic_iconst_1 ?_
      refine gw_iadd F dL_law_228 ?_
      obtain ⟨h_13, hw⟩ := hw
      refine gw_sld F E h_13 dL_law_229 ?_
      refine gw_aload_n F dL_law_230 1 rfl ?_
      refine gw_iload F dL_law_231 6 rfl ?_
      refine gw_iconst (v := (2 : Int32)) F dL_law_233 ic_iconst_2 ?_
      refine gw_iadd F dL_law_234 ?_
      obtain ⟨h_14, hw⟩ := hw
      refine gw_sld F E h_14 dL_law_235 ?_
      refine gw_callV F (ct_X8_key hw) 2 la_124 rfl rfl rfl hd_X8_key ⟨(Nat.le_of_ble_eq_true rfl), (Nat.le_of_ble_eq_true rfl)⟩ rfl rfl (Nat.le_of_ble_eq_true rfl) ⟨by show _ ≤ 603072; omega, by show _ ≤ 7207018; omega⟩ [0, 1, 2, 3, 4, 5, 6, 7, 8, 9, 10, 11, 12, 13, 14, 15, 16, 17, 18, 20, 21, 19] (bsr := [bKW G hKW qKW vKW, bLg G (qKW 0) qLg v_8, bLg G (qKW 1) qLg2 v_9, bLg G (qKW 2) qLg3 vLg3, bLg G (qKW 3) qLg4 vLg4, bWv G (qKW 5) qWv vWv, bPr G (qKW 6) qPr vPr, bRf G (qKW 7) qRf v_10, bTx G (qKW 8) qTx vTx, bLn G (qKW 9) qLn vLn, bHo G (qKW 4) qHs v_11, bRo G qHs v_11 0, bRo G qHs v_11 1, bRo G qHs v_11 2, bRo G qHs v_11 3, bRo G qHs v_11 4, bRo G qHs v_11 5, bRo G qHs v_11 6, bRo G qHs v_11 7, bLa G aLa v_12, bDa G aDa vDa]) rfl rfl (q0 := 0) rfl rfl dL_law_236 ?_
      rintro _ _ ⟨r_15, v_16, rfl, rfl, hw⟩
      refine gw_sel [0, 1, 2, 3, 4, 5, 6, 7, 8, 9, 10, 11, 12, 13, 14, 15, 16, 17, 18, 21, 19, 20] (bs' := [bKW G hKW qKW vKW, bLg G (qKW 0) qLg v_8, bLg G (qKW 1) qLg2 v_9, bLg G (qKW 2) qLg3 vLg3, bLg G (qKW 3) qLg4 vLg4, bWv G (qKW 5) qWv vWv, bPr G (qKW 6) qPr vPr, bRf G (qKW 7) qRf v_10, bTx G (qKW 8) qTx vTx, bLn G (qKW 9) qLn vLn, bHo G (qKW 4) qHs v_11, bRo G qHs v_11 0, bRo G qHs v_11 1, bRo G qHs v_11 2, bRo G qHs v_11 3, bRo G qHs v_11 4, bRo G qHs v_11 5, bRo G qHs v_11 6, bRo G qHs v_11 7, bMd G hMd qMd v_16, bLa G aLa v_12, bDa G aDa vDa]) rfl rfl ?_
      change GW C (k0 + 1) (n0 + 6) _ 239 _ [.int r_15]
      refine gw_istore (lv' := [(7, .int r_15), (6, .int r_7), (0, .ref bS), (1, .ref hKW), (2, .ref hMd), (3, .ref aLa), (4, .ref aDa), (5, .int x5)]) F dL_law_239 (by decide) rfl ?_
      refine gw_aload_n F dL_law_241 4 rfl ?_
      refine gw_callV F (ct_X8_thrown hw) 0 la_125 rfl rfl rfl hd_X8_thrown ⟨(Nat.le_of_ble_eq_true rfl), (Nat.le_of_ble_eq_true rfl)⟩ rfl rfl (Nat.le_of_ble_eq_true rfl) ⟨by show _ ≤ 603072; omega, by show _ ≤ 7207018; omega⟩ [0, 1, 2, 3, 4, 5, 6, 7, 8, 9, 10, 11, 12, 13, 14, 15, 16, 17, 18, 20, 21, 19] (bsr := [bKW G hKW qKW vKW, bLg G (qKW 0) qLg v_8, bLg G (qKW 1) qLg2 v_9, bLg G (qKW 2) qLg3 vLg3, bLg G (qKW 3) qLg4 vLg4, bWv G (qKW 5) qWv vWv, bPr G (qKW 6) qPr vPr, bRf G (qKW 7) qRf v_10, bTx G (qKW 8) qTx vTx, bLn G (qKW 9) qLn vLn, bHo G (qKW 4) qHs v_11, bRo G qHs v_11 0, bRo G qHs v_11 1, bRo G qHs v_11 2, bRo G qHs v_11 3, bRo G qHs v_11 4, bRo G qHs v_11 5, bRo G qHs v_11 6, bRo G qHs v_11 7, bLa G aLa v_12, bDa G aDa vDa]) rfl rfl (q0 := 0) rfl rfl dL_law_242 ?_
      rintro _ _ ⟨r_17, rfl, rfl, hw⟩
      refine gw_sel [0, 1, 2, 3, 4, 5, 6, 7, 8, 9, 10, 11, 12, 13, 14, 15, 16, 17, 18, 21, 19, 20] (bs' := [bKW G hKW qKW vKW, bLg G (qKW 0) qLg v_8, bLg G (qKW 1) qLg2 v_9, bLg G (qKW 2) qLg3 vLg3, bLg G (qKW 3) qLg4 vLg4, bWv G (qKW 5) qWv vWv, bPr G (qKW 6) qPr vPr, bRf G (qKW 7) qRf v_10, bTx G (qKW 8) qTx vTx, bLn G (qKW 9) qLn vLn, bHo G (qKW 4) qHs v_11, bRo G qHs v_11 0, bRo G qHs v_11 1, bRo G qHs v_11 2, bRo G qHs v_11 3, bRo G qHs v_11 4, bRo G qHs v_11 5, bRo G qHs v_11 6, bRo G qHs v_11 7, bMd G hMd qMd v_16, bLa G aLa v_12, bDa G aDa vDa]) rfl rfl ?_
      change GW C (k0 + 1) (n0 + 6) _ 245 _ [.int r_17]
      refine gw_iload F dL_law_245 1 rfl ?_
      refine gw_icmp_eq (tgt := 252) F dL_law_247 (by decide) (fun c_18 => ?_) (fun c_18 => ?_)
      · have hw := hw.1 c_18
        refine gw_iload F dL_law_252 1 rfl ?_
        refine gw_if_ne (tgt := 269) F dL_law_254 (by decide) (fun c_19 => ?_) (fun c_19 => ?_)
        · have hw := hw.1 c_19
          refine gw_lv [2, 3, 4, 5, 6, 7] rfl ?_
          exact lb_L_law_269 hl0 hk F E hK28 hw
        · have hw := hw.2 c_19
          refine gw_aload_n F dL_law_257 5 rfl ?_
          refine gw_iconst (v := (0 : Int32)) F dL_law_258 ic_iconst_0 ?_
          refine gw_lald F 133 rfl (by unfold vp_in; decide) dL_law_259 ?_
          refine gw_iload F dL_law_260 0 rfl ?_
          refine gw_i2l F dL_law_262 ?_
          refine gw_lcmp F dL_law_263 ?_
          refine gw_if_eq (tgt := 269) F dL_law_264 (by decide) (fun c_20 => ?_) (fun c_20 => ?_)
          · have hw := hw.1 c_20
            refine gw_lv [2, 3, 4, 5, 6, 7] rfl ?_
            exact lb_L_law_269 hl0 hk F E hK28 hw
          · have hw := hw.2 c_20
            refine gw_iconst (v := (0 : Int32)) F dL_law_267 ic_iconst_0 ?_
            exact gw_lret F E hw (by omega) (by omega) dL_law_268
      · have hw := hw.2 c_18
        refine gw_iconst (v := (0 : Int32)) F dL_law_250 ic_iconst_0 ?_
        exact gw_lret F E hw (by omega) (by omega) dL_law_251
    · have hw := hw.2.2.1 c_3
      refine gw_tin (j := 1) (off := 228) (tgt := 272) F dL_law_44 c_3 (by decide) (by decide) rfl (by decide) ?_
      refine gw_aload_n F dL_law_272 1 rfl ?_
      refine gw_aload_n F dL_law_273 0 rfl ?_
      refine gw_iload F dL_law_274 5 rfl ?_
      refine gw_iconst (v := (1 : Int32)) F dL_law_276 ic_iconst_1 ?_
      refine gw_iadd F dL_law_277 ?_
      obtain ⟨h_21, hw⟩ := hw
      refine gw_sld F E h_21 dL_law_278 ?_
      refine gw_aload_n F dL_law_279 3 rfl ?_
      refine gw_callSX F (ct_L_lock hl0 hw) 3 la_128 rfl rfl rfl hd_L_lock ⟨(Nat.le_of_ble_eq_true rfl), (Nat.le_of_ble_eq_true rfl)⟩ rfl rfl (Nat.le_of_ble_eq_true rfl) ⟨by show _ ≤ 603072; omega, by show _ ≤ 7207018; omega⟩ [19, 21, 0, 1, 2, 3, 4, 5, 6, 7, 8, 9, 10, 11, 12, 13, 14, 15, 16, 17, 18, 20] (bsr := [bMd G hMd qMd vMd, bDa G aDa vDa]) rfl rfl dL_law_280 ?_
      rintro _ _ ⟨r_22, v_23, v_24, v_25, v_26, v_27, rfl, rfl, hw⟩
      refine gw_sel [2, 3, 4, 5, 6, 7, 8, 9, 10, 11, 12, 13, 14, 15, 16, 17, 18, 19, 20, 0, 21, 1] (bs' := [bKW G hKW qKW vKW, bLg G (qKW 0) qLg v_23, bLg G (qKW 1) qLg2 v_24, bLg G (qKW 2) qLg3 vLg3, bLg G (qKW 3) qLg4 vLg4, bWv G (qKW 5) qWv vWv, bPr G (qKW 6) qPr vPr, bRf G (qKW 7) qRf v_25, bTx G (qKW 8) qTx vTx, bLn G (qKW 9) qLn vLn, bHo G (qKW 4) qHs v_26, bRo G qHs v_26 0, bRo G qHs v_26 1, bRo G qHs v_26 2, bRo G qHs v_26 3, bRo G qHs v_26 4, bRo G qHs v_26 5, bRo G qHs v_26 6, bRo G qHs v_26 7, bMd G hMd qMd vMd, bLa G aLa v_27, bDa G aDa vDa]) rfl rfl ?_
      change GW C (k0 + 1) (n0 + 6) _ 283 _ [.int r_22]
      refine gw_istore (lv' := [(6, .int r_22), (0, .ref bS), (1, .ref hKW), (2, .ref hMd), (3, .ref aLa), (4, .ref aDa), (5, .int x5)]) F dL_law_283 (by decide) rfl ?_
      refine gw_aload_n F dL_law_285 3 rfl ?_
      refine gw_aload_n F dL_law_286 1 rfl ?_
      refine gw_iload F dL_law_287 6 rfl ?_
      refine gw_iconst (v := (1 : Int32)) F dL_law_289 ic_iconst_1 ?_
      refine gw_iadd F dL_law_290 ?_
      obtain ⟨h_28, hw⟩ := hw
      refine gw_sld F E h_28 dL_law_291 ?_
      refine gw_callV F (ct_X8_lock hw) 1 la_131 rfl rfl rfl hd_X8_lock ⟨(Nat.le_of_ble_eq_true rfl), (Nat.le_of_ble_eq_true rfl)⟩ rfl rfl (Nat.le_of_ble_eq_true rfl) ⟨by show _ ≤ 603072; omega, by show _ ≤ 7207018; omega⟩ [0, 1, 2, 3, 4, 5, 6, 7, 8, 9, 10, 11, 12, 13, 14, 15, 16, 17, 18, 20, 21, 19] (bsr := [bKW G hKW qKW vKW, bLg G (qKW 0) qLg v_23, bLg G (qKW 1) qLg2 v_24, bLg G (qKW 2) qLg3 vLg3, bLg G (qKW 3) qLg4 vLg4, bWv G (qKW 5) qWv vWv, bPr G (qKW 6) qPr vPr, bRf G (qKW 7) qRf v_25, bTx G (qKW 8) qTx vTx, bLn G (qKW 9) qLn vLn, bHo G (qKW 4) qHs v_26, bRo G qHs v_26 0, bRo G qHs v_26 1, bRo G qHs v_26 2, bRo G qHs v_26 3, bRo G qHs v_26 4, bRo G qHs v_26 5, bRo G qHs v_26 6, bRo G qHs v_26 7, bLa G aLa v_27, bDa G aDa vDa]) rfl rfl (q0 := 0) rfl rfl dL_law_292 ?_
      rintro _ _ ⟨r_29, v_30, rfl, rfl, hw⟩
      refine gw_sel [0, 1, 2, 3, 4, 5, 6, 7, 8, 9, 10, 11, 12, 13, 14, 15, 16, 17, 18, 21, 19, 20] (bs' := [bKW G hKW qKW vKW, bLg G (qKW 0) qLg v_23, bLg G (qKW 1) qLg2 v_24, bLg G (qKW 2) qLg3 vLg3, bLg G (qKW 3) qLg4 vLg4, bWv G (qKW 5) qWv vWv, bPr G (qKW 6) qPr vPr, bRf G (qKW 7) qRf v_25, bTx G (qKW 8) qTx vTx, bLn G (qKW 9) qLn vLn, bHo G (qKW 4) qHs v_26, bRo G qHs v_26 0, bRo G qHs v_26 1, bRo G qHs v_26 2, bRo G qHs v_26 3, bRo G qHs v_26 4, bRo G qHs v_26 5, bRo G qHs v_26 6, bRo G qHs v_26 7, bMd G hMd qMd v_30, bLa G aLa v_27, bDa G aDa vDa]) rfl rfl ?_
      change GW C (k0 + 1) (n0 + 6) _ 295 _ [.int r_29]
      refine gw_istore (lv' := [(7, .int r_29), (6, .int r_22), (0, .ref bS), (1, .ref hKW), (2, .ref hMd), (3, .ref aLa), (4, .ref aDa), (5, .int x5)]) F dL_law_295 (by decide) rfl ?_
      refine gw_aload_n F dL_law_297 4 rfl ?_
      refine gw_callV F (ct_X8_thrown hw) 0 la_125 rfl rfl rfl hd_X8_thrown ⟨(Nat.le_of_ble_eq_true rfl), (Nat.le_of_ble_eq_true rfl)⟩ rfl rfl (Nat.le_of_ble_eq_true rfl) ⟨by show _ ≤ 603072; omega, by show _ ≤ 7207018; omega⟩ [0, 1, 2, 3, 4, 5, 6, 7, 8, 9, 10, 11, 12, 13, 14, 15, 16, 17, 18, 20, 21, 19] (bsr := [bKW G hKW qKW vKW, bLg G (qKW 0) qLg v_23, bLg G (qKW 1) qLg2 v_24, bLg G (qKW 2) qLg3 vLg3, bLg G (qKW 3) qLg4 vLg4, bWv G (qKW 5) qWv vWv, bPr G (qKW 6) qPr vPr, bRf G (qKW 7) qRf v_25, bTx G (qKW 8) qTx vTx, bLn G (qKW 9) qLn vLn, bHo G (qKW 4) qHs v_26, bRo G qHs v_26 0, bRo G qHs v_26 1, bRo G qHs v_26 2, bRo G qHs v_26 3, bRo G qHs v_26 4, bRo G qHs v_26 5, bRo G qHs v_26 6, bRo G qHs v_26 7, bLa G aLa v_27, bDa G aDa vDa]) rfl rfl (q0 := 0) rfl rfl dL_law_298 ?_
      rintro _ _ ⟨r_31, rfl, rfl, hw⟩
      refine gw_sel [0, 1, 2, 3, 4, 5, 6, 7, 8, 9, 10, 11, 12, 13, 14, 15, 16, 17, 18, 21, 19, 20] (bs' := [bKW G hKW qKW vKW, bLg G (qKW 0) qLg v_23, bLg G (qKW 1) qLg2 v_24, bLg G (qKW 2) qLg3 vLg3, bLg G (qKW 3) qLg4 vLg4, bWv G (qKW 5) qWv vWv, bPr G (qKW 6) qPr vPr, bRf G (qKW 7) qRf v_25, bTx G (qKW 8) qTx vTx, bLn G (qKW 9) qLn vLn, bHo G (qKW 4) qHs v_26, bRo G qHs v_26 0, bRo G qHs v_26 1, bRo G qHs v_26 2, bRo G qHs v_26 3, bRo G qHs v_26 4, bRo G qHs v_26 5, bRo G qHs v_26 6, bRo G qHs v_26 7, bMd G hMd qMd v_30, bLa G aLa v_27, bDa G aDa vDa]) rfl rfl ?_
      change GW C (k0 + 1) (n0 + 6) _ 301 _ [.int r_31]
      refine gw_iload F dL_law_301 1 rfl ?_
      refine gw_icmp_eq (tgt := 308) F dL_law_303 (by decide) (fun c_32 => ?_) (fun c_32 => ?_)
      · have hw := hw.1 c_32
        refine gw_iload F dL_law_308 1 rfl ?_
        refine gw_if_ne (tgt := 325) F dL_law_310 (by decide) (fun c_33 => ?_) (fun c_33 => ?_)
        · have hw := hw.1 c_33
          refine gw_lv [2, 3, 4, 5, 6, 7] rfl ?_
          exact lb_L_law_325 hl0 hk F E hK28 hw
        · have hw := hw.2 c_33
          refine gw_aload_n F dL_law_313 5 rfl ?_
          refine gw_iconst (v := (0 : Int32)) F dL_law_314 ic_iconst_0 ?_
          refine gw_lald F 133 rfl (by unfold vp_in; decide) dL_law_315 ?_
          refine gw_iload F dL_law_316 0 rfl ?_
          refine gw_i2l F dL_law_318 ?_
          refine gw_lcmp F dL_law_319 ?_
          refine gw_if_eq (tgt := 325) F dL_law_320 (by decide) (fun c_34 => ?_) (fun c_34 => ?_)
          · have hw := hw.1 c_34
            refine gw_lv [2, 3, 4, 5, 6, 7] rfl ?_
            exact lb_L_law_325 hl0 hk F E hK28 hw
          · have hw := hw.2 c_34
            refine gw_iconst (v := (0 : Int32)) F dL_law_323 ic_iconst_0 ?_
            exact gw_lret F E hw (by omega) (by omega) dL_law_324
      · have hw := hw.2 c_32
        refine gw_iconst (v := (0 : Int32)) F dL_law_306 ic_iconst_0 ?_
        exact gw_lret F E hw (by omega) (by omega) dL_law_307
    · have hw := hw.2.2.2.1 c_3
      refine gw_tin (j := 2) (off := 284) (tgt := 328) F dL_law_44 c_3 (by decide) (by decide) rfl (by decide) ?_
      refine gw_aload_n F dL_law_328 1 rfl ?_
      refine gw_aload_n F dL_law_329 0 rfl ?_
      refine gw_iload F dL_law_330 5 rfl ?_
      refine gw_iconst (v := (1 : Int32)) F dL_law_332 ic_iconst_1 ?_
      refine gw_iadd F dL_law_333 ?_
      obtain ⟨h_35, hw⟩ := hw
      refine gw_sld F E h_35 dL_law_334 ?_
      refine gw_aload_n F dL_law_335 0 rfl ?_
      refine gw_iload F dL_law_336 5 rfl ?_
      refine gw_iconst (v := (2 : Int32)) F dL_law_338 ic_iconst_2 ?_
      refine gw_iadd F dL_law_339 ?_
      obtain ⟨h_36, hw⟩ := hw
      refine gw_sld F E h_36 dL_law_340 ?_
      refine gw_aload_n F dL_law_341 3 rfl ?_
      refine gw_callSX F (ct_L_cut hl0 hw) 4 la_132 rfl rfl rfl hd_L_cut ⟨(Nat.le_of_ble_eq_true rfl), (Nat.le_of_ble_eq_true rfl)⟩ rfl rfl (Nat.le_of_ble_eq_true rfl) ⟨by show _ ≤ 603072; omega, by show _ ≤ 7207018; omega⟩ [19, 21, 0, 1, 2, 3, 4, 5, 6, 7, 8, 9, 10, 11, 12, 13, 14, 15, 16, 17, 18, 20] (bsr := [bMd G hMd qMd vMd, bDa G aDa vDa]) rfl rfl dL_law_342 ?_
      rintro _ _ ⟨r_37, v_38, v_39, v_40, v_41, v_42, rfl, rfl, hw⟩
      refine gw_sel [2, 3, 4, 5, 6, 7, 8, 9, 10, 11, 12, 13, 14, 15, 16, 17, 18, 19, 20, 0, 21, 1] (bs' := [bKW G hKW qKW vKW, bLg G (qKW 0) qLg v_38, bLg G (qKW 1) qLg2 v_39, bLg G (qKW 2) qLg3 vLg3, bLg G (qKW 3) qLg4 vLg4, bWv G (qKW 5) qWv vWv, bPr G (qKW 6) qPr vPr, bRf G (qKW 7) qRf v_40, bTx G (qKW 8) qTx vTx, bLn G (qKW 9) qLn vLn, bHo G (qKW 4) qHs v_41, bRo G qHs v_41 0, bRo G qHs v_41 1, bRo G qHs v_41 2, bRo G qHs v_41 3, bRo G qHs v_41 4, bRo G qHs v_41 5, bRo G qHs v_41 6, bRo G qHs v_41 7, bMd G hMd qMd vMd, bLa G aLa v_42, bDa G aDa vDa]) rfl rfl ?_
      change GW C (k0 + 1) (n0 + 6) _ 345 _ [.int r_37]
      refine gw_istore (lv' := [(6, .int r_37), (0, .ref bS), (1, .ref hKW), (2, .ref hMd), (3, .ref aLa), (4, .ref aDa), (5, .int x5)]) F dL_law_345 (by decide) rfl ?_
      refine gw_aload_n F dL_law_347 3 rfl ?_
      refine gw_aload_n F dL_law_348 1 rfl ?_
      refine gw_iload F dL_law_349 6 rfl ?_
      refine gw_iconst (v := (1 : Int32)) F dL_law_351 ic_iconst_1 ?_
      refine gw_iadd F dL_law_352 ?_
      obtain ⟨h_43, hw⟩ := hw
      refine gw_sld F E h_43 dL_law_353 ?_
      refine gw_aload_n F dL_law_354 1 rfl ?_
      refine gw_iload F dL_law_355 6 rfl ?_
      refine gw_iconst (v := (2 : Int32)) F dL_law_357 ic_iconst_2 ?_
      refine gw_iadd F dL_law_358 ?_
      obtain ⟨h_44, hw⟩ := hw
      refine gw_sld F E h_44 dL_law_359 ?_
      refine gw_callV F (ct_X8_cut hw) 2 la_134 rfl rfl rfl hd_X8_cut ⟨(Nat.le_of_ble_eq_true rfl), (Nat.le_of_ble_eq_true rfl)⟩ rfl rfl (Nat.le_of_ble_eq_true rfl) ⟨by show _ ≤ 603072; omega, by show _ ≤ 7207018; omega⟩ [0, 1, 2, 3, 4, 5, 6, 7, 8, 9, 10, 11, 12, 13, 14, 15, 16, 17, 18, 20, 21, 19] (bsr := [bKW G hKW qKW vKW, bLg G (qKW 0) qLg v_38, bLg G (qKW 1) qLg2 v_39, bLg G (qKW 2) qLg3 vLg3, bLg G (qKW 3) qLg4 vLg4, bWv G (qKW 5) qWv vWv, bPr G (qKW 6) qPr vPr, bRf G (qKW 7) qRf v_40, bTx G (qKW 8) qTx vTx, bLn G (qKW 9) qLn vLn, bHo G (qKW 4) qHs v_41, bRo G qHs v_41 0, bRo G qHs v_41 1, bRo G qHs v_41 2, bRo G qHs v_41 3, bRo G qHs v_41 4, bRo G qHs v_41 5, bRo G qHs v_41 6, bRo G qHs v_41 7, bLa G aLa v_42, bDa G aDa vDa]) rfl rfl (q0 := 0) rfl rfl dL_law_360 ?_
      rintro _ _ ⟨r_45, v_46, rfl, rfl, hw⟩
      refine gw_sel [0, 1, 2, 3, 4, 5, 6, 7, 8, 9, 10, 11, 12, 13, 14, 15, 16, 17, 18, 21, 19, 20] (bs' := [bKW G hKW qKW vKW, bLg G (qKW 0) qLg v_38, bLg G (qKW 1) qLg2 v_39, bLg G (qKW 2) qLg3 vLg3, bLg G (qKW 3) qLg4 vLg4, bWv G (qKW 5) qWv vWv, bPr G (qKW 6) qPr vPr, bRf G (qKW 7) qRf v_40, bTx G (qKW 8) qTx vTx, bLn G (qKW 9) qLn vLn, bHo G (qKW 4) qHs v_41, bRo G qHs v_41 0, bRo G qHs v_41 1, bRo G qHs v_41 2, bRo G qHs v_41 3, bRo G qHs v_41 4, bRo G qHs v_41 5, bRo G qHs v_41 6, bRo G qHs v_41 7, bMd G hMd qMd v_46, bLa G aLa v_42, bDa G aDa vDa]) rfl rfl ?_
      change GW C (k0 + 1) (n0 + 6) _ 363 _ [.int r_45]
      refine gw_istore (lv' := [(7, .int r_45), (6, .int r_37), (0, .ref bS), (1, .ref hKW), (2, .ref hMd), (3, .ref aLa), (4, .ref aDa), (5, .int x5)]) F dL_law_363 (by decide) rfl ?_
      refine gw_aload_n F dL_law_365 4 rfl ?_
      refine gw_callV F (ct_X8_thrown hw) 0 la_125 rfl rfl rfl hd_X8_thrown ⟨(Nat.le_of_ble_eq_true rfl), (Nat.le_of_ble_eq_true rfl)⟩ rfl rfl (Nat.le_of_ble_eq_true rfl) ⟨by show _ ≤ 603072; omega, by show _ ≤ 7207018; omega⟩ [0, 1, 2, 3, 4, 5, 6, 7, 8, 9, 10, 11, 12, 13, 14, 15, 16, 17, 18, 20, 21, 19] (bsr := [bKW G hKW qKW vKW, bLg G (qKW 0) qLg v_38, bLg G (qKW 1) qLg2 v_39, bLg G (qKW 2) qLg3 vLg3, bLg G (qKW 3) qLg4 vLg4, bWv G (qKW 5) qWv vWv, bPr G (qKW 6) qPr vPr, bRf G (qKW 7) qRf v_40, bTx G (qKW 8) qTx vTx, bLn G (qKW 9) qLn vLn, bHo G (qKW 4) qHs v_41, bRo G qHs v_41 0, bRo G qHs v_41 1, bRo G qHs v_41 2, bRo G qHs v_41 3, bRo G qHs v_41 4, bRo G qHs v_41 5, bRo G qHs v_41 6, bRo G qHs v_41 7, bLa G aLa v_42, bDa G aDa vDa]) rfl rfl (q0 := 0) rfl rfl dL_law_366 ?_
      rintro _ _ ⟨r_47, rfl, rfl, hw⟩
      refine gw_sel [0, 1, 2, 3, 4, 5, 6, 7, 8, 9, 10, 11, 12, 13, 14, 15, 16, 17, 18, 21, 19, 20] (bs' := [bKW G hKW qKW vKW, bLg G (qKW 0) qLg v_38, bLg G (qKW 1) qLg2 v_39, bLg G (qKW 2) qLg3 vLg3, bLg G (qKW 3) qLg4 vLg4, bWv G (qKW 5) qWv vWv, bPr G (qKW 6) qPr vPr, bRf G (qKW 7) qRf v_40, bTx G (qKW 8) qTx vTx, bLn G (qKW 9) qLn vLn, bHo G (qKW 4) qHs v_41, bRo G qHs v_41 0, bRo G qHs v_41 1, bRo G qHs v_41 2, bRo G qHs v_41 3, bRo G qHs v_41 4, bRo G qHs v_41 5, bRo G qHs v_41 6, bRo G qHs v_41 7, bMd G hMd qMd v_46, bLa G aLa v_42, bDa G aDa vDa]) rfl rfl ?_
      change GW C (k0 + 1) (n0 + 6) _ 369 _ [.int r_47]
      refine gw_iload F dL_law_369 1 rfl ?_
      refine gw_icmp_eq (tgt := 376) F dL_law_371 (by decide) (fun c_48 => ?_) (fun c_48 => ?_)
      · have hw := hw.1 c_48
        refine gw_iload F dL_law_376 1 rfl ?_
        refine gw_if_ne (tgt := 393) F dL_law_378 (by decide) (fun c_49 => ?_) (fun c_49 => ?_)
        · have hw := hw.1 c_49
          refine gw_lv [2, 3, 4, 5, 6, 7] rfl ?_
          exact lb_L_law_393 hl0 hk F E hK28 hw
        · have hw := hw.2 c_49
          refine gw_aload_n F dL_law_381 5 rfl ?_
          refine gw_iconst (v := (0 : Int32)) F dL_law_382 ic_iconst_0 ?_
          refine gw_lald F 133 rfl (by unfold vp_in; decide) dL_law_383 ?_
          refine gw_iload F dL_law_384 0 rfl ?_
          refine gw_i2l F dL_law_386 ?_
          refine gw_lcmp F dL_law_387 ?_
          refine gw_if_eq (tgt := 393) F dL_law_388 (by decide) (fun c_50 => ?_) (fun c_50 => ?_)
          · have hw := hw.1 c_50
            refine gw_lv [2, 3, 4, 5, 6, 7] rfl ?_
            exact lb_L_law_393 hl0 hk F E hK28 hw
          · have hw := hw.2 c_50
            refine gw_iconst (v := (0 : Int32)) F dL_law_391 ic_iconst_0 ?_
            exact gw_lret F E hw (by omega) (by omega) dL_law_392
      · have hw := hw.2 c_48
        refine gw_iconst (v := (0 : Int32)) F dL_law_374 ic_iconst_0 ?_
        exact gw_lret F E hw (by omega) (by omega) dL_law_375
    · have hw := hw.2.2.2.2.1 c_3
      refine gw_tin (j := 3) (off := 352) (tgt := 396) F dL_law_44 c_3 (by decide) (by decide) rfl (by decide) ?_
      refine gw_aload_n F dL_law_396 1 rfl ?_
      refine gw_aload_n F dL_law_397 0 rfl ?_
      refine gw_iload F dL_law_398 5 rfl ?_
      refine gw_iconst (v := (1 : Int32)) F dL_law_400 ic_iconst_1 ?_
      refine gw_iadd F dL_law_401 ?_
      obtain ⟨h_51, hw⟩ := hw
      refine gw_sld F E h_51 dL_law_402 ?_
      refine gw_aload_n F dL_law_403 0 rfl ?_
      refine gw_iload F dL_law_404 5 rfl ?_
      refine gw_iconst (v := (2 : Int32)) F dL_law_406 ic_iconst_2 ?_
      refine gw_iadd F dL_law_407 ?_
      obtain ⟨h_52, hw⟩ := hw
      refine gw_sld F E h_52 dL_law_408 ?_
      refine gw_aload_n F dL_law_409 0 rfl ?_
      refine gw_iload F dL_law_410 5 rfl ?_
      refine gw_iconst (v := (3 : Int32)) F dL_law_412 ic_iconst_3 ?_
      refine gw_iadd F dL_law_413 ?_
      obtain ⟨h_53, hw⟩ := hw
      refine gw_sld F E h_53 dL_law_414 ?_
      refine gw_if_eq (tgt := 422) F dL_law_415 (by decide) (fun c_54 => ?_) (fun c_54 => ?_)
      · have hw := hw.1 c_54
        refine gw_iconst (v := (0 : Int32)) F dL_law_422 ic_iconst_0 ?_
        exact lb_L_law_423 hl0 hk F E hK28 hw
      · have hw := hw.2 c_54
        refine gw_iconst (v := (1 : Int32)) F dL_law_418 ic_iconst_1 ?_
        refine gw_goto (tgt := 423) F dL_law_419 (by decide) ?_
        exact lb_L_law_423 hl0 hk F E hK28 hw
    · have hw := hw.2.2.2.2.2.1 c_3
      refine gw_tin (j := 4) (off := 448) (tgt := 492) F dL_law_44 c_3 (by decide) (by decide) rfl (by decide) ?_
      refine gw_aload_n F dL_law_492 1 rfl ?_
      refine gw_aload_n F dL_law_493 0 rfl ?_
      refine gw_iload F dL_law_494 5 rfl ?_
      refine gw_iconst (v := (1 : Int32)) F dL_law_496 ic_iconst_1 ?_
      refine gw_iadd F dL_law_497 ?_
      obtain ⟨h_71, hw⟩ := hw
      refine gw_sld F E h_71 dL_law_498 ?_
      refine gw_aload_n F dL_law_499 3 rfl ?_
      refine gw_callSX F (ct_L_slack hl0 hw) 3 la_139 rfl rfl rfl hd_L_slack ⟨(Nat.le_of_ble_eq_true rfl), (Nat.le_of_ble_eq_true rfl)⟩ rfl rfl (Nat.le_of_ble_eq_true rfl) ⟨by show _ ≤ 603072; omega, by show _ ≤ 7207018; omega⟩ [19, 21, 0, 1, 2, 3, 4, 5, 6, 7, 8, 9, 10, 11, 12, 13, 14, 15, 16, 17, 18, 20] (bsr := [bMd G hMd qMd vMd, bDa G aDa vDa]) rfl rfl dL_law_500 ?_
      rintro _ _ ⟨r_72, v_73, v_74, v_75, v_76, v_77, rfl, rfl, hw⟩
      refine gw_sel [2, 3, 4, 5, 6, 7, 8, 9, 10, 11, 12, 13, 14, 15, 16, 17, 18, 19, 20, 0, 21, 1] (bs' := [bKW G hKW qKW vKW, bLg G (qKW 0) qLg v_73, bLg G (qKW 1) qLg2 v_74, bLg G (qKW 2) qLg3 vLg3, bLg G (qKW 3) qLg4 vLg4, bWv G (qKW 5) qWv vWv, bPr G (qKW 6) qPr vPr, bRf G (qKW 7) qRf v_75, bTx G (qKW 8) qTx vTx, bLn G (qKW 9) qLn vLn, bHo G (qKW 4) qHs v_76, bRo G qHs v_76 0, bRo G qHs v_76 1, bRo G qHs v_76 2, bRo G qHs v_76 3, bRo G qHs v_76 4, bRo G qHs v_76 5, bRo G qHs v_76 6, bRo G qHs v_76 7, bMd G hMd qMd vMd, bLa G aLa v_77, bDa G aDa vDa]) rfl rfl ?_
      change GW C (k0 + 1) (n0 + 6) _ 503 _ [.int r_72]
      refine gw_istore (lv' := [(6, .int r_72), (0, .ref bS), (1, .ref hKW), (2, .ref hMd), (3, .ref aLa), (4, .ref aDa), (5, .int x5)]) F dL_law_503 (by decide) rfl ?_
      refine gw_aload_n F dL_law_505 3 rfl ?_
      refine gw_aload_n F dL_law_506 1 rfl ?_
      refine gw_iload F dL_law_507 6 rfl ?_
      refine gw_iconst (v := (1 : Int32)) F dL_law_509 ic_iconst_1 ?_
      refine gw_iadd F dL_law_510 ?_
      obtain ⟨h_78, hw⟩ := hw
      refine gw_sld F E h_78 dL_law_511 ?_
      refine gw_callV F (ct_X8_slack hw) 1 la_141 rfl rfl rfl hd_X8_slack ⟨(Nat.le_of_ble_eq_true rfl), (Nat.le_of_ble_eq_true rfl)⟩ rfl rfl (Nat.le_of_ble_eq_true rfl) ⟨by show _ ≤ 603072; omega, by show _ ≤ 7207018; omega⟩ [0, 1, 2, 3, 4, 5, 6, 7, 8, 9, 10, 11, 12, 13, 14, 15, 16, 17, 18, 20, 21, 19] (bsr := [bKW G hKW qKW vKW, bLg G (qKW 0) qLg v_73, bLg G (qKW 1) qLg2 v_74, bLg G (qKW 2) qLg3 vLg3, bLg G (qKW 3) qLg4 vLg4, bWv G (qKW 5) qWv vWv, bPr G (qKW 6) qPr vPr, bRf G (qKW 7) qRf v_75, bTx G (qKW 8) qTx vTx, bLn G (qKW 9) qLn vLn, bHo G (qKW 4) qHs v_76, bRo G qHs v_76 0, bRo G qHs v_76 1, bRo G qHs v_76 2, bRo G qHs v_76 3, bRo G qHs v_76 4, bRo G qHs v_76 5, bRo G qHs v_76 6, bRo G qHs v_76 7, bLa G aLa v_77, bDa G aDa vDa]) rfl rfl (q0 := 0) rfl rfl dL_law_512 ?_
      rintro _ _ ⟨r_79, v_80, rfl, rfl, hw⟩
      refine gw_sel [0, 1, 2, 3, 4, 5, 6, 7, 8, 9, 10, 11, 12, 13, 14, 15, 16, 17, 18, 21, 19, 20] (bs' := [bKW G hKW qKW vKW, bLg G (qKW 0) qLg v_73, bLg G (qKW 1) qLg2 v_74, bLg G (qKW 2) qLg3 vLg3, bLg G (qKW 3) qLg4 vLg4, bWv G (qKW 5) qWv vWv, bPr G (qKW 6) qPr vPr, bRf G (qKW 7) qRf v_75, bTx G (qKW 8) qTx vTx, bLn G (qKW 9) qLn vLn, bHo G (qKW 4) qHs v_76, bRo G qHs v_76 0, bRo G qHs v_76 1, bRo G qHs v_76 2, bRo G qHs v_76 3, bRo G qHs v_76 4, bRo G qHs v_76 5, bRo G qHs v_76 6, bRo G qHs v_76 7, bMd G hMd qMd v_80, bLa G aLa v_77, bDa G aDa vDa]) rfl rfl ?_
      change GW C (k0 + 1) (n0 + 6) _ 515 _ [.int r_79]
      refine gw_istore (lv' := [(7, .int r_79), (6, .int r_72), (0, .ref bS), (1, .ref hKW), (2, .ref hMd), (3, .ref aLa), (4, .ref aDa), (5, .int x5)]) F dL_law_515 (by decide) rfl ?_
      refine gw_aload_n F dL_law_517 4 rfl ?_
      refine gw_callV F (ct_X8_thrown hw) 0 la_125 rfl rfl rfl hd_X8_thrown ⟨(Nat.le_of_ble_eq_true rfl), (Nat.le_of_ble_eq_true rfl)⟩ rfl rfl (Nat.le_of_ble_eq_true rfl) ⟨by show _ ≤ 603072; omega, by show _ ≤ 7207018; omega⟩ [0, 1, 2, 3, 4, 5, 6, 7, 8, 9, 10, 11, 12, 13, 14, 15, 16, 17, 18, 20, 21, 19] (bsr := [bKW G hKW qKW vKW, bLg G (qKW 0) qLg v_73, bLg G (qKW 1) qLg2 v_74, bLg G (qKW 2) qLg3 vLg3, bLg G (qKW 3) qLg4 vLg4, bWv G (qKW 5) qWv vWv, bPr G (qKW 6) qPr vPr, bRf G (qKW 7) qRf v_75, bTx G (qKW 8) qTx vTx, bLn G (qKW 9) qLn vLn, bHo G (qKW 4) qHs v_76, bRo G qHs v_76 0, bRo G qHs v_76 1, bRo G qHs v_76 2, bRo G qHs v_76 3, bRo G qHs v_76 4, bRo G qHs v_76 5, bRo G qHs v_76 6, bRo G qHs v_76 7, bLa G aLa v_77, bDa G aDa vDa]) rfl rfl (q0 := 0) rfl rfl dL_law_518 ?_
      rintro _ _ ⟨r_81, rfl, rfl, hw⟩
      refine gw_sel [0, 1, 2, 3, 4, 5, 6, 7, 8, 9, 10, 11, 12, 13, 14, 15, 16, 17, 18, 21, 19, 20] (bs' := [bKW G hKW qKW vKW, bLg G (qKW 0) qLg v_73, bLg G (qKW 1) qLg2 v_74, bLg G (qKW 2) qLg3 vLg3, bLg G (qKW 3) qLg4 vLg4, bWv G (qKW 5) qWv vWv, bPr G (qKW 6) qPr vPr, bRf G (qKW 7) qRf v_75, bTx G (qKW 8) qTx vTx, bLn G (qKW 9) qLn vLn, bHo G (qKW 4) qHs v_76, bRo G qHs v_76 0, bRo G qHs v_76 1, bRo G qHs v_76 2, bRo G qHs v_76 3, bRo G qHs v_76 4, bRo G qHs v_76 5, bRo G qHs v_76 6, bRo G qHs v_76 7, bMd G hMd qMd v_80, bLa G aLa v_77, bDa G aDa vDa]) rfl rfl ?_
      change GW C (k0 + 1) (n0 + 6) _ 521 _ [.int r_81]
      refine gw_iload F dL_law_521 1 rfl ?_
      refine gw_icmp_eq (tgt := 528) F dL_law_523 (by decide) (fun c_82 => ?_) (fun c_82 => ?_)
      · have hw := hw.1 c_82
        refine gw_iload F dL_law_528 1 rfl ?_
        refine gw_if_ne (tgt := 545) F dL_law_530 (by decide) (fun c_83 => ?_) (fun c_83 => ?_)
        · have hw := hw.1 c_83
          refine gw_lv [2, 3, 4, 5, 6, 7] rfl ?_
          exact lb_L_law_545 hl0 hk F E hK28 hw
        · have hw := hw.2 c_83
          refine gw_aload_n F dL_law_533 5 rfl ?_
          refine gw_iconst (v := (0 : Int32)) F dL_law_534 ic_iconst_0 ?_
          refine gw_lald F 133 rfl (by unfold vp_in; decide) dL_law_535 ?_
          refine gw_iload F dL_law_536 0 rfl ?_
          refine gw_i2l F dL_law_538 ?_
          refine gw_lcmp F dL_law_539 ?_
          refine gw_if_eq (tgt := 545) F dL_law_540 (by decide) (fun c_84 => ?_) (fun c_84 => ?_)
          · have hw := hw.1 c_84
            refine gw_lv [2, 3, 4, 5, 6, 7] rfl ?_
            exact lb_L_law_545 hl0 hk F E hK28 hw
          · have hw := hw.2 c_84
            refine gw_iconst (v := (0 : Int32)) F dL_law_543 ic_iconst_0 ?_
            exact gw_lret F E hw (by omega) (by omega) dL_law_544
      · have hw := hw.2 c_82
        refine gw_iconst (v := (0 : Int32)) F dL_law_526 ic_iconst_0 ?_
        exact gw_lret F E hw (by omega) (by omega) dL_law_527
    · have hw := hw.2.2.2.2.2.2.1 c_3
      refine gw_tin (j := 5) (off := 504) (tgt := 548) F dL_law_44 c_3 (by decide) (by decide) rfl (by decide) ?_
      refine gw_aload_n F dL_law_548 1 rfl ?_
      refine gw_aload_n F dL_law_549 0 rfl ?_
      refine gw_iload F dL_law_550 5 rfl ?_
      refine gw_iconst (v := (1 : Int32)) F dL_law_552 ic_iconst_1 ?_
      refine gw_iadd F dL_law_553 ?_
      obtain ⟨h_85, hw⟩ := hw
      refine gw_sld F E h_85 dL_law_554 ?_
      refine gw_aload_n F dL_law_555 0 rfl ?_
      refine gw_iload F dL_law_556 5 rfl ?_
      refine gw_iconst (v := (2 : Int32)) F dL_law_558 ic_iconst_2 ?_
      refine gw_iadd F dL_law_559 ?_
      obtain ⟨h_86, hw⟩ := hw
      refine gw_sld F E h_86 dL_law_560 ?_
      refine gw_aload_n F dL_law_561 3 rfl ?_
      refine gw_callSX F (ct_L_put hl0 hw) 4 la_142 rfl rfl rfl hd_L_put ⟨(Nat.le_of_ble_eq_true rfl), (Nat.le_of_ble_eq_true rfl)⟩ rfl rfl (Nat.le_of_ble_eq_true rfl) ⟨by show _ ≤ 603072; omega, by show _ ≤ 7207018; omega⟩ [19, 21, 0, 1, 2, 3, 4, 5, 6, 7, 8, 9, 10, 11, 12, 13, 14, 15, 16, 17, 18, 20] (bsr := [bMd G hMd qMd vMd, bDa G aDa vDa]) rfl rfl dL_law_562 ?_
      rintro _ _ ⟨r_87, v_88, v_89, v_90, v_91, v_92, rfl, rfl, hw⟩
      refine gw_sel [2, 3, 4, 5, 6, 7, 8, 9, 10, 11, 12, 13, 14, 15, 16, 17, 18, 19, 20, 0, 21, 1] (bs' := [bKW G hKW qKW vKW, bLg G (qKW 0) qLg v_88, bLg G (qKW 1) qLg2 v_89, bLg G (qKW 2) qLg3 vLg3, bLg G (qKW 3) qLg4 vLg4, bWv G (qKW 5) qWv vWv, bPr G (qKW 6) qPr vPr, bRf G (qKW 7) qRf v_90, bTx G (qKW 8) qTx vTx, bLn G (qKW 9) qLn vLn, bHo G (qKW 4) qHs v_91, bRo G qHs v_91 0, bRo G qHs v_91 1, bRo G qHs v_91 2, bRo G qHs v_91 3, bRo G qHs v_91 4, bRo G qHs v_91 5, bRo G qHs v_91 6, bRo G qHs v_91 7, bMd G hMd qMd vMd, bLa G aLa v_92, bDa G aDa vDa]) rfl rfl ?_
      change GW C (k0 + 1) (n0 + 6) _ 565 _ [.int r_87]
      refine gw_istore (lv' := [(6, .int r_87), (0, .ref bS), (1, .ref hKW), (2, .ref hMd), (3, .ref aLa), (4, .ref aDa), (5, .int x5)]) F dL_law_565 (by decide) rfl ?_
      refine gw_aload_n F dL_law_567 3 rfl ?_
      refine gw_aload_n F dL_law_568 1 rfl ?_
      refine gw_iload F dL_law_569 6 rfl ?_
      refine gw_iconst (v := (1 : Int32)) F dL_law_571 ic_iconst_1 ?_
      refine gw_iadd F dL_law_572 ?_
      obtain ⟨h_93, hw⟩ := hw
      refine gw_sld F E h_93 dL_law_573 ?_
      refine gw_aload_n F dL_law_574 1 rfl ?_
      refine gw_iload F dL_law_575 6 rfl ?_
      refine gw_iconst (v := (2 : Int32)) F dL_law_577 ic_iconst_2 ?_
      refine gw_iadd F dL_law_578 ?_
      obtain ⟨h_94, hw⟩ := hw
      refine gw_sld F E h_94 dL_law_579 ?_
      refine gw_callV F (ct_X8_put hw) 2 la_144 rfl rfl rfl hd_X8_put ⟨(Nat.le_of_ble_eq_true rfl), (Nat.le_of_ble_eq_true rfl)⟩ rfl rfl (Nat.le_of_ble_eq_true rfl) ⟨by show _ ≤ 603072; omega, by show _ ≤ 7207018; omega⟩ [0, 1, 2, 3, 4, 5, 6, 7, 8, 9, 10, 11, 12, 13, 14, 15, 16, 17, 18, 20, 21, 19] (bsr := [bKW G hKW qKW vKW, bLg G (qKW 0) qLg v_88, bLg G (qKW 1) qLg2 v_89, bLg G (qKW 2) qLg3 vLg3, bLg G (qKW 3) qLg4 vLg4, bWv G (qKW 5) qWv vWv, bPr G (qKW 6) qPr vPr, bRf G (qKW 7) qRf v_90, bTx G (qKW 8) qTx vTx, bLn G (qKW 9) qLn vLn, bHo G (qKW 4) qHs v_91, bRo G qHs v_91 0, bRo G qHs v_91 1, bRo G qHs v_91 2, bRo G qHs v_91 3, bRo G qHs v_91 4, bRo G qHs v_91 5, bRo G qHs v_91 6, bRo G qHs v_91 7, bLa G aLa v_92, bDa G aDa vDa]) rfl rfl (q0 := 0) rfl rfl dL_law_580 ?_
      rintro _ _ ⟨r_95, v_96, rfl, rfl, hw⟩
      refine gw_sel [0, 1, 2, 3, 4, 5, 6, 7, 8, 9, 10, 11, 12, 13, 14, 15, 16, 17, 18, 21, 19, 20] (bs' := [bKW G hKW qKW vKW, bLg G (qKW 0) qLg v_88, bLg G (qKW 1) qLg2 v_89, bLg G (qKW 2) qLg3 vLg3, bLg G (qKW 3) qLg4 vLg4, bWv G (qKW 5) qWv vWv, bPr G (qKW 6) qPr vPr, bRf G (qKW 7) qRf v_90, bTx G (qKW 8) qTx vTx, bLn G (qKW 9) qLn vLn, bHo G (qKW 4) qHs v_91, bRo G qHs v_91 0, bRo G qHs v_91 1, bRo G qHs v_91 2, bRo G qHs v_91 3, bRo G qHs v_91 4, bRo G qHs v_91 5, bRo G qHs v_91 6, bRo G qHs v_91 7, bMd G hMd qMd v_96, bLa G aLa v_92, bDa G aDa vDa]) rfl rfl ?_
      change GW C (k0 + 1) (n0 + 6) _ 583 _ [.int r_95]
      refine gw_istore (lv' := [(7, .int r_95), (6, .int r_87), (0, .ref bS), (1, .ref hKW), (2, .ref hMd), (3, .ref aLa), (4, .ref aDa), (5, .int x5)]) F dL_law_583 (by decide) rfl ?_
      refine gw_aload_n F dL_law_585 4 rfl ?_
      refine gw_callV F (ct_X8_thrown hw) 0 la_125 rfl rfl rfl hd_X8_thrown ⟨(Nat.le_of_ble_eq_true rfl), (Nat.le_of_ble_eq_true rfl)⟩ rfl rfl (Nat.le_of_ble_eq_true rfl) ⟨by show _ ≤ 603072; omega, by show _ ≤ 7207018; omega⟩ [0, 1, 2, 3, 4, 5, 6, 7, 8, 9, 10, 11, 12, 13, 14, 15, 16, 17, 18, 20, 21, 19] (bsr := [bKW G hKW qKW vKW, bLg G (qKW 0) qLg v_88, bLg G (qKW 1) qLg2 v_89, bLg G (qKW 2) qLg3 vLg3, bLg G (qKW 3) qLg4 vLg4, bWv G (qKW 5) qWv vWv, bPr G (qKW 6) qPr vPr, bRf G (qKW 7) qRf v_90, bTx G (qKW 8) qTx vTx, bLn G (qKW 9) qLn vLn, bHo G (qKW 4) qHs v_91, bRo G qHs v_91 0, bRo G qHs v_91 1, bRo G qHs v_91 2, bRo G qHs v_91 3, bRo G qHs v_91 4, bRo G qHs v_91 5, bRo G qHs v_91 6, bRo G qHs v_91 7, bLa G aLa v_92, bDa G aDa vDa]) rfl rfl (q0 := 0) rfl rfl dL_law_586 ?_
      rintro _ _ ⟨r_97, rfl, rfl, hw⟩
      refine gw_sel [0, 1, 2, 3, 4, 5, 6, 7, 8, 9, 10, 11, 12, 13, 14, 15, 16, 17, 18, 21, 19, 20] (bs' := [bKW G hKW qKW vKW, bLg G (qKW 0) qLg v_88, bLg G (qKW 1) qLg2 v_89, bLg G (qKW 2) qLg3 vLg3, bLg G (qKW 3) qLg4 vLg4, bWv G (qKW 5) qWv vWv, bPr G (qKW 6) qPr vPr, bRf G (qKW 7) qRf v_90, bTx G (qKW 8) qTx vTx, bLn G (qKW 9) qLn vLn, bHo G (qKW 4) qHs v_91, bRo G qHs v_91 0, bRo G qHs v_91 1, bRo G qHs v_91 2, bRo G qHs v_91 3, bRo G qHs v_91 4, bRo G qHs v_91 5, bRo G qHs v_91 6, bRo G qHs v_91 7, bMd G hMd qMd v_96, bLa G aLa v_92, bDa G aDa vDa]) rfl rfl ?_
      change GW C (k0 + 1) (n0 + 6) _ 589 _ [.int r_97]
      refine gw_iload F dL_law_589 1 rfl ?_
      refine gw_icmp_eq (tgt := 596) F dL_law_591 (by decide) (fun c_98 => ?_) (fun c_98 => ?_)
      · have hw := hw.1 c_98
        refine gw_iload F dL_law_596 1 rfl ?_
        refine gw_if_ne (tgt := 613) F dL_law_598 (by decide) (fun c_99 => ?_) (fun c_99 => ?_)
        · have hw := hw.1 c_99
          refine gw_lv [2, 3, 4, 5, 6, 7] rfl ?_
          exact lb_L_law_613 hl0 hk F E hK28 hw
        · have hw := hw.2 c_99
          refine gw_aload_n F dL_law_601 5 rfl ?_
          refine gw_iconst (v := (0 : Int32)) F dL_law_602 ic_iconst_0 ?_
          refine gw_lald F 133 rfl (by unfold vp_in; decide) dL_law_603 ?_
          refine gw_iload F dL_law_604 0 rfl ?_
          refine gw_i2l F dL_law_606 ?_
          refine gw_lcmp F dL_law_607 ?_
          refine gw_if_eq (tgt := 613) F dL_law_608 (by decide) (fun c_100 => ?_) (fun c_100 => ?_)
          · have hw := hw.1 c_100
            refine gw_lv [2, 3, 4, 5, 6, 7] rfl ?_
            exact lb_L_law_613 hl0 hk F E hK28 hw
          · have hw := hw.2 c_100
            refine gw_iconst (v := (0 : Int32)) F dL_law_611 ic_iconst_0 ?_
            exact gw_lret F E hw (by omega) (by omega) dL_law_612
      · have hw := hw.2 c_98
        refine gw_iconst (v := (0 : Int32)) F dL_law_594 ic_iconst_0 ?_
        exact gw_lret F E hw (by omega) (by omega) dL_law_595
    · have hw := hw.2.2.2.2.2.2.2.1 c_3
      refine gw_tin (j := 6) (off := 572) (tgt := 616) F dL_law_44 c_3 (by decide) (by decide) rfl (by decide) ?_
      refine gw_aload_n F dL_law_616 1 rfl ?_
      refine gw_aload_n F dL_law_617 0 rfl ?_
      refine gw_iload F dL_law_618 5 rfl ?_
      refine gw_iconst (v := (1 : Int32)) F dL_law_620 ic_iconst_1 ?_
      refine gw_iadd F dL_law_621 ?_
      obtain ⟨h_101, hw⟩ := hw
      refine gw_sld F E h_101 dL_law_622 ?_
      refine gw_aload_n F dL_law_623 3 rfl ?_
      refine gw_callSX F (ct_L_take hl0 hw) 3 la_145 rfl rfl rfl hd_L_take ⟨(Nat.le_of_ble_eq_true rfl), (Nat.le_of_ble_eq_true rfl)⟩ rfl rfl (Nat.le_of_ble_eq_true rfl) ⟨by show _ ≤ 603072; omega, by show _ ≤ 7207018; omega⟩ [19, 21, 0, 1, 2, 3, 4, 5, 6, 7, 8, 9, 10, 11, 12, 13, 14, 15, 16, 17, 18, 20] (bsr := [bMd G hMd qMd vMd, bDa G aDa vDa]) rfl rfl dL_law_624 ?_
      rintro _ _ ⟨r_102, v_103, v_104, v_105, v_106, v_107, rfl, rfl, hw⟩
      refine gw_sel [2, 3, 4, 5, 6, 7, 8, 9, 10, 11, 12, 13, 14, 15, 16, 17, 18, 19, 20, 0, 21, 1] (bs' := [bKW G hKW qKW vKW, bLg G (qKW 0) qLg v_103, bLg G (qKW 1) qLg2 v_104, bLg G (qKW 2) qLg3 vLg3, bLg G (qKW 3) qLg4 vLg4, bWv G (qKW 5) qWv vWv, bPr G (qKW 6) qPr vPr, bRf G (qKW 7) qRf v_105, bTx G (qKW 8) qTx vTx, bLn G (qKW 9) qLn vLn, bHo G (qKW 4) qHs v_106, bRo G qHs v_106 0, bRo G qHs v_106 1, bRo G qHs v_106 2, bRo G qHs v_106 3, bRo G qHs v_106 4, bRo G qHs v_106 5, bRo G qHs v_106 6, bRo G qHs v_106 7, bMd G hMd qMd vMd, bLa G aLa v_107, bDa G aDa vDa]) rfl rfl ?_
      change GW C (k0 + 1) (n0 + 6) _ 627 _ [.int r_102]
      refine gw_istore (lv' := [(6, .int r_102), (0, .ref bS), (1, .ref hKW), (2, .ref hMd), (3, .ref aLa), (4, .ref aDa), (5, .int x5)]) F dL_law_627 (by decide) rfl ?_
      refine gw_aload_n F dL_law_629 3 rfl ?_
      refine gw_aload_n F dL_law_630 1 rfl ?_
      refine gw_iload F dL_law_631 6 rfl ?_
      refine gw_iconst (v := (1 : Int32)) F dL_law_633 ic_iconst_1 ?_
      refine gw_iadd F dL_law_634 ?_
      obtain ⟨h_108, hw⟩ := hw
      refine gw_sld F E h_108 dL_law_635 ?_
      refine gw_callV F (ct_X8_take hw) 1 la_147 rfl rfl rfl hd_X8_take ⟨(Nat.le_of_ble_eq_true rfl), (Nat.le_of_ble_eq_true rfl)⟩ rfl rfl (Nat.le_of_ble_eq_true rfl) ⟨by show _ ≤ 603072; omega, by show _ ≤ 7207018; omega⟩ [0, 1, 2, 3, 4, 5, 6, 7, 8, 9, 10, 11, 12, 13, 14, 15, 16, 17, 18, 20, 21, 19] (bsr := [bKW G hKW qKW vKW, bLg G (qKW 0) qLg v_103, bLg G (qKW 1) qLg2 v_104, bLg G (qKW 2) qLg3 vLg3, bLg G (qKW 3) qLg4 vLg4, bWv G (qKW 5) qWv vWv, bPr G (qKW 6) qPr vPr, bRf G (qKW 7) qRf v_105, bTx G (qKW 8) qTx vTx, bLn G (qKW 9) qLn vLn, bHo G (qKW 4) qHs v_106, bRo G qHs v_106 0, bRo G qHs v_106 1, bRo G qHs v_106 2, bRo G qHs v_106 3, bRo G qHs v_106 4, bRo G qHs v_106 5, bRo G qHs v_106 6, bRo G qHs v_106 7, bLa G aLa v_107, bDa G aDa vDa]) rfl rfl (q0 := 0) rfl rfl dL_law_636 ?_
      rintro _ _ ⟨r_109, v_110, rfl, rfl, hw⟩
      refine gw_sel [0, 1, 2, 3, 4, 5, 6, 7, 8, 9, 10, 11, 12, 13, 14, 15, 16, 17, 18, 21, 19, 20] (bs' := [bKW G hKW qKW vKW, bLg G (qKW 0) qLg v_103, bLg G (qKW 1) qLg2 v_104, bLg G (qKW 2) qLg3 vLg3, bLg G (qKW 3) qLg4 vLg4, bWv G (qKW 5) qWv vWv, bPr G (qKW 6) qPr vPr, bRf G (qKW 7) qRf v_105, bTx G (qKW 8) qTx vTx, bLn G (qKW 9) qLn vLn, bHo G (qKW 4) qHs v_106, bRo G qHs v_106 0, bRo G qHs v_106 1, bRo G qHs v_106 2, bRo G qHs v_106 3, bRo G qHs v_106 4, bRo G qHs v_106 5, bRo G qHs v_106 6, bRo G qHs v_106 7, bMd G hMd qMd v_110, bLa G aLa v_107, bDa G aDa vDa]) rfl rfl ?_
      change GW C (k0 + 1) (n0 + 6) _ 639 _ [.int r_109]
      refine gw_istore (lv' := [(7, .int r_109), (6, .int r_102), (0, .ref bS), (1, .ref hKW), (2, .ref hMd), (3, .ref aLa), (4, .ref aDa), (5, .int x5)]) F dL_law_639 (by decide) rfl ?_
      refine gw_aload_n F dL_law_641 4 rfl ?_
      refine gw_callV F (ct_X8_thrown hw) 0 la_125 rfl rfl rfl hd_X8_thrown ⟨(Nat.le_of_ble_eq_true rfl), (Nat.le_of_ble_eq_true rfl)⟩ rfl rfl (Nat.le_of_ble_eq_true rfl) ⟨by show _ ≤ 603072; omega, by show _ ≤ 7207018; omega⟩ [0, 1, 2, 3, 4, 5, 6, 7, 8, 9, 10, 11, 12, 13, 14, 15, 16, 17, 18, 20, 21, 19] (bsr := [bKW G hKW qKW vKW, bLg G (qKW 0) qLg v_103, bLg G (qKW 1) qLg2 v_104, bLg G (qKW 2) qLg3 vLg3, bLg G (qKW 3) qLg4 vLg4, bWv G (qKW 5) qWv vWv, bPr G (qKW 6) qPr vPr, bRf G (qKW 7) qRf v_105, bTx G (qKW 8) qTx vTx, bLn G (qKW 9) qLn vLn, bHo G (qKW 4) qHs v_106, bRo G qHs v_106 0, bRo G qHs v_106 1, bRo G qHs v_106 2, bRo G qHs v_106 3, bRo G qHs v_106 4, bRo G qHs v_106 5, bRo G qHs v_106 6, bRo G qHs v_106 7, bLa G aLa v_107, bDa G aDa vDa]) rfl rfl (q0 := 0) rfl rfl dL_law_642 ?_
      rintro _ _ ⟨r_111, rfl, rfl, hw⟩
      refine gw_sel [0, 1, 2, 3, 4, 5, 6, 7, 8, 9, 10, 11, 12, 13, 14, 15, 16, 17, 18, 21, 19, 20] (bs' := [bKW G hKW qKW vKW, bLg G (qKW 0) qLg v_103, bLg G (qKW 1) qLg2 v_104, bLg G (qKW 2) qLg3 vLg3, bLg G (qKW 3) qLg4 vLg4, bWv G (qKW 5) qWv vWv, bPr G (qKW 6) qPr vPr, bRf G (qKW 7) qRf v_105, bTx G (qKW 8) qTx vTx, bLn G (qKW 9) qLn vLn, bHo G (qKW 4) qHs v_106, bRo G qHs v_106 0, bRo G qHs v_106 1, bRo G qHs v_106 2, bRo G qHs v_106 3, bRo G qHs v_106 4, bRo G qHs v_106 5, bRo G qHs v_106 6, bRo G qHs v_106 7, bMd G hMd qMd v_110, bLa G aLa v_107, bDa G aDa vDa]) rfl rfl ?_
      change GW C (k0 + 1) (n0 + 6) _ 645 _ [.int r_111]
      refine gw_iload F dL_law_645 1 rfl ?_
      refine gw_icmp_eq (tgt := 652) F dL_law_647 (by decide) (fun c_112 => ?_) (fun c_112 => ?_)
      · have hw := hw.1 c_112
        refine gw_iload F dL_law_652 1 rfl ?_
        refine gw_if_ne (tgt := 669) F dL_law_654 (by decide) (fun c_113 => ?_) (fun c_113 => ?_)
        · have hw := hw.1 c_113
          refine gw_lv [2, 3, 4, 5, 6, 7] rfl ?_
          exact lb_L_law_669 hl0 hk F E hK28 hw
        · have hw := hw.2 c_113
          refine gw_aload_n F dL_law_657 5 rfl ?_
          refine gw_iconst (v := (0 : Int32)) F dL_law_658 ic_iconst_0 ?_
          refine gw_lald F 133 rfl (by unfold vp_in; decide) dL_law_659 ?_
          refine gw_iload F dL_law_660 0 rfl ?_
          refine gw_i2l F dL_law_662 ?_
          refine gw_lcmp F dL_law_663 ?_
          refine gw_if_eq (tgt := 669) F dL_law_664 (by decide) (fun c_114 => ?_) (fun c_114 => ?_)
          · have hw := hw.1 c_114
            refine gw_lv [2, 3, 4, 5, 6, 7] rfl ?_
            exact lb_L_law_669 hl0 hk F E hK28 hw
          · have hw := hw.2 c_114
            refine gw_iconst (v := (0 : Int32)) F dL_law_667 ic_iconst_0 ?_
            exact gw_lret F E hw (by omega) (by omega) dL_law_668
      · have hw := hw.2 c_112
        refine gw_iconst (v := (0 : Int32)) F dL_law_650 ic_iconst_0 ?_
        exact gw_lret F E hw (by omega) (by omega) dL_law_651
    · have hw := hw.2.2.2.2.2.2.2.2.1 c_3
      refine gw_tin (j := 7) (off := 628) (tgt := 672) F dL_law_44 c_3 (by decide) (by decide) rfl (by decide) ?_
      refine gw_aload_n F dL_law_672 1 rfl ?_
      refine gw_aload_n F dL_law_673 3 rfl ?_
      refine gw_callSX F (ct_L_wave hl0 hw) 2 la_148 rfl rfl rfl hd_L_wave ⟨(Nat.le_of_ble_eq_true rfl), (Nat.le_of_ble_eq_true rfl)⟩ rfl rfl (Nat.le_of_ble_eq_true rfl) ⟨by show _ ≤ 603072; omega, by show _ ≤ 7207018; omega⟩ [19, 21, 0, 1, 2, 3, 4, 5, 6, 7, 8, 9, 10, 11, 12, 13, 14, 15, 16, 17, 18, 20] (bsr := [bMd G hMd qMd vMd, bDa G aDa vDa]) rfl rfl dL_law_674 ?_
      rintro _ _ ⟨r_115, v_116, v_117, v_118, v_119, v_120, v_121, rfl, rfl, hw⟩
      refine gw_sel [2, 3, 4, 5, 6, 7, 8, 9, 10, 11, 12, 13, 14, 15, 16, 17, 18, 19, 20, 0, 21, 1] (bs' := [bKW G hKW qKW vKW, bLg G (qKW 0) qLg v_116, bLg G (qKW 1) qLg2 v_117, bLg G (qKW 2) qLg3 vLg3, bLg G (qKW 3) qLg4 vLg4, bWv G (qKW 5) qWv v_118, bPr G (qKW 6) qPr vPr, bRf G (qKW 7) qRf v_119, bTx G (qKW 8) qTx vTx, bLn G (qKW 9) qLn vLn, bHo G (qKW 4) qHs v_120, bRo G qHs v_120 0, bRo G qHs v_120 1, bRo G qHs v_120 2, bRo G qHs v_120 3, bRo G qHs v_120 4, bRo G qHs v_120 5, bRo G qHs v_120 6, bRo G qHs v_120 7, bMd G hMd qMd vMd, bLa G aLa v_121, bDa G aDa vDa]) rfl rfl ?_
      change GW C (k0 + 1) (n0 + 6) _ 677 _ [.int r_115]
      refine gw_istore (lv' := [(6, .int r_115), (0, .ref bS), (1, .ref hKW), (2, .ref hMd), (3, .ref aLa), (4, .ref aDa), (5, .int x5)]) F dL_law_677 (by decide) rfl ?_
      refine gw_aload_n F dL_law_679 3 rfl ?_
      refine gw_callV F (ct_X8_wave hw) 0 la_151 rfl rfl rfl hd_X8_wave ⟨(Nat.le_of_ble_eq_true rfl), (Nat.le_of_ble_eq_true rfl)⟩ rfl rfl (Nat.le_of_ble_eq_true rfl) ⟨by show _ ≤ 603072; omega, by show _ ≤ 7207018; omega⟩ [0, 1, 2, 3, 4, 5, 6, 7, 8, 9, 10, 11, 12, 13, 14, 15, 16, 17, 18, 20, 21, 19] (bsr := [bKW G hKW qKW vKW, bLg G (qKW 0) qLg v_116, bLg G (qKW 1) qLg2 v_117, bLg G (qKW 2) qLg3 vLg3, bLg G (qKW 3) qLg4 vLg4, bWv G (qKW 5) qWv v_118, bPr G (qKW 6) qPr vPr, bRf G (qKW 7) qRf v_119, bTx G (qKW 8) qTx vTx, bLn G (qKW 9) qLn vLn, bHo G (qKW 4) qHs v_120, bRo G qHs v_120 0, bRo G qHs v_120 1, bRo G qHs v_120 2, bRo G qHs v_120 3, bRo G qHs v_120 4, bRo G qHs v_120 5, bRo G qHs v_120 6, bRo G qHs v_120 7, bLa G aLa v_121, bDa G aDa vDa]) rfl rfl (q0 := 0) rfl rfl dL_law_680 ?_
      rintro _ _ ⟨r_122, v_123, rfl, rfl, hw⟩
      refine gw_sel [0, 1, 2, 3, 4, 5, 6, 7, 8, 9, 10, 11, 12, 13, 14, 15, 16, 17, 18, 21, 19, 20] (bs' := [bKW G hKW qKW vKW, bLg G (qKW 0) qLg v_116, bLg G (qKW 1) qLg2 v_117, bLg G (qKW 2) qLg3 vLg3, bLg G (qKW 3) qLg4 vLg4, bWv G (qKW 5) qWv v_118, bPr G (qKW 6) qPr vPr, bRf G (qKW 7) qRf v_119, bTx G (qKW 8) qTx vTx, bLn G (qKW 9) qLn vLn, bHo G (qKW 4) qHs v_120, bRo G qHs v_120 0, bRo G qHs v_120 1, bRo G qHs v_120 2, bRo G qHs v_120 3, bRo G qHs v_120 4, bRo G qHs v_120 5, bRo G qHs v_120 6, bRo G qHs v_120 7, bMd G hMd qMd v_123, bLa G aLa v_121, bDa G aDa vDa]) rfl rfl ?_
      change GW C (k0 + 1) (n0 + 6) _ 683 _ [.int r_122]
      refine gw_istore (lv' := [(7, .int r_122), (6, .int r_115), (0, .ref bS), (1, .ref hKW), (2, .ref hMd), (3, .ref aLa), (4, .ref aDa), (5, .int x5)]) F dL_law_683 (by decide) rfl ?_
      refine gw_aload_n F dL_law_685 4 rfl ?_
      refine gw_callV F (ct_X8_thrown hw) 0 la_125 rfl rfl rfl hd_X8_thrown ⟨(Nat.le_of_ble_eq_true rfl), (Nat.le_of_ble_eq_true rfl)⟩ rfl rfl (Nat.le_of_ble_eq_true rfl) ⟨by show _ ≤ 603072; omega, by show _ ≤ 7207018; omega⟩ [0, 1, 2, 3, 4, 5, 6, 7, 8, 9, 10, 11, 12, 13, 14, 15, 16, 17, 18, 20, 21, 19] (bsr := [bKW G hKW qKW vKW, bLg G (qKW 0) qLg v_116, bLg G (qKW 1) qLg2 v_117, bLg G (qKW 2) qLg3 vLg3, bLg G (qKW 3) qLg4 vLg4, bWv G (qKW 5) qWv v_118, bPr G (qKW 6) qPr vPr, bRf G (qKW 7) qRf v_119, bTx G (qKW 8) qTx vTx, bLn G (qKW 9) qLn vLn, bHo G (qKW 4) qHs v_120, bRo G qHs v_120 0, bRo G qHs v_120 1, bRo G qHs v_120 2, bRo G qHs v_120 3, bRo G qHs v_120 4, bRo G qHs v_120 5, bRo G qHs v_120 6, bRo G qHs v_120 7, bLa G aLa v_121, bDa G aDa vDa]) rfl rfl (q0 := 0) rfl rfl dL_law_686 ?_
      rintro _ _ ⟨r_124, rfl, rfl, hw⟩
      refine gw_sel [0, 1, 2, 3, 4, 5, 6, 7, 8, 9, 10, 11, 12, 13, 14, 15, 16, 17, 18, 21, 19, 20] (bs' := [bKW G hKW qKW vKW, bLg G (qKW 0) qLg v_116, bLg G (qKW 1) qLg2 v_117, bLg G (qKW 2) qLg3 vLg3, bLg G (qKW 3) qLg4 vLg4, bWv G (qKW 5) qWv v_118, bPr G (qKW 6) qPr vPr, bRf G (qKW 7) qRf v_119, bTx G (qKW 8) qTx vTx, bLn G (qKW 9) qLn vLn, bHo G (qKW 4) qHs v_120, bRo G qHs v_120 0, bRo G qHs v_120 1, bRo G qHs v_120 2, bRo G qHs v_120 3, bRo G qHs v_120 4, bRo G qHs v_120 5, bRo G qHs v_120 6, bRo G qHs v_120 7, bMd G hMd qMd v_123, bLa G aLa v_121, bDa G aDa vDa]) rfl rfl ?_
      change GW C (k0 + 1) (n0 + 6) _ 689 _ [.int r_124]
      refine gw_iload F dL_law_689 1 rfl ?_
      refine gw_icmp_eq (tgt := 696) F dL_law_691 (by decide) (fun c_125 => ?_) (fun c_125 => ?_)
      · have hw := hw.1 c_125
        refine gw_iload F dL_law_696 1 rfl ?_
        refine gw_if_ne (tgt := 713) F dL_law_698 (by decide) (fun c_126 => ?_) (fun c_126 => ?_)
        · have hw := hw.1 c_126
          refine gw_lv [2, 3, 4, 5, 6, 7] rfl ?_
          exact lb_L_law_713 hl0 hk F E hK28 hw
        · have hw := hw.2 c_126
          refine gw_aload_n F dL_law_701 5 rfl ?_
          refine gw_iconst (v := (0 : Int32)) F dL_law_702 ic_iconst_0 ?_
          refine gw_lald F 133 rfl (by unfold vp_in; decide) dL_law_703 ?_
          refine gw_iload F dL_law_704 0 rfl ?_
          refine gw_i2l F dL_law_706 ?_
          refine gw_lcmp F dL_law_707 ?_
          refine gw_if_eq (tgt := 713) F dL_law_708 (by decide) (fun c_127 => ?_) (fun c_127 => ?_)
          · have hw := hw.1 c_127
            refine gw_lv [2, 3, 4, 5, 6, 7] rfl ?_
            exact lb_L_law_713 hl0 hk F E hK28 hw
          · have hw := hw.2 c_127
            refine gw_iconst (v := (0 : Int32)) F dL_law_711 ic_iconst_0 ?_
            exact gw_lret F E hw (by omega) (by omega) dL_law_712
      · have hw := hw.2 c_125
        refine gw_iconst (v := (0 : Int32)) F dL_law_694 ic_iconst_0 ?_
        exact gw_lret F E hw (by omega) (by omega) dL_law_695
    · have hw := hw.2.2.2.2.2.2.2.2.2.1 c_3
      refine gw_tin (j := 8) (off := 672) (tgt := 716) F dL_law_44 c_3 (by decide) (by decide) rfl (by decide) ?_
      refine gw_aload_n F dL_law_716 1 rfl ?_
      refine gw_aload_n F dL_law_717 0 rfl ?_
      refine gw_iload F dL_law_718 5 rfl ?_
      refine gw_iconst (v := (1 : Int32)) F dL_law_720 ic_iconst_1 ?_
      refine gw_iadd F dL_law_721 ?_
      obtain ⟨h_128, hw⟩ := hw
      refine gw_sld F E h_128 dL_law_722 ?_
      refine gw_aload_n F dL_law_723 0 rfl ?_
      refine gw_iload F dL_law_724 5 rfl ?_
      refine gw_iconst (v := (2 : Int32)) F dL_law_726 ic_iconst_2 ?_
      refine gw_iadd F dL_law_727 ?_
      obtain ⟨h_129, hw⟩ := hw
      refine gw_sld F E h_129 dL_law_728 ?_
      refine gw_aload_n F dL_law_729 3 rfl ?_
      refine gw_callSX F (ct_L_keyOf hl0 hw) 4 la_152 rfl rfl rfl hd_L_keyOf ⟨(Nat.le_of_ble_eq_true rfl), (Nat.le_of_ble_eq_true rfl)⟩ rfl rfl (Nat.le_of_ble_eq_true rfl) ⟨by show _ ≤ 603072; omega, by show _ ≤ 7207018; omega⟩ [19, 21, 0, 1, 2, 3, 4, 5, 6, 7, 8, 9, 10, 11, 12, 13, 14, 15, 16, 17, 18, 20] (bsr := [bMd G hMd qMd vMd, bDa G aDa vDa]) rfl rfl dL_law_730 ?_
      rintro _ _ ⟨r_130, v_131, v_132, rfl, rfl, hw⟩
      refine gw_sel [2, 3, 4, 5, 6, 7, 8, 9, 10, 11, 12, 13, 14, 15, 16, 17, 18, 19, 20, 0, 21, 1] (bs' := [bKW G hKW qKW vKW, bLg G (qKW 0) qLg vLg, bLg G (qKW 1) qLg2 vLg2, bLg G (qKW 2) qLg3 vLg3, bLg G (qKW 3) qLg4 vLg4, bWv G (qKW 5) qWv v_131, bPr G (qKW 6) qPr vPr, bRf G (qKW 7) qRf vRf, bTx G (qKW 8) qTx vTx, bLn G (qKW 9) qLn vLn, bHo G (qKW 4) qHs vHs, bRo G qHs vHs 0, bRo G qHs vHs 1, bRo G qHs vHs 2, bRo G qHs vHs 3, bRo G qHs vHs 4, bRo G qHs vHs 5, bRo G qHs vHs 6, bRo G qHs vHs 7, bMd G hMd qMd vMd, bLa G aLa v_132, bDa G aDa vDa]) rfl rfl ?_
      change GW C (k0 + 2) (n0 + 12) _ 733 _ [.int r_130]
      refine gw_istore (lv' := [(6, .int r_130), (0, .ref bS), (1, .ref hKW), (2, .ref hMd), (3, .ref aLa), (4, .ref aDa), (5, .int x5)]) F dL_law_733 (by decide) rfl ?_
      refine gw_aload_n F dL_law_735 3 rfl ?_
      refine gw_aload_n F dL_law_736 1 rfl ?_
      refine gw_iload F dL_law_737 6 rfl ?_
      refine gw_iconst (v := (1 : Int32)) F dL_law_739 ic_iconst_1 ?_
      refine gw_iadd F dL_law_740 ?_
      obtain ⟨h_133, hw⟩ := hw
      refine gw_sld F E h_133 dL_law_741 ?_
      refine gw_aload_n F dL_law_742 1 rfl ?_
      refine gw_iload F dL_law_743 6 rfl ?_
      refine gw_iconst (v := (2 : Int32)) F dL_law_745 ic_iconst_2 ?_
      refine gw_iadd F dL_law_746 ?_
      obtain ⟨h_134, hw⟩ := hw
      refine gw_sld F E h_134 dL_law_747 ?_
      refine gw_callV F (ct_X8_keyOf hw) 2 la_154 rfl rfl rfl hd_X8_keyOf ⟨(Nat.le_of_ble_eq_true rfl), (Nat.le_of_ble_eq_true rfl)⟩ rfl rfl (Nat.le_of_ble_eq_true rfl) ⟨by show _ ≤ 603072; omega, by show _ ≤ 7207018; omega⟩ [0, 1, 2, 3, 4, 5, 6, 7, 8, 9, 10, 11, 12, 13, 14, 15, 16, 17, 18, 20, 21, 19] (bsr := [bKW G hKW qKW vKW, bLg G (qKW 0) qLg vLg, bLg G (qKW 1) qLg2 vLg2, bLg G (qKW 2) qLg3 vLg3, bLg G (qKW 3) qLg4 vLg4, bWv G (qKW 5) qWv v_131, bPr G (qKW 6) qPr vPr, bRf G (qKW 7) qRf vRf, bTx G (qKW 8) qTx vTx, bLn G (qKW 9) qLn vLn, bHo G (qKW 4) qHs vHs, bRo G qHs vHs 0, bRo G qHs vHs 1, bRo G qHs vHs 2, bRo G qHs vHs 3, bRo G qHs vHs 4, bRo G qHs vHs 5, bRo G qHs vHs 6, bRo G qHs vHs 7, bLa G aLa v_132, bDa G aDa vDa]) rfl rfl (q0 := 0) rfl rfl dL_law_748 ?_
      rintro _ _ ⟨r_135, v_136, rfl, rfl, hw⟩
      refine gw_sel [0, 1, 2, 3, 4, 5, 6, 7, 8, 9, 10, 11, 12, 13, 14, 15, 16, 17, 18, 21, 19, 20] (bs' := [bKW G hKW qKW vKW, bLg G (qKW 0) qLg vLg, bLg G (qKW 1) qLg2 vLg2, bLg G (qKW 2) qLg3 vLg3, bLg G (qKW 3) qLg4 vLg4, bWv G (qKW 5) qWv v_131, bPr G (qKW 6) qPr vPr, bRf G (qKW 7) qRf vRf, bTx G (qKW 8) qTx vTx, bLn G (qKW 9) qLn vLn, bHo G (qKW 4) qHs vHs, bRo G qHs vHs 0, bRo G qHs vHs 1, bRo G qHs vHs 2, bRo G qHs vHs 3, bRo G qHs vHs 4, bRo G qHs vHs 5, bRo G qHs vHs 6, bRo G qHs vHs 7, bMd G hMd qMd v_136, bLa G aLa v_132, bDa G aDa vDa]) rfl rfl ?_
      change GW C (k0 + 2) (n0 + 12) _ 751 _ [.int r_135]
      refine gw_istore (lv' := [(7, .int r_135), (6, .int r_130), (0, .ref bS), (1, .ref hKW), (2, .ref hMd), (3, .ref aLa), (4, .ref aDa), (5, .int x5)]) F dL_law_751 (by decide) rfl ?_
      refine gw_aload_n F dL_law_753 4 rfl ?_
      refine gw_callV F (ct_X8_thrown hw) 0 la_125 rfl rfl rfl hd_X8_thrown ⟨(Nat.le_of_ble_eq_true rfl), (Nat.le_of_ble_eq_true rfl)⟩ rfl rfl (Nat.le_of_ble_eq_true rfl) ⟨by show _ ≤ 603072; omega, by show _ ≤ 7207018; omega⟩ [0, 1, 2, 3, 4, 5, 6, 7, 8, 9, 10, 11, 12, 13, 14, 15, 16, 17, 18, 20, 21, 19] (bsr := [bKW G hKW qKW vKW, bLg G (qKW 0) qLg vLg, bLg G (qKW 1) qLg2 vLg2, bLg G (qKW 2) qLg3 vLg3, bLg G (qKW 3) qLg4 vLg4, bWv G (qKW 5) qWv v_131, bPr G (qKW 6) qPr vPr, bRf G (qKW 7) qRf vRf, bTx G (qKW 8) qTx vTx, bLn G (qKW 9) qLn vLn, bHo G (qKW 4) qHs vHs, bRo G qHs vHs 0, bRo G qHs vHs 1, bRo G qHs vHs 2, bRo G qHs vHs 3, bRo G qHs vHs 4, bRo G qHs vHs 5, bRo G qHs vHs 6, bRo G qHs vHs 7, bLa G aLa v_132, bDa G aDa vDa]) rfl rfl (q0 := 0) rfl rfl dL_law_754 ?_
      rintro _ _ ⟨r_137, rfl, rfl, hw⟩
      refine gw_sel [0, 1, 2, 3, 4, 5, 6, 7, 8, 9, 10, 11, 12, 13, 14, 15, 16, 17, 18, 21, 19, 20] (bs' := [bKW G hKW qKW vKW, bLg G (qKW 0) qLg vLg, bLg G (qKW 1) qLg2 vLg2, bLg G (qKW 2) qLg3 vLg3, bLg G (qKW 3) qLg4 vLg4, bWv G (qKW 5) qWv v_131, bPr G (qKW 6) qPr vPr, bRf G (qKW 7) qRf vRf, bTx G (qKW 8) qTx vTx, bLn G (qKW 9) qLn vLn, bHo G (qKW 4) qHs vHs, bRo G qHs vHs 0, bRo G qHs vHs 1, bRo G qHs vHs 2, bRo G qHs vHs 3, bRo G qHs vHs 4, bRo G qHs vHs 5, bRo G qHs vHs 6, bRo G qHs vHs 7, bMd G hMd qMd v_136, bLa G aLa v_132, bDa G aDa vDa]) rfl rfl ?_
      change GW C (k0 + 2) (n0 + 12) _ 757 _ [.int r_137]
      refine gw_iload F dL_law_757 1 rfl ?_
      refine gw_icmp_eq (tgt := 764) F dL_law_759 (by decide) (fun c_138 => ?_) (fun c_138 => ?_)
      · have hw := hw.1 c_138
        refine gw_iload F dL_law_764 1 rfl ?_
        refine gw_if_ne (tgt := 781) F dL_law_766 (by decide) (fun c_139 => ?_) (fun c_139 => ?_)
        · have hw := hw.1 c_139
          refine gw_lv [2, 3, 4, 5, 6, 7] rfl ?_
          exact lb_L_law_781 hl0 hk F E hK28 hw
        · have hw := hw.2 c_139
          refine gw_aload_n F dL_law_769 5 rfl ?_
          refine gw_iconst (v := (0 : Int32)) F dL_law_770 ic_iconst_0 ?_
          refine gw_lald F 133 rfl (by unfold vp_in; decide) dL_law_771 ?_
          refine gw_iload F dL_law_772 0 rfl ?_
          refine gw_i2l F dL_law_774 ?_
          refine gw_lcmp F dL_law_775 ?_
          refine gw_if_eq (tgt := 781) F dL_law_776 (by decide) (fun c_140 => ?_) (fun c_140 => ?_)
          · have hw := hw.1 c_140
            refine gw_lv [2, 3, 4, 5, 6, 7] rfl ?_
            exact lb_L_law_781 hl0 hk F E hK28 hw
          · have hw := hw.2 c_140
            refine gw_iconst (v := (0 : Int32)) F dL_law_779 ic_iconst_0 ?_
            exact gw_lret F E hw (by omega) (by omega) dL_law_780
      · have hw := hw.2 c_138
        refine gw_iconst (v := (0 : Int32)) F dL_law_762 ic_iconst_0 ?_
        exact gw_lret F E hw (by omega) (by omega) dL_law_763
    · have hw := hw.2.2.2.2.2.2.2.2.2.2.1 c_3
      refine gw_tin (j := 9) (off := 740) (tgt := 784) F dL_law_44 c_3 (by decide) (by decide) rfl (by decide) ?_
      refine gw_aload_n F dL_law_784 1 rfl ?_
      refine gw_aload_n F dL_law_785 0 rfl ?_
      refine gw_iload F dL_law_786 5 rfl ?_
      refine gw_iconst (v := (1 : Int32)) F dL_law_788 ic_iconst_1 ?_
      refine gw_iadd F dL_law_789 ?_
      obtain ⟨h_141, hw⟩ := hw
      refine gw_sld F E h_141 dL_law_790 ?_
      refine gw_aload_n F dL_law_791 0 rfl ?_
      refine gw_iload F dL_law_792 5 rfl ?_
      refine gw_iconst (v := (2 : Int32)) F dL_law_794 ic_iconst_2 ?_
      refine gw_iadd F dL_law_795 ?_
      obtain ⟨h_142, hw⟩ := hw
      refine gw_sld F E h_142 dL_law_796 ?_
      refine gw_aload_n F dL_law_797 3 rfl ?_
      refine gw_callSX F (ct_L_lockOf hl0 hw) 4 la_155 rfl rfl rfl hd_L_lockOf ⟨(Nat.le_of_ble_eq_true rfl), (Nat.le_of_ble_eq_true rfl)⟩ rfl rfl (Nat.le_of_ble_eq_true rfl) ⟨by show _ ≤ 603072; omega, by show _ ≤ 7207018; omega⟩ [19, 21, 0, 1, 2, 3, 4, 5, 6, 7, 8, 9, 10, 11, 12, 13, 14, 15, 16, 17, 18, 20] (bsr := [bMd G hMd qMd vMd, bDa G aDa vDa]) rfl rfl dL_law_798 ?_
      rintro _ _ ⟨r_143, v_144, rfl, rfl, hw⟩
      refine gw_sel [2, 3, 4, 5, 6, 7, 8, 9, 10, 11, 12, 13, 14, 15, 16, 17, 18, 19, 20, 0, 21, 1] (bs' := [bKW G hKW qKW vKW, bLg G (qKW 0) qLg vLg, bLg G (qKW 1) qLg2 vLg2, bLg G (qKW 2) qLg3 vLg3, bLg G (qKW 3) qLg4 vLg4, bWv G (qKW 5) qWv vWv, bPr G (qKW 6) qPr vPr, bRf G (qKW 7) qRf vRf, bTx G (qKW 8) qTx vTx, bLn G (qKW 9) qLn vLn, bHo G (qKW 4) qHs vHs, bRo G qHs vHs 0, bRo G qHs vHs 1, bRo G qHs vHs 2, bRo G qHs vHs 3, bRo G qHs vHs 4, bRo G qHs vHs 5, bRo G qHs vHs 6, bRo G qHs vHs 7, bMd G hMd qMd vMd, bLa G aLa v_144, bDa G aDa vDa]) rfl rfl ?_
      change GW C (k0 + 2) (n0 + 12) _ 801 _ [.int r_143]
      refine gw_istore (lv' := [(6, .int r_143), (0, .ref bS), (1, .ref hKW), (2, .ref hMd), (3, .ref aLa), (4, .ref aDa), (5, .int x5)]) F dL_law_801 (by decide) rfl ?_
      refine gw_aload_n F dL_law_803 3 rfl ?_
      refine gw_aload_n F dL_law_804 1 rfl ?_
      refine gw_iload F dL_law_805 6 rfl ?_
      refine gw_iconst (v := (1 : Int32)) F dL_law_807 ic_iconst_1 ?_
      refine gw_iadd F dL_law_808 ?_
      obtain ⟨h_145, hw⟩ := hw
      refine gw_sld F E h_145 dL_law_809 ?_
      refine gw_aload_n F dL_law_810 1 rfl ?_
      refine gw_iload F dL_law_811 6 rfl ?_
      refine gw_iconst (v := (2 : Int32)) F dL_law_813 ic_iconst_2 ?_
      refine gw_iadd F dL_law_814 ?_
      obtain ⟨h_146, hw⟩ := hw
      refine gw_sld F E h_146 dL_law_815 ?_
      refine gw_callV F (ct_X8_lockOf hw) 2 la_157 rfl rfl rfl hd_X8_lockOf ⟨(Nat.le_of_ble_eq_true rfl), (Nat.le_of_ble_eq_true rfl)⟩ rfl rfl (Nat.le_of_ble_eq_true rfl) ⟨by show _ ≤ 603072; omega, by show _ ≤ 7207018; omega⟩ [0, 1, 2, 3, 4, 5, 6, 7, 8, 9, 10, 11, 12, 13, 14, 15, 16, 17, 18, 20, 21, 19] (bsr := [bKW G hKW qKW vKW, bLg G (qKW 0) qLg vLg, bLg G (qKW 1) qLg2 vLg2, bLg G (qKW 2) qLg3 vLg3, bLg G (qKW 3) qLg4 vLg4, bWv G (qKW 5) qWv vWv, bPr G (qKW 6) qPr vPr, bRf G (qKW 7) qRf vRf, bTx G (qKW 8) qTx vTx, bLn G (qKW 9) qLn vLn, bHo G (qKW 4) qHs vHs, bRo G qHs vHs 0, bRo G qHs vHs 1, bRo G qHs vHs 2, bRo G qHs vHs 3, bRo G qHs vHs 4, bRo G qHs vHs 5, bRo G qHs vHs 6, bRo G qHs vHs 7, bLa G aLa v_144, bDa G aDa vDa]) rfl rfl (q0 := 0) rfl rfl dL_law_816 ?_
      rintro _ _ ⟨r_147, v_148, rfl, rfl, hw⟩
      refine gw_sel [0, 1, 2, 3, 4, 5, 6, 7, 8, 9, 10, 11, 12, 13, 14, 15, 16, 17, 18, 21, 19, 20] (bs' := [bKW G hKW qKW vKW, bLg G (qKW 0) qLg vLg, bLg G (qKW 1) qLg2 vLg2, bLg G (qKW 2) qLg3 vLg3, bLg G (qKW 3) qLg4 vLg4, bWv G (qKW 5) qWv vWv, bPr G (qKW 6) qPr vPr, bRf G (qKW 7) qRf vRf, bTx G (qKW 8) qTx vTx, bLn G (qKW 9) qLn vLn, bHo G (qKW 4) qHs vHs, bRo G qHs vHs 0, bRo G qHs vHs 1, bRo G qHs vHs 2, bRo G qHs vHs 3, bRo G qHs vHs 4, bRo G qHs vHs 5, bRo G qHs vHs 6, bRo G qHs vHs 7, bMd G hMd qMd v_148, bLa G aLa v_144, bDa G aDa vDa]) rfl rfl ?_
      change GW C (k0 + 2) (n0 + 12) _ 819 _ [.int r_147]
      refine gw_istore (lv' := [(7, .int r_147), (6, .int r_143), (0, .ref bS), (1, .ref hKW), (2, .ref hMd), (3, .ref aLa), (4, .ref aDa), (5, .int x5)]) F dL_law_819 (by decide) rfl ?_
      refine gw_aload_n F dL_law_821 4 rfl ?_
      refine gw_callV F (ct_X8_thrown hw) 0 la_125 rfl rfl rfl hd_X8_thrown ⟨(Nat.le_of_ble_eq_true rfl), (Nat.le_of_ble_eq_true rfl)⟩ rfl rfl (Nat.le_of_ble_eq_true rfl) ⟨by show _ ≤ 603072; omega, by show _ ≤ 7207018; omega⟩ [0, 1, 2, 3, 4, 5, 6, 7, 8, 9, 10, 11, 12, 13, 14, 15, 16, 17, 18, 20, 21, 19] (bsr := [bKW G hKW qKW vKW, bLg G (qKW 0) qLg vLg, bLg G (qKW 1) qLg2 vLg2, bLg G (qKW 2) qLg3 vLg3, bLg G (qKW 3) qLg4 vLg4, bWv G (qKW 5) qWv vWv, bPr G (qKW 6) qPr vPr, bRf G (qKW 7) qRf vRf, bTx G (qKW 8) qTx vTx, bLn G (qKW 9) qLn vLn, bHo G (qKW 4) qHs vHs, bRo G qHs vHs 0, bRo G qHs vHs 1, bRo G qHs vHs 2, bRo G qHs vHs 3, bRo G qHs vHs 4, bRo G qHs vHs 5, bRo G qHs vHs 6, bRo G qHs vHs 7, bLa G aLa v_144, bDa G aDa vDa]) rfl rfl (q0 := 0) rfl rfl dL_law_822 ?_
      rintro _ _ ⟨r_149, rfl, rfl, hw⟩
      refine gw_sel [0, 1, 2, 3, 4, 5, 6, 7, 8, 9, 10, 11, 12, 13, 14, 15, 16, 17, 18, 21, 19, 20] (bs' := [bKW G hKW qKW vKW, bLg G (qKW 0) qLg vLg, bLg G (qKW 1) qLg2 vLg2, bLg G (qKW 2) qLg3 vLg3, bLg G (qKW 3) qLg4 vLg4, bWv G (qKW 5) qWv vWv, bPr G (qKW 6) qPr vPr, bRf G (qKW 7) qRf vRf, bTx G (qKW 8) qTx vTx, bLn G (qKW 9) qLn vLn, bHo G (qKW 4) qHs vHs, bRo G qHs vHs 0, bRo G qHs vHs 1, bRo G qHs vHs 2, bRo G qHs vHs 3, bRo G qHs vHs 4, bRo G qHs vHs 5, bRo G qHs vHs 6, bRo G qHs vHs 7, bMd G hMd qMd v_148, bLa G aLa v_144, bDa G aDa vDa]) rfl rfl ?_
      change GW C (k0 + 2) (n0 + 12) _ 825 _ [.int r_149]
      refine gw_iload F dL_law_825 1 rfl ?_
      refine gw_icmp_eq (tgt := 832) F dL_law_827 (by decide) (fun c_150 => ?_) (fun c_150 => ?_)
      · have hw := hw.1 c_150
        refine gw_iload F dL_law_832 1 rfl ?_
        refine gw_if_ne (tgt := 849) F dL_law_834 (by decide) (fun c_151 => ?_) (fun c_151 => ?_)
        · have hw := hw.1 c_151
          refine gw_lv [2, 3, 4, 5, 6, 7] rfl ?_
          exact lb_L_law_849 hl0 hk F E hK28 hw
        · have hw := hw.2 c_151
          refine gw_aload_n F dL_law_837 5 rfl ?_
          refine gw_iconst (v := (0 : Int32)) F dL_law_838 ic_iconst_0 ?_
          refine gw_lald F 133 rfl (by unfold vp_in; decide) dL_law_839 ?_
          refine gw_iload F dL_law_840 0 rfl ?_
          refine gw_i2l F dL_law_842 ?_
          refine gw_lcmp F dL_law_843 ?_
          refine gw_if_eq (tgt := 849) F dL_law_844 (by decide) (fun c_152 => ?_) (fun c_152 => ?_)
          · have hw := hw.1 c_152
            refine gw_lv [2, 3, 4, 5, 6, 7] rfl ?_
            exact lb_L_law_849 hl0 hk F E hK28 hw
          · have hw := hw.2 c_152
            refine gw_iconst (v := (0 : Int32)) F dL_law_847 ic_iconst_0 ?_
            exact gw_lret F E hw (by omega) (by omega) dL_law_848
      · have hw := hw.2 c_150
        refine gw_iconst (v := (0 : Int32)) F dL_law_830 ic_iconst_0 ?_
        exact gw_lret F E hw (by omega) (by omega) dL_law_831
    · have hw := hw.2.2.2.2.2.2.2.2.2.2.2.1 c_3
      refine gw_tin (j := 10) (off := 808) (tgt := 852) F dL_law_44 c_3 (by decide) (by decide) rfl (by decide) ?_
      refine gw_aload_n F dL_law_852 1 rfl ?_
      refine gw_aload_n F dL_law_853 0 rfl ?_
      refine gw_iload F dL_law_854 5 rfl ?_
      refine gw_iconst (v := (1 : Int32)) F dL_law_856 ic_iconst_1 ?_
      refine gw_iadd F dL_law_857 ?_
      obtain ⟨h_153, hw⟩ := hw
      refine gw_sld F E h_153 dL_law_858 ?_
      refine gw_aload_n F dL_law_859 0 rfl ?_
      refine gw_iload F dL_law_860 5 rfl ?_
      refine gw_iconst (v := (2 : Int32)) F dL_law_862 ic_iconst_2 ?_
      refine gw_iadd F dL_law_863 ?_
      obtain ⟨h_154, hw⟩ := hw
      refine gw_sld F E h_154 dL_law_864 ?_
      refine gw_aload_n F dL_law_865 3 rfl ?_
      refine gw_callSX F (ct_L_fits hl0 hw) 4 la_158 rfl rfl rfl hd_L_fits ⟨(Nat.le_of_ble_eq_true rfl), (Nat.le_of_ble_eq_true rfl)⟩ rfl rfl (Nat.le_of_ble_eq_true rfl) ⟨by show _ ≤ 603072; omega, by show _ ≤ 7207018; omega⟩ [19, 21, 0, 1, 2, 3, 4, 5, 6, 7, 8, 9, 10, 11, 12, 13, 14, 15, 16, 17, 18, 20] (bsr := [bMd G hMd qMd vMd, bDa G aDa vDa]) rfl rfl dL_law_866 ?_
      rintro _ _ ⟨r_155, v_156, rfl, rfl, hw⟩
      refine gw_sel [2, 3, 4, 5, 6, 7, 8, 9, 10, 11, 12, 13, 14, 15, 16, 17, 18, 19, 20, 0, 21, 1] (bs' := [bKW G hKW qKW vKW, bLg G (qKW 0) qLg vLg, bLg G (qKW 1) qLg2 vLg2, bLg G (qKW 2) qLg3 vLg3, bLg G (qKW 3) qLg4 vLg4, bWv G (qKW 5) qWv vWv, bPr G (qKW 6) qPr vPr, bRf G (qKW 7) qRf vRf, bTx G (qKW 8) qTx vTx, bLn G (qKW 9) qLn vLn, bHo G (qKW 4) qHs vHs, bRo G qHs vHs 0, bRo G qHs vHs 1, bRo G qHs vHs 2, bRo G qHs vHs 3, bRo G qHs vHs 4, bRo G qHs vHs 5, bRo G qHs vHs 6, bRo G qHs vHs 7, bMd G hMd qMd vMd, bLa G aLa v_156, bDa G aDa vDa]) rfl rfl ?_
      change GW C (k0 + 2) (n0 + 12) _ 869 _ [.int r_155]
      refine gw_istore (lv' := [(6, .int r_155), (0, .ref bS), (1, .ref hKW), (2, .ref hMd), (3, .ref aLa), (4, .ref aDa), (5, .int x5)]) F dL_law_869 (by decide) rfl ?_
      refine gw_aload_n F dL_law_871 3 rfl ?_
      refine gw_aload_n F dL_law_872 1 rfl ?_
      refine gw_iload F dL_law_873 6 rfl ?_
      refine gw_iconst (v := (1 : Int32)) F dL_law_875 ic_iconst_1 ?_
      refine gw_iadd F dL_law_876 ?_
      obtain ⟨h_157, hw⟩ := hw
      refine gw_sld F E h_157 dL_law_877 ?_
      refine gw_aload_n F dL_law_878 1 rfl ?_
      refine gw_iload F dL_law_879 6 rfl ?_
      refine gw_iconst (v := (2 : Int32)) F dL_law_881 ic_iconst_2 ?_
      refine gw_iadd F dL_law_882 ?_
      obtain ⟨h_158, hw⟩ := hw
      refine gw_sld F E h_158 dL_law_883 ?_
      refine gw_callV F (ct_X8_fits hw) 2 la_160 rfl rfl rfl hd_X8_fits ⟨(Nat.le_of_ble_eq_true rfl), (Nat.le_of_ble_eq_true rfl)⟩ rfl rfl (Nat.le_of_ble_eq_true rfl) ⟨by show _ ≤ 603072; omega, by show _ ≤ 7207018; omega⟩ [0, 1, 2, 3, 4, 5, 6, 7, 8, 9, 10, 11, 12, 13, 14, 15, 16, 17, 18, 20, 21, 19] (bsr := [bKW G hKW qKW vKW, bLg G (qKW 0) qLg vLg, bLg G (qKW 1) qLg2 vLg2, bLg G (qKW 2) qLg3 vLg3, bLg G (qKW 3) qLg4 vLg4, bWv G (qKW 5) qWv vWv, bPr G (qKW 6) qPr vPr, bRf G (qKW 7) qRf vRf, bTx G (qKW 8) qTx vTx, bLn G (qKW 9) qLn vLn, bHo G (qKW 4) qHs vHs, bRo G qHs vHs 0, bRo G qHs vHs 1, bRo G qHs vHs 2, bRo G qHs vHs 3, bRo G qHs vHs 4, bRo G qHs vHs 5, bRo G qHs vHs 6, bRo G qHs vHs 7, bLa G aLa v_156, bDa G aDa vDa]) rfl rfl (q0 := 0) rfl rfl dL_law_884 ?_
      rintro _ _ ⟨r_159, v_160, rfl, rfl, hw⟩
      refine gw_sel [0, 1, 2, 3, 4, 5, 6, 7, 8, 9, 10, 11, 12, 13, 14, 15, 16, 17, 18, 21, 19, 20] (bs' := [bKW G hKW qKW vKW, bLg G (qKW 0) qLg vLg, bLg G (qKW 1) qLg2 vLg2, bLg G (qKW 2) qLg3 vLg3, bLg G (qKW 3) qLg4 vLg4, bWv G (qKW 5) qWv vWv, bPr G (qKW 6) qPr vPr, bRf G (qKW 7) qRf vRf, bTx G (qKW 8) qTx vTx, bLn G (qKW 9) qLn vLn, bHo G (qKW 4) qHs vHs, bRo G qHs vHs 0, bRo G qHs vHs 1, bRo G qHs vHs 2, bRo G qHs vHs 3, bRo G qHs vHs 4, bRo G qHs vHs 5, bRo G qHs vHs 6, bRo G qHs vHs 7, bMd G hMd qMd v_160, bLa G aLa v_156, bDa G aDa vDa]) rfl rfl ?_
      change GW C (k0 + 2) (n0 + 12) _ 887 _ [.int r_159]
      refine gw_istore (lv' := [(7, .int r_159), (6, .int r_155), (0, .ref bS), (1, .ref hKW), (2, .ref hMd), (3, .ref aLa), (4, .ref aDa), (5, .int x5)]) F dL_law_887 (by decide) rfl ?_
      refine gw_aload_n F dL_law_889 4 rfl ?_
      refine gw_callV F (ct_X8_thrown hw) 0 la_125 rfl rfl rfl hd_X8_thrown ⟨(Nat.le_of_ble_eq_true rfl), (Nat.le_of_ble_eq_true rfl)⟩ rfl rfl (Nat.le_of_ble_eq_true rfl) ⟨by show _ ≤ 603072; omega, by show _ ≤ 7207018; omega⟩ [0, 1, 2, 3, 4, 5, 6, 7, 8, 9, 10, 11, 12, 13, 14, 15, 16, 17, 18, 20, 21, 19] (bsr := [bKW G hKW qKW vKW, bLg G (qKW 0) qLg vLg, bLg G (qKW 1) qLg2 vLg2, bLg G (qKW 2) qLg3 vLg3, bLg G (qKW 3) qLg4 vLg4, bWv G (qKW 5) qWv vWv, bPr G (qKW 6) qPr vPr, bRf G (qKW 7) qRf vRf, bTx G (qKW 8) qTx vTx, bLn G (qKW 9) qLn vLn, bHo G (qKW 4) qHs vHs, bRo G qHs vHs 0, bRo G qHs vHs 1, bRo G qHs vHs 2, bRo G qHs vHs 3, bRo G qHs vHs 4, bRo G qHs vHs 5, bRo G qHs vHs 6, bRo G qHs vHs 7, bLa G aLa v_156, bDa G aDa vDa]) rfl rfl (q0 := 0) rfl rfl dL_law_890 ?_
      rintro _ _ ⟨r_161, rfl, rfl, hw⟩
      refine gw_sel [0, 1, 2, 3, 4, 5, 6, 7, 8, 9, 10, 11, 12, 13, 14, 15, 16, 17, 18, 21, 19, 20] (bs' := [bKW G hKW qKW vKW, bLg G (qKW 0) qLg vLg, bLg G (qKW 1) qLg2 vLg2, bLg G (qKW 2) qLg3 vLg3, bLg G (qKW 3) qLg4 vLg4, bWv G (qKW 5) qWv vWv, bPr G (qKW 6) qPr vPr, bRf G (qKW 7) qRf vRf, bTx G (qKW 8) qTx vTx, bLn G (qKW 9) qLn vLn, bHo G (qKW 4) qHs vHs, bRo G qHs vHs 0, bRo G qHs vHs 1, bRo G qHs vHs 2, bRo G qHs vHs 3, bRo G qHs vHs 4, bRo G qHs vHs 5, bRo G qHs vHs 6, bRo G qHs vHs 7, bMd G hMd qMd v_160, bLa G aLa v_156, bDa G aDa vDa]) rfl rfl ?_
      change GW C (k0 + 2) (n0 + 12) _ 893 _ [.int r_161]
      refine gw_iload F dL_law_893 1 rfl ?_
      refine gw_icmp_eq (tgt := 900) F dL_law_895 (by decide) (fun c_162 => ?_) (fun c_162 => ?_)
      · have hw := hw.1 c_162
        refine gw_iload F dL_law_900 1 rfl ?_
        refine gw_if_ne (tgt := 924) F dL_law_902 (by decide) (fun c_163 => ?_) (fun c_163 => ?_)
        · have hw := hw.1 c_163
          refine gw_lv [2, 3, 4, 5, 6, 7] rfl ?_
          exact lb_L_law_924 hl0 hk F E hK28 hw
        · have hw := hw.2 c_163
          refine gw_aload_n F dL_law_905 5 rfl ?_
          refine gw_iconst (v := (0 : Int32)) F dL_law_906 ic_iconst_0 ?_
          refine gw_lald F 133 rfl (by unfold vp_in; decide) dL_law_907 ?_
          refine gw_iload F dL_law_908 0 rfl ?_
          refine gw_if_eq (tgt := 917) F dL_law_910 (by decide) (fun c_164 => ?_) (fun c_164 => ?_)
          · have hw := hw.1 c_164
            refine gw_lconst (v := (0 : Int64)) F dL_law_917 (by decide) ?_
            refine gw_lcmp F dL_law_918 ?_
            refine gw_if_eq (tgt := 924) F dL_law_919 (by decide) (fun c_165 => ?_) (fun c_165 => ?_)
            · have hw := hw.1 c_165
              refine gw_lv [2, 3, 4, 5, 6, 7] rfl ?_
              exact lb_L_law_924 hl0 hk F E hK28 hw
            · have hw := hw.2 c_165
              refine gw_iconst (v := (0 : Int32)) F dL_law_922 ic_iconst_0 ?_
              exact gw_lret F E hw (by omega) (by omega) dL_law_923
          · have hw := hw.2 c_164
            refine gw_lconst (v := (1 : Int64)) F dL_law_913 (by decide) ?_
            refine gw_goto (tgt := 918) F dL_law_914 (by decide) ?_
            refine gw_lcmp F dL_law_918 ?_
            refine gw_if_eq (tgt := 924) F dL_law_919 (by decide) (fun c_166 => ?_) (fun c_166 => ?_)
            · have hw := hw.1 c_166
              refine gw_lv [2, 3, 4, 5, 6, 7] rfl ?_
              exact lb_L_law_924 hl0 hk F E hK28 hw
            · have hw := hw.2 c_166
              refine gw_iconst (v := (0 : Int32)) F dL_law_922 ic_iconst_0 ?_
              exact gw_lret F E hw (by omega) (by omega) dL_law_923
      · have hw := hw.2 c_162
        refine gw_iconst (v := (0 : Int32)) F dL_law_898 ic_iconst_0 ?_
        exact gw_lret F E hw (by omega) (by omega) dL_law_899
    · have hw := hw.2.2.2.2.2.2.2.2.2.2.2.2.1 c_3
      refine gw_tin (j := 11) (off := 883) (tgt := 927) F dL_law_44 c_3 (by decide) (by decide) rfl (by decide) ?_
      refine gw_aload_n F dL_law_927 1 rfl ?_
      refine gw_aload_n F dL_law_928 0 rfl ?_
      refine gw_iload F dL_law_929 5 rfl ?_
      refine gw_iconst (v := (1 : Int32)) F dL_law_931 ic_iconst_1 ?_
      refine gw_iadd F dL_law_932 ?_
      obtain ⟨h_167, hw⟩ := hw
      refine gw_sld F E h_167 dL_law_933 ?_
      refine gw_aload_n F dL_law_934 0 rfl ?_
      refine gw_iload F dL_law_935 5 rfl ?_
      refine gw_iconst (v := (2 : Int32)) F dL_law_937 ic_iconst_2 ?_
      refine gw_iadd F dL_law_938 ?_
      obtain ⟨h_168, hw⟩ := hw
      refine gw_sld F E h_168 dL_law_939 ?_
      refine gw_aload_n F dL_law_940 3 rfl ?_
      refine gw_callSX F (ct_L_isBarred hl0 hw) 4 la_161 rfl rfl rfl hd_L_isBarred ⟨(Nat.le_of_ble_eq_true rfl), (Nat.le_of_ble_eq_true rfl)⟩ rfl rfl (Nat.le_of_ble_eq_true rfl) ⟨by show _ ≤ 603072; omega, by show _ ≤ 7207018; omega⟩ [19, 21, 0, 1, 2, 3, 4, 5, 6, 7, 8, 9, 10, 11, 12, 13, 14, 15, 16, 17, 18, 20] (bsr := [bMd G hMd qMd vMd, bDa G aDa vDa]) rfl rfl dL_law_941 ?_
      rintro _ _ ⟨r_169, v_170, rfl, rfl, hw⟩
      refine gw_sel [2, 3, 4, 5, 6, 7, 8, 9, 10, 11, 12, 13, 14, 15, 16, 17, 18, 19, 20, 0, 21, 1] (bs' := [bKW G hKW qKW vKW, bLg G (qKW 0) qLg vLg, bLg G (qKW 1) qLg2 vLg2, bLg G (qKW 2) qLg3 vLg3, bLg G (qKW 3) qLg4 vLg4, bWv G (qKW 5) qWv vWv, bPr G (qKW 6) qPr vPr, bRf G (qKW 7) qRf vRf, bTx G (qKW 8) qTx vTx, bLn G (qKW 9) qLn vLn, bHo G (qKW 4) qHs vHs, bRo G qHs vHs 0, bRo G qHs vHs 1, bRo G qHs vHs 2, bRo G qHs vHs 3, bRo G qHs vHs 4, bRo G qHs vHs 5, bRo G qHs vHs 6, bRo G qHs vHs 7, bMd G hMd qMd vMd, bLa G aLa v_170, bDa G aDa vDa]) rfl rfl ?_
      change GW C (k0 + 2) (n0 + 12) _ 944 _ [.int r_169]
      refine gw_istore (lv' := [(6, .int r_169), (0, .ref bS), (1, .ref hKW), (2, .ref hMd), (3, .ref aLa), (4, .ref aDa), (5, .int x5)]) F dL_law_944 (by decide) rfl ?_
      refine gw_aload_n F dL_law_946 3 rfl ?_
      refine gw_aload_n F dL_law_947 1 rfl ?_
      refine gw_iload F dL_law_948 6 rfl ?_
      refine gw_iconst (v := (1 : Int32)) F dL_law_950 ic_iconst_1 ?_
      refine gw_iadd F dL_law_951 ?_
      obtain ⟨h_171, hw⟩ := hw
      refine gw_sld F E h_171 dL_law_952 ?_
      refine gw_aload_n F dL_law_953 1 rfl ?_
      refine gw_iload F dL_law_954 6 rfl ?_
      refine gw_iconst (v := (2 : Int32)) F dL_law_956 ic_iconst_2 ?_
      refine gw_iadd F dL_law_957 ?_
      obtain ⟨h_172, hw⟩ := hw
      refine gw_sld F E h_172 dL_law_958 ?_
      refine gw_callV F (ct_X8_isBarred hw) 2 la_163 rfl rfl rfl hd_X8_isBarred ⟨(Nat.le_of_ble_eq_true rfl), (Nat.le_of_ble_eq_true rfl)⟩ rfl rfl (Nat.le_of_ble_eq_true rfl) ⟨by show _ ≤ 603072; omega, by show _ ≤ 7207018; omega⟩ [0, 1, 2, 3, 4, 5, 6, 7, 8, 9, 10, 11, 12, 13, 14, 15, 16, 17, 18, 20, 21, 19] (bsr := [bKW G hKW qKW vKW, bLg G (qKW 0) qLg vLg, bLg G (qKW 1) qLg2 vLg2, bLg G (qKW 2) qLg3 vLg3, bLg G (qKW 3) qLg4 vLg4, bWv G (qKW 5) qWv vWv, bPr G (qKW 6) qPr vPr, bRf G (qKW 7) qRf vRf, bTx G (qKW 8) qTx vTx, bLn G (qKW 9) qLn vLn, bHo G (qKW 4) qHs vHs, bRo G qHs vHs 0, bRo G qHs vHs 1, bRo G qHs vHs 2, bRo G qHs vHs 3, bRo G qHs vHs 4, bRo G qHs vHs 5, bRo G qHs vHs 6, bRo G qHs vHs 7, bLa G aLa v_170, bDa G aDa vDa]) rfl rfl (q0 := 0) rfl rfl dL_law_959 ?_
      rintro _ _ ⟨r_173, v_174, rfl, rfl, hw⟩
      refine gw_sel [0, 1, 2, 3, 4, 5, 6, 7, 8, 9, 10, 11, 12, 13, 14, 15, 16, 17, 18, 21, 19, 20] (bs' := [bKW G hKW qKW vKW, bLg G (qKW 0) qLg vLg, bLg G (qKW 1) qLg2 vLg2, bLg G (qKW 2) qLg3 vLg3, bLg G (qKW 3) qLg4 vLg4, bWv G (qKW 5) qWv vWv, bPr G (qKW 6) qPr vPr, bRf G (qKW 7) qRf vRf, bTx G (qKW 8) qTx vTx, bLn G (qKW 9) qLn vLn, bHo G (qKW 4) qHs vHs, bRo G qHs vHs 0, bRo G qHs vHs 1, bRo G qHs vHs 2, bRo G qHs vHs 3, bRo G qHs vHs 4, bRo G qHs vHs 5, bRo G qHs vHs 6, bRo G qHs vHs 7, bMd G hMd qMd v_174, bLa G aLa v_170, bDa G aDa vDa]) rfl rfl ?_
      change GW C (k0 + 2) (n0 + 12) _ 962 _ [.int r_173]
      refine gw_istore (lv' := [(7, .int r_173), (6, .int r_169), (0, .ref bS), (1, .ref hKW), (2, .ref hMd), (3, .ref aLa), (4, .ref aDa), (5, .int x5)]) F dL_law_962 (by decide) rfl ?_
      refine gw_aload_n F dL_law_964 4 rfl ?_
      refine gw_callV F (ct_X8_thrown hw) 0 la_125 rfl rfl rfl hd_X8_thrown ⟨(Nat.le_of_ble_eq_true rfl), (Nat.le_of_ble_eq_true rfl)⟩ rfl rfl (Nat.le_of_ble_eq_true rfl) ⟨by show _ ≤ 603072; omega, by show _ ≤ 7207018; omega⟩ [0, 1, 2, 3, 4, 5, 6, 7, 8, 9, 10, 11, 12, 13, 14, 15, 16, 17, 18, 20, 21, 19] (bsr := [bKW G hKW qKW vKW, bLg G (qKW 0) qLg vLg, bLg G (qKW 1) qLg2 vLg2, bLg G (qKW 2) qLg3 vLg3, bLg G (qKW 3) qLg4 vLg4, bWv G (qKW 5) qWv vWv, bPr G (qKW 6) qPr vPr, bRf G (qKW 7) qRf vRf, bTx G (qKW 8) qTx vTx, bLn G (qKW 9) qLn vLn, bHo G (qKW 4) qHs vHs, bRo G qHs vHs 0, bRo G qHs vHs 1, bRo G qHs vHs 2, bRo G qHs vHs 3, bRo G qHs vHs 4, bRo G qHs vHs 5, bRo G qHs vHs 6, bRo G qHs vHs 7, bLa G aLa v_170, bDa G aDa vDa]) rfl rfl (q0 := 0) rfl rfl dL_law_965 ?_
      rintro _ _ ⟨r_175, rfl, rfl, hw⟩
      refine gw_sel [0, 1, 2, 3, 4, 5, 6, 7, 8, 9, 10, 11, 12, 13, 14, 15, 16, 17, 18, 21, 19, 20] (bs' := [bKW G hKW qKW vKW, bLg G (qKW 0) qLg vLg, bLg G (qKW 1) qLg2 vLg2, bLg G (qKW 2) qLg3 vLg3, bLg G (qKW 3) qLg4 vLg4, bWv G (qKW 5) qWv vWv, bPr G (qKW 6) qPr vPr, bRf G (qKW 7) qRf vRf, bTx G (qKW 8) qTx vTx, bLn G (qKW 9) qLn vLn, bHo G (qKW 4) qHs vHs, bRo G qHs vHs 0, bRo G qHs vHs 1, bRo G qHs vHs 2, bRo G qHs vHs 3, bRo G qHs vHs 4, bRo G qHs vHs 5, bRo G qHs vHs 6, bRo G qHs vHs 7, bMd G hMd qMd v_174, bLa G aLa v_170, bDa G aDa vDa]) rfl rfl ?_
      change GW C (k0 + 2) (n0 + 12) _ 968 _ [.int r_175]
      refine gw_iload F dL_law_968 1 rfl ?_
      refine gw_icmp_eq (tgt := 975) F dL_law_970 (by decide) (fun c_176 => ?_) (fun c_176 => ?_)
      · have hw := hw.1 c_176
        refine gw_iload F dL_law_975 1 rfl ?_
        refine gw_if_ne (tgt := 999) F dL_law_977 (by decide) (fun c_177 => ?_) (fun c_177 => ?_)
        · have hw := hw.1 c_177
          refine gw_lv [2, 3, 4, 5, 6, 7] rfl ?_
          exact lb_L_law_999 hl0 hk F E hK28 hw
        · have hw := hw.2 c_177
          refine gw_aload_n F dL_law_980 5 rfl ?_
          refine gw_iconst (v := (0 : Int32)) F dL_law_981 ic_iconst_0 ?_
          refine gw_lald F 133 rfl (by unfold vp_in; decide) dL_law_982 ?_
          refine gw_iload F dL_law_983 0 rfl ?_
          refine gw_if_eq (tgt := 992) F dL_law_985 (by decide) (fun c_178 => ?_) (fun c_178 => ?_)
          · have hw := hw.1 c_178
            refine gw_lconst (v := (0 : Int64)) F dL_law_992 (by decide) ?_
            refine gw_lcmp F dL_law_993 ?_
            refine gw_if_eq (tgt := 999) F dL_law_994 (by decide) (fun c_179 => ?_) (fun c_179 => ?_)
            · have hw := hw.1 c_179
              refine gw_lv [2, 3, 4, 5, 6, 7] rfl ?_
              exact lb_L_law_999 hl0 hk F E hK28 hw
            · have hw := hw.2 c_179
              refine gw_iconst (v := (0 : Int32)) F dL_law_997 ic_iconst_0 ?_
              exact gw_lret F E hw (by omega) (by omega) dL_law_998
          · have hw := hw.2 c_178
            refine gw_lconst (v := (1 : Int64)) F dL_law_988 (by decide) ?_
            refine gw_goto (tgt := 993) F dL_law_989 (by decide) ?_
            refine gw_lcmp F dL_law_993 ?_
            refine gw_if_eq (tgt := 999) F dL_law_994 (by decide) (fun c_180 => ?_) (fun c_180 => ?_)
            · have hw := hw.1 c_180
              refine gw_lv [2, 3, 4, 5, 6, 7] rfl ?_
              exact lb_L_law_999 hl0 hk F E hK28 hw
            · have hw := hw.2 c_180
              refine gw_iconst (v := (0 : Int32)) F dL_law_997 ic_iconst_0 ?_
              exact gw_lret F E hw (by omega) (by omega) dL_law_998
      · have hw := hw.2 c_176
        refine gw_iconst (v := (0 : Int32)) F dL_law_973 ic_iconst_0 ?_
        exact gw_lret F E hw (by omega) (by omega) dL_law_974
    · have hw := hw.2.2.2.2.2.2.2.2.2.2.2.2.2.1 c_3
      refine gw_tin (j := 12) (off := 958) (tgt := 1002) F dL_law_44 c_3 (by decide) (by decide) rfl (by decide) ?_
      refine gw_aload_n F dL_law_1002 1 rfl ?_
      refine gw_aload_n F dL_law_1003 0 rfl ?_
      refine gw_iload F dL_law_1004 5 rfl ?_
      refine gw_iconst (v := (1 : Int32)) F dL_law_1006 ic_iconst_1 ?_
      refine gw_iadd F dL_law_1007 ?_
      obtain ⟨h_181, hw⟩ := hw
      refine gw_sld F E h_181 dL_law_1008 ?_
      refine gw_aload_n F dL_law_1009 0 rfl ?_
      refine gw_iload F dL_law_1010 5 rfl ?_
      refine gw_iconst (v := (2 : Int32)) F dL_law_1012 ic_iconst_2 ?_
      refine gw_iadd F dL_law_1013 ?_
      obtain ⟨h_182, hw⟩ := hw
      refine gw_sld F E h_182 dL_law_1014 ?_
      refine gw_aload_n F dL_law_1015 3 rfl ?_
      refine gw_callSX F (ct_L_costFor hl0 hw) 4 la_164 rfl rfl rfl hd_L_costFor ⟨(Nat.le_of_ble_eq_true rfl), (Nat.le_of_ble_eq_true rfl)⟩ rfl rfl (Nat.le_of_ble_eq_true rfl) ⟨by show _ ≤ 603072; omega, by show _ ≤ 7207018; omega⟩ [19, 21, 0, 1, 2, 3, 4, 5, 6, 7, 8, 9, 10, 11, 12, 13, 14, 15, 16, 17, 18, 20] (bsr := [bMd G hMd qMd vMd, bDa G aDa vDa]) rfl rfl dL_law_1016 ?_
      rintro _ _ ⟨r_183, v_184, rfl, rfl, hw⟩
      refine gw_sel [2, 3, 4, 5, 6, 7, 8, 9, 10, 11, 12, 13, 14, 15, 16, 17, 18, 19, 20, 0, 21, 1] (bs' := [bKW G hKW qKW vKW, bLg G (qKW 0) qLg vLg, bLg G (qKW 1) qLg2 vLg2, bLg G (qKW 2) qLg3 vLg3, bLg G (qKW 3) qLg4 vLg4, bWv G (qKW 5) qWv vWv, bPr G (qKW 6) qPr vPr, bRf G (qKW 7) qRf vRf, bTx G (qKW 8) qTx vTx, bLn G (qKW 9) qLn vLn, bHo G (qKW 4) qHs vHs, bRo G qHs vHs 0, bRo G qHs vHs 1, bRo G qHs vHs 2, bRo G qHs vHs 3, bRo G qHs vHs 4, bRo G qHs vHs 5, bRo G qHs vHs 6, bRo G qHs vHs 7, bMd G hMd qMd vMd, bLa G aLa v_184, bDa G aDa vDa]) rfl rfl ?_
      change GW C (k0 + 2) (n0 + 12) _ 1019 _ [.int r_183]
      refine gw_istore (lv' := [(6, .int r_183), (0, .ref bS), (1, .ref hKW), (2, .ref hMd), (3, .ref aLa), (4, .ref aDa), (5, .int x5)]) F dL_law_1019 (by decide) rfl ?_
      refine gw_aload_n F dL_law_1021 3 rfl ?_
      refine gw_aload_n F dL_law_1022 1 rfl ?_
      refine gw_iload F dL_law_1023 6 rfl ?_
      refine gw_iconst (v := (1 : Int32)) F dL_law_1025 ic_iconst_1 ?_
      refine gw_iadd F dL_law_1026 ?_
      obtain ⟨h_185, hw⟩ := hw
      refine gw_sld F E h_185 dL_law_1027 ?_
      refine gw_aload_n F dL_law_1028 1 rfl ?_
      refine gw_iload F dL_law_1029 6 rfl ?_
      refine gw_iconst (v := (2 : Int32)) F dL_law_1031 ic_iconst_2 ?_
      refine gw_iadd F dL_law_1032 ?_
      obtain ⟨h_186, hw⟩ := hw
      refine gw_sld F E h_186 dL_law_1033 ?_
      refine gw_callV F (ct_X8_costFor hw) 2 la_166 rfl rfl rfl hd_X8_costFor ⟨(Nat.le_of_ble_eq_true rfl), (Nat.le_of_ble_eq_true rfl)⟩ rfl rfl (Nat.le_of_ble_eq_true rfl) ⟨by show _ ≤ 603072; omega, by show _ ≤ 7207018; omega⟩ [0, 1, 2, 3, 4, 5, 6, 7, 8, 9, 10, 11, 12, 13, 14, 15, 16, 17, 18, 20, 21, 19] (bsr := [bKW G hKW qKW vKW, bLg G (qKW 0) qLg vLg, bLg G (qKW 1) qLg2 vLg2, bLg G (qKW 2) qLg3 vLg3, bLg G (qKW 3) qLg4 vLg4, bWv G (qKW 5) qWv vWv, bPr G (qKW 6) qPr vPr, bRf G (qKW 7) qRf vRf, bTx G (qKW 8) qTx vTx, bLn G (qKW 9) qLn vLn, bHo G (qKW 4) qHs vHs, bRo G qHs vHs 0, bRo G qHs vHs 1, bRo G qHs vHs 2, bRo G qHs vHs 3, bRo G qHs vHs 4, bRo G qHs vHs 5, bRo G qHs vHs 6, bRo G qHs vHs 7, bLa G aLa v_184, bDa G aDa vDa]) rfl rfl (q0 := 0) rfl rfl dL_law_1034 ?_
      rintro _ _ ⟨r_187, v_188, rfl, rfl, hw⟩
      refine gw_sel [0, 1, 2, 3, 4, 5, 6, 7, 8, 9, 10, 11, 12, 13, 14, 15, 16, 17, 18, 21, 19, 20] (bs' := [bKW G hKW qKW vKW, bLg G (qKW 0) qLg vLg, bLg G (qKW 1) qLg2 vLg2, bLg G (qKW 2) qLg3 vLg3, bLg G (qKW 3) qLg4 vLg4, bWv G (qKW 5) qWv vWv, bPr G (qKW 6) qPr vPr, bRf G (qKW 7) qRf vRf, bTx G (qKW 8) qTx vTx, bLn G (qKW 9) qLn vLn, bHo G (qKW 4) qHs vHs, bRo G qHs vHs 0, bRo G qHs vHs 1, bRo G qHs vHs 2, bRo G qHs vHs 3, bRo G qHs vHs 4, bRo G qHs vHs 5, bRo G qHs vHs 6, bRo G qHs vHs 7, bMd G hMd qMd v_188, bLa G aLa v_184, bDa G aDa vDa]) rfl rfl ?_
      change GW C (k0 + 2) (n0 + 12) _ 1037 _ [.int r_187]
      refine gw_istore (lv' := [(7, .int r_187), (6, .int r_183), (0, .ref bS), (1, .ref hKW), (2, .ref hMd), (3, .ref aLa), (4, .ref aDa), (5, .int x5)]) F dL_law_1037 (by decide) rfl ?_
      refine gw_aload_n F dL_law_1039 4 rfl ?_
      refine gw_callV F (ct_X8_thrown hw) 0 la_125 rfl rfl rfl hd_X8_thrown ⟨(Nat.le_of_ble_eq_true rfl), (Nat.le_of_ble_eq_true rfl)⟩ rfl rfl (Nat.le_of_ble_eq_true rfl) ⟨by show _ ≤ 603072; omega, by show _ ≤ 7207018; omega⟩ [0, 1, 2, 3, 4, 5, 6, 7, 8, 9, 10, 11, 12, 13, 14, 15, 16, 17, 18, 20, 21, 19] (bsr := [bKW G hKW qKW vKW, bLg G (qKW 0) qLg vLg, bLg G (qKW 1) qLg2 vLg2, bLg G (qKW 2) qLg3 vLg3, bLg G (qKW 3) qLg4 vLg4, bWv G (qKW 5) qWv vWv, bPr G (qKW 6) qPr vPr, bRf G (qKW 7) qRf vRf, bTx G (qKW 8) qTx vTx, bLn G (qKW 9) qLn vLn, bHo G (qKW 4) qHs vHs, bRo G qHs vHs 0, bRo G qHs vHs 1, bRo G qHs vHs 2, bRo G qHs vHs 3, bRo G qHs vHs 4, bRo G qHs vHs 5, bRo G qHs vHs 6, bRo G qHs vHs 7, bLa G aLa v_184, bDa G aDa vDa]) rfl rfl (q0 := 0) rfl rfl dL_law_1040 ?_
      rintro _ _ ⟨r_189, rfl, rfl, hw⟩
      refine gw_sel [0, 1, 2, 3, 4, 5, 6, 7, 8, 9, 10, 11, 12, 13, 14, 15, 16, 17, 18, 21, 19, 20] (bs' := [bKW G hKW qKW vKW, bLg G (qKW 0) qLg vLg, bLg G (qKW 1) qLg2 vLg2, bLg G (qKW 2) qLg3 vLg3, bLg G (qKW 3) qLg4 vLg4, bWv G (qKW 5) qWv vWv, bPr G (qKW 6) qPr vPr, bRf G (qKW 7) qRf vRf, bTx G (qKW 8) qTx vTx, bLn G (qKW 9) qLn vLn, bHo G (qKW 4) qHs vHs, bRo G qHs vHs 0, bRo G qHs vHs 1, bRo G qHs vHs 2, bRo G qHs vHs 3, bRo G qHs vHs 4, bRo G qHs vHs 5, bRo G qHs vHs 6, bRo G qHs vHs 7, bMd G hMd qMd v_188, bLa G aLa v_184, bDa G aDa vDa]) rfl rfl ?_
      change GW C (k0 + 2) (n0 + 12) _ 1043 _ [.int r_189]
      refine gw_iload F dL_law_1043 1 rfl ?_
      refine gw_icmp_eq (tgt := 1050) F dL_law_1045 (by decide) (fun c_190 => ?_) (fun c_190 => ?_)
      · have hw := hw.1 c_190
        refine gw_iload F dL_law_1050 1 rfl ?_
        refine gw_if_ne (tgt := 1067) F dL_law_1052 (by decide) (fun c_191 => ?_) (fun c_191 => ?_)
        · have hw := hw.1 c_191
          refine gw_lv [2, 3, 4, 5, 6, 7] rfl ?_
          exact lb_L_law_1067 hl0 hk F E hK28 hw
        · have hw := hw.2 c_191
          refine gw_aload_n F dL_law_1055 5 rfl ?_
          refine gw_iconst (v := (0 : Int32)) F dL_law_1056 ic_iconst_0 ?_
          refine gw_lald F 133 rfl (by unfold vp_in; decide) dL_law_1057 ?_
          refine gw_iload F dL_law_1058 0 rfl ?_
          refine gw_i2l F dL_law_1060 ?_
          refine gw_lcmp F dL_law_1061 ?_
          refine gw_if_eq (tgt := 1067) F dL_law_1062 (by decide) (fun c_192 => ?_) (fun c_192 => ?_)
          · have hw := hw.1 c_192
            refine gw_lv [2, 3, 4, 5, 6, 7] rfl ?_
            exact lb_L_law_1067 hl0 hk F E hK28 hw
          · have hw := hw.2 c_192
            refine gw_iconst (v := (0 : Int32)) F dL_law_1065 ic_iconst_0 ?_
            exact gw_lret F E hw (by omega) (by omega) dL_law_1066
      · have hw := hw.2 c_190
        refine gw_iconst (v := (0 : Int32)) F dL_law_1048 ic_iconst_0 ?_
        exact gw_lret F E hw (by omega) (by omega) dL_law_1049
    · have hw := hw.2.2.2.2.2.2.2.2.2.2.2.2.2.2.1 c_3
      refine gw_tin (j := 13) (off := 1026) (tgt := 1070) F dL_law_44 c_3 (by decide) (by decide) rfl (by decide) ?_
      refine gw_aload_n F dL_law_1070 1 rfl ?_
      refine gw_aload_n F dL_law_1071 0 rfl ?_
      refine gw_iload F dL_law_1072 5 rfl ?_
      refine gw_iconst (v := (1 : Int32)) F dL_law_1074 ic_iconst_1 ?_
      refine gw_iadd F dL_law_1075 ?_
      obtain ⟨h_193, hw⟩ := hw
      refine gw_sld F E h_193 dL_law_1076 ?_
      refine gw_aload_n F dL_law_1077 0 rfl ?_
      refine gw_iload F dL_law_1078 5 rfl ?_
      refine gw_iconst (v := (2 : Int32)) F dL_law_1080 ic_iconst_2 ?_
      refine gw_iadd F dL_law_1081 ?_
      obtain ⟨h_194, hw⟩ := hw
      refine gw_sld F E h_194 dL_law_1082 ?_
      refine gw_aload_n F dL_law_1083 3 rfl ?_
      refine gw_callSX F (ct_L_cheapest hl0 hw) 4 la_167 rfl rfl rfl hd_L_cheapest ⟨(Nat.le_of_ble_eq_true rfl), (Nat.le_of_ble_eq_true rfl)⟩ rfl rfl (Nat.le_of_ble_eq_true rfl) ⟨by show _ ≤ 603072; omega, by show _ ≤ 7207018; omega⟩ [19, 21, 0, 1, 2, 3, 4, 5, 6, 7, 8, 9, 10, 11, 12, 13, 14, 15, 16, 17, 18, 20] (bsr := [bMd G hMd qMd vMd, bDa G aDa vDa]) rfl rfl dL_law_1084 ?_
      rintro _ _ ⟨r_195, v_196, rfl, rfl, hw⟩
      refine gw_sel [2, 3, 4, 5, 6, 7, 8, 9, 10, 11, 12, 13, 14, 15, 16, 17, 18, 19, 20, 0, 21, 1] (bs' := [bKW G hKW qKW vKW, bLg G (qKW 0) qLg vLg, bLg G (qKW 1) qLg2 vLg2, bLg G (qKW 2) qLg3 vLg3, bLg G (qKW 3) qLg4 vLg4, bWv G (qKW 5) qWv vWv, bPr G (qKW 6) qPr vPr, bRf G (qKW 7) qRf vRf, bTx G (qKW 8) qTx vTx, bLn G (qKW 9) qLn vLn, bHo G (qKW 4) qHs vHs, bRo G qHs vHs 0, bRo G qHs vHs 1, bRo G qHs vHs 2, bRo G qHs vHs 3, bRo G qHs vHs 4, bRo G qHs vHs 5, bRo G qHs vHs 6, bRo G qHs vHs 7, bMd G hMd qMd vMd, bLa G aLa v_196, bDa G aDa vDa]) rfl rfl ?_
      change GW C (k0 + 2) (n0 + 12) _ 1087 _ [.int r_195]
      refine gw_istore (lv' := [(6, .int r_195), (0, .ref bS), (1, .ref hKW), (2, .ref hMd), (3, .ref aLa), (4, .ref aDa), (5, .int x5)]) F dL_law_1087 (by decide) rfl ?_
      refine gw_aload_n F dL_law_1089 3 rfl ?_
      refine gw_aload_n F dL_law_1090 1 rfl ?_
      refine gw_iload F dL_law_1091 6 rfl ?_
      refine gw_iconst (v := (1 : Int32)) F dL_law_1093 ic_iconst_1 ?_
      refine gw_iadd F dL_law_1094 ?_
      obtain ⟨h_197, hw⟩ := hw
      refine gw_sld F E h_197 dL_law_1095 ?_
      refine gw_aload_n F dL_law_1096 1 rfl ?_
      refine gw_iload F dL_law_1097 6 rfl ?_
      refine gw_iconst (v := (2 : Int32)) F dL_law_1099 ic_iconst_2 ?_
      refine gw_iadd F dL_law_1100 ?_
      obtain ⟨h_198, hw⟩ := hw
      refine gw_sld F E h_198 dL_law_1101 ?_
      refine gw_callV F (ct_X8_cheapest hw) 2 la_169 rfl rfl rfl hd_X8_cheapest ⟨(Nat.le_of_ble_eq_true rfl), (Nat.le_of_ble_eq_true rfl)⟩ rfl rfl (Nat.le_of_ble_eq_true rfl) ⟨by show _ ≤ 603072; omega, by show _ ≤ 7207018; omega⟩ [0, 1, 2, 3, 4, 5, 6, 7, 8, 9, 10, 11, 12, 13, 14, 15, 16, 17, 18, 20, 21, 19] (bsr := [bKW G hKW qKW vKW, bLg G (qKW 0) qLg vLg, bLg G (qKW 1) qLg2 vLg2, bLg G (qKW 2) qLg3 vLg3, bLg G (qKW 3) qLg4 vLg4, bWv G (qKW 5) qWv vWv, bPr G (qKW 6) qPr vPr, bRf G (qKW 7) qRf vRf, bTx G (qKW 8) qTx vTx, bLn G (qKW 9) qLn vLn, bHo G (qKW 4) qHs vHs, bRo G qHs vHs 0, bRo G qHs vHs 1, bRo G qHs vHs 2, bRo G qHs vHs 3, bRo G qHs vHs 4, bRo G qHs vHs 5, bRo G qHs vHs 6, bRo G qHs vHs 7, bLa G aLa v_196, bDa G aDa vDa]) rfl rfl (q0 := 0) rfl rfl dL_law_1102 ?_
      rintro _ _ ⟨r_199, v_200, rfl, rfl, hw⟩
      refine gw_sel [0, 1, 2, 3, 4, 5, 6, 7, 8, 9, 10, 11, 12, 13, 14, 15, 16, 17, 18, 21, 19, 20] (bs' := [bKW G hKW qKW vKW, bLg G (qKW 0) qLg vLg, bLg G (qKW 1) qLg2 vLg2, bLg G (qKW 2) qLg3 vLg3, bLg G (qKW 3) qLg4 vLg4, bWv G (qKW 5) qWv vWv, bPr G (qKW 6) qPr vPr, bRf G (qKW 7) qRf vRf, bTx G (qKW 8) qTx vTx, bLn G (qKW 9) qLn vLn, bHo G (qKW 4) qHs vHs, bRo G qHs vHs 0, bRo G qHs vHs 1, bRo G qHs vHs 2, bRo G qHs vHs 3, bRo G qHs vHs 4, bRo G qHs vHs 5, bRo G qHs vHs 6, bRo G qHs vHs 7, bMd G hMd qMd v_200, bLa G aLa v_196, bDa G aDa vDa]) rfl rfl ?_
      change GW C (k0 + 2) (n0 + 12) _ 1105 _ [.int r_199]
      refine gw_istore (lv' := [(7, .int r_199), (6, .int r_195), (0, .ref bS), (1, .ref hKW), (2, .ref hMd), (3, .ref aLa), (4, .ref aDa), (5, .int x5)]) F dL_law_1105 (by decide) rfl ?_
      refine gw_aload_n F dL_law_1107 4 rfl ?_
      refine gw_callV F (ct_X8_thrown hw) 0 la_125 rfl rfl rfl hd_X8_thrown ⟨(Nat.le_of_ble_eq_true rfl), (Nat.le_of_ble_eq_true rfl)⟩ rfl rfl (Nat.le_of_ble_eq_true rfl) ⟨by show _ ≤ 603072; omega, by show _ ≤ 7207018; omega⟩ [0, 1, 2, 3, 4, 5, 6, 7, 8, 9, 10, 11, 12, 13, 14, 15, 16, 17, 18, 20, 21, 19] (bsr := [bKW G hKW qKW vKW, bLg G (qKW 0) qLg vLg, bLg G (qKW 1) qLg2 vLg2, bLg G (qKW 2) qLg3 vLg3, bLg G (qKW 3) qLg4 vLg4, bWv G (qKW 5) qWv vWv, bPr G (qKW 6) qPr vPr, bRf G (qKW 7) qRf vRf, bTx G (qKW 8) qTx vTx, bLn G (qKW 9) qLn vLn, bHo G (qKW 4) qHs vHs, bRo G qHs vHs 0, bRo G qHs vHs 1, bRo G qHs vHs 2, bRo G qHs vHs 3, bRo G qHs vHs 4, bRo G qHs vHs 5, bRo G qHs vHs 6, bRo G qHs vHs 7, bLa G aLa v_196, bDa G aDa vDa]) rfl rfl (q0 := 0) rfl rfl dL_law_1108 ?_
      rintro _ _ ⟨r_201, rfl, rfl, hw⟩
      refine gw_sel [0, 1, 2, 3, 4, 5, 6, 7, 8, 9, 10, 11, 12, 13, 14, 15, 16, 17, 18, 21, 19, 20] (bs' := [bKW G hKW qKW vKW, bLg G (qKW 0) qLg vLg, bLg G (qKW 1) qLg2 vLg2, bLg G (qKW 2) qLg3 vLg3, bLg G (qKW 3) qLg4 vLg4, bWv G (qKW 5) qWv vWv, bPr G (qKW 6) qPr vPr, bRf G (qKW 7) qRf vRf, bTx G (qKW 8) qTx vTx, bLn G (qKW 9) qLn vLn, bHo G (qKW 4) qHs vHs, bRo G qHs vHs 0, bRo G qHs vHs 1, bRo G qHs vHs 2, bRo G qHs vHs 3, bRo G qHs vHs 4, bRo G qHs vHs 5, bRo G qHs vHs 6, bRo G qHs vHs 7, bMd G hMd qMd v_200, bLa G aLa v_196, bDa G aDa vDa]) rfl rfl ?_
      change GW C (k0 + 2) (n0 + 12) _ 1111 _ [.int r_201]
      refine gw_iload F dL_law_1111 1 rfl ?_
      refine gw_icmp_eq (tgt := 1118) F dL_law_1113 (by decide) (fun c_202 => ?_) (fun c_202 => ?_)
      · have hw := hw.1 c_202
        refine gw_iload F dL_law_1118 1 rfl ?_
        refine gw_if_ne (tgt := 1135) F dL_law_1120 (by decide) (fun c_203 => ?_) (fun c_203 => ?_)
        · have hw := hw.1 c_203
          refine gw_lv [2, 3, 4, 5, 6, 7] rfl ?_
          exact lb_L_law_1135 hl0 hk F E hK28 hw
        · have hw := hw.2 c_203
          refine gw_aload_n F dL_law_1123 5 rfl ?_
          refine gw_iconst (v := (0 : Int32)) F dL_law_1124 ic_iconst_0 ?_
          refine gw_lald F 133 rfl (by unfold vp_in; decide) dL_law_1125 ?_
          refine gw_iload F dL_law_1126 0 rfl ?_
          refine gw_i2l F dL_law_1128 ?_
          refine gw_lcmp F dL_law_1129 ?_
          refine gw_if_eq (tgt := 1135) F dL_law_1130 (by decide) (fun c_204 => ?_) (fun c_204 => ?_)
          · have hw := hw.1 c_204
            refine gw_lv [2, 3, 4, 5, 6, 7] rfl ?_
            exact lb_L_law_1135 hl0 hk F E hK28 hw
          · have hw := hw.2 c_204
            refine gw_iconst (v := (0 : Int32)) F dL_law_1133 ic_iconst_0 ?_
            exact gw_lret F E hw (by omega) (by omega) dL_law_1134
      · have hw := hw.2 c_202
        refine gw_iconst (v := (0 : Int32)) F dL_law_1116 ic_iconst_0 ?_
        exact gw_lret F E hw (by omega) (by omega) dL_law_1117
    · have hw := hw.2.2.2.2.2.2.2.2.2.2.2.2.2.2.2.1 c_3
      refine gw_tin (j := 14) (off := 1094) (tgt := 1138) F dL_law_44 c_3 (by decide) (by decide) rfl (by decide) ?_
      refine gw_aload_n F dL_law_1138 1 rfl ?_
      refine gw_aload_n F dL_law_1139 3 rfl ?_
      refine gw_callSX F (ct_L_length hl0 hw) 2 la_170 rfl rfl rfl hd_L_length ⟨(Nat.le_of_ble_eq_true rfl), (Nat.le_of_ble_eq_true rfl)⟩ rfl rfl (Nat.le_of_ble_eq_true rfl) ⟨by show _ ≤ 603072; omega, by show _ ≤ 7207018; omega⟩ [19, 21, 0, 1, 2, 3, 4, 5, 6, 7, 8, 9, 10, 11, 12, 13, 14, 15, 16, 17, 18, 20] (bsr := [bMd G hMd qMd vMd, bDa G aDa vDa]) rfl rfl dL_law_1140 ?_
      rintro _ _ ⟨r_205, v_206, v_207, rfl, rfl, hw⟩
      refine gw_sel [2, 3, 4, 5, 6, 7, 8, 9, 10, 11, 12, 13, 14, 15, 16, 17, 18, 19, 20, 0, 21, 1] (bs' := [bKW G hKW qKW vKW, bLg G (qKW 0) qLg vLg, bLg G (qKW 1) qLg2 vLg2, bLg G (qKW 2) qLg3 vLg3, bLg G (qKW 3) qLg4 vLg4, bWv G (qKW 5) qWv v_206, bPr G (qKW 6) qPr vPr, bRf G (qKW 7) qRf vRf, bTx G (qKW 8) qTx vTx, bLn G (qKW 9) qLn vLn, bHo G (qKW 4) qHs vHs, bRo G qHs vHs 0, bRo G qHs vHs 1, bRo G qHs vHs 2, bRo G qHs vHs 3, bRo G qHs vHs 4, bRo G qHs vHs 5, bRo G qHs vHs 6, bRo G qHs vHs 7, bMd G hMd qMd vMd, bLa G aLa v_207, bDa G aDa vDa]) rfl rfl ?_
      change GW C (k0 + 1) (n0 + 6) _ 1143 _ [.int r_205]
      refine gw_istore (lv' := [(6, .int r_205), (0, .ref bS), (1, .ref hKW), (2, .ref hMd), (3, .ref aLa), (4, .ref aDa), (5, .int x5)]) F dL_law_1143 (by decide) rfl ?_
      refine gw_aload_n F dL_law_1145 3 rfl ?_
      refine gw_callV F (ct_X8_length hw) 0 la_172 rfl rfl rfl hd_X8_length ⟨(Nat.le_of_ble_eq_true rfl), (Nat.le_of_ble_eq_true rfl)⟩ rfl rfl (Nat.le_of_ble_eq_true rfl) ⟨by show _ ≤ 603072; omega, by show _ ≤ 7207018; omega⟩ [0, 1, 2, 3, 4, 5, 6, 7, 8, 9, 10, 11, 12, 13, 14, 15, 16, 17, 18, 20, 21, 19] (bsr := [bKW G hKW qKW vKW, bLg G (qKW 0) qLg vLg, bLg G (qKW 1) qLg2 vLg2, bLg G (qKW 2) qLg3 vLg3, bLg G (qKW 3) qLg4 vLg4, bWv G (qKW 5) qWv v_206, bPr G (qKW 6) qPr vPr, bRf G (qKW 7) qRf vRf, bTx G (qKW 8) qTx vTx, bLn G (qKW 9) qLn vLn, bHo G (qKW 4) qHs vHs, bRo G qHs vHs 0, bRo G qHs vHs 1, bRo G qHs vHs 2, bRo G qHs vHs 3, bRo G qHs vHs 4, bRo G qHs vHs 5, bRo G qHs vHs 6, bRo G qHs vHs 7, bLa G aLa v_207, bDa G aDa vDa]) rfl rfl (q0 := 0) rfl rfl dL_law_1146 ?_
      rintro _ _ ⟨r_208, v_209, rfl, rfl, hw⟩
      refine gw_sel [0, 1, 2, 3, 4, 5, 6, 7, 8, 9, 10, 11, 12, 13, 14, 15, 16, 17, 18, 21, 19, 20] (bs' := [bKW G hKW qKW vKW, bLg G (qKW 0) qLg vLg, bLg G (qKW 1) qLg2 vLg2, bLg G (qKW 2) qLg3 vLg3, bLg G (qKW 3) qLg4 vLg4, bWv G (qKW 5) qWv v_206, bPr G (qKW 6) qPr vPr, bRf G (qKW 7) qRf vRf, bTx G (qKW 8) qTx vTx, bLn G (qKW 9) qLn vLn, bHo G (qKW 4) qHs vHs, bRo G qHs vHs 0, bRo G qHs vHs 1, bRo G qHs vHs 2, bRo G qHs vHs 3, bRo G qHs vHs 4, bRo G qHs vHs 5, bRo G qHs vHs 6, bRo G qHs vHs 7, bMd G hMd qMd v_209, bLa G aLa v_207, bDa G aDa vDa]) rfl rfl ?_
      change GW C (k0 + 1) (n0 + 6) _ 1149 _ [.int r_208]
      refine gw_istore (lv' := [(7, .int r_208), (6, .int r_205), (0, .ref bS), (1, .ref hKW), (2, .ref hMd), (3, .ref aLa), (4, .ref aDa), (5, .int x5)]) F dL_law_1149 (by decide) rfl ?_
      refine gw_aload_n F dL_law_1151 4 rfl ?_
      refine gw_callV F (ct_X8_thrown hw) 0 la_125 rfl rfl rfl hd_X8_thrown ⟨(Nat.le_of_ble_eq_true rfl), (Nat.le_of_ble_eq_true rfl)⟩ rfl rfl (Nat.le_of_ble_eq_true rfl) ⟨by show _ ≤ 603072; omega, by show _ ≤ 7207018; omega⟩ [0, 1, 2, 3, 4, 5, 6, 7, 8, 9, 10, 11, 12, 13, 14, 15, 16, 17, 18, 20, 21, 19] (bsr := [bKW G hKW qKW vKW, bLg G (qKW 0) qLg vLg, bLg G (qKW 1) qLg2 vLg2, bLg G (qKW 2) qLg3 vLg3, bLg G (qKW 3) qLg4 vLg4, bWv G (qKW 5) qWv v_206, bPr G (qKW 6) qPr vPr, bRf G (qKW 7) qRf vRf, bTx G (qKW 8) qTx vTx, bLn G (qKW 9) qLn vLn, bHo G (qKW 4) qHs vHs, bRo G qHs vHs 0, bRo G qHs vHs 1, bRo G qHs vHs 2, bRo G qHs vHs 3, bRo G qHs vHs 4, bRo G qHs vHs 5, bRo G qHs vHs 6, bRo G qHs vHs 7, bLa G aLa v_207, bDa G aDa vDa]) rfl rfl (q0 := 0) rfl rfl dL_law_1152 ?_
      rintro _ _ ⟨r_210, rfl, rfl, hw⟩
      refine gw_sel [0, 1, 2, 3, 4, 5, 6, 7, 8, 9, 10, 11, 12, 13, 14, 15, 16, 17, 18, 21, 19, 20] (bs' := [bKW G hKW qKW vKW, bLg G (qKW 0) qLg vLg, bLg G (qKW 1) qLg2 vLg2, bLg G (qKW 2) qLg3 vLg3, bLg G (qKW 3) qLg4 vLg4, bWv G (qKW 5) qWv v_206, bPr G (qKW 6) qPr vPr, bRf G (qKW 7) qRf vRf, bTx G (qKW 8) qTx vTx, bLn G (qKW 9) qLn vLn, bHo G (qKW 4) qHs vHs, bRo G qHs vHs 0, bRo G qHs vHs 1, bRo G qHs vHs 2, bRo G qHs vHs 3, bRo G qHs vHs 4, bRo G qHs vHs 5, bRo G qHs vHs 6, bRo G qHs vHs 7, bMd G hMd qMd v_209, bLa G aLa v_207, bDa G aDa vDa]) rfl rfl ?_
      change GW C (k0 + 1) (n0 + 6) _ 1155 _ [.int r_210]
      refine gw_iload F dL_law_1155 1 rfl ?_
      refine gw_icmp_eq (tgt := 1162) F dL_law_1157 (by decide) (fun c_211 => ?_) (fun c_211 => ?_)
      · have hw := hw.1 c_211
        refine gw_iload F dL_law_1162 1 rfl ?_
        refine gw_if_ne (tgt := 1179) F dL_law_1164 (by decide) (fun c_212 => ?_) (fun c_212 => ?_)
        · have hw := hw.1 c_212
          refine gw_lv [2, 3, 4, 5, 6, 7] rfl ?_
          exact lb_L_law_1179 hl0 hk F E hK28 hw
        · have hw := hw.2 c_212
          refine gw_aload_n F dL_law_1167 5 rfl ?_
          refine gw_iconst (v := (0 : Int32)) F dL_law_1168 ic_iconst_0 ?_
          refine gw_lald F 133 rfl (by unfold vp_in; decide) dL_law_1169 ?_
          refine gw_iload F dL_law_1170 0 rfl ?_
          refine gw_i2l F dL_law_1172 ?_
          refine gw_lcmp F dL_law_1173 ?_
          refine gw_if_eq (tgt := 1179) F dL_law_1174 (by decide) (fun c_213 => ?_) (fun c_213 => ?_)
          · have hw := hw.1 c_213
            refine gw_lv [2, 3, 4, 5, 6, 7] rfl ?_
            exact lb_L_law_1179 hl0 hk F E hK28 hw
          · have hw := hw.2 c_213
            refine gw_iconst (v := (0 : Int32)) F dL_law_1177 ic_iconst_0 ?_
            exact gw_lret F E hw (by omega) (by omega) dL_law_1178
      · have hw := hw.2 c_211
        refine gw_iconst (v := (0 : Int32)) F dL_law_1160 ic_iconst_0 ?_
        exact gw_lret F E hw (by omega) (by omega) dL_law_1161
    · have hw := hw.2.2.2.2.2.2.2.2.2.2.2.2.2.2.2.2.1 c_3
      refine gw_tin (j := 15) (off := 1138) (tgt := 1182) F dL_law_44 c_3 (by decide) (by decide) rfl (by decide) ?_
      refine gw_aload_n F dL_law_1182 1 rfl ?_
      refine gw_callV (F.mono XL_sub) (ct_X7_adds hl0 hw) 0 la_173 rfl rfl rfl hd_X7_adds ⟨(Nat.le_of_ble_eq_true rfl), (Nat.le_of_ble_eq_true rfl)⟩ rfl rfl (Nat.le_of_ble_eq_true rfl) ⟨by show _ ≤ 603072; omega, by show _ ≤ 7207018; omega⟩ [19, 20, 21, 0, 1, 2, 3, 4, 5, 6, 7, 8, 9, 10, 11, 12, 13, 14, 15, 16, 17, 18] (bsr := [bMd G hMd qMd vMd, bLa G aLa vLa, bDa G aDa vDa]) rfl rfl (q0 := 0) rfl rfl dL_law_1183 ?_
      rintro _ _ ⟨r_214, v_215, v_216, rfl, rfl, hw⟩
      refine gw_sel [3, 4, 5, 6, 7, 8, 9, 10, 11, 12, 13, 14, 15, 16, 17, 18, 19, 20, 21, 0, 1, 2] (bs' := [bKW G hKW qKW vKW, bLg G (qKW 0) qLg vLg, bLg G (qKW 1) qLg2 vLg2, bLg G (qKW 2) qLg3 vLg3, bLg G (qKW 3) qLg4 v_215, bWv G (qKW 5) qWv v_216, bPr G (qKW 6) qPr vPr, bRf G (qKW 7) qRf vRf, bTx G (qKW 8) qTx vTx, bLn G (qKW 9) qLn vLn, bHo G (qKW 4) qHs vHs, bRo G qHs vHs 0, bRo G qHs vHs 1, bRo G qHs vHs 2, bRo G qHs vHs 3, bRo G qHs vHs 4, bRo G qHs vHs 5, bRo G qHs vHs 6, bRo G qHs vHs 7, bMd G hMd qMd vMd, bLa G aLa vLa, bDa G aDa vDa]) rfl rfl ?_
      change GW C k0 n0 _ 1186 _ [.int r_214]
      refine gw_aload_n F dL_law_1186 2 rfl ?_
      refine gw_callV F (ct_X8_adds hw) 0 la_176 rfl rfl rfl hd_X8_adds ⟨(Nat.le_of_ble_eq_true rfl), (Nat.le_of_ble_eq_true rfl)⟩ rfl rfl (Nat.le_of_ble_eq_true rfl) ⟨by show _ ≤ 603072; omega, by show _ ≤ 7207018; omega⟩ [0, 1, 2, 3, 4, 5, 6, 7, 8, 9, 10, 11, 12, 13, 14, 15, 16, 17, 18, 20, 21, 19] (bsr := [bKW G hKW qKW vKW, bLg G (qKW 0) qLg vLg, bLg G (qKW 1) qLg2 vLg2, bLg G (qKW 2) qLg3 vLg3, bLg G (qKW 3) qLg4 v_215, bWv G (qKW 5) qWv v_216, bPr G (qKW 6) qPr vPr, bRf G (qKW 7) qRf vRf, bTx G (qKW 8) qTx vTx, bLn G (qKW 9) qLn vLn, bHo G (qKW 4) qHs vHs, bRo G qHs vHs 0, bRo G qHs vHs 1, bRo G qHs vHs 2, bRo G qHs vHs 3, bRo G qHs vHs 4, bRo G qHs vHs 5, bRo G qHs vHs 6, bRo G qHs vHs 7, bLa G aLa vLa, bDa G aDa vDa]) rfl rfl (q0 := 0) rfl rfl dL_law_1187 ?_
      rintro _ _ ⟨r_217, v_218, rfl, rfl, hw⟩
      refine gw_sel [0, 1, 2, 3, 4, 5, 6, 7, 8, 9, 10, 11, 12, 13, 14, 15, 16, 17, 18, 21, 19, 20] (bs' := [bKW G hKW qKW vKW, bLg G (qKW 0) qLg vLg, bLg G (qKW 1) qLg2 vLg2, bLg G (qKW 2) qLg3 vLg3, bLg G (qKW 3) qLg4 v_215, bWv G (qKW 5) qWv v_216, bPr G (qKW 6) qPr vPr, bRf G (qKW 7) qRf vRf, bTx G (qKW 8) qTx vTx, bLn G (qKW 9) qLn vLn, bHo G (qKW 4) qHs vHs, bRo G qHs vHs 0, bRo G qHs vHs 1, bRo G qHs vHs 2, bRo G qHs vHs 3, bRo G qHs vHs 4, bRo G qHs vHs 5, bRo G qHs vHs 6, bRo G qHs vHs 7, bMd G hMd qMd v_218, bLa G aLa vLa, bDa G aDa vDa]) rfl rfl ?_
      change GW C k0 n0 _ 1190 _ [.int r_217, .int r_214]
      refine gw_icmp_eq (tgt := 2081) F dL_law_1190 (by decide) (fun c_219 => ?_) (fun c_219 => ?_)
      · have hw := hw.1 c_219
        refine gw_widen (k' := k0 + 2) (n' := n0 + 12) (by omega) (by omega) ?_
        exact lb_L_law_2081 hl0 hk F E hK28 hw
      · have hw := hw.2 c_219
        refine gw_iconst (v := (0 : Int32)) F dL_law_1193 ic_iconst_0 ?_
        exact gw_lret F E hw (by omega) (by omega) dL_law_1194
    · have hw := hw.2.2.2.2.2.2.2.2.2.2.2.2.2.2.2.2.2.1 c_3
      refine gw_tin (j := 16) (off := 1151) (tgt := 1195) F dL_law_44 c_3 (by decide) (by decide) rfl (by decide) ?_
      refine gw_aload_n F dL_law_1195 1 rfl ?_
      refine gw_callV (F.mono XL_sub) (ct_X7_waves hl0 hw) 0 la_177 rfl rfl rfl hd_X7_waves ⟨(Nat.le_of_ble_eq_true rfl), (Nat.le_of_ble_eq_true rfl)⟩ rfl rfl (Nat.le_of_ble_eq_true rfl) ⟨by show _ ≤ 603072; omega, by show _ ≤ 7207018; omega⟩ [19, 20, 21, 0, 1, 2, 3, 4, 5, 6, 7, 8, 9, 10, 11, 12, 13, 14, 15, 16, 17, 18] (bsr := [bMd G hMd qMd vMd, bLa G aLa vLa, bDa G aDa vDa]) rfl rfl (q0 := 0) rfl rfl dL_law_1196 ?_
      rintro _ _ ⟨r_220, v_221, v_222, rfl, rfl, hw⟩
      refine gw_sel [3, 4, 5, 6, 7, 8, 9, 10, 11, 12, 13, 14, 15, 16, 17, 18, 19, 20, 21, 0, 1, 2] (bs' := [bKW G hKW qKW vKW, bLg G (qKW 0) qLg vLg, bLg G (qKW 1) qLg2 vLg2, bLg G (qKW 2) qLg3 vLg3, bLg G (qKW 3) qLg4 v_221, bWv G (qKW 5) qWv v_222, bPr G (qKW 6) qPr vPr, bRf G (qKW 7) qRf vRf, bTx G (qKW 8) qTx vTx, bLn G (qKW 9) qLn vLn, bHo G (qKW 4) qHs vHs, bRo G qHs vHs 0, bRo G qHs vHs 1, bRo G qHs vHs 2, bRo G qHs vHs 3, bRo G qHs vHs 4, bRo G qHs vHs 5, bRo G qHs vHs 6, bRo G qHs vHs 7, bMd G hMd qMd vMd, bLa G aLa vLa, bDa G aDa vDa]) rfl rfl ?_
      change GW C k0 n0 _ 1199 _ [.int r_220]
      refine gw_aload_n F dL_law_1199 2 rfl ?_
      refine gw_callV F (ct_X8_waves hw) 0 la_180 rfl rfl rfl hd_X8_waves ⟨(Nat.le_of_ble_eq_true rfl), (Nat.le_of_ble_eq_true rfl)⟩ rfl rfl (Nat.le_of_ble_eq_true rfl) ⟨by show _ ≤ 603072; omega, by show _ ≤ 7207018; omega⟩ [0, 1, 2, 3, 4, 5, 6, 7, 8, 9, 10, 11, 12, 13, 14, 15, 16, 17, 18, 20, 21, 19] (bsr := [bKW G hKW qKW vKW, bLg G (qKW 0) qLg vLg, bLg G (qKW 1) qLg2 vLg2, bLg G (qKW 2) qLg3 vLg3, bLg G (qKW 3) qLg4 v_221, bWv G (qKW 5) qWv v_222, bPr G (qKW 6) qPr vPr, bRf G (qKW 7) qRf vRf, bTx G (qKW 8) qTx vTx, bLn G (qKW 9) qLn vLn, bHo G (qKW 4) qHs vHs, bRo G qHs vHs 0, bRo G qHs vHs 1, bRo G qHs vHs 2, bRo G qHs vHs 3, bRo G qHs vHs 4, bRo G qHs vHs 5, bRo G qHs vHs 6, bRo G qHs vHs 7, bLa G aLa vLa, bDa G aDa vDa]) rfl rfl (q0 := 0) rfl rfl dL_law_1200 ?_
      rintro _ _ ⟨r_223, v_224, rfl, rfl, hw⟩
      refine gw_sel [0, 1, 2, 3, 4, 5, 6, 7, 8, 9, 10, 11, 12, 13, 14, 15, 16, 17, 18, 21, 19, 20] (bs' := [bKW G hKW qKW vKW, bLg G (qKW 0) qLg vLg, bLg G (qKW 1) qLg2 vLg2, bLg G (qKW 2) qLg3 vLg3, bLg G (qKW 3) qLg4 v_221, bWv G (qKW 5) qWv v_222, bPr G (qKW 6) qPr vPr, bRf G (qKW 7) qRf vRf, bTx G (qKW 8) qTx vTx, bLn G (qKW 9) qLn vLn, bHo G (qKW 4) qHs vHs, bRo G qHs vHs 0, bRo G qHs vHs 1, bRo G qHs vHs 2, bRo G qHs vHs 3, bRo G qHs vHs 4, bRo G qHs vHs 5, bRo G qHs vHs 6, bRo G qHs vHs 7, bMd G hMd qMd v_224, bLa G aLa vLa, bDa G aDa vDa]) rfl rfl ?_
      change GW C k0 n0 _ 1203 _ [.int r_223, .int r_220]
      refine gw_icmp_eq (tgt := 2081) F dL_law_1203 (by decide) (fun c_225 => ?_) (fun c_225 => ?_)
      · have hw := hw.1 c_225
        refine gw_widen (k' := k0 + 2) (n' := n0 + 12) (by omega) (by omega) ?_
        exact lb_L_law_2081 hl0 hk F E hK28 hw
      · have hw := hw.2 c_225
        refine gw_iconst (v := (0 : Int32)) F dL_law_1206 ic_iconst_0 ?_
        exact gw_lret F E hw (by omega) (by omega) dL_law_1207
    · have hw := hw.2.2.2.2.2.2.2.2.2.2.2.2.2.2.2.2.2.2.1 c_3
      refine gw_tin (j := 17) (off := 1164) (tgt := 1208) F dL_law_44 c_3 (by decide) (by decide) rfl (by decide) ?_
      refine gw_aload_n F dL_law_1208 1 rfl ?_
      refine gw_callV (F.mono XL_sub) (ct_X7_most hl0 hw) 0 la_181 rfl rfl rfl hd_X7_most ⟨(Nat.le_of_ble_eq_true rfl), (Nat.le_of_ble_eq_true rfl)⟩ rfl rfl (Nat.le_of_ble_eq_true rfl) ⟨by show _ ≤ 603072; omega, by show _ ≤ 7207018; omega⟩ [19, 20, 21, 0, 1, 2, 3, 4, 5, 6, 7, 8, 9, 10, 11, 12, 13, 14, 15, 16, 17, 18] (bsr := [bMd G hMd qMd vMd, bLa G aLa vLa, bDa G aDa vDa]) rfl rfl (q0 := 0) rfl rfl dL_law_1209 ?_
      rintro _ _ ⟨r_226, v_227, v_228, rfl, rfl, hw⟩
      refine gw_sel [3, 4, 5, 6, 7, 8, 9, 10, 11, 12, 13, 14, 15, 16, 17, 18, 19, 20, 21, 0, 1, 2] (bs' := [bKW G hKW qKW vKW, bLg G (qKW 0) qLg vLg, bLg G (qKW 1) qLg2 vLg2, bLg G (qKW 2) qLg3 vLg3, bLg G (qKW 3) qLg4 v_227, bWv G (qKW 5) qWv v_228, bPr G (qKW 6) qPr vPr, bRf G (qKW 7) qRf vRf, bTx G (qKW 8) qTx vTx, bLn G (qKW 9) qLn vLn, bHo G (qKW 4) qHs vHs, bRo G qHs vHs 0, bRo G qHs vHs 1, bRo G qHs vHs 2, bRo G qHs vHs 3, bRo G qHs vHs 4, bRo G qHs vHs 5, bRo G qHs vHs 6, bRo G qHs vHs 7, bMd G hMd qMd vMd, bLa G aLa vLa, bDa G aDa vDa]) rfl rfl ?_
      change GW C k0 n0 _ 1212 _ [.int r_226]
      refine gw_aload_n F dL_law_1212 2 rfl ?_
      refine gw_callV F (ct_X8_most hw) 0 la_184 rfl rfl rfl hd_X8_most ⟨(Nat.le_of_ble_eq_true rfl), (Nat.le_of_ble_eq_true rfl)⟩ rfl rfl (Nat.le_of_ble_eq_true rfl) ⟨by show _ ≤ 603072; omega, by show _ ≤ 7207018; omega⟩ [0, 1, 2, 3, 4, 5, 6, 7, 8, 9, 10, 11, 12, 13, 14, 15, 16, 17, 18, 20, 21, 19] (bsr := [bKW G hKW qKW vKW, bLg G (qKW 0) qLg vLg, bLg G (qKW 1) qLg2 vLg2, bLg G (qKW 2) qLg3 vLg3, bLg G (qKW 3) qLg4 v_227, bWv G (qKW 5) qWv v_228, bPr G (qKW 6) qPr vPr, bRf G (qKW 7) qRf vRf, bTx G (qKW 8) qTx vTx, bLn G (qKW 9) qLn vLn, bHo G (qKW 4) qHs vHs, bRo G qHs vHs 0, bRo G qHs vHs 1, bRo G qHs vHs 2, bRo G qHs vHs 3, bRo G qHs vHs 4, bRo G qHs vHs 5, bRo G qHs vHs 6, bRo G qHs vHs 7, bLa G aLa vLa, bDa G aDa vDa]) rfl rfl (q0 := 0) rfl rfl dL_law_1213 ?_
      rintro _ _ ⟨r_229, v_230, rfl, rfl, hw⟩
      refine gw_sel [0, 1, 2, 3, 4, 5, 6, 7, 8, 9, 10, 11, 12, 13, 14, 15, 16, 17, 18, 21, 19, 20] (bs' := [bKW G hKW qKW vKW, bLg G (qKW 0) qLg vLg, bLg G (qKW 1) qLg2 vLg2, bLg G (qKW 2) qLg3 vLg3, bLg G (qKW 3) qLg4 v_227, bWv G (qKW 5) qWv v_228, bPr G (qKW 6) qPr vPr, bRf G (qKW 7) qRf vRf, bTx G (qKW 8) qTx vTx, bLn G (qKW 9) qLn vLn, bHo G (qKW 4) qHs vHs, bRo G qHs vHs 0, bRo G qHs vHs 1, bRo G qHs vHs 2, bRo G qHs vHs 3, bRo G qHs vHs 4, bRo G qHs vHs 5, bRo G qHs vHs 6, bRo G qHs vHs 7, bMd G hMd qMd v_230, bLa G aLa vLa, bDa G aDa vDa]) rfl rfl ?_
      change GW C k0 n0 _ 1216 _ [.int r_229, .int r_226]
      refine gw_icmp_eq (tgt := 2081) F dL_law_1216 (by decide) (fun c_231 => ?_) (fun c_231 => ?_)
      · have hw := hw.1 c_231
        refine gw_widen (k' := k0 + 2) (n' := n0 + 12) (by omega) (by omega) ?_
        exact lb_L_law_2081 hl0 hk F E hK28 hw
      · have hw := hw.2 c_231
        refine gw_iconst (v := (0 : Int32)) F dL_law_1219 ic_iconst_0 ?_
        exact gw_lret F E hw (by omega) (by omega) dL_law_1220
    · have hw := hw.2.2.2.2.2.2.2.2.2.2.2.2.2.2.2.2.2.2.2.1 c_3
      refine gw_tin (j := 18) (off := 1177) (tgt := 1221) F dL_law_44 c_3 (by decide) (by decide) rfl (by decide) ?_
      refine gw_aload_n F dL_law_1221 1 rfl ?_
      refine gw_callV (F.mono XL_sub) (ct_X7_mostAgain hl0 hw) 0 la_185 rfl rfl rfl hd_X7_mostAgain ⟨(Nat.le_of_ble_eq_true rfl), (Nat.le_of_ble_eq_true rfl)⟩ rfl rfl (Nat.le_of_ble_eq_true rfl) ⟨by show _ ≤ 603072; omega, by show _ ≤ 7207018; omega⟩ [19, 20, 21, 0, 1, 2, 3, 4, 5, 6, 7, 8, 9, 10, 11, 12, 13, 14, 15, 16, 17, 18] (bsr := [bMd G hMd qMd vMd, bLa G aLa vLa, bDa G aDa vDa]) rfl rfl (q0 := 0) rfl rfl dL_law_1222 ?_
      rintro _ _ ⟨r_232, v_233, rfl, rfl, hw⟩
      refine gw_sel [3, 4, 5, 6, 7, 8, 9, 10, 11, 12, 13, 14, 15, 16, 17, 18, 19, 20, 21, 0, 1, 2] (bs' := [bKW G hKW qKW vKW, bLg G (qKW 0) qLg vLg, bLg G (qKW 1) qLg2 vLg2, bLg G (qKW 2) qLg3 vLg3, bLg G (qKW 3) qLg4 vLg4, bWv G (qKW 5) qWv vWv, bPr G (qKW 6) qPr v_233, bRf G (qKW 7) qRf vRf, bTx G (qKW 8) qTx vTx, bLn G (qKW 9) qLn vLn, bHo G (qKW 4) qHs vHs, bRo G qHs vHs 0, bRo G qHs vHs 1, bRo G qHs vHs 2, bRo G qHs vHs 3, bRo G qHs vHs 4, bRo G qHs vHs 5, bRo G qHs vHs 6, bRo G qHs vHs 7, bMd G hMd qMd vMd, bLa G aLa vLa, bDa G aDa vDa]) rfl rfl ?_
      change GW C k0 n0 _ 1225 _ [.int r_232]
      refine gw_aload_n F dL_law_1225 2 rfl ?_
      refine gw_callV F (ct_X8_mostAgain hw) 0 la_188 rfl rfl rfl hd_X8_mostAgain ⟨(Nat.le_of_ble_eq_true rfl), (Nat.le_of_ble_eq_true rfl)⟩ rfl rfl (Nat.le_of_ble_eq_true rfl) ⟨by show _ ≤ 603072; omega, by show _ ≤ 7207018; omega⟩ [0, 1, 2, 3, 4, 5, 6, 7, 8, 9, 10, 11, 12, 13, 14, 15, 16, 17, 18, 20, 21, 19] (bsr := [bKW G hKW qKW vKW, bLg G (qKW 0) qLg vLg, bLg G (qKW 1) qLg2 vLg2, bLg G (qKW 2) qLg3 vLg3, bLg G (qKW 3) qLg4 vLg4, bWv G (qKW 5) qWv vWv, bPr G (qKW 6) qPr v_233, bRf G (qKW 7) qRf vRf, bTx G (qKW 8) qTx vTx, bLn G (qKW 9) qLn vLn, bHo G (qKW 4) qHs vHs, bRo G qHs vHs 0, bRo G qHs vHs 1, bRo G qHs vHs 2, bRo G qHs vHs 3, bRo G qHs vHs 4, bRo G qHs vHs 5, bRo G qHs vHs 6, bRo G qHs vHs 7, bLa G aLa vLa, bDa G aDa vDa]) rfl rfl (q0 := 0) rfl rfl dL_law_1226 ?_
      rintro _ _ ⟨r_234, v_235, rfl, rfl, hw⟩
      refine gw_sel [0, 1, 2, 3, 4, 5, 6, 7, 8, 9, 10, 11, 12, 13, 14, 15, 16, 17, 18, 21, 19, 20] (bs' := [bKW G hKW qKW vKW, bLg G (qKW 0) qLg vLg, bLg G (qKW 1) qLg2 vLg2, bLg G (qKW 2) qLg3 vLg3, bLg G (qKW 3) qLg4 vLg4, bWv G (qKW 5) qWv vWv, bPr G (qKW 6) qPr v_233, bRf G (qKW 7) qRf vRf, bTx G (qKW 8) qTx vTx, bLn G (qKW 9) qLn vLn, bHo G (qKW 4) qHs vHs, bRo G qHs vHs 0, bRo G qHs vHs 1, bRo G qHs vHs 2, bRo G qHs vHs 3, bRo G qHs vHs 4, bRo G qHs vHs 5, bRo G qHs vHs 6, bRo G qHs vHs 7, bMd G hMd qMd v_235, bLa G aLa vLa, bDa G aDa vDa]) rfl rfl ?_
      change GW C k0 n0 _ 1229 _ [.int r_234, .int r_232]
      refine gw_icmp_eq (tgt := 2081) F dL_law_1229 (by decide) (fun c_236 => ?_) (fun c_236 => ?_)
      · have hw := hw.1 c_236
        refine gw_widen (k' := k0 + 2) (n' := n0 + 12) (by omega) (by omega) ?_
        exact lb_L_law_2081 hl0 hk F E hK28 hw
      · have hw := hw.2 c_236
        refine gw_iconst (v := (0 : Int32)) F dL_law_1232 ic_iconst_0 ?_
        exact gw_lret F E hw (by omega) (by omega) dL_law_1233
    · have hw := hw.2.2.2.2.2.2.2.2.2.2.2.2.2.2.2.2.2.2.2.2.1 c_3
      refine gw_tin (j := 19) (off := 1190) (tgt := 1234) F dL_law_44 c_3 (by decide) (by decide) rfl (by decide) ?_
      refine gw_aload_n F dL_law_1234 1 rfl ?_
      refine gw_aload_n F dL_law_1235 0 rfl ?_
      refine gw_iload F dL_law_1236 5 rfl ?_
      refine gw_iconst (v := (1 : Int32)) F dL_law_1238 ic_iconst_1 ?_
      refine gw_iadd F dL_law_1239 ?_
      obtain ⟨h_237, hw⟩ := hw
      refine gw_sld F E h_237 dL_law_1240 ?_
      refine gw_if_eq (tgt := 1248) F dL_law_1241 (by decide) (fun c_238 => ?_) (fun c_238 => ?_)
      · have hw := hw.1 c_238
        refine gw_iconst (v := (0 : Int32)) F dL_law_1248 ic_iconst_0 ?_
        exact lb_L_law_1249 hl0 hk F E hK28 hw
      · have hw := hw.2 c_238
        refine gw_iconst (v := (1 : Int32)) F dL_law_1244 ic_iconst_1 ?_
        refine gw_goto (tgt := 1249) F dL_law_1245 (by decide) ?_
        exact lb_L_law_1249 hl0 hk F E hK28 hw
    · have hw := hw.2.2.2.2.2.2.2.2.2.2.2.2.2.2.2.2.2.2.2.2.2.1 c_3
      refine gw_tin (j := 20) (off := 1231) (tgt := 1275) F dL_law_44 c_3 (by decide) (by decide) rfl (by decide) ?_
      refine gw_aload_n F dL_law_1275 1 rfl ?_
      refine gw_aload_n F dL_law_1276 0 rfl ?_
      refine gw_iload F dL_law_1277 5 rfl ?_
      refine gw_iconst (v := (1 : Int32)) F dL_law_1279 ic_iconst_1 ?_
      refine gw_iadd F dL_law_1280 ?_
      obtain ⟨h_247, hw⟩ := hw
      refine gw_sld F E h_247 dL_law_1281 ?_
      refine gw_aload_n F dL_law_1282 3 rfl ?_
      refine gw_callSX F (ct_L_canBeOpen hl0 hw) 3 la_194 rfl rfl rfl hd_L_canBeOpen ⟨(Nat.le_of_ble_eq_true rfl), (Nat.le_of_ble_eq_true rfl)⟩ rfl rfl (Nat.le_of_ble_eq_true rfl) ⟨by show _ ≤ 603072; omega, by show _ ≤ 7207018; omega⟩ [19, 21, 0, 1, 2, 3, 4, 5, 6, 7, 8, 9, 10, 11, 12, 13, 14, 15, 16, 17, 18, 20] (bsr := [bMd G hMd qMd vMd, bDa G aDa vDa]) rfl rfl dL_law_1283 ?_
      rintro _ _ ⟨r_248, v_249, rfl, rfl, hw⟩
      refine gw_sel [2, 3, 4, 5, 6, 7, 8, 9, 10, 11, 12, 13, 14, 15, 16, 17, 18, 19, 20, 0, 21, 1] (bs' := [bKW G hKW qKW vKW, bLg G (qKW 0) qLg vLg, bLg G (qKW 1) qLg2 vLg2, bLg G (qKW 2) qLg3 vLg3, bLg G (qKW 3) qLg4 vLg4, bWv G (qKW 5) qWv vWv, bPr G (qKW 6) qPr vPr, bRf G (qKW 7) qRf vRf, bTx G (qKW 8) qTx vTx, bLn G (qKW 9) qLn vLn, bHo G (qKW 4) qHs vHs, bRo G qHs vHs 0, bRo G qHs vHs 1, bRo G qHs vHs 2, bRo G qHs vHs 3, bRo G qHs vHs 4, bRo G qHs vHs 5, bRo G qHs vHs 6, bRo G qHs vHs 7, bMd G hMd qMd vMd, bLa G aLa v_249, bDa G aDa vDa]) rfl rfl ?_
      change GW C (k0 + 1) (n0 + 6) _ 1286 _ [.int r_248]
      refine gw_istore (lv' := [(6, .int r_248), (0, .ref bS), (1, .ref hKW), (2, .ref hMd), (3, .ref aLa), (4, .ref aDa), (5, .int x5)]) F dL_law_1286 (by decide) rfl ?_
      refine gw_aload_n F dL_law_1288 3 rfl ?_
      refine gw_aload_n F dL_law_1289 1 rfl ?_
      refine gw_iload F dL_law_1290 6 rfl ?_
      refine gw_iconst (v := (1 : Int32)) F dL_law_1292 ic_iconst_1 ?_
      refine gw_iadd F dL_law_1293 ?_
      obtain ⟨h_250, hw⟩ := hw
      refine gw_sld F E h_250 dL_law_1294 ?_
      refine gw_callV F (ct_X8_canBeOpen hw) 1 la_196 rfl rfl rfl hd_X8_canBeOpen ⟨(Nat.le_of_ble_eq_true rfl), (Nat.le_of_ble_eq_true rfl)⟩ rfl rfl (Nat.le_of_ble_eq_true rfl) ⟨by show _ ≤ 603072; omega, by show _ ≤ 7207018; omega⟩ [0, 1, 2, 3, 4, 5, 6, 7, 8, 9, 10, 11, 12, 13, 14, 15, 16, 17, 18, 20, 21, 19] (bsr := [bKW G hKW qKW vKW, bLg G (qKW 0) qLg vLg, bLg G (qKW 1) qLg2 vLg2, bLg G (qKW 2) qLg3 vLg3, bLg G (qKW 3) qLg4 vLg4, bWv G (qKW 5) qWv vWv, bPr G (qKW 6) qPr vPr, bRf G (qKW 7) qRf vRf, bTx G (qKW 8) qTx vTx, bLn G (qKW 9) qLn vLn, bHo G (qKW 4) qHs vHs, bRo G qHs vHs 0, bRo G qHs vHs 1, bRo G qHs vHs 2, bRo G qHs vHs 3, bRo G qHs vHs 4, bRo G qHs vHs 5, bRo G qHs vHs 6, bRo G qHs vHs 7, bLa G aLa v_249, bDa G aDa vDa]) rfl rfl (q0 := 0) rfl rfl dL_law_1295 ?_
      rintro _ _ ⟨r_251, v_252, rfl, rfl, hw⟩
      refine gw_sel [0, 1, 2, 3, 4, 5, 6, 7, 8, 9, 10, 11, 12, 13, 14, 15, 16, 17, 18, 21, 19, 20] (bs' := [bKW G hKW qKW vKW, bLg G (qKW 0) qLg vLg, bLg G (qKW 1) qLg2 vLg2, bLg G (qKW 2) qLg3 vLg3, bLg G (qKW 3) qLg4 vLg4, bWv G (qKW 5) qWv vWv, bPr G (qKW 6) qPr vPr, bRf G (qKW 7) qRf vRf, bTx G (qKW 8) qTx vTx, bLn G (qKW 9) qLn vLn, bHo G (qKW 4) qHs vHs, bRo G qHs vHs 0, bRo G qHs vHs 1, bRo G qHs vHs 2, bRo G qHs vHs 3, bRo G qHs vHs 4, bRo G qHs vHs 5, bRo G qHs vHs 6, bRo G qHs vHs 7, bMd G hMd qMd v_252, bLa G aLa v_249, bDa G aDa vDa]) rfl rfl ?_
      change GW C (k0 + 1) (n0 + 6) _ 1298 _ [.int r_251]
      refine gw_istore (lv' := [(7, .int r_251), (6, .int r_248), (0, .ref bS), (1, .ref hKW), (2, .ref hMd), (3, .ref aLa), (4, .ref aDa), (5, .int x5)]) F dL_law_1298 (by decide) rfl ?_
      refine gw_aload_n F dL_law_1300 4 rfl ?_
      refine gw_callV F (ct_X8_thrown hw) 0 la_125 rfl rfl rfl hd_X8_thrown ⟨(Nat.le_of_ble_eq_true rfl), (Nat.le_of_ble_eq_true rfl)⟩ rfl rfl (Nat.le_of_ble_eq_true rfl) ⟨by show _ ≤ 603072; omega, by show _ ≤ 7207018; omega⟩ [0, 1, 2, 3, 4, 5, 6, 7, 8, 9, 10, 11, 12, 13, 14, 15, 16, 17, 18, 20, 21, 19] (bsr := [bKW G hKW qKW vKW, bLg G (qKW 0) qLg vLg, bLg G (qKW 1) qLg2 vLg2, bLg G (qKW 2) qLg3 vLg3, bLg G (qKW 3) qLg4 vLg4, bWv G (qKW 5) qWv vWv, bPr G (qKW 6) qPr vPr, bRf G (qKW 7) qRf vRf, bTx G (qKW 8) qTx vTx, bLn G (qKW 9) qLn vLn, bHo G (qKW 4) qHs vHs, bRo G qHs vHs 0, bRo G qHs vHs 1, bRo G qHs vHs 2, bRo G qHs vHs 3, bRo G qHs vHs 4, bRo G qHs vHs 5, bRo G qHs vHs 6, bRo G qHs vHs 7, bLa G aLa v_249, bDa G aDa vDa]) rfl rfl (q0 := 0) rfl rfl dL_law_1301 ?_
      rintro _ _ ⟨r_253, rfl, rfl, hw⟩
      refine gw_sel [0, 1, 2, 3, 4, 5, 6, 7, 8, 9, 10, 11, 12, 13, 14, 15, 16, 17, 18, 21, 19, 20] (bs' := [bKW G hKW qKW vKW, bLg G (qKW 0) qLg vLg, bLg G (qKW 1) qLg2 vLg2, bLg G (qKW 2) qLg3 vLg3, bLg G (qKW 3) qLg4 vLg4, bWv G (qKW 5) qWv vWv, bPr G (qKW 6) qPr vPr, bRf G (qKW 7) qRf vRf, bTx G (qKW 8) qTx vTx, bLn G (qKW 9) qLn vLn, bHo G (qKW 4) qHs vHs, bRo G qHs vHs 0, bRo G qHs vHs 1, bRo G qHs vHs 2, bRo G qHs vHs 3, bRo G qHs vHs 4, bRo G qHs vHs 5, bRo G qHs vHs 6, bRo G qHs vHs 7, bMd G hMd qMd v_252, bLa G aLa v_249, bDa G aDa vDa]) rfl rfl ?_
      change GW C (k0 + 1) (n0 + 6) _ 1304 _ [.int r_253]
      refine gw_iload F dL_law_1304 1 rfl ?_
      refine gw_icmp_eq (tgt := 1311) F dL_law_1306 (by decide) (fun c_254 => ?_) (fun c_254 => ?_)
      · have hw := hw.1 c_254
        refine gw_iload F dL_law_1311 1 rfl ?_
        refine gw_if_ne (tgt := 1335) F dL_law_1313 (by decide) (fun c_255 => ?_) (fun c_255 => ?_)
        · have hw := hw.1 c_255
          refine gw_lv [2, 3, 4, 5, 6, 7] rfl ?_
          exact lb_L_law_1335 hl0 hk F E hK28 hw
        · have hw := hw.2 c_255
          refine gw_aload_n F dL_law_1316 5 rfl ?_
          refine gw_iconst (v := (0 : Int32)) F dL_law_1317 ic_iconst_0 ?_
          refine gw_lald F 133 rfl (by unfold vp_in; decide) dL_law_1318 ?_
          refine gw_iload F dL_law_1319 0 rfl ?_
          refine gw_if_eq (tgt := 1328) F dL_law_1321 (by decide) (fun c_256 => ?_) (fun c_256 => ?_)
          · have hw := hw.1 c_256
            refine gw_lconst (v := (0 : Int64)) F dL_law_1328 (by decide) ?_
            refine gw_lcmp F dL_law_1329 ?_
            refine gw_if_eq (tgt := 1335) F dL_law_1330 (by decide) (fun c_257 => ?_) (fun c_257 => ?_)
            · have hw := hw.1 c_257
              refine gw_lv [2, 3, 4, 5, 6, 7] rfl ?_
              exact lb_L_law_1335 hl0 hk F E hK28 hw
            · have hw := hw.2 c_257
              refine gw_iconst (v := (0 : Int32)) F dL_law_1333 ic_iconst_0 ?_
              exact gw_lret F E hw (by omega) (by omega) dL_law_1334
          · have hw := hw.2 c_256
            refine gw_lconst (v := (1 : Int64)) F dL_law_1324 (by decide) ?_
            refine gw_goto (tgt := 1329) F dL_law_1325 (by decide) ?_
            refine gw_lcmp F dL_law_1329 ?_
            refine gw_if_eq (tgt := 1335) F dL_law_1330 (by decide) (fun c_258 => ?_) (fun c_258 => ?_)
            · have hw := hw.1 c_258
              refine gw_lv [2, 3, 4, 5, 6, 7] rfl ?_
              exact lb_L_law_1335 hl0 hk F E hK28 hw
            · have hw := hw.2 c_258
              refine gw_iconst (v := (0 : Int32)) F dL_law_1333 ic_iconst_0 ?_
              exact gw_lret F E hw (by omega) (by omega) dL_law_1334
      · have hw := hw.2 c_254
        refine gw_iconst (v := (0 : Int32)) F dL_law_1309 ic_iconst_0 ?_
        exact gw_lret F E hw (by omega) (by omega) dL_law_1310
    · have hw := hw.2.2.2.2.2.2.2.2.2.2.2.2.2.2.2.2.2.2.2.2.2.2.1 c_3
      refine gw_tin (j := 21) (off := 1294) (tgt := 1338) F dL_law_44 c_3 (by decide) (by decide) rfl (by decide) ?_
      refine gw_aload_n F dL_law_1338 1 rfl ?_
      refine gw_aload_n F dL_law_1339 0 rfl ?_
      refine gw_iload F dL_law_1340 5 rfl ?_
      refine gw_iconst (v := (1 : Int32)) F dL_law_1342 ic_iconst_1 ?_
      refine gw_iadd F dL_law_1343 ?_
      obtain ⟨h_259, hw⟩ := hw
      refine gw_sld F E h_259 dL_law_1344 ?_
      refine gw_aload_n F dL_law_1345 3 rfl ?_
      refine gw_callSX F (ct_L_isNeeded hl0 hw) 3 la_197 rfl rfl rfl hd_L_isNeeded ⟨(Nat.le_of_ble_eq_true rfl), (Nat.le_of_ble_eq_true rfl)⟩ rfl rfl (Nat.le_of_ble_eq_true rfl) ⟨by show _ ≤ 603072; omega, by show _ ≤ 7207018; omega⟩ [19, 21, 0, 1, 2, 3, 4, 5, 6, 7, 8, 9, 10, 11, 12, 13, 14, 15, 16, 17, 18, 20] (bsr := [bMd G hMd qMd vMd, bDa G aDa vDa]) rfl rfl dL_law_1346 ?_
      rintro _ _ ⟨r_260, v_261, v_262, rfl, rfl, hw⟩
      refine gw_sel [2, 3, 4, 5, 6, 7, 8, 9, 10, 11, 12, 13, 14, 15, 16, 17, 18, 19, 20, 0, 21, 1] (bs' := [bKW G hKW qKW vKW, bLg G (qKW 0) qLg vLg, bLg G (qKW 1) qLg2 vLg2, bLg G (qKW 2) qLg3 vLg3, bLg G (qKW 3) qLg4 vLg4, bWv G (qKW 5) qWv vWv, bPr G (qKW 6) qPr v_261, bRf G (qKW 7) qRf vRf, bTx G (qKW 8) qTx vTx, bLn G (qKW 9) qLn vLn, bHo G (qKW 4) qHs vHs, bRo G qHs vHs 0, bRo G qHs vHs 1, bRo G qHs vHs 2, bRo G qHs vHs 3, bRo G qHs vHs 4, bRo G qHs vHs 5, bRo G qHs vHs 6, bRo G qHs vHs 7, bMd G hMd qMd vMd, bLa G aLa v_262, bDa G aDa vDa]) rfl rfl ?_
      change GW C (k0 + 1) (n0 + 6) _ 1349 _ [.int r_260]
      refine gw_istore (lv' := [(6, .int r_260), (0, .ref bS), (1, .ref hKW), (2, .ref hMd), (3, .ref aLa), (4, .ref aDa), (5, .int x5)]) F dL_law_1349 (by decide) rfl ?_
      refine gw_aload_n F dL_law_1351 3 rfl ?_
      refine gw_aload_n F dL_law_1352 1 rfl ?_
      refine gw_iload F dL_law_1353 6 rfl ?_
      refine gw_iconst (v := (1 : Int32)) F dL_law_1355 ic_iconst_1 ?_
      refine gw_iadd F dL_law_1356 ?_
      obtain ⟨h_263, hw⟩ := hw
      refine gw_sld F E h_263 dL_law_1357 ?_
      refine gw_callV F (ct_X8_isNeeded hw) 1 la_199 rfl rfl rfl hd_X8_isNeeded ⟨(Nat.le_of_ble_eq_true rfl), (Nat.le_of_ble_eq_true rfl)⟩ rfl rfl (Nat.le_of_ble_eq_true rfl) ⟨by show _ ≤ 603072; omega, by show _ ≤ 7207018; omega⟩ [0, 1, 2, 3, 4, 5, 6, 7, 8, 9, 10, 11, 12, 13, 14, 15, 16, 17, 18, 20, 21, 19] (bsr := [bKW G hKW qKW vKW, bLg G (qKW 0) qLg vLg, bLg G (qKW 1) qLg2 vLg2, bLg G (qKW 2) qLg3 vLg3, bLg G (qKW 3) qLg4 vLg4, bWv G (qKW 5) qWv vWv, bPr G (qKW 6) qPr v_261, bRf G (qKW 7) qRf vRf, bTx G (qKW 8) qTx vTx, bLn G (qKW 9) qLn vLn, bHo G (qKW 4) qHs vHs, bRo G qHs vHs 0, bRo G qHs vHs 1, bRo G qHs vHs 2, bRo G qHs vHs 3, bRo G qHs vHs 4, bRo G qHs vHs 5, bRo G qHs vHs 6, bRo G qHs vHs 7, bLa G aLa v_262, bDa G aDa vDa]) rfl rfl (q0 := 0) rfl rfl dL_law_1358 ?_
      rintro _ _ ⟨r_264, v_265, rfl, rfl, hw⟩
      refine gw_sel [0, 1, 2, 3, 4, 5, 6, 7, 8, 9, 10, 11, 12, 13, 14, 15, 16, 17, 18, 21, 19, 20] (bs' := [bKW G hKW qKW vKW, bLg G (qKW 0) qLg vLg, bLg G (qKW 1) qLg2 vLg2, bLg G (qKW 2) qLg3 vLg3, bLg G (qKW 3) qLg4 vLg4, bWv G (qKW 5) qWv vWv, bPr G (qKW 6) qPr v_261, bRf G (qKW 7) qRf vRf, bTx G (qKW 8) qTx vTx, bLn G (qKW 9) qLn vLn, bHo G (qKW 4) qHs vHs, bRo G qHs vHs 0, bRo G qHs vHs 1, bRo G qHs vHs 2, bRo G qHs vHs 3, bRo G qHs vHs 4, bRo G qHs vHs 5, bRo G qHs vHs 6, bRo G qHs vHs 7, bMd G hMd qMd v_265, bLa G aLa v_262, bDa G aDa vDa]) rfl rfl ?_
      change GW C (k0 + 1) (n0 + 6) _ 1361 _ [.int r_264]
      refine gw_istore (lv' := [(7, .int r_264), (6, .int r_260), (0, .ref bS), (1, .ref hKW), (2, .ref hMd), (3, .ref aLa), (4, .ref aDa), (5, .int x5)]) F dL_law_1361 (by decide) rfl ?_
      refine gw_aload_n F dL_law_1363 4 rfl ?_
      refine gw_callV F (ct_X8_thrown hw) 0 la_125 rfl rfl rfl hd_X8_thrown ⟨(Nat.le_of_ble_eq_true rfl), (Nat.le_of_ble_eq_true rfl)⟩ rfl rfl (Nat.le_of_ble_eq_true rfl) ⟨by show _ ≤ 603072; omega, by show _ ≤ 7207018; omega⟩ [0, 1, 2, 3, 4, 5, 6, 7, 8, 9, 10, 11, 12, 13, 14, 15, 16, 17, 18, 20, 21, 19] (bsr := [bKW G hKW qKW vKW, bLg G (qKW 0) qLg vLg, bLg G (qKW 1) qLg2 vLg2, bLg G (qKW 2) qLg3 vLg3, bLg G (qKW 3) qLg4 vLg4, bWv G (qKW 5) qWv vWv, bPr G (qKW 6) qPr v_261, bRf G (qKW 7) qRf vRf, bTx G (qKW 8) qTx vTx, bLn G (qKW 9) qLn vLn, bHo G (qKW 4) qHs vHs, bRo G qHs vHs 0, bRo G qHs vHs 1, bRo G qHs vHs 2, bRo G qHs vHs 3, bRo G qHs vHs 4, bRo G qHs vHs 5, bRo G qHs vHs 6, bRo G qHs vHs 7, bLa G aLa v_262, bDa G aDa vDa]) rfl rfl (q0 := 0) rfl rfl dL_law_1364 ?_
      rintro _ _ ⟨r_266, rfl, rfl, hw⟩
      refine gw_sel [0, 1, 2, 3, 4, 5, 6, 7, 8, 9, 10, 11, 12, 13, 14, 15, 16, 17, 18, 21, 19, 20] (bs' := [bKW G hKW qKW vKW, bLg G (qKW 0) qLg vLg, bLg G (qKW 1) qLg2 vLg2, bLg G (qKW 2) qLg3 vLg3, bLg G (qKW 3) qLg4 vLg4, bWv G (qKW 5) qWv vWv, bPr G (qKW 6) qPr v_261, bRf G (qKW 7) qRf vRf, bTx G (qKW 8) qTx vTx, bLn G (qKW 9) qLn vLn, bHo G (qKW 4) qHs vHs, bRo G qHs vHs 0, bRo G qHs vHs 1, bRo G qHs vHs 2, bRo G qHs vHs 3, bRo G qHs vHs 4, bRo G qHs vHs 5, bRo G qHs vHs 6, bRo G qHs vHs 7, bMd G hMd qMd v_265, bLa G aLa v_262, bDa G aDa vDa]) rfl rfl ?_
      change GW C (k0 + 1) (n0 + 6) _ 1367 _ [.int r_266]
      refine gw_iload F dL_law_1367 1 rfl ?_
      refine gw_icmp_eq (tgt := 1374) F dL_law_1369 (by decide) (fun c_267 => ?_) (fun c_267 => ?_)
      · have hw := hw.1 c_267
        refine gw_iload F dL_law_1374 1 rfl ?_
        refine gw_if_ne (tgt := 1398) F dL_law_1376 (by decide) (fun c_268 => ?_) (fun c_268 => ?_)
        · have hw := hw.1 c_268
          refine gw_lv [2, 3, 4, 5, 6, 7] rfl ?_
          exact lb_L_law_1398 hl0 hk F E hK28 hw
        · have hw := hw.2 c_268
          refine gw_aload_n F dL_law_1379 5 rfl ?_
          refine gw_iconst (v := (0 : Int32)) F dL_law_1380 ic_iconst_0 ?_
          refine gw_lald F 133 rfl (by unfold vp_in; decide) dL_law_1381 ?_
          refine gw_iload F dL_law_1382 0 rfl ?_
          refine gw_if_eq (tgt := 1391) F dL_law_1384 (by decide) (fun c_269 => ?_) (fun c_269 => ?_)
          · have hw := hw.1 c_269
            refine gw_lconst (v := (0 : Int64)) F dL_law_1391 (by decide) ?_
            refine gw_lcmp F dL_law_1392 ?_
            refine gw_if_eq (tgt := 1398) F dL_law_1393 (by decide) (fun c_270 => ?_) (fun c_270 => ?_)
            · have hw := hw.1 c_270
              refine gw_lv [2, 3, 4, 5, 6, 7] rfl ?_
              exact lb_L_law_1398 hl0 hk F E hK28 hw
            · have hw := hw.2 c_270
              refine gw_iconst (v := (0 : Int32)) F dL_law_1396 ic_iconst_0 ?_
              exact gw_lret F E hw (by omega) (by omega) dL_law_1397
          · have hw := hw.2 c_269
            refine gw_lconst (v := (1 : Int64)) F dL_law_1387 (by decide) ?_
            refine gw_goto (tgt := 1392) F dL_law_1388 (by decide) ?_
            refine gw_lcmp F dL_law_1392 ?_
            refine gw_if_eq (tgt := 1398) F dL_law_1393 (by decide) (fun c_271 => ?_) (fun c_271 => ?_)
            · have hw := hw.1 c_271
              refine gw_lv [2, 3, 4, 5, 6, 7] rfl ?_
              exact lb_L_law_1398 hl0 hk F E hK28 hw
            · have hw := hw.2 c_271
              refine gw_iconst (v := (0 : Int32)) F dL_law_1396 ic_iconst_0 ?_
              exact gw_lret F E hw (by omega) (by omega) dL_law_1397
      · have hw := hw.2 c_267
        refine gw_iconst (v := (0 : Int32)) F dL_law_1372 ic_iconst_0 ?_
        exact gw_lret F E hw (by omega) (by omega) dL_law_1373
    · have hw := hw.2.2.2.2.2.2.2.2.2.2.2.2.2.2.2.2.2.2.2.2.2.2.2.1 c_3
      refine gw_tin (j := 22) (off := 1357) (tgt := 1401) F dL_law_44 c_3 (by decide) (by decide) rfl (by decide) ?_
      refine gw_aload_n F dL_law_1401 1 rfl ?_
      refine gw_aload_n F dL_law_1402 0 rfl ?_
      refine gw_iload F dL_law_1403 5 rfl ?_
      refine gw_iconst (v := (1 : Int32)) F dL_law_1405 ic_iconst_1 ?_
      refine gw_iadd F dL_law_1406 ?_
      obtain ⟨h_272, hw⟩ := hw
      refine gw_sld F E h_272 dL_law_1407 ?_
      refine gw_aload_n F dL_law_1408 0 rfl ?_
      refine gw_iload F dL_law_1409 5 rfl ?_
      refine gw_iconst (v := (2 : Int32)) F dL_law_1411 ic_iconst_2 ?_
      refine gw_iadd F dL_law_1412 ?_
      obtain ⟨h_273, hw⟩ := hw
      refine gw_sld F E h_273 dL_law_1413 ?_
      refine gw_aload_n F dL_law_1414 3 rfl ?_
      refine gw_callSX F (ct_L_porterOf hl0 hw) 4 la_200 rfl rfl rfl hd_L_porterOf ⟨(Nat.le_of_ble_eq_true rfl), (Nat.le_of_ble_eq_true rfl)⟩ rfl rfl (Nat.le_of_ble_eq_true rfl) ⟨by show _ ≤ 603072; omega, by show _ ≤ 7207018; omega⟩ [19, 21, 0, 1, 2, 3, 4, 5, 6, 7, 8, 9, 10, 11, 12, 13, 14, 15, 16, 17, 18, 20] (bsr := [bMd G hMd qMd vMd, bDa G aDa vDa]) rfl rfl dL_law_1415 ?_
      rintro _ _ ⟨r_274, v_275, rfl, rfl, hw⟩
      refine gw_sel [2, 3, 4, 5, 6, 7, 8, 9, 10, 11, 12, 13, 14, 15, 16, 17, 18, 19, 20, 0, 21, 1] (bs' := [bKW G hKW qKW vKW, bLg G (qKW 0) qLg vLg, bLg G (qKW 1) qLg2 vLg2, bLg G (qKW 2) qLg3 vLg3, bLg G (qKW 3) qLg4 vLg4, bWv G (qKW 5) qWv vWv, bPr G (qKW 6) qPr vPr, bRf G (qKW 7) qRf vRf, bTx G (qKW 8) qTx vTx, bLn G (qKW 9) qLn vLn, bHo G (qKW 4) qHs vHs, bRo G qHs vHs 0, bRo G qHs vHs 1, bRo G qHs vHs 2, bRo G qHs vHs 3, bRo G qHs vHs 4, bRo G qHs vHs 5, bRo G qHs vHs 6, bRo G qHs vHs 7, bMd G hMd qMd vMd, bLa G aLa v_275, bDa G aDa vDa]) rfl rfl ?_
      change GW C (k0 + 1) (n0 + 6) _ 1418 _ [.int r_274]
      refine gw_istore (lv' := [(6, .int r_274), (0, .ref bS), (1, .ref hKW), (2, .ref hMd), (3, .ref aLa), (4, .ref aDa), (5, .int x5)]) F dL_law_1418 (by decide) rfl ?_
      refine gw_aload_n F dL_law_1420 3 rfl ?_
      refine gw_aload_n F dL_law_1421 1 rfl ?_
      refine gw_iload F dL_law_1422 6 rfl ?_
      refine gw_iconst (v := (1 : Int32)) F dL_law_1424 ic_iconst_1 ?_
      refine gw_iadd F dL_law_1425 ?_
      obtain ⟨h_276, hw⟩ := hw
      refine gw_sld F E h_276 dL_law_1426 ?_
      refine gw_aload_n F dL_law_1427 1 rfl ?_
      refine gw_iload F dL_law_1428 6 rfl ?_
      refine gw_iconst (v := (2 : Int32)) F dL_law_1430 ic_iconst_2 ?_
      refine gw_iadd F dL_law_1431 ?_
      obtain ⟨h_277, hw⟩ := hw
      refine gw_sld F E h_277 dL_law_1432 ?_
      refine gw_callV F (ct_X8_porterOf hw) 2 la_202 rfl rfl rfl hd_X8_porterOf ⟨(Nat.le_of_ble_eq_true rfl), (Nat.le_of_ble_eq_true rfl)⟩ rfl rfl (Nat.le_of_ble_eq_true rfl) ⟨by show _ ≤ 603072; omega, by show _ ≤ 7207018; omega⟩ [0, 1, 2, 3, 4, 5, 6, 7, 8, 9, 10, 11, 12, 13, 14, 15, 16, 17, 18, 20, 21, 19] (bsr := [bKW G hKW qKW vKW, bLg G (qKW 0) qLg vLg, bLg G (qKW 1) qLg2 vLg2, bLg G (qKW 2) qLg3 vLg3, bLg G (qKW 3) qLg4 vLg4, bWv G (qKW 5) qWv vWv, bPr G (qKW 6) qPr vPr, bRf G (qKW 7) qRf vRf, bTx G (qKW 8) qTx vTx, bLn G (qKW 9) qLn vLn, bHo G (qKW 4) qHs vHs, bRo G qHs vHs 0, bRo G qHs vHs 1, bRo G qHs vHs 2, bRo G qHs vHs 3, bRo G qHs vHs 4, bRo G qHs vHs 5, bRo G qHs vHs 6, bRo G qHs vHs 7, bLa G aLa v_275, bDa G aDa vDa]) rfl rfl (q0 := 0) rfl rfl dL_law_1433 ?_
      rintro _ _ ⟨r_278, v_279, rfl, rfl, hw⟩
      refine gw_sel [0, 1, 2, 3, 4, 5, 6, 7, 8, 9, 10, 11, 12, 13, 14, 15, 16, 17, 18, 21, 19, 20] (bs' := [bKW G hKW qKW vKW, bLg G (qKW 0) qLg vLg, bLg G (qKW 1) qLg2 vLg2, bLg G (qKW 2) qLg3 vLg3, bLg G (qKW 3) qLg4 vLg4, bWv G (qKW 5) qWv vWv, bPr G (qKW 6) qPr vPr, bRf G (qKW 7) qRf vRf, bTx G (qKW 8) qTx vTx, bLn G (qKW 9) qLn vLn, bHo G (qKW 4) qHs vHs, bRo G qHs vHs 0, bRo G qHs vHs 1, bRo G qHs vHs 2, bRo G qHs vHs 3, bRo G qHs vHs 4, bRo G qHs vHs 5, bRo G qHs vHs 6, bRo G qHs vHs 7, bMd G hMd qMd v_279, bLa G aLa v_275, bDa G aDa vDa]) rfl rfl ?_
      change GW C (k0 + 1) (n0 + 6) _ 1436 _ [.int r_278]
      refine gw_istore (lv' := [(7, .int r_278), (6, .int r_274), (0, .ref bS), (1, .ref hKW), (2, .ref hMd), (3, .ref aLa), (4, .ref aDa), (5, .int x5)]) F dL_law_1436 (by decide) rfl ?_
      refine gw_aload_n F dL_law_1438 4 rfl ?_
      refine gw_callV F (ct_X8_thrown hw) 0 la_125 rfl rfl rfl hd_X8_thrown ⟨(Nat.le_of_ble_eq_true rfl), (Nat.le_of_ble_eq_true rfl)⟩ rfl rfl (Nat.le_of_ble_eq_true rfl) ⟨by show _ ≤ 603072; omega, by show _ ≤ 7207018; omega⟩ [0, 1, 2, 3, 4, 5, 6, 7, 8, 9, 10, 11, 12, 13, 14, 15, 16, 17, 18, 20, 21, 19] (bsr := [bKW G hKW qKW vKW, bLg G (qKW 0) qLg vLg, bLg G (qKW 1) qLg2 vLg2, bLg G (qKW 2) qLg3 vLg3, bLg G (qKW 3) qLg4 vLg4, bWv G (qKW 5) qWv vWv, bPr G (qKW 6) qPr vPr, bRf G (qKW 7) qRf vRf, bTx G (qKW 8) qTx vTx, bLn G (qKW 9) qLn vLn, bHo G (qKW 4) qHs vHs, bRo G qHs vHs 0, bRo G qHs vHs 1, bRo G qHs vHs 2, bRo G qHs vHs 3, bRo G qHs vHs 4, bRo G qHs vHs 5, bRo G qHs vHs 6, bRo G qHs vHs 7, bLa G aLa v_275, bDa G aDa vDa]) rfl rfl (q0 := 0) rfl rfl dL_law_1439 ?_
      rintro _ _ ⟨r_280, rfl, rfl, hw⟩
      refine gw_sel [0, 1, 2, 3, 4, 5, 6, 7, 8, 9, 10, 11, 12, 13, 14, 15, 16, 17, 18, 21, 19, 20] (bs' := [bKW G hKW qKW vKW, bLg G (qKW 0) qLg vLg, bLg G (qKW 1) qLg2 vLg2, bLg G (qKW 2) qLg3 vLg3, bLg G (qKW 3) qLg4 vLg4, bWv G (qKW 5) qWv vWv, bPr G (qKW 6) qPr vPr, bRf G (qKW 7) qRf vRf, bTx G (qKW 8) qTx vTx, bLn G (qKW 9) qLn vLn, bHo G (qKW 4) qHs vHs, bRo G qHs vHs 0, bRo G qHs vHs 1, bRo G qHs vHs 2, bRo G qHs vHs 3, bRo G qHs vHs 4, bRo G qHs vHs 5, bRo G qHs vHs 6, bRo G qHs vHs 7, bMd G hMd qMd v_279, bLa G aLa v_275, bDa G aDa vDa]) rfl rfl ?_
      change GW C (k0 + 1) (n0 + 6) _ 1442 _ [.int r_280]
      refine gw_iload F dL_law_1442 1 rfl ?_
      refine gw_icmp_eq (tgt := 1449) F dL_law_1444 (by decide) (fun c_281 => ?_) (fun c_281 => ?_)
      · have hw := hw.1 c_281
        refine gw_iload F dL_law_1449 1 rfl ?_
        refine gw_if_ne (tgt := 1466) F dL_law_1451 (by decide) (fun c_282 => ?_) (fun c_282 => ?_)
        · have hw := hw.1 c_282
          refine gw_lv [2, 3, 4, 5, 6, 7] rfl ?_
          exact lb_L_law_1466 hl0 hk F E hK28 hw
        · have hw := hw.2 c_282
          refine gw_aload_n F dL_law_1454 5 rfl ?_
          refine gw_iconst (v := (0 : Int32)) F dL_law_1455 ic_iconst_0 ?_
          refine gw_lald F 133 rfl (by unfold vp_in; decide) dL_law_1456 ?_
          refine gw_iload F dL_law_1457 0 rfl ?_
          refine gw_i2l F dL_law_1459 ?_
          refine gw_lcmp F dL_law_1460 ?_
          refine gw_if_eq (tgt := 1466) F dL_law_1461 (by decide) (fun c_283 => ?_) (fun c_283 => ?_)
          · have hw := hw.1 c_283
            refine gw_lv [2, 3, 4, 5, 6, 7] rfl ?_
            exact lb_L_law_1466 hl0 hk F E hK28 hw
          · have hw := hw.2 c_283
            refine gw_iconst (v := (0 : Int32)) F dL_law_1464 ic_iconst_0 ?_
            exact gw_lret F E hw (by omega) (by omega) dL_law_1465
      · have hw := hw.2 c_281
        refine gw_iconst (v := (0 : Int32)) F dL_law_1447 ic_iconst_0 ?_
        exact gw_lret F E hw (by omega) (by omega) dL_law_1448
    · have hw := hw.2.2.2.2.2.2.2.2.2.2.2.2.2.2.2.2.2.2.2.2.2.2.2.2.1 c_3
      refine gw_tin (j := 23) (off := 1425) (tgt := 1469) F dL_law_44 c_3 (by decide) (by decide) rfl (by decide) ?_
      refine gw_aload_n F dL_law_1469 1 rfl ?_
      refine gw_aload_n F dL_law_1470 0 rfl ?_
      refine gw_iload F dL_law_1471 5 rfl ?_
      refine gw_iconst (v := (1 : Int32)) F dL_law_1473 ic_iconst_1 ?_
      refine gw_iadd F dL_law_1474 ?_
      obtain ⟨h_284, hw⟩ := hw
      refine gw_sld F E h_284 dL_law_1475 ?_
      refine gw_aload_n F dL_law_1476 3 rfl ?_
      refine gw_callSX F (ct_L_ranked hl0 hw) 3 la_203 rfl rfl rfl hd_L_ranked ⟨(Nat.le_of_ble_eq_true rfl), (Nat.le_of_ble_eq_true rfl)⟩ rfl rfl (Nat.le_of_ble_eq_true rfl) ⟨by show _ ≤ 603072; omega, by show _ ≤ 7207018; omega⟩ [19, 21, 0, 1, 2, 3, 4, 5, 6, 7, 8, 9, 10, 11, 12, 13, 14, 15, 16, 17, 18, 20] (bsr := [bMd G hMd qMd vMd, bDa G aDa vDa]) rfl rfl dL_law_1477 ?_
      rintro _ _ ⟨r_285, v_286, rfl, rfl, hw⟩
      refine gw_sel [2, 3, 4, 5, 6, 7, 8, 9, 10, 11, 12, 13, 14, 15, 16, 17, 18, 19, 20, 0, 21, 1] (bs' := [bKW G hKW qKW vKW, bLg G (qKW 0) qLg vLg, bLg G (qKW 1) qLg2 vLg2, bLg G (qKW 2) qLg3 vLg3, bLg G (qKW 3) qLg4 vLg4, bWv G (qKW 5) qWv vWv, bPr G (qKW 6) qPr vPr, bRf G (qKW 7) qRf vRf, bTx G (qKW 8) qTx vTx, bLn G (qKW 9) qLn vLn, bHo G (qKW 4) qHs vHs, bRo G qHs vHs 0, bRo G qHs vHs 1, bRo G qHs vHs 2, bRo G qHs vHs 3, bRo G qHs vHs 4, bRo G qHs vHs 5, bRo G qHs vHs 6, bRo G qHs vHs 7, bMd G hMd qMd vMd, bLa G aLa v_286, bDa G aDa vDa]) rfl rfl ?_
      change GW C (k0 + 1) (n0 + 6) _ 1480 _ [.int r_285]
      refine gw_istore (lv' := [(6, .int r_285), (0, .ref bS), (1, .ref hKW), (2, .ref hMd), (3, .ref aLa), (4, .ref aDa), (5, .int x5)]) F dL_law_1480 (by decide) rfl ?_
      refine gw_aload_n F dL_law_1482 3 rfl ?_
      refine gw_aload_n F dL_law_1483 1 rfl ?_
      refine gw_iload F dL_law_1484 6 rfl ?_
      refine gw_iconst (v := (1 : Int32)) F dL_law_1486 ic_iconst_1 ?_
      refine gw_iadd F dL_law_1487 ?_
      obtain ⟨h_287, hw⟩ := hw
      refine gw_sld F E h_287 dL_law_1488 ?_
      refine gw_callV F (ct_X8_ranked hw) 1 la_205 rfl rfl rfl hd_X8_ranked ⟨(Nat.le_of_ble_eq_true rfl), (Nat.le_of_ble_eq_true rfl)⟩ rfl rfl (Nat.le_of_ble_eq_true rfl) ⟨by show _ ≤ 603072; omega, by show _ ≤ 7207018; omega⟩ [0, 1, 2, 3, 4, 5, 6, 7, 8, 9, 10, 11, 12, 13, 14, 15, 16, 17, 18, 20, 21, 19] (bsr := [bKW G hKW qKW vKW, bLg G (qKW 0) qLg vLg, bLg G (qKW 1) qLg2 vLg2, bLg G (qKW 2) qLg3 vLg3, bLg G (qKW 3) qLg4 vLg4, bWv G (qKW 5) qWv vWv, bPr G (qKW 6) qPr vPr, bRf G (qKW 7) qRf vRf, bTx G (qKW 8) qTx vTx, bLn G (qKW 9) qLn vLn, bHo G (qKW 4) qHs vHs, bRo G qHs vHs 0, bRo G qHs vHs 1, bRo G qHs vHs 2, bRo G qHs vHs 3, bRo G qHs vHs 4, bRo G qHs vHs 5, bRo G qHs vHs 6, bRo G qHs vHs 7, bLa G aLa v_286, bDa G aDa vDa]) rfl rfl (q0 := 0) rfl rfl dL_law_1489 ?_
      rintro _ _ ⟨r_288, v_289, rfl, rfl, hw⟩
      refine gw_sel [0, 1, 2, 3, 4, 5, 6, 7, 8, 9, 10, 11, 12, 13, 14, 15, 16, 17, 18, 21, 19, 20] (bs' := [bKW G hKW qKW vKW, bLg G (qKW 0) qLg vLg, bLg G (qKW 1) qLg2 vLg2, bLg G (qKW 2) qLg3 vLg3, bLg G (qKW 3) qLg4 vLg4, bWv G (qKW 5) qWv vWv, bPr G (qKW 6) qPr vPr, bRf G (qKW 7) qRf vRf, bTx G (qKW 8) qTx vTx, bLn G (qKW 9) qLn vLn, bHo G (qKW 4) qHs vHs, bRo G qHs vHs 0, bRo G qHs vHs 1, bRo G qHs vHs 2, bRo G qHs vHs 3, bRo G qHs vHs 4, bRo G qHs vHs 5, bRo G qHs vHs 6, bRo G qHs vHs 7, bMd G hMd qMd v_289, bLa G aLa v_286, bDa G aDa vDa]) rfl rfl ?_
      change GW C (k0 + 1) (n0 + 6) _ 1492 _ [.int r_288]
      refine gw_istore (lv' := [(7, .int r_288), (6, .int r_285), (0, .ref bS), (1, .ref hKW), (2, .ref hMd), (3, .ref aLa), (4, .ref aDa), (5, .int x5)]) F dL_law_1492 (by decide) rfl ?_
      refine gw_aload_n F dL_law_1494 4 rfl ?_
      refine gw_callV F (ct_X8_thrown hw) 0 la_125 rfl rfl rfl hd_X8_thrown ⟨(Nat.le_of_ble_eq_true rfl), (Nat.le_of_ble_eq_true rfl)⟩ rfl rfl (Nat.le_of_ble_eq_true rfl) ⟨by show _ ≤ 603072; omega, by show _ ≤ 7207018; omega⟩ [0, 1, 2, 3, 4, 5, 6, 7, 8, 9, 10, 11, 12, 13, 14, 15, 16, 17, 18, 20, 21, 19] (bsr := [bKW G hKW qKW vKW, bLg G (qKW 0) qLg vLg, bLg G (qKW 1) qLg2 vLg2, bLg G (qKW 2) qLg3 vLg3, bLg G (qKW 3) qLg4 vLg4, bWv G (qKW 5) qWv vWv, bPr G (qKW 6) qPr vPr, bRf G (qKW 7) qRf vRf, bTx G (qKW 8) qTx vTx, bLn G (qKW 9) qLn vLn, bHo G (qKW 4) qHs vHs, bRo G qHs vHs 0, bRo G qHs vHs 1, bRo G qHs vHs 2, bRo G qHs vHs 3, bRo G qHs vHs 4, bRo G qHs vHs 5, bRo G qHs vHs 6, bRo G qHs vHs 7, bLa G aLa v_286, bDa G aDa vDa]) rfl rfl (q0 := 0) rfl rfl dL_law_1495 ?_
      rintro _ _ ⟨r_290, rfl, rfl, hw⟩
      refine gw_sel [0, 1, 2, 3, 4, 5, 6, 7, 8, 9, 10, 11, 12, 13, 14, 15, 16, 17, 18, 21, 19, 20] (bs' := [bKW G hKW qKW vKW, bLg G (qKW 0) qLg vLg, bLg G (qKW 1) qLg2 vLg2, bLg G (qKW 2) qLg3 vLg3, bLg G (qKW 3) qLg4 vLg4, bWv G (qKW 5) qWv vWv, bPr G (qKW 6) qPr vPr, bRf G (qKW 7) qRf vRf, bTx G (qKW 8) qTx vTx, bLn G (qKW 9) qLn vLn, bHo G (qKW 4) qHs vHs, bRo G qHs vHs 0, bRo G qHs vHs 1, bRo G qHs vHs 2, bRo G qHs vHs 3, bRo G qHs vHs 4, bRo G qHs vHs 5, bRo G qHs vHs 6, bRo G qHs vHs 7, bMd G hMd qMd v_289, bLa G aLa v_286, bDa G aDa vDa]) rfl rfl ?_
      change GW C (k0 + 1) (n0 + 6) _ 1498 _ [.int r_290]
      refine gw_iload F dL_law_1498 1 rfl ?_
      refine gw_icmp_eq (tgt := 1505) F dL_law_1500 (by decide) (fun c_291 => ?_) (fun c_291 => ?_)
      · have hw := hw.1 c_291
        refine gw_iload F dL_law_1505 1 rfl ?_
        refine gw_if_ne (tgt := 1522) F dL_law_1507 (by decide) (fun c_292 => ?_) (fun c_292 => ?_)
        · have hw := hw.1 c_292
          refine gw_lv [2, 3, 4, 5, 6, 7] rfl ?_
          exact lb_L_law_1522 hl0 hk F E hK28 hw
        · have hw := hw.2 c_292
          refine gw_aload_n F dL_law_1510 5 rfl ?_
          refine gw_iconst (v := (0 : Int32)) F dL_law_1511 ic_iconst_0 ?_
          refine gw_lald F 133 rfl (by unfold vp_in; decide) dL_law_1512 ?_
          refine gw_iload F dL_law_1513 0 rfl ?_
          refine gw_i2l F dL_law_1515 ?_
          refine gw_lcmp F dL_law_1516 ?_
          refine gw_if_eq (tgt := 1522) F dL_law_1517 (by decide) (fun c_293 => ?_) (fun c_293 => ?_)
          · have hw := hw.1 c_293
            refine gw_lv [2, 3, 4, 5, 6, 7] rfl ?_
            exact lb_L_law_1522 hl0 hk F E hK28 hw
          · have hw := hw.2 c_293
            refine gw_iconst (v := (0 : Int32)) F dL_law_1520 ic_iconst_0 ?_
            exact gw_lret F E hw (by omega) (by omega) dL_law_1521
      · have hw := hw.2 c_291
        refine gw_iconst (v := (0 : Int32)) F dL_law_1503 ic_iconst_0 ?_
        exact gw_lret F E hw (by omega) (by omega) dL_law_1504
    · have hw := hw.2.2.2.2.2.2.2.2.2.2.2.2.2.2.2.2.2.2.2.2.2.2.2.2.2.1 c_3
      refine gw_tin (j := 24) (off := 1481) (tgt := 1525) F dL_law_44 c_3 (by decide) (by decide) rfl (by decide) ?_
      refine gw_aload_n F dL_law_1525 1 rfl ?_
      refine gw_aload_n F dL_law_1526 0 rfl ?_
      refine gw_iload F dL_law_1527 5 rfl ?_
      refine gw_iconst (v := (1 : Int32)) F dL_law_1529 ic_iconst_1 ?_
      refine gw_iadd F dL_law_1530 ?_
      obtain ⟨h_294, hw⟩ := hw
      refine gw_sld F E h_294 dL_law_1531 ?_
      refine gw_i2c F dL_law_1532 ?_
      refine gw_aload_n F dL_law_1533 3 rfl ?_
      refine gw_callSX F (ct_L_append hl0 hw) 3 la_206 rfl rfl rfl hd_L_append ⟨(Nat.le_of_ble_eq_true rfl), (Nat.le_of_ble_eq_true rfl)⟩ rfl rfl (Nat.le_of_ble_eq_true rfl) ⟨by show _ ≤ 603072; omega, by show _ ≤ 7207018; omega⟩ [19, 21, 0, 1, 2, 3, 4, 5, 6, 7, 8, 9, 10, 11, 12, 13, 14, 15, 16, 17, 18, 20] (bsr := [bMd G hMd qMd vMd, bDa G aDa vDa]) rfl rfl dL_law_1534 ?_
      rintro _ _ ⟨r_295, v_296, v_297, rfl, rfl, hw⟩
      refine gw_sel [2, 3, 4, 5, 6, 7, 8, 9, 10, 11, 12, 13, 14, 15, 16, 17, 18, 19, 20, 0, 21, 1] (bs' := [bKW G hKW qKW vKW, bLg G (qKW 0) qLg vLg, bLg G (qKW 1) qLg2 vLg2, bLg G (qKW 2) qLg3 vLg3, bLg G (qKW 3) qLg4 vLg4, bWv G (qKW 5) qWv vWv, bPr G (qKW 6) qPr vPr, bRf G (qKW 7) qRf vRf, bTx G (qKW 8) qTx v_296, bLn G (qKW 9) qLn vLn, bHo G (qKW 4) qHs vHs, bRo G qHs vHs 0, bRo G qHs vHs 1, bRo G qHs vHs 2, bRo G qHs vHs 3, bRo G qHs vHs 4, bRo G qHs vHs 5, bRo G qHs vHs 6, bRo G qHs vHs 7, bMd G hMd qMd vMd, bLa G aLa v_297, bDa G aDa vDa]) rfl rfl ?_
      change GW C (k0 + 1) (n0 + 6) _ 1537 _ [.int r_295]
      refine gw_istore (lv' := [(6, .int r_295), (0, .ref bS), (1, .ref hKW), (2, .ref hMd), (3, .ref aLa), (4, .ref aDa), (5, .int x5)]) F dL_law_1537 (by decide) rfl ?_
      refine gw_aload_n F dL_law_1539 3 rfl ?_
      refine gw_aload_n F dL_law_1540 1 rfl ?_
      refine gw_iload F dL_law_1541 6 rfl ?_
      refine gw_iconst (v := (1 : Int32)) F dL_law_1543 ic_iconst_1 ?_
      refine gw_iadd F dL_law_1544 ?_
      obtain ⟨h_298, hw⟩ := hw
      refine gw_sld F E h_298 dL_law_1545 ?_
      refine gw_i2c F dL_law_1546 ?_
      refine gw_callV F (ct_X8_append hw) 1 la_209 rfl rfl rfl hd_X8_append ⟨(Nat.le_of_ble_eq_true rfl), (Nat.le_of_ble_eq_true rfl)⟩ rfl rfl (Nat.le_of_ble_eq_true rfl) ⟨by show _ ≤ 603072; omega, by show _ ≤ 7207018; omega⟩ [0, 1, 2, 3, 4, 5, 6, 7, 8, 9, 10, 11, 12, 13, 14, 15, 16, 17, 18, 20, 21, 19] (bsr := [bKW G hKW qKW vKW, bLg G (qKW 0) qLg vLg, bLg G (qKW 1) qLg2 vLg2, bLg G (qKW 2) qLg3 vLg3, bLg G (qKW 3) qLg4 vLg4, bWv G (qKW 5) qWv vWv, bPr G (qKW 6) qPr vPr, bRf G (qKW 7) qRf vRf, bTx G (qKW 8) qTx v_296, bLn G (qKW 9) qLn vLn, bHo G (qKW 4) qHs vHs, bRo G qHs vHs 0, bRo G qHs vHs 1, bRo G qHs vHs 2, bRo G qHs vHs 3, bRo G qHs vHs 4, bRo G qHs vHs 5, bRo G qHs vHs 6, bRo G qHs vHs 7, bLa G aLa v_297, bDa G aDa vDa]) rfl rfl (q0 := 0) rfl rfl dL_law_1547 ?_
      rintro _ _ ⟨r_299, v_300, rfl, rfl, hw⟩
      refine gw_sel [0, 1, 2, 3, 4, 5, 6, 7, 8, 9, 10, 11, 12, 13, 14, 15, 16, 17, 18, 21, 19, 20] (bs' := [bKW G hKW qKW vKW, bLg G (qKW 0) qLg vLg, bLg G (qKW 1) qLg2 vLg2, bLg G (qKW 2) qLg3 vLg3, bLg G (qKW 3) qLg4 vLg4, bWv G (qKW 5) qWv vWv, bPr G (qKW 6) qPr vPr, bRf G (qKW 7) qRf vRf, bTx G (qKW 8) qTx v_296, bLn G (qKW 9) qLn vLn, bHo G (qKW 4) qHs vHs, bRo G qHs vHs 0, bRo G qHs vHs 1, bRo G qHs vHs 2, bRo G qHs vHs 3, bRo G qHs vHs 4, bRo G qHs vHs 5, bRo G qHs vHs 6, bRo G qHs vHs 7, bMd G hMd qMd v_300, bLa G aLa v_297, bDa G aDa vDa]) rfl rfl ?_
      change GW C (k0 + 1) (n0 + 6) _ 1550 _ [.int r_299]
      refine gw_istore (lv' := [(7, .int r_299), (6, .int r_295), (0, .ref bS), (1, .ref hKW), (2, .ref hMd), (3, .ref aLa), (4, .ref aDa), (5, .int x5)]) F dL_law_1550 (by decide) rfl ?_
      refine gw_aload_n F dL_law_1552 4 rfl ?_
      refine gw_callV F (ct_X8_thrown hw) 0 la_125 rfl rfl rfl hd_X8_thrown ⟨(Nat.le_of_ble_eq_true rfl), (Nat.le_of_ble_eq_true rfl)⟩ rfl rfl (Nat.le_of_ble_eq_true rfl) ⟨by show _ ≤ 603072; omega, by show _ ≤ 7207018; omega⟩ [0, 1, 2, 3, 4, 5, 6, 7, 8, 9, 10, 11, 12, 13, 14, 15, 16, 17, 18, 20, 21, 19] (bsr := [bKW G hKW qKW vKW, bLg G (qKW 0) qLg vLg, bLg G (qKW 1) qLg2 vLg2, bLg G (qKW 2) qLg3 vLg3, bLg G (qKW 3) qLg4 vLg4, bWv G (qKW 5) qWv vWv, bPr G (qKW 6) qPr vPr, bRf G (qKW 7) qRf vRf, bTx G (qKW 8) qTx v_296, bLn G (qKW 9) qLn vLn, bHo G (qKW 4) qHs vHs, bRo G qHs vHs 0, bRo G qHs vHs 1, bRo G qHs vHs 2, bRo G qHs vHs 3, bRo G qHs vHs 4, bRo G qHs vHs 5, bRo G qHs vHs 6, bRo G qHs vHs 7, bLa G aLa v_297, bDa G aDa vDa]) rfl rfl (q0 := 0) rfl rfl dL_law_1553 ?_
      rintro _ _ ⟨r_301, rfl, rfl, hw⟩
      refine gw_sel [0, 1, 2, 3, 4, 5, 6, 7, 8, 9, 10, 11, 12, 13, 14, 15, 16, 17, 18, 21, 19, 20] (bs' := [bKW G hKW qKW vKW, bLg G (qKW 0) qLg vLg, bLg G (qKW 1) qLg2 vLg2, bLg G (qKW 2) qLg3 vLg3, bLg G (qKW 3) qLg4 vLg4, bWv G (qKW 5) qWv vWv, bPr G (qKW 6) qPr vPr, bRf G (qKW 7) qRf vRf, bTx G (qKW 8) qTx v_296, bLn G (qKW 9) qLn vLn, bHo G (qKW 4) qHs vHs, bRo G qHs vHs 0, bRo G qHs vHs 1, bRo G qHs vHs 2, bRo G qHs vHs 3, bRo G qHs vHs 4, bRo G qHs vHs 5, bRo G qHs vHs 6, bRo G qHs vHs 7, bMd G hMd qMd v_300, bLa G aLa v_297, bDa G aDa vDa]) rfl rfl ?_
      change GW C (k0 + 1) (n0 + 6) _ 1556 _ [.int r_301]
      refine gw_iload F dL_law_1556 1 rfl ?_
      refine gw_icmp_eq (tgt := 1563) F dL_law_1558 (by decide) (fun c_302 => ?_) (fun c_302 => ?_)
      · have hw := hw.1 c_302
        refine gw_iload F dL_law_1563 1 rfl ?_
        refine gw_if_ne (tgt := 1580) F dL_law_1565 (by decide) (fun c_303 => ?_) (fun c_303 => ?_)
        · have hw := hw.1 c_303
          refine gw_lv [2, 3, 4, 5, 6, 7] rfl ?_
          exact lb_L_law_1580 hl0 hk F E hK28 hw
        · have hw := hw.2 c_303
          refine gw_aload_n F dL_law_1568 5 rfl ?_
          refine gw_iconst (v := (0 : Int32)) F dL_law_1569 ic_iconst_0 ?_
          refine gw_lald F 133 rfl (by unfold vp_in; decide) dL_law_1570 ?_
          refine gw_iload F dL_law_1571 0 rfl ?_
          refine gw_i2l F dL_law_1573 ?_
          refine gw_lcmp F dL_law_1574 ?_
          refine gw_if_eq (tgt := 1580) F dL_law_1575 (by decide) (fun c_304 => ?_) (fun c_304 => ?_)
          · have hw := hw.1 c_304
            refine gw_lv [2, 3, 4, 5, 6, 7] rfl ?_
            exact lb_L_law_1580 hl0 hk F E hK28 hw
          · have hw := hw.2 c_304
            refine gw_iconst (v := (0 : Int32)) F dL_law_1578 ic_iconst_0 ?_
            exact gw_lret F E hw (by omega) (by omega) dL_law_1579
      · have hw := hw.2 c_302
        refine gw_iconst (v := (0 : Int32)) F dL_law_1561 ic_iconst_0 ?_
        exact gw_lret F E hw (by omega) (by omega) dL_law_1562
    · have hw := hw.2.2.2.2.2.2.2.2.2.2.2.2.2.2.2.2.2.2.2.2.2.2.2.2.2.2.1 c_3
      refine gw_tin (j := 25) (off := 1539) (tgt := 1583) F dL_law_44 c_3 (by decide) (by decide) rfl (by decide) ?_
      refine gw_aload_n F dL_law_1583 1 rfl ?_
      refine gw_aload_n F dL_law_1584 3 rfl ?_
      refine gw_callSX F (ct_L_commands hl0 hw) 2 la_210 rfl rfl rfl hd_L_commands ⟨(Nat.le_of_ble_eq_true rfl), (Nat.le_of_ble_eq_true rfl)⟩ rfl rfl (Nat.le_of_ble_eq_true rfl) ⟨by show _ ≤ 603072; omega, by show _ ≤ 7207018; omega⟩ [19, 21, 0, 1, 2, 3, 4, 5, 6, 7, 8, 9, 10, 11, 12, 13, 14, 15, 16, 17, 18, 20] (bsr := [bMd G hMd qMd vMd, bDa G aDa vDa]) rfl rfl dL_law_1585 ?_
      rintro _ _ ⟨r_305, v_306, v_307, v_308, v_309, v_310, v_311, v_312, v_313, rfl, rfl, hw⟩
      refine gw_sel [2, 3, 4, 5, 6, 7, 8, 9, 10, 11, 12, 13, 14, 15, 16, 17, 18, 19, 20, 0, 21, 1] (bs' := [bKW G hKW qKW v_306, bLg G (qKW 0) qLg v_307, bLg G (qKW 1) qLg2 v_308, bLg G (qKW 2) qLg3 vLg3, bLg G (qKW 3) qLg4 vLg4, bWv G (qKW 5) qWv v_309, bPr G (qKW 6) qPr vPr, bRf G (qKW 7) qRf v_310, bTx G (qKW 8) qTx v_311, bLn G (qKW 9) qLn vLn, bHo G (qKW 4) qHs v_312, bRo G qHs v_312 0, bRo G qHs v_312 1, bRo G qHs v_312 2, bRo G qHs v_312 3, bRo G qHs v_312 4, bRo G qHs v_312 5, bRo G qHs v_312 6, bRo G qHs v_312 7, bMd G hMd qMd vMd, bLa G aLa v_313, bDa G aDa vDa]) rfl rfl ?_
      change GW C (k0 + 1) (n0 + 6) _ 1588 _ [.int r_305]
      refine gw_istore (lv' := [(6, .int r_305), (0, .ref bS), (1, .ref hKW), (2, .ref hMd), (3, .ref aLa), (4, .ref aDa), (5, .int x5)]) F dL_law_1588 (by decide) rfl ?_
      refine gw_aload_n F dL_law_1590 3 rfl ?_
      refine gw_callV F (ct_X8_commands hw) 0 la_212 rfl rfl rfl hd_X8_commands ⟨(Nat.le_of_ble_eq_true rfl), (Nat.le_of_ble_eq_true rfl)⟩ rfl rfl (Nat.le_of_ble_eq_true rfl) ⟨by show _ ≤ 603072; omega, by show _ ≤ 7207018; omega⟩ [0, 1, 2, 3, 4, 5, 6, 7, 8, 9, 10, 11, 12, 13, 14, 15, 16, 17, 18, 20, 21, 19] (bsr := [bKW G hKW qKW v_306, bLg G (qKW 0) qLg v_307, bLg G (qKW 1) qLg2 v_308, bLg G (qKW 2) qLg3 vLg3, bLg G (qKW 3) qLg4 vLg4, bWv G (qKW 5) qWv v_309, bPr G (qKW 6) qPr vPr, bRf G (qKW 7) qRf v_310, bTx G (qKW 8) qTx v_311, bLn G (qKW 9) qLn vLn, bHo G (qKW 4) qHs v_312, bRo G qHs v_312 0, bRo G qHs v_312 1, bRo G qHs v_312 2, bRo G qHs v_312 3, bRo G qHs v_312 4, bRo G qHs v_312 5, bRo G qHs v_312 6, bRo G qHs v_312 7, bLa G aLa v_313, bDa G aDa vDa]) rfl rfl (q0 := 0) rfl rfl dL_law_1591 ?_
      rintro _ _ ⟨r_314, v_315, rfl, rfl, hw⟩
      refine gw_sel [0, 1, 2, 3, 4, 5, 6, 7, 8, 9, 10, 11, 12, 13, 14, 15, 16, 17, 18, 21, 19, 20] (bs' := [bKW G hKW qKW v_306, bLg G (qKW 0) qLg v_307, bLg G (qKW 1) qLg2 v_308, bLg G (qKW 2) qLg3 vLg3, bLg G (qKW 3) qLg4 vLg4, bWv G (qKW 5) qWv v_309, bPr G (qKW 6) qPr vPr, bRf G (qKW 7) qRf v_310, bTx G (qKW 8) qTx v_311, bLn G (qKW 9) qLn vLn, bHo G (qKW 4) qHs v_312, bRo G qHs v_312 0, bRo G qHs v_312 1, bRo G qHs v_312 2, bRo G qHs v_312 3, bRo G qHs v_312 4, bRo G qHs v_312 5, bRo G qHs v_312 6, bRo G qHs v_312 7, bMd G hMd qMd v_315, bLa G aLa v_313, bDa G aDa vDa]) rfl rfl ?_
      change GW C (k0 + 1) (n0 + 6) _ 1594 _ [.int r_314]
      refine gw_istore (lv' := [(7, .int r_314), (6, .int r_305), (0, .ref bS), (1, .ref hKW), (2, .ref hMd), (3, .ref aLa), (4, .ref aDa), (5, .int x5)]) F dL_law_1594 (by decide) rfl ?_
      refine gw_aload_n F dL_law_1596 4 rfl ?_
      refine gw_callV F (ct_X8_thrown hw) 0 la_125 rfl rfl rfl hd_X8_thrown ⟨(Nat.le_of_ble_eq_true rfl), (Nat.le_of_ble_eq_true rfl)⟩ rfl rfl (Nat.le_of_ble_eq_true rfl) ⟨by show _ ≤ 603072; omega, by show _ ≤ 7207018; omega⟩ [0, 1, 2, 3, 4, 5, 6, 7, 8, 9, 10, 11, 12, 13, 14, 15, 16, 17, 18, 20, 21, 19] (bsr := [bKW G hKW qKW v_306, bLg G (qKW 0) qLg v_307, bLg G (qKW 1) qLg2 v_308, bLg G (qKW 2) qLg3 vLg3, bLg G (qKW 3) qLg4 vLg4, bWv G (qKW 5) qWv v_309, bPr G (qKW 6) qPr vPr, bRf G (qKW 7) qRf v_310, bTx G (qKW 8) qTx v_311, bLn G (qKW 9) qLn vLn, bHo G (qKW 4) qHs v_312, bRo G qHs v_312 0, bRo G qHs v_312 1, bRo G qHs v_312 2, bRo G qHs v_312 3, bRo G qHs v_312 4, bRo G qHs v_312 5, bRo G qHs v_312 6, bRo G qHs v_312 7, bLa G aLa v_313, bDa G aDa vDa]) rfl rfl (q0 := 0) rfl rfl dL_law_1597 ?_
      rintro _ _ ⟨r_316, rfl, rfl, hw⟩
      refine gw_sel [0, 1, 2, 3, 4, 5, 6, 7, 8, 9, 10, 11, 12, 13, 14, 15, 16, 17, 18, 21, 19, 20] (bs' := [bKW G hKW qKW v_306, bLg G (qKW 0) qLg v_307, bLg G (qKW 1) qLg2 v_308, bLg G (qKW 2) qLg3 vLg3, bLg G (qKW 3) qLg4 vLg4, bWv G (qKW 5) qWv v_309, bPr G (qKW 6) qPr vPr, bRf G (qKW 7) qRf v_310, bTx G (qKW 8) qTx v_311, bLn G (qKW 9) qLn vLn, bHo G (qKW 4) qHs v_312, bRo G qHs v_312 0, bRo G qHs v_312 1, bRo G qHs v_312 2, bRo G qHs v_312 3, bRo G qHs v_312 4, bRo G qHs v_312 5, bRo G qHs v_312 6, bRo G qHs v_312 7, bMd G hMd qMd v_315, bLa G aLa v_313, bDa G aDa vDa]) rfl rfl ?_
      change GW C (k0 + 1) (n0 + 6) _ 1600 _ [.int r_316]
      refine gw_iload F dL_law_1600 1 rfl ?_
      refine gw_icmp_eq (tgt := 1607) F dL_law_1602 (by decide) (fun c_317 => ?_) (fun c_317 => ?_)
      · have hw := hw.1 c_317
        refine gw_iload F dL_law_1607 1 rfl ?_
        refine gw_if_ne (tgt := 1624) F dL_law_1609 (by decide) (fun c_318 => ?_) (fun c_318 => ?_)
        · have hw := hw.1 c_318
          refine gw_lv [2, 3, 4, 5, 6, 7] rfl ?_
          exact lb_L_law_1624 hl0 hk F E hK28 hw
        · have hw := hw.2 c_318
          refine gw_aload_n F dL_law_1612 5 rfl ?_
          refine gw_iconst (v := (0 : Int32)) F dL_law_1613 ic_iconst_0 ?_
          refine gw_lald F 133 rfl (by unfold vp_in; decide) dL_law_1614 ?_
          refine gw_iload F dL_law_1615 0 rfl ?_
          refine gw_i2l F dL_law_1617 ?_
          refine gw_lcmp F dL_law_1618 ?_
          refine gw_if_eq (tgt := 1624) F dL_law_1619 (by decide) (fun c_319 => ?_) (fun c_319 => ?_)
          · have hw := hw.1 c_319
            refine gw_lv [2, 3, 4, 5, 6, 7] rfl ?_
            exact lb_L_law_1624 hl0 hk F E hK28 hw
          · have hw := hw.2 c_319
            refine gw_iconst (v := (0 : Int32)) F dL_law_1622 ic_iconst_0 ?_
            exact gw_lret F E hw (by omega) (by omega) dL_law_1623
      · have hw := hw.2 c_317
        refine gw_iconst (v := (0 : Int32)) F dL_law_1605 ic_iconst_0 ?_
        exact gw_lret F E hw (by omega) (by omega) dL_law_1606
    · have hw := hw.2.2.2.2.2.2.2.2.2.2.2.2.2.2.2.2.2.2.2.2.2.2.2.2.2.2.2.1 c_3
      refine gw_tin (j := 26) (off := 1583) (tgt := 1627) F dL_law_44 c_3 (by decide) (by decide) rfl (by decide) ?_
      refine gw_aload_n F dL_law_1627 1 rfl ?_
      refine gw_callV (F.mono XL_sub) (ct_X7_faultPosition hl0 hw) 0 la_213 rfl rfl rfl hd_X7_faultPosition ⟨(Nat.le_of_ble_eq_true rfl), (Nat.le_of_ble_eq_true rfl)⟩ rfl rfl (Nat.le_of_ble_eq_true rfl) ⟨by show _ ≤ 603072; omega, by show _ ≤ 7207018; omega⟩ [19, 20, 21, 0, 1, 2, 3, 4, 5, 6, 7, 8, 9, 10, 11, 12, 13, 14, 15, 16, 17, 18] (bsr := [bMd G hMd qMd vMd, bLa G aLa vLa, bDa G aDa vDa]) rfl rfl (q0 := 0) rfl rfl dL_law_1628 ?_
      rintro _ _ ⟨r_320, rfl, rfl, hw⟩
      refine gw_sel [3, 4, 5, 6, 7, 8, 9, 10, 11, 12, 13, 14, 15, 16, 17, 18, 19, 20, 21, 0, 1, 2] (bs' := [bKW G hKW qKW vKW, bLg G (qKW 0) qLg vLg, bLg G (qKW 1) qLg2 vLg2, bLg G (qKW 2) qLg3 vLg3, bLg G (qKW 3) qLg4 vLg4, bWv G (qKW 5) qWv vWv, bPr G (qKW 6) qPr vPr, bRf G (qKW 7) qRf vRf, bTx G (qKW 8) qTx vTx, bLn G (qKW 9) qLn vLn, bHo G (qKW 4) qHs vHs, bRo G qHs vHs 0, bRo G qHs vHs 1, bRo G qHs vHs 2, bRo G qHs vHs 3, bRo G qHs vHs 4, bRo G qHs vHs 5, bRo G qHs vHs 6, bRo G qHs vHs 7, bMd G hMd qMd vMd, bLa G aLa vLa, bDa G aDa vDa]) rfl rfl ?_
      change GW C k0 n0 _ 1631 _ [.int r_320]
      refine gw_aload_n F dL_law_1631 2 rfl ?_
      refine gw_callV F (ct_X8_faultPosition hw) 0 la_216 rfl rfl rfl hd_X8_faultPosition ⟨(Nat.le_of_ble_eq_true rfl), (Nat.le_of_ble_eq_true rfl)⟩ rfl rfl (Nat.le_of_ble_eq_true rfl) ⟨by show _ ≤ 603072; omega, by show _ ≤ 7207018; omega⟩ [0, 1, 2, 3, 4, 5, 6, 7, 8, 9, 10, 11, 12, 13, 14, 15, 16, 17, 18, 20, 21, 19] (bsr := [bKW G hKW qKW vKW, bLg G (qKW 0) qLg vLg, bLg G (qKW 1) qLg2 vLg2, bLg G (qKW 2) qLg3 vLg3, bLg G (qKW 3) qLg4 vLg4, bWv G (qKW 5) qWv vWv, bPr G (qKW 6) qPr vPr, bRf G (qKW 7) qRf vRf, bTx G (qKW 8) qTx vTx, bLn G (qKW 9) qLn vLn, bHo G (qKW 4) qHs vHs, bRo G qHs vHs 0, bRo G qHs vHs 1, bRo G qHs vHs 2, bRo G qHs vHs 3, bRo G qHs vHs 4, bRo G qHs vHs 5, bRo G qHs vHs 6, bRo G qHs vHs 7, bLa G aLa vLa, bDa G aDa vDa]) rfl rfl (q0 := 0) rfl rfl dL_law_1632 ?_
      rintro _ _ ⟨r_321, v_322, rfl, rfl, hw⟩
      refine gw_sel [0, 1, 2, 3, 4, 5, 6, 7, 8, 9, 10, 11, 12, 13, 14, 15, 16, 17, 18, 21, 19, 20] (bs' := [bKW G hKW qKW vKW, bLg G (qKW 0) qLg vLg, bLg G (qKW 1) qLg2 vLg2, bLg G (qKW 2) qLg3 vLg3, bLg G (qKW 3) qLg4 vLg4, bWv G (qKW 5) qWv vWv, bPr G (qKW 6) qPr vPr, bRf G (qKW 7) qRf vRf, bTx G (qKW 8) qTx vTx, bLn G (qKW 9) qLn vLn, bHo G (qKW 4) qHs vHs, bRo G qHs vHs 0, bRo G qHs vHs 1, bRo G qHs vHs 2, bRo G qHs vHs 3, bRo G qHs vHs 4, bRo G qHs vHs 5, bRo G qHs vHs 6, bRo G qHs vHs 7, bMd G hMd qMd v_322, bLa G aLa vLa, bDa G aDa vDa]) rfl rfl ?_
      change GW C k0 n0 _ 1635 _ [.int r_321, .int r_320]
      refine gw_icmp_eq (tgt := 2081) F dL_law_1635 (by decide) (fun c_323 => ?_) (fun c_323 => ?_)
      · have hw := hw.1 c_323
        refine gw_widen (k' := k0 + 2) (n' := n0 + 12) (by omega) (by omega) ?_
        exact lb_L_law_2081 hl0 hk F E hK28 hw
      · have hw := hw.2 c_323
        refine gw_iconst (v := (0 : Int32)) F dL_law_1638 ic_iconst_0 ?_
        exact gw_lret F E hw (by omega) (by omega) dL_law_1639
    · have hw := hw.2.2.2.2.2.2.2.2.2.2.2.2.2.2.2.2.2.2.2.2.2.2.2.2.2.2.2.2.1 c_3
      refine gw_tin (j := 27) (off := 1596) (tgt := 1640) F dL_law_44 c_3 (by decide) (by decide) rfl (by decide) ?_
      refine gw_aload_n F dL_law_1640 1 rfl ?_
      refine gw_aload_n F dL_law_1641 0 rfl ?_
      refine gw_iload F dL_law_1642 5 rfl ?_
      refine gw_iconst (v := (1 : Int32)) F dL_law_1644 ic_iconst_1 ?_
      refine gw_iadd F dL_law_1645 ?_
      obtain ⟨h_324, hw⟩ := hw
      refine gw_sld F E h_324 dL_law_1646 ?_
      refine gw_aload_n F dL_law_1647 3 rfl ?_
      refine gw_callSX F (ct_L_reason hl0 hw) 3 la_217 rfl rfl rfl hd_L_reason ⟨(Nat.le_of_ble_eq_true rfl), (Nat.le_of_ble_eq_true rfl)⟩ rfl rfl (Nat.le_of_ble_eq_true rfl) ⟨by show _ ≤ 603072; omega, by show _ ≤ 7207018; omega⟩ [19, 21, 0, 1, 2, 3, 4, 5, 6, 7, 8, 9, 10, 11, 12, 13, 14, 15, 16, 17, 18, 20] (bsr := [bMd G hMd qMd vMd, bDa G aDa vDa]) rfl rfl dL_law_1648 ?_
      rintro _ _ ⟨r_325, v_326, rfl, rfl, hw⟩
      refine gw_sel [2, 3, 4, 5, 6, 7, 8, 9, 10, 11, 12, 13, 14, 15, 16, 17, 18, 19, 20, 0, 21, 1] (bs' := [bKW G hKW qKW vKW, bLg G (qKW 0) qLg vLg, bLg G (qKW 1) qLg2 vLg2, bLg G (qKW 2) qLg3 vLg3, bLg G (qKW 3) qLg4 vLg4, bWv G (qKW 5) qWv vWv, bPr G (qKW 6) qPr vPr, bRf G (qKW 7) qRf vRf, bTx G (qKW 8) qTx vTx, bLn G (qKW 9) qLn vLn, bHo G (qKW 4) qHs vHs, bRo G qHs vHs 0, bRo G qHs vHs 1, bRo G qHs vHs 2, bRo G qHs vHs 3, bRo G qHs vHs 4, bRo G qHs vHs 5, bRo G qHs vHs 6, bRo G qHs vHs 7, bMd G hMd qMd vMd, bLa G aLa v_326, bDa G aDa vDa]) rfl rfl ?_
      change GW C (k0 + 1) (n0 + 6) _ 1651 _ [.int r_325]
      refine gw_istore (lv' := [(6, .int r_325), (0, .ref bS), (1, .ref hKW), (2, .ref hMd), (3, .ref aLa), (4, .ref aDa), (5, .int x5)]) F dL_law_1651 (by decide) rfl ?_
      refine gw_aload_n F dL_law_1653 3 rfl ?_
      refine gw_aload_n F dL_law_1654 1 rfl ?_
      refine gw_iload F dL_law_1655 6 rfl ?_
      refine gw_iconst (v := (1 : Int32)) F dL_law_1657 ic_iconst_1 ?_
      refine gw_iadd F dL_law_1658 ?_
      obtain ⟨h_327, hw⟩ := hw
      refine gw_sld F E h_327 dL_law_1659 ?_
      refine gw_callV F (ct_X8_reason hw) 1 la_219 rfl rfl rfl hd_X8_reason ⟨(Nat.le_of_ble_eq_true rfl), (Nat.le_of_ble_eq_true rfl)⟩ rfl rfl (Nat.le_of_ble_eq_true rfl) ⟨by show _ ≤ 603072; omega, by show _ ≤ 7207018; omega⟩ [0, 1, 2, 3, 4, 5, 6, 7, 8, 9, 10, 11, 12, 13, 14, 15, 16, 17, 18, 20, 21, 19] (bsr := [bKW G hKW qKW vKW, bLg G (qKW 0) qLg vLg, bLg G (qKW 1) qLg2 vLg2, bLg G (qKW 2) qLg3 vLg3, bLg G (qKW 3) qLg4 vLg4, bWv G (qKW 5) qWv vWv, bPr G (qKW 6) qPr vPr, bRf G (qKW 7) qRf vRf, bTx G (qKW 8) qTx vTx, bLn G (qKW 9) qLn vLn, bHo G (qKW 4) qHs vHs, bRo G qHs vHs 0, bRo G qHs vHs 1, bRo G qHs vHs 2, bRo G qHs vHs 3, bRo G qHs vHs 4, bRo G qHs vHs 5, bRo G qHs vHs 6, bRo G qHs vHs 7, bLa G aLa v_326, bDa G aDa vDa]) rfl rfl (q0 := 0) rfl rfl dL_law_1660 ?_
      rintro _ _ ⟨r_328, v_329, rfl, rfl, hw⟩
      refine gw_sel [0, 1, 2, 3, 4, 5, 6, 7, 8, 9, 10, 11, 12, 13, 14, 15, 16, 17, 18, 21, 19, 20] (bs' := [bKW G hKW qKW vKW, bLg G (qKW 0) qLg vLg, bLg G (qKW 1) qLg2 vLg2, bLg G (qKW 2) qLg3 vLg3, bLg G (qKW 3) qLg4 vLg4, bWv G (qKW 5) qWv vWv, bPr G (qKW 6) qPr vPr, bRf G (qKW 7) qRf vRf, bTx G (qKW 8) qTx vTx, bLn G (qKW 9) qLn vLn, bHo G (qKW 4) qHs vHs, bRo G qHs vHs 0, bRo G qHs vHs 1, bRo G qHs vHs 2, bRo G qHs vHs 3, bRo G qHs vHs 4, bRo G qHs vHs 5, bRo G qHs vHs 6, bRo G qHs vHs 7, bMd G hMd qMd v_329, bLa G aLa v_326, bDa G aDa vDa]) rfl rfl ?_
      change GW C (k0 + 1) (n0 + 6) _ 1663 _ [.int r_328]
      refine gw_istore (lv' := [(7, .int r_328), (6, .int r_325), (0, .ref bS), (1, .ref hKW), (2, .ref hMd), (3, .ref aLa), (4, .ref aDa), (5, .int x5)]) F dL_law_1663 (by decide) rfl ?_
      refine gw_aload_n F dL_law_1665 4 rfl ?_
      refine gw_callV F (ct_X8_thrown hw) 0 la_125 rfl rfl rfl hd_X8_thrown ⟨(Nat.le_of_ble_eq_true rfl), (Nat.le_of_ble_eq_true rfl)⟩ rfl rfl (Nat.le_of_ble_eq_true rfl) ⟨by show _ ≤ 603072; omega, by show _ ≤ 7207018; omega⟩ [0, 1, 2, 3, 4, 5, 6, 7, 8, 9, 10, 11, 12, 13, 14, 15, 16, 17, 18, 20, 21, 19] (bsr := [bKW G hKW qKW vKW, bLg G (qKW 0) qLg vLg, bLg G (qKW 1) qLg2 vLg2, bLg G (qKW 2) qLg3 vLg3, bLg G (qKW 3) qLg4 vLg4, bWv G (qKW 5) qWv vWv, bPr G (qKW 6) qPr vPr, bRf G (qKW 7) qRf vRf, bTx G (qKW 8) qTx vTx, bLn G (qKW 9) qLn vLn, bHo G (qKW 4) qHs vHs, bRo G qHs vHs 0, bRo G qHs vHs 1, bRo G qHs vHs 2, bRo G qHs vHs 3, bRo G qHs vHs 4, bRo G qHs vHs 5, bRo G qHs vHs 6, bRo G qHs vHs 7, bLa G aLa v_326, bDa G aDa vDa]) rfl rfl (q0 := 0) rfl rfl dL_law_1666 ?_
      rintro _ _ ⟨r_330, rfl, rfl, hw⟩
      refine gw_sel [0, 1, 2, 3, 4, 5, 6, 7, 8, 9, 10, 11, 12, 13, 14, 15, 16, 17, 18, 21, 19, 20] (bs' := [bKW G hKW qKW vKW, bLg G (qKW 0) qLg vLg, bLg G (qKW 1) qLg2 vLg2, bLg G (qKW 2) qLg3 vLg3, bLg G (qKW 3) qLg4 vLg4, bWv G (qKW 5) qWv vWv, bPr G (qKW 6) qPr vPr, bRf G (qKW 7) qRf vRf, bTx G (qKW 8) qTx vTx, bLn G (qKW 9) qLn vLn, bHo G (qKW 4) qHs vHs, bRo G qHs vHs 0, bRo G qHs vHs 1, bRo G qHs vHs 2, bRo G qHs vHs 3, bRo G qHs vHs 4, bRo G qHs vHs 5, bRo G qHs vHs 6, bRo G qHs vHs 7, bMd G hMd qMd v_329, bLa G aLa v_326, bDa G aDa vDa]) rfl rfl ?_
      change GW C (k0 + 1) (n0 + 6) _ 1669 _ [.int r_330]
      refine gw_iload F dL_law_1669 1 rfl ?_
      refine gw_icmp_eq (tgt := 1676) F dL_law_1671 (by decide) (fun c_331 => ?_) (fun c_331 => ?_)
      · have hw := hw.1 c_331
        refine gw_iload F dL_law_1676 1 rfl ?_
        refine gw_if_ne (tgt := 1693) F dL_law_1678 (by decide) (fun c_332 => ?_) (fun c_332 => ?_)
        · have hw := hw.1 c_332
          refine gw_lv [2, 3, 4, 5, 6, 7] rfl ?_
          exact lb_L_law_1693 hl0 hk F E hK28 hw
        · have hw := hw.2 c_332
          refine gw_aload_n F dL_law_1681 5 rfl ?_
          refine gw_iconst (v := (0 : Int32)) F dL_law_1682 ic_iconst_0 ?_
          refine gw_lald F 133 rfl (by unfold vp_in; decide) dL_law_1683 ?_
          refine gw_iload F dL_law_1684 0 rfl ?_
          refine gw_i2l F dL_law_1686 ?_
          refine gw_lcmp F dL_law_1687 ?_
          refine gw_if_eq (tgt := 1693) F dL_law_1688 (by decide) (fun c_333 => ?_) (fun c_333 => ?_)
          · have hw := hw.1 c_333
            refine gw_lv [2, 3, 4, 5, 6, 7] rfl ?_
            exact lb_L_law_1693 hl0 hk F E hK28 hw
          · have hw := hw.2 c_333
            refine gw_iconst (v := (0 : Int32)) F dL_law_1691 ic_iconst_0 ?_
            exact gw_lret F E hw (by omega) (by omega) dL_law_1692
      · have hw := hw.2 c_331
        refine gw_iconst (v := (0 : Int32)) F dL_law_1674 ic_iconst_0 ?_
        exact gw_lret F E hw (by omega) (by omega) dL_law_1675
    · have hw := hw.2.2.2.2.2.2.2.2.2.2.2.2.2.2.2.2.2.2.2.2.2.2.2.2.2.2.2.2.2.1 c_3
      refine gw_tin (j := 28) (off := 1652) (tgt := 1696) F dL_law_44 c_3 (by decide) (by decide) rfl (by decide) ?_
      refine gw_aload_n F dL_law_1696 1 rfl ?_
      refine gw_aload_n F dL_law_1697 0 rfl ?_
      refine gw_iload F dL_law_1698 5 rfl ?_
      refine gw_iconst (v := (1 : Int32)) F dL_law_1700 ic_iconst_1 ?_
      refine gw_iadd F dL_law_1701 ?_
      obtain ⟨h_334, hw⟩ := hw
      refine gw_sld F E h_334 dL_law_1702 ?_
      refine gw_if_eq (tgt := 1710) F dL_law_1703 (by decide) (fun c_335 => ?_) (fun c_335 => ?_)
      · have hw := hw.1 c_335
        refine gw_iconst (v := (0 : Int32)) F dL_law_1710 ic_iconst_0 ?_
        exact lb_L_law_1711 hl0 hk F E hK28 hw
      · have hw := hw.2 c_335
        refine gw_iconst (v := (1 : Int32)) F dL_law_1706 ic_iconst_1 ?_
        refine gw_goto (tgt := 1711) F dL_law_1707 (by decide) ?_
        exact lb_L_law_1711 hl0 hk F E hK28 hw
    · have hw := hw.2.2.2.2.2.2.2.2.2.2.2.2.2.2.2.2.2.2.2.2.2.2.2.2.2.2.2.2.2.2.1 c_3
      refine gw_tin (j := 29) (off := 1693) (tgt := 1737) F dL_law_44 c_3 (by decide) (by decide) rfl (by decide) ?_
      refine gw_aload_n F dL_law_1737 1 rfl ?_
      refine gw_aload_n F dL_law_1738 0 rfl ?_
      refine gw_iload F dL_law_1739 5 rfl ?_
      refine gw_iconst (v := (1 : Int32)) F dL_law_1741 ic_iconst_1 ?_
      refine gw_iadd F dL_law_1742 ?_
      obtain ⟨h_343, hw⟩ := hw
      refine gw_sld F E h_343 dL_law_1743 ?_
      refine gw_aload_n F dL_law_1744 3 rfl ?_
      refine gw_callSX F (ct_L_character hl0 hw) 3 la_224 rfl rfl rfl hd_L_character ⟨(Nat.le_of_ble_eq_true rfl), (Nat.le_of_ble_eq_true rfl)⟩ rfl rfl (Nat.le_of_ble_eq_true rfl) ⟨by show _ ≤ 603072; omega, by show _ ≤ 7207018; omega⟩ [19, 21, 0, 1, 2, 3, 4, 5, 6, 7, 8, 9, 10, 11, 12, 13, 14, 15, 16, 17, 18, 20] (bsr := [bMd G hMd qMd vMd, bDa G aDa vDa]) rfl rfl dL_law_1745 ?_
      rintro _ _ ⟨r_344, v_345, rfl, rfl, hw⟩
      refine gw_sel [2, 3, 4, 5, 6, 7, 8, 9, 10, 11, 12, 13, 14, 15, 16, 17, 18, 19, 20, 0, 21, 1] (bs' := [bKW G hKW qKW vKW, bLg G (qKW 0) qLg vLg, bLg G (qKW 1) qLg2 vLg2, bLg G (qKW 2) qLg3 vLg3, bLg G (qKW 3) qLg4 vLg4, bWv G (qKW 5) qWv vWv, bPr G (qKW 6) qPr vPr, bRf G (qKW 7) qRf vRf, bTx G (qKW 8) qTx vTx, bLn G (qKW 9) qLn vLn, bHo G (qKW 4) qHs vHs, bRo G qHs vHs 0, bRo G qHs vHs 1, bRo G qHs vHs 2, bRo G qHs vHs 3, bRo G qHs vHs 4, bRo G qHs vHs 5, bRo G qHs vHs 6, bRo G qHs vHs 7, bMd G hMd qMd vMd, bLa G aLa v_345, bDa G aDa vDa]) rfl rfl ?_
      change GW C (k0 + 1) (n0 + 6) _ 1748 _ [.int r_344]
      refine gw_istore (lv' := [(6, .int r_344), (0, .ref bS), (1, .ref hKW), (2, .ref hMd), (3, .ref aLa), (4, .ref aDa), (5, .int x5)]) F dL_law_1748 (by decide) rfl ?_
      refine gw_aload_n F dL_law_1750 3 rfl ?_
      refine gw_aload_n F dL_law_1751 1 rfl ?_
      refine gw_iload F dL_law_1752 6 rfl ?_
      refine gw_iconst (v := (1 : Int32)) F dL_law_1754 ic_iconst_1 ?_
      refine gw_iadd F dL_law_1755 ?_
      obtain ⟨h_346, hw⟩ := hw
      refine gw_sld F E h_346 dL_law_1756 ?_
      refine gw_callV F (ct_X8_character hw) 1 la_226 rfl rfl rfl hd_X8_character ⟨(Nat.le_of_ble_eq_true rfl), (Nat.le_of_ble_eq_true rfl)⟩ rfl rfl (Nat.le_of_ble_eq_true rfl) ⟨by show _ ≤ 603072; omega, by show _ ≤ 7207018; omega⟩ [0, 1, 2, 3, 4, 5, 6, 7, 8, 9, 10, 11, 12, 13, 14, 15, 16, 17, 18, 20, 21, 19] (bsr := [bKW G hKW qKW vKW, bLg G (qKW 0) qLg vLg, bLg G (qKW 1) qLg2 vLg2, bLg G (qKW 2) qLg3 vLg3, bLg G (qKW 3) qLg4 vLg4, bWv G (qKW 5) qWv vWv, bPr G (qKW 6) qPr vPr, bRf G (qKW 7) qRf vRf, bTx G (qKW 8) qTx vTx, bLn G (qKW 9) qLn vLn, bHo G (qKW 4) qHs vHs, bRo G qHs vHs 0, bRo G qHs vHs 1, bRo G qHs vHs 2, bRo G qHs vHs 3, bRo G qHs vHs 4, bRo G qHs vHs 5, bRo G qHs vHs 6, bRo G qHs vHs 7, bLa G aLa v_345, bDa G aDa vDa]) rfl rfl (q0 := 0) rfl rfl dL_law_1757 ?_
      rintro _ _ ⟨r_347, v_348, rfl, rfl, hw⟩
      refine gw_sel [0, 1, 2, 3, 4, 5, 6, 7, 8, 9, 10, 11, 12, 13, 14, 15, 16, 17, 18, 21, 19, 20] (bs' := [bKW G hKW qKW vKW, bLg G (qKW 0) qLg vLg, bLg G (qKW 1) qLg2 vLg2, bLg G (qKW 2) qLg3 vLg3, bLg G (qKW 3) qLg4 vLg4, bWv G (qKW 5) qWv vWv, bPr G (qKW 6) qPr vPr, bRf G (qKW 7) qRf vRf, bTx G (qKW 8) qTx vTx, bLn G (qKW 9) qLn vLn, bHo G (qKW 4) qHs vHs, bRo G qHs vHs 0, bRo G qHs vHs 1, bRo G qHs vHs 2, bRo G qHs vHs 3, bRo G qHs vHs 4, bRo G qHs vHs 5, bRo G qHs vHs 6, bRo G qHs vHs 7, bMd G hMd qMd v_348, bLa G aLa v_345, bDa G aDa vDa]) rfl rfl ?_
      change GW C (k0 + 1) (n0 + 6) _ 1760 _ [.int r_347]
      refine gw_istore (lv' := [(7, .int r_347), (6, .int r_344), (0, .ref bS), (1, .ref hKW), (2, .ref hMd), (3, .ref aLa), (4, .ref aDa), (5, .int x5)]) F dL_law_1760 (by decide) rfl ?_
      refine gw_aload_n F dL_law_1762 4 rfl ?_
      refine gw_callV F (ct_X8_thrown hw) 0 la_125 rfl rfl rfl hd_X8_thrown ⟨(Nat.le_of_ble_eq_true rfl), (Nat.le_of_ble_eq_true rfl)⟩ rfl rfl (Nat.le_of_ble_eq_true rfl) ⟨by show _ ≤ 603072; omega, by show _ ≤ 7207018; omega⟩ [0, 1, 2, 3, 4, 5, 6, 7, 8, 9, 10, 11, 12, 13, 14, 15, 16, 17, 18, 20, 21, 19] (bsr := [bKW G hKW qKW vKW, bLg G (qKW 0) qLg vLg, bLg G (qKW 1) qLg2 vLg2, bLg G (qKW 2) qLg3 vLg3, bLg G (qKW 3) qLg4 vLg4, bWv G (qKW 5) qWv vWv, bPr G (qKW 6) qPr vPr, bRf G (qKW 7) qRf vRf, bTx G (qKW 8) qTx vTx, bLn G (qKW 9) qLn vLn, bHo G (qKW 4) qHs vHs, bRo G qHs vHs 0, bRo G qHs vHs 1, bRo G qHs vHs 2, bRo G qHs vHs 3, bRo G qHs vHs 4, bRo G qHs vHs 5, bRo G qHs vHs 6, bRo G qHs vHs 7, bLa G aLa v_345, bDa G aDa vDa]) rfl rfl (q0 := 0) rfl rfl dL_law_1763 ?_
      rintro _ _ ⟨r_349, rfl, rfl, hw⟩
      refine gw_sel [0, 1, 2, 3, 4, 5, 6, 7, 8, 9, 10, 11, 12, 13, 14, 15, 16, 17, 18, 21, 19, 20] (bs' := [bKW G hKW qKW vKW, bLg G (qKW 0) qLg vLg, bLg G (qKW 1) qLg2 vLg2, bLg G (qKW 2) qLg3 vLg3, bLg G (qKW 3) qLg4 vLg4, bWv G (qKW 5) qWv vWv, bPr G (qKW 6) qPr vPr, bRf G (qKW 7) qRf vRf, bTx G (qKW 8) qTx vTx, bLn G (qKW 9) qLn vLn, bHo G (qKW 4) qHs vHs, bRo G qHs vHs 0, bRo G qHs vHs 1, bRo G qHs vHs 2, bRo G qHs vHs 3, bRo G qHs vHs 4, bRo G qHs vHs 5, bRo G qHs vHs 6, bRo G qHs vHs 7, bMd G hMd qMd v_348, bLa G aLa v_345, bDa G aDa vDa]) rfl rfl ?_
      change GW C (k0 + 1) (n0 + 6) _ 1766 _ [.int r_349]
      refine gw_iload F dL_law_1766 1 rfl ?_
      refine gw_icmp_eq (tgt := 1773) F dL_law_1768 (by decide) (fun c_350 => ?_) (fun c_350 => ?_)
      · have hw := hw.1 c_350
        refine gw_iload F dL_law_1773 1 rfl ?_
        refine gw_if_ne (tgt := 1790) F dL_law_1775 (by decide) (fun c_351 => ?_) (fun c_351 => ?_)
        · have hw := hw.1 c_351
          refine gw_lv [2, 3, 4, 5, 6, 7] rfl ?_
          exact lb_L_law_1790 hl0 hk F E hK28 hw
        · have hw := hw.2 c_351
          refine gw_aload_n F dL_law_1778 5 rfl ?_
          refine gw_iconst (v := (0 : Int32)) F dL_law_1779 ic_iconst_0 ?_
          refine gw_lald F 133 rfl (by unfold vp_in; decide) dL_law_1780 ?_
          refine gw_iload F dL_law_1781 0 rfl ?_
          refine gw_i2l F dL_law_1783 ?_
          refine gw_lcmp F dL_law_1784 ?_
          refine gw_if_eq (tgt := 1790) F dL_law_1785 (by decide) (fun c_352 => ?_) (fun c_352 => ?_)
          · have hw := hw.1 c_352
            refine gw_lv [2, 3, 4, 5, 6, 7] rfl ?_
            exact lb_L_law_1790 hl0 hk F E hK28 hw
          · have hw := hw.2 c_352
            refine gw_iconst (v := (0 : Int32)) F dL_law_1788 ic_iconst_0 ?_
            exact gw_lret F E hw (by omega) (by omega) dL_law_1789
      · have hw := hw.2 c_350
        refine gw_iconst (v := (0 : Int32)) F dL_law_1771 ic_iconst_0 ?_
        exact gw_lret F E hw (by omega) (by omega) dL_law_1772
    · have hw := hw.2.2.2.2.2.2.2.2.2.2.2.2.2.2.2.2.2.2.2.2.2.2.2.2.2.2.2.2.2.2.2.1 c_3
      refine gw_tin (j := 30) (off := 1749) (tgt := 1793) F dL_law_44 c_3 (by decide) (by decide) rfl (by decide) ?_
      refine gw_aload_n F dL_law_1793 1 rfl ?_
      refine gw_aload F dL_law_1794 4 rfl ?_
      refine gw_callSX F (ct_L_meanFits hl0 hw) 2 la_227 rfl rfl rfl hd_L_meanFits ⟨(Nat.le_of_ble_eq_true rfl), (Nat.le_of_ble_eq_true rfl)⟩ rfl rfl (Nat.le_of_ble_eq_true rfl) ⟨by show _ ≤ 603072; omega, by show _ ≤ 7207018; omega⟩ [19, 20, 0, 1, 2, 3, 4, 5, 6, 7, 8, 9, 10, 11, 12, 13, 14, 15, 16, 17, 18, 21] (bsr := [bMd G hMd qMd vMd, bLa G aLa vLa]) rfl rfl dL_law_1796 ?_
      rintro _ _ ⟨r_353, v_354, rfl, rfl, hw⟩
      refine gw_sel [2, 3, 4, 5, 6, 7, 8, 9, 10, 11, 12, 13, 14, 15, 16, 17, 18, 19, 20, 0, 1, 21] (bs' := [bKW G hKW qKW vKW, bLg G (qKW 0) qLg vLg, bLg G (qKW 1) qLg2 vLg2, bLg G (qKW 2) qLg3 vLg3, bLg G (qKW 3) qLg4 vLg4, bWv G (qKW 5) qWv vWv, bPr G (qKW 6) qPr vPr, bRf G (qKW 7) qRf vRf, bTx G (qKW 8) qTx vTx, bLn G (qKW 9) qLn vLn, bHo G (qKW 4) qHs vHs, bRo G qHs vHs 0, bRo G qHs vHs 1, bRo G qHs vHs 2, bRo G qHs vHs 3, bRo G qHs vHs 4, bRo G qHs vHs 5, bRo G qHs vHs 6, bRo G qHs vHs 7, bMd G hMd qMd vMd, bLa G aLa vLa, bDa G aDa v_354]) rfl rfl ?_
      change GW C (k0 + 1) (n0 + 6) _ 1799 _ [.int r_353]
      refine gw_istore (lv' := [(6, .int r_353), (0, .ref bS), (1, .ref hKW), (2, .ref hMd), (3, .ref aLa), (4, .ref aDa), (5, .int x5)]) F dL_law_1799 (by decide) rfl ?_
      refine gw_aload_n F dL_law_1801 3 rfl ?_
      refine gw_callV F (ct_X8_meanFits hw) 0 la_230 rfl rfl rfl hd_X8_meanFits ⟨(Nat.le_of_ble_eq_true rfl), (Nat.le_of_ble_eq_true rfl)⟩ rfl rfl (Nat.le_of_ble_eq_true rfl) ⟨by show _ ≤ 603072; omega, by show _ ≤ 7207018; omega⟩ [0, 1, 2, 3, 4, 5, 6, 7, 8, 9, 10, 11, 12, 13, 14, 15, 16, 17, 18, 20, 21, 19] (bsr := [bKW G hKW qKW vKW, bLg G (qKW 0) qLg vLg, bLg G (qKW 1) qLg2 vLg2, bLg G (qKW 2) qLg3 vLg3, bLg G (qKW 3) qLg4 vLg4, bWv G (qKW 5) qWv vWv, bPr G (qKW 6) qPr vPr, bRf G (qKW 7) qRf vRf, bTx G (qKW 8) qTx vTx, bLn G (qKW 9) qLn vLn, bHo G (qKW 4) qHs vHs, bRo G qHs vHs 0, bRo G qHs vHs 1, bRo G qHs vHs 2, bRo G qHs vHs 3, bRo G qHs vHs 4, bRo G qHs vHs 5, bRo G qHs vHs 6, bRo G qHs vHs 7, bLa G aLa vLa, bDa G aDa v_354]) rfl rfl (q0 := 0) rfl rfl dL_law_1802 ?_
      rintro _ _ ⟨r_355, v_356, rfl, rfl, hw⟩
      refine gw_sel [0, 1, 2, 3, 4, 5, 6, 7, 8, 9, 10, 11, 12, 13, 14, 15, 16, 17, 18, 21, 19, 20] (bs' := [bKW G hKW qKW vKW, bLg G (qKW 0) qLg vLg, bLg G (qKW 1) qLg2 vLg2, bLg G (qKW 2) qLg3 vLg3, bLg G (qKW 3) qLg4 vLg4, bWv G (qKW 5) qWv vWv, bPr G (qKW 6) qPr vPr, bRf G (qKW 7) qRf vRf, bTx G (qKW 8) qTx vTx, bLn G (qKW 9) qLn vLn, bHo G (qKW 4) qHs vHs, bRo G qHs vHs 0, bRo G qHs vHs 1, bRo G qHs vHs 2, bRo G qHs vHs 3, bRo G qHs vHs 4, bRo G qHs vHs 5, bRo G qHs vHs 6, bRo G qHs vHs 7, bMd G hMd qMd v_356, bLa G aLa vLa, bDa G aDa v_354]) rfl rfl ?_
      change GW C (k0 + 1) (n0 + 6) _ 1805 _ [.double r_355]
      refine gw_dstore (lv' := [(7, .double r_355), (6, .int r_353), (0, .ref bS), (1, .ref hKW), (2, .ref hMd), (3, .ref aLa), (4, .ref aDa), (5, .int x5)]) F dL_law_1805 (by decide) rfl ?_
      refine gw_aload_n F dL_law_1807 4 rfl ?_
      refine gw_callV F (ct_X8_thrown hw) 0 la_125 rfl rfl rfl hd_X8_thrown ⟨(Nat.le_of_ble_eq_true rfl), (Nat.le_of_ble_eq_true rfl)⟩ rfl rfl (Nat.le_of_ble_eq_true rfl) ⟨by show _ ≤ 603072; omega, by show _ ≤ 7207018; omega⟩ [0, 1, 2, 3, 4, 5, 6, 7, 8, 9, 10, 11, 12, 13, 14, 15, 16, 17, 18, 20, 21, 19] (bsr := [bKW G hKW qKW vKW, bLg G (qKW 0) qLg vLg, bLg G (qKW 1) qLg2 vLg2, bLg G (qKW 2) qLg3 vLg3, bLg G (qKW 3) qLg4 vLg4, bWv G (qKW 5) qWv vWv, bPr G (qKW 6) qPr vPr, bRf G (qKW 7) qRf vRf, bTx G (qKW 8) qTx vTx, bLn G (qKW 9) qLn vLn, bHo G (qKW 4) qHs vHs, bRo G qHs vHs 0, bRo G qHs vHs 1, bRo G qHs vHs 2, bRo G qHs vHs 3, bRo G qHs vHs 4, bRo G qHs vHs 5, bRo G qHs vHs 6, bRo G qHs vHs 7, bLa G aLa vLa, bDa G aDa v_354]) rfl rfl (q0 := 0) rfl rfl dL_law_1808 ?_
      rintro _ _ ⟨r_357, rfl, rfl, hw⟩
      refine gw_sel [0, 1, 2, 3, 4, 5, 6, 7, 8, 9, 10, 11, 12, 13, 14, 15, 16, 17, 18, 21, 19, 20] (bs' := [bKW G hKW qKW vKW, bLg G (qKW 0) qLg vLg, bLg G (qKW 1) qLg2 vLg2, bLg G (qKW 2) qLg3 vLg3, bLg G (qKW 3) qLg4 vLg4, bWv G (qKW 5) qWv vWv, bPr G (qKW 6) qPr vPr, bRf G (qKW 7) qRf vRf, bTx G (qKW 8) qTx vTx, bLn G (qKW 9) qLn vLn, bHo G (qKW 4) qHs vHs, bRo G qHs vHs 0, bRo G qHs vHs 1, bRo G qHs vHs 2, bRo G qHs vHs 3, bRo G qHs vHs 4, bRo G qHs vHs 5, bRo G qHs vHs 6, bRo G qHs vHs 7, bMd G hMd qMd v_356, bLa G aLa vLa, bDa G aDa v_354]) rfl rfl ?_
      change GW C (k0 + 1) (n0 + 6) _ 1811 _ [.int r_357]
      refine gw_iload F dL_law_1811 1 rfl ?_
      refine gw_icmp_eq (tgt := 1818) F dL_law_1813 (by decide) (fun c_358 => ?_) (fun c_358 => ?_)
      · have hw := hw.1 c_358
        refine gw_iload F dL_law_1818 1 rfl ?_
        refine gw_if_ne (tgt := 1855) F dL_law_1820 (by decide) (fun c_359 => ?_) (fun c_359 => ?_)
        · have hw := hw.1 c_359
          refine gw_lv [2, 3, 4, 5, 6, 7] rfl ?_
          exact lb_L_law_1855 hl0 hk F E hK28 hw
        · have hw := hw.2 c_359
          refine gw_aload F dL_law_1823 6 rfl ?_
          refine gw_iconst (v := (0 : Int32)) F dL_law_1825 ic_iconst_0 ?_
          refine gw_dald F 134 rfl (by unfold vp_in; decide) dL_law_1826 ?_
          refine gw_dload F dL_law_1827 0 rfl ?_
          refine gw_dcmp F dL_law_1829 ?_
          refine gw_if_eq (tgt := 1855) F dL_law_1830 (by decide) (fun c_360 => ?_) (fun c_360 => ?_)
          · have hw := hw.1 c_360
            refine gw_lv [2, 3, 4, 5, 6, 7] rfl ?_
            exact lb_L_law_1855 hl0 hk F E hK28 hw
          · have hw := hw.2 c_360
            refine gw_aload F dL_law_1833 6 rfl ?_
            refine gw_iconst (v := (0 : Int32)) F dL_law_1835 ic_iconst_0 ?_
            refine gw_dald F 134 rfl (by unfold vp_in; decide) dL_law_1836 ?_
            refine gw_aload F dL_law_1837 6 rfl ?_
            refine gw_iconst (v := (0 : Int32)) F dL_law_1839 ic_iconst_0 ?_
            refine gw_dald F 134 rfl (by unfold vp_in; decide) dL_law_1840 ?_
            refine gw_dcmp F dL_law_1841 ?_
            refine gw_if_eq (tgt := 1853) F dL_law_1842 (by decide) (fun c_361 => ?_) (fun c_361 => ?_)
            · have hw := hw.1 c_361
              refine gw_lv [] rfl ?_
              exact lb_L_law_1853 hl0 hk F E hK28 hw
            · have hw := hw.2 c_361
              refine gw_dload F dL_law_1845 0 rfl ?_
              refine gw_dload F dL_law_1847 0 rfl ?_
              refine gw_dcmp F dL_law_1849 ?_
              refine gw_if_ne (tgt := 1855) F dL_law_1850 (by decide) (fun c_362 => ?_) (fun c_362 => ?_)
              · have hw := hw.1 c_362
                refine gw_lv [2, 3, 4, 5, 6, 7] rfl ?_
                exact lb_L_law_1855 hl0 hk F E hK28 hw
              · have hw := hw.2 c_362
                refine gw_lv [] rfl ?_
                exact lb_L_law_1853 hl0 hk F E hK28 hw
      · have hw := hw.2 c_358
        refine gw_iconst (v := (0 : Int32)) F dL_law_1816 ic_iconst_0 ?_
        exact gw_lret F E hw (by omega) (by omega) dL_law_1817
    · have hw := hw.2.2.2.2.2.2.2.2.2.2.2.2.2.2.2.2.2.2.2.2.2.2.2.2.2.2.2.2.2.2.2.2.1 c_3
      refine gw_tin (j := 31) (off := 1814) (tgt := 1858) F dL_law_44 c_3 (by decide) (by decide) rfl (by decide) ?_
      refine gw_aload_n F dL_law_1858 1 rfl ?_
      refine gw_aload F dL_law_1859 4 rfl ?_
      refine gw_callSX F (ct_L_openShare hl0 hw) 2 la_231 rfl rfl rfl hd_L_openShare ⟨(Nat.le_of_ble_eq_true rfl), (Nat.le_of_ble_eq_true rfl)⟩ rfl rfl (Nat.le_of_ble_eq_true rfl) ⟨by show _ ≤ 603072; omega, by show _ ≤ 7207018; omega⟩ [19, 20, 0, 1, 2, 3, 4, 5, 6, 7, 8, 9, 10, 11, 12, 13, 14, 15, 16, 17, 18, 21] (bsr := [bMd G hMd qMd vMd, bLa G aLa vLa]) rfl rfl dL_law_1861 ?_
      rintro _ _ ⟨r_363, v_364, rfl, rfl, hw⟩
      refine gw_sel [2, 3, 4, 5, 6, 7, 8, 9, 10, 11, 12, 13, 14, 15, 16, 17, 18, 19, 20, 0, 1, 21] (bs' := [bKW G hKW qKW vKW, bLg G (qKW 0) qLg vLg, bLg G (qKW 1) qLg2 vLg2, bLg G (qKW 2) qLg3 vLg3, bLg G (qKW 3) qLg4 vLg4, bWv G (qKW 5) qWv vWv, bPr G (qKW 6) qPr vPr, bRf G (qKW 7) qRf vRf, bTx G (qKW 8) qTx vTx, bLn G (qKW 9) qLn vLn, bHo G (qKW 4) qHs vHs, bRo G qHs vHs 0, bRo G qHs vHs 1, bRo G qHs vHs 2, bRo G qHs vHs 3, bRo G qHs vHs 4, bRo G qHs vHs 5, bRo G qHs vHs 6, bRo G qHs vHs 7, bMd G hMd qMd vMd, bLa G aLa vLa, bDa G aDa v_364]) rfl rfl ?_
      change GW C (k0 + 1) (n0 + 6) _ 1864 _ [.int r_363]
      refine gw_istore (lv' := [(6, .int r_363), (0, .ref bS), (1, .ref hKW), (2, .ref hMd), (3, .ref aLa), (4, .ref aDa), (5, .int x5)]) F dL_law_1864 (by decide) rfl ?_
      refine gw_aload_n F dL_law_1866 3 rfl ?_
      refine gw_callV F (ct_X8_openShare hw) 0 la_233 rfl rfl rfl hd_X8_openShare ⟨(Nat.le_of_ble_eq_true rfl), (Nat.le_of_ble_eq_true rfl)⟩ rfl rfl (Nat.le_of_ble_eq_true rfl) ⟨by show _ ≤ 603072; omega, by show _ ≤ 7207018; omega⟩ [0, 1, 2, 3, 4, 5, 6, 7, 8, 9, 10, 11, 12, 13, 14, 15, 16, 17, 18, 20, 21, 19] (bsr := [bKW G hKW qKW vKW, bLg G (qKW 0) qLg vLg, bLg G (qKW 1) qLg2 vLg2, bLg G (qKW 2) qLg3 vLg3, bLg G (qKW 3) qLg4 vLg4, bWv G (qKW 5) qWv vWv, bPr G (qKW 6) qPr vPr, bRf G (qKW 7) qRf vRf, bTx G (qKW 8) qTx vTx, bLn G (qKW 9) qLn vLn, bHo G (qKW 4) qHs vHs, bRo G qHs vHs 0, bRo G qHs vHs 1, bRo G qHs vHs 2, bRo G qHs vHs 3, bRo G qHs vHs 4, bRo G qHs vHs 5, bRo G qHs vHs 6, bRo G qHs vHs 7, bLa G aLa vLa, bDa G aDa v_364]) rfl rfl (q0 := 0) rfl rfl dL_law_1867 ?_
      rintro _ _ ⟨r_365, v_366, rfl, rfl, hw⟩
      refine gw_sel [0, 1, 2, 3, 4, 5, 6, 7, 8, 9, 10, 11, 12, 13, 14, 15, 16, 17, 18, 21, 19, 20] (bs' := [bKW G hKW qKW vKW, bLg G (qKW 0) qLg vLg, bLg G (qKW 1) qLg2 vLg2, bLg G (qKW 2) qLg3 vLg3, bLg G (qKW 3) qLg4 vLg4, bWv G (qKW 5) qWv vWv, bPr G (qKW 6) qPr vPr, bRf G (qKW 7) qRf vRf, bTx G (qKW 8) qTx vTx, bLn G (qKW 9) qLn vLn, bHo G (qKW 4) qHs vHs, bRo G qHs vHs 0, bRo G qHs vHs 1, bRo G qHs vHs 2, bRo G qHs vHs 3, bRo G qHs vHs 4, bRo G qHs vHs 5, bRo G qHs vHs 6, bRo G qHs vHs 7, bMd G hMd qMd v_366, bLa G aLa vLa, bDa G aDa v_364]) rfl rfl ?_
      change GW C (k0 + 1) (n0 + 6) _ 1870 _ [.float r_365]
      refine gw_fstore (lv' := [(7, .float r_365), (6, .int r_363), (0, .ref bS), (1, .ref hKW), (2, .ref hMd), (3, .ref aLa), (4, .ref aDa), (5, .int x5)]) F dL_law_1870 (by decide) rfl ?_
      refine gw_aload_n F dL_law_1872 4 rfl ?_
      refine gw_callV F (ct_X8_thrown hw) 0 la_125 rfl rfl rfl hd_X8_thrown ⟨(Nat.le_of_ble_eq_true rfl), (Nat.le_of_ble_eq_true rfl)⟩ rfl rfl (Nat.le_of_ble_eq_true rfl) ⟨by show _ ≤ 603072; omega, by show _ ≤ 7207018; omega⟩ [0, 1, 2, 3, 4, 5, 6, 7, 8, 9, 10, 11, 12, 13, 14, 15, 16, 17, 18, 20, 21, 19] (bsr := [bKW G hKW qKW vKW, bLg G (qKW 0) qLg vLg, bLg G (qKW 1) qLg2 vLg2, bLg G (qKW 2) qLg3 vLg3, bLg G (qKW 3) qLg4 vLg4, bWv G (qKW 5) qWv vWv, bPr G (qKW 6) qPr vPr, bRf G (qKW 7) qRf vRf, bTx G (qKW 8) qTx vTx, bLn G (qKW 9) qLn vLn, bHo G (qKW 4) qHs vHs, bRo G qHs vHs 0, bRo G qHs vHs 1, bRo G qHs vHs 2, bRo G qHs vHs 3, bRo G qHs vHs 4, bRo G qHs vHs 5, bRo G qHs vHs 6, bRo G qHs vHs 7, bLa G aLa vLa, bDa G aDa v_364]) rfl rfl (q0 := 0) rfl rfl dL_law_1873 ?_
      rintro _ _ ⟨r_367, rfl, rfl, hw⟩
      refine gw_sel [0, 1, 2, 3, 4, 5, 6, 7, 8, 9, 10, 11, 12, 13, 14, 15, 16, 17, 18, 21, 19, 20] (bs' := [bKW G hKW qKW vKW, bLg G (qKW 0) qLg vLg, bLg G (qKW 1) qLg2 vLg2, bLg G (qKW 2) qLg3 vLg3, bLg G (qKW 3) qLg4 vLg4, bWv G (qKW 5) qWv vWv, bPr G (qKW 6) qPr vPr, bRf G (qKW 7) qRf vRf, bTx G (qKW 8) qTx vTx, bLn G (qKW 9) qLn vLn, bHo G (qKW 4) qHs vHs, bRo G qHs vHs 0, bRo G qHs vHs 1, bRo G qHs vHs 2, bRo G qHs vHs 3, bRo G qHs vHs 4, bRo G qHs vHs 5, bRo G qHs vHs 6, bRo G qHs vHs 7, bMd G hMd qMd v_366, bLa G aLa vLa, bDa G aDa v_364]) rfl rfl ?_
      change GW C (k0 + 1) (n0 + 6) _ 1876 _ [.int r_367]
      refine gw_iload F dL_law_1876 1 rfl ?_
      refine gw_icmp_eq (tgt := 1883) F dL_law_1878 (by decide) (fun c_368 => ?_) (fun c_368 => ?_)
      · have hw := hw.1 c_368
        refine gw_iload F dL_law_1883 1 rfl ?_
        refine gw_if_ne (tgt := 1921) F dL_law_1885 (by decide) (fun c_369 => ?_) (fun c_369 => ?_)
        · have hw := hw.1 c_369
          refine gw_lv [2, 3, 4, 5, 6, 7] rfl ?_
          exact lb_L_law_1921 hl0 hk F E hK28 hw
        · have hw := hw.2 c_369
          refine gw_aload F dL_law_1888 6 rfl ?_
          refine gw_iconst (v := (0 : Int32)) F dL_law_1890 ic_iconst_0 ?_
          refine gw_dald F 134 rfl (by unfold vp_in; decide) dL_law_1891 ?_
          refine gw_fload F dL_law_1892 0 rfl ?_
          obtain ⟨h_370, hw⟩ := hw
          refine gw_f2d F dL_law_1894 h_370 ?_
          refine gw_dcmp F dL_law_1895 ?_
          refine gw_if_eq (tgt := 1921) F dL_law_1896 (by decide) (fun c_371 => ?_) (fun c_371 => ?_)
          · have hw := hw.1 c_371
            refine gw_lv [2, 3, 4, 5, 6, 7] rfl ?_
            exact lb_L_law_1921 hl0 hk F E hK28 hw
          · have hw := hw.2 c_371
            refine gw_aload F dL_law_1899 6 rfl ?_
            refine gw_iconst (v := (0 : Int32)) F dL_law_1901 ic_iconst_0 ?_
            refine gw_dald F 134 rfl (by unfold vp_in; decide) dL_law_1902 ?_
            refine gw_aload F dL_law_1903 6 rfl ?_
            refine gw_iconst (v := (0 : Int32)) F dL_law_1905 ic_iconst_0 ?_
            refine gw_dald F 134 rfl (by unfold vp_in; decide) dL_law_1906 ?_
            refine gw_dcmp F dL_law_1907 ?_
            refine gw_if_eq (tgt := 1919) F dL_law_1908 (by decide) (fun c_372 => ?_) (fun c_372 => ?_)
            · have hw := hw.1 c_372
              refine gw_lv [] rfl ?_
              exact lb_L_law_1919 hl0 hk F E hK28 hw
            · have hw := hw.2 c_372
              refine gw_fload F dL_law_1911 0 rfl ?_
              refine gw_fload F dL_law_1913 0 rfl ?_
              refine gw_fcmp F dL_law_1915 ?_
              refine gw_if_ne (tgt := 1921) F dL_law_1916 (by decide) (fun c_373 => ?_) (fun c_373 => ?_)
              · have hw := hw.1 c_373
                refine gw_lv [2, 3, 4, 5, 6, 7] rfl ?_
                exact lb_L_law_1921 hl0 hk F E hK28 hw
              · have hw := hw.2 c_373
                refine gw_lv [] rfl ?_
                exact lb_L_law_1919 hl0 hk F E hK28 hw
      · have hw := hw.2 c_368
        refine gw_iconst (v := (0 : Int32)) F dL_law_1881 ic_iconst_0 ?_
        exact gw_lret F E hw (by omega) (by omega) dL_law_1882
    · have hw := hw.2.2.2.2.2.2.2.2.2.2.2.2.2.2.2.2.2.2.2.2.2.2.2.2.2.2.2.2.2.2.2.2.2.1 c_3
      refine gw_tin (j := 32) (off := 1880) (tgt := 1924) F dL_law_44 c_3 (by decide) (by decide) rfl (by decide) ?_
      refine gw_aload_n F dL_law_1924 1 rfl ?_
      refine gw_aload_n F dL_law_1925 0 rfl ?_
      refine gw_iload F dL_law_1926 5 rfl ?_
      refine gw_iconst (v := (1 : Int32)) F dL_law_1928 ic_iconst_1 ?_
      refine gw_iadd F dL_law_1929 ?_
      obtain ⟨h_374, hw⟩ := hw
      refine gw_sld F E h_374 dL_law_1930 ?_
      refine gw_aload_n F dL_law_1931 3 rfl ?_
      refine gw_callSX F (ct_L_account hl0 hw) 3 la_234 rfl rfl rfl hd_L_account ⟨(Nat.le_of_ble_eq_true rfl), (Nat.le_of_ble_eq_true rfl)⟩ rfl rfl (Nat.le_of_ble_eq_true rfl) ⟨by show _ ≤ 603072; omega, by show _ ≤ 7207018; omega⟩ [19, 21, 0, 1, 2, 3, 4, 5, 6, 7, 8, 9, 10, 11, 12, 13, 14, 15, 16, 17, 18, 20] (bsr := [bMd G hMd qMd vMd, bDa G aDa vDa]) rfl rfl dL_law_1932 ?_
      rintro _ _ ⟨r_375, v_376, rfl, rfl, hw⟩
      refine gw_sel [2, 3, 4, 5, 6, 7, 8, 9, 10, 11, 12, 13, 14, 15, 16, 17, 18, 19, 20, 0, 21, 1] (bs' := [bKW G hKW qKW vKW, bLg G (qKW 0) qLg vLg, bLg G (qKW 1) qLg2 vLg2, bLg G (qKW 2) qLg3 vLg3, bLg G (qKW 3) qLg4 vLg4, bWv G (qKW 5) qWv vWv, bPr G (qKW 6) qPr vPr, bRf G (qKW 7) qRf vRf, bTx G (qKW 8) qTx vTx, bLn G (qKW 9) qLn vLn, bHo G (qKW 4) qHs vHs, bRo G qHs vHs 0, bRo G qHs vHs 1, bRo G qHs vHs 2, bRo G qHs vHs 3, bRo G qHs vHs 4, bRo G qHs vHs 5, bRo G qHs vHs 6, bRo G qHs vHs 7, bMd G hMd qMd vMd, bLa G aLa v_376, bDa G aDa vDa]) rfl rfl ?_
      change GW C (k0 + 1) (n0 + 6) _ 1935 _ [.int r_375]
      refine gw_istore (lv' := [(6, .int r_375), (0, .ref bS), (1, .ref hKW), (2, .ref hMd), (3, .ref aLa), (4, .ref aDa), (5, .int x5)]) F dL_law_1935 (by decide) rfl ?_
      refine gw_aload_n F dL_law_1937 3 rfl ?_
      refine gw_aload_n F dL_law_1938 1 rfl ?_
      refine gw_iload F dL_law_1939 6 rfl ?_
      refine gw_iconst (v := (1 : Int32)) F dL_law_1941 ic_iconst_1 ?_
      refine gw_iadd F dL_law_1942 ?_
      obtain ⟨h_377, hw⟩ := hw
      refine gw_sld F E h_377 dL_law_1943 ?_
      refine gw_callV F (ct_X8_account hw) 1 la_236 rfl rfl rfl hd_X8_account ⟨(Nat.le_of_ble_eq_true rfl), (Nat.le_of_ble_eq_true rfl)⟩ rfl rfl (Nat.le_of_ble_eq_true rfl) ⟨by show _ ≤ 603072; omega, by show _ ≤ 7207018; omega⟩ [0, 1, 2, 3, 4, 5, 6, 7, 8, 9, 10, 11, 12, 13, 14, 15, 16, 17, 18, 20, 21, 19] (bsr := [bKW G hKW qKW vKW, bLg G (qKW 0) qLg vLg, bLg G (qKW 1) qLg2 vLg2, bLg G (qKW 2) qLg3 vLg3, bLg G (qKW 3) qLg4 vLg4, bWv G (qKW 5) qWv vWv, bPr G (qKW 6) qPr vPr, bRf G (qKW 7) qRf vRf, bTx G (qKW 8) qTx vTx, bLn G (qKW 9) qLn vLn, bHo G (qKW 4) qHs vHs, bRo G qHs vHs 0, bRo G qHs vHs 1, bRo G qHs vHs 2, bRo G qHs vHs 3, bRo G qHs vHs 4, bRo G qHs vHs 5, bRo G qHs vHs 6, bRo G qHs vHs 7, bLa G aLa v_376, bDa G aDa vDa]) rfl rfl (q0 := 0) rfl rfl dL_law_1944 ?_
      rintro _ _ ⟨r_378, v_379, rfl, rfl, hw⟩
      refine gw_sel [0, 1, 2, 3, 4, 5, 6, 7, 8, 9, 10, 11, 12, 13, 14, 15, 16, 17, 18, 21, 19, 20] (bs' := [bKW G hKW qKW vKW, bLg G (qKW 0) qLg vLg, bLg G (qKW 1) qLg2 vLg2, bLg G (qKW 2) qLg3 vLg3, bLg G (qKW 3) qLg4 vLg4, bWv G (qKW 5) qWv vWv, bPr G (qKW 6) qPr vPr, bRf G (qKW 7) qRf vRf, bTx G (qKW 8) qTx vTx, bLn G (qKW 9) qLn vLn, bHo G (qKW 4) qHs vHs, bRo G qHs vHs 0, bRo G qHs vHs 1, bRo G qHs vHs 2, bRo G qHs vHs 3, bRo G qHs vHs 4, bRo G qHs vHs 5, bRo G qHs vHs 6, bRo G qHs vHs 7, bMd G hMd qMd v_379, bLa G aLa v_376, bDa G aDa vDa]) rfl rfl ?_
      change GW C (k0 + 1) (n0 + 6) _ 1947 _ [.int r_378]
      refine gw_istore (lv' := [(7, .int r_378), (6, .int r_375), (0, .ref bS), (1, .ref hKW), (2, .ref hMd), (3, .ref aLa), (4, .ref aDa), (5, .int x5)]) F dL_law_1947 (by decide) rfl ?_
      refine gw_aload_n F dL_law_1949 4 rfl ?_
      refine gw_callV F (ct_X8_thrown hw) 0 la_125 rfl rfl rfl hd_X8_thrown ⟨(Nat.le_of_ble_eq_true rfl), (Nat.le_of_ble_eq_true rfl)⟩ rfl rfl (Nat.le_of_ble_eq_true rfl) ⟨by show _ ≤ 603072; omega, by show _ ≤ 7207018; omega⟩ [0, 1, 2, 3, 4, 5, 6, 7, 8, 9, 10, 11, 12, 13, 14, 15, 16, 17, 18, 20, 21, 19] (bsr := [bKW G hKW qKW vKW, bLg G (qKW 0) qLg vLg, bLg G (qKW 1) qLg2 vLg2, bLg G (qKW 2) qLg3 vLg3, bLg G (qKW 3) qLg4 vLg4, bWv G (qKW 5) qWv vWv, bPr G (qKW 6) qPr vPr, bRf G (qKW 7) qRf vRf, bTx G (qKW 8) qTx vTx, bLn G (qKW 9) qLn vLn, bHo G (qKW 4) qHs vHs, bRo G qHs vHs 0, bRo G qHs vHs 1, bRo G qHs vHs 2, bRo G qHs vHs 3, bRo G qHs vHs 4, bRo G qHs vHs 5, bRo G qHs vHs 6, bRo G qHs vHs 7, bLa G aLa v_376, bDa G aDa vDa]) rfl rfl (q0 := 0) rfl rfl dL_law_1950 ?_
      rintro _ _ ⟨r_380, rfl, rfl, hw⟩
      refine gw_sel [0, 1, 2, 3, 4, 5, 6, 7, 8, 9, 10, 11, 12, 13, 14, 15, 16, 17, 18, 21, 19, 20] (bs' := [bKW G hKW qKW vKW, bLg G (qKW 0) qLg vLg, bLg G (qKW 1) qLg2 vLg2, bLg G (qKW 2) qLg3 vLg3, bLg G (qKW 3) qLg4 vLg4, bWv G (qKW 5) qWv vWv, bPr G (qKW 6) qPr vPr, bRf G (qKW 7) qRf vRf, bTx G (qKW 8) qTx vTx, bLn G (qKW 9) qLn vLn, bHo G (qKW 4) qHs vHs, bRo G qHs vHs 0, bRo G qHs vHs 1, bRo G qHs vHs 2, bRo G qHs vHs 3, bRo G qHs vHs 4, bRo G qHs vHs 5, bRo G qHs vHs 6, bRo G qHs vHs 7, bMd G hMd qMd v_379, bLa G aLa v_376, bDa G aDa vDa]) rfl rfl ?_
      change GW C (k0 + 1) (n0 + 6) _ 1953 _ [.int r_380]
      refine gw_iload F dL_law_1953 1 rfl ?_
      refine gw_icmp_eq (tgt := 1960) F dL_law_1955 (by decide) (fun c_381 => ?_) (fun c_381 => ?_)
      · have hw := hw.1 c_381
        refine gw_iload F dL_law_1960 1 rfl ?_
        refine gw_if_ne (tgt := 1977) F dL_law_1962 (by decide) (fun c_382 => ?_) (fun c_382 => ?_)
        · have hw := hw.1 c_382
          refine gw_lv [2, 3, 4, 5, 6, 7] rfl ?_
          exact lb_L_law_1977 hl0 hk F E hK28 hw
        · have hw := hw.2 c_382
          refine gw_aload_n F dL_law_1965 5 rfl ?_
          refine gw_iconst (v := (0 : Int32)) F dL_law_1966 ic_iconst_0 ?_
          refine gw_lald F 133 rfl (by unfold vp_in; decide) dL_law_1967 ?_
          refine gw_iload F dL_law_1968 0 rfl ?_
          refine gw_i2l F dL_law_1970 ?_
          refine gw_lcmp F dL_law_1971 ?_
          refine gw_if_eq (tgt := 1977) F dL_law_1972 (by decide) (fun c_383 => ?_) (fun c_383 => ?_)
          · have hw := hw.1 c_383
            refine gw_lv [2, 3, 4, 5, 6, 7] rfl ?_
            exact lb_L_law_1977 hl0 hk F E hK28 hw
          · have hw := hw.2 c_383
            refine gw_iconst (v := (0 : Int32)) F dL_law_1975 ic_iconst_0 ?_
            exact gw_lret F E hw (by omega) (by omega) dL_law_1976
      · have hw := hw.2 c_381
        refine gw_iconst (v := (0 : Int32)) F dL_law_1958 ic_iconst_0 ?_
        exact gw_lret F E hw (by omega) (by omega) dL_law_1959
    · have hw := hw.2.2.2.2.2.2.2.2.2.2.2.2.2.2.2.2.2.2.2.2.2.2.2.2.2.2.2.2.2.2.2.2.2.2.1 c_3
      refine gw_tin (j := 33) (off := 1936) (tgt := 1980) F dL_law_44 c_3 (by decide) (by decide) rfl (by decide) ?_
      refine gw_aload_n F dL_law_1980 1 rfl ?_
      refine gw_aload_n F dL_law_1981 3 rfl ?_
      refine gw_callSX F (ct_L_undo hl0 hw) 2 la_237 rfl rfl rfl hd_L_undo ⟨(Nat.le_of_ble_eq_true rfl), (Nat.le_of_ble_eq_true rfl)⟩ rfl rfl (Nat.le_of_ble_eq_true rfl) ⟨by show _ ≤ 603072; omega, by show _ ≤ 7207018; omega⟩ [19, 21, 0, 1, 2, 3, 4, 5, 6, 7, 8, 9, 10, 11, 12, 13, 14, 15, 16, 17, 18, 20] (bsr := [bMd G hMd qMd vMd, bDa G aDa vDa]) rfl rfl dL_law_1982 ?_
      rintro _ _ ⟨r_384, v_385, v_386, v_387, rfl, rfl, hw⟩
      refine gw_sel [2, 3, 4, 5, 6, 7, 8, 9, 10, 11, 12, 13, 14, 15, 16, 17, 18, 19, 20, 0, 21, 1] (bs' := [bKW G hKW qKW vKW, bLg G (qKW 0) qLg v_385, bLg G (qKW 1) qLg2 vLg2, bLg G (qKW 2) qLg3 vLg3, bLg G (qKW 3) qLg4 vLg4, bWv G (qKW 5) qWv vWv, bPr G (qKW 6) qPr vPr, bRf G (qKW 7) qRf vRf, bTx G (qKW 8) qTx vTx, bLn G (qKW 9) qLn vLn, bHo G (qKW 4) qHs v_386, bRo G qHs v_386 0, bRo G qHs v_386 1, bRo G qHs v_386 2, bRo G qHs v_386 3, bRo G qHs v_386 4, bRo G qHs v_386 5, bRo G qHs v_386 6, bRo G qHs v_386 7, bMd G hMd qMd vMd, bLa G aLa v_387, bDa G aDa vDa]) rfl rfl ?_
      change GW C (k0 + 1) (n0 + 6) _ 1985 _ [.int r_384]
      refine gw_istore (lv' := [(6, .int r_384), (0, .ref bS), (1, .ref hKW), (2, .ref hMd), (3, .ref aLa), (4, .ref aDa), (5, .int x5)]) F dL_law_1985 (by decide) rfl ?_
      refine gw_aload_n F dL_law_1987 3 rfl ?_
      refine gw_callV F (ct_X8_undo hw) 0 la_239 rfl rfl rfl hd_X8_undo ⟨(Nat.le_of_ble_eq_true rfl), (Nat.le_of_ble_eq_true rfl)⟩ rfl rfl (Nat.le_of_ble_eq_true rfl) ⟨by show _ ≤ 603072; omega, by show _ ≤ 7207018; omega⟩ [0, 1, 2, 3, 4, 5, 6, 7, 8, 9, 10, 11, 12, 13, 14, 15, 16, 17, 18, 20, 21, 19] (bsr := [bKW G hKW qKW vKW, bLg G (qKW 0) qLg v_385, bLg G (qKW 1) qLg2 vLg2, bLg G (qKW 2) qLg3 vLg3, bLg G (qKW 3) qLg4 vLg4, bWv G (qKW 5) qWv vWv, bPr G (qKW 6) qPr vPr, bRf G (qKW 7) qRf vRf, bTx G (qKW 8) qTx vTx, bLn G (qKW 9) qLn vLn, bHo G (qKW 4) qHs v_386, bRo G qHs v_386 0, bRo G qHs v_386 1, bRo G qHs v_386 2, bRo G qHs v_386 3, bRo G qHs v_386 4, bRo G qHs v_386 5, bRo G qHs v_386 6, bRo G qHs v_386 7, bLa G aLa v_387, bDa G aDa vDa]) rfl rfl (q0 := 0) rfl rfl dL_law_1988 ?_
      rintro _ _ ⟨r_388, v_389, rfl, rfl, hw⟩
      refine gw_sel [0, 1, 2, 3, 4, 5, 6, 7, 8, 9, 10, 11, 12, 13, 14, 15, 16, 17, 18, 21, 19, 20] (bs' := [bKW G hKW qKW vKW, bLg G (qKW 0) qLg v_385, bLg G (qKW 1) qLg2 vLg2, bLg G (qKW 2) qLg3 vLg3, bLg G (qKW 3) qLg4 vLg4, bWv G (qKW 5) qWv vWv, bPr G (qKW 6) qPr vPr, bRf G (qKW 7) qRf vRf, bTx G (qKW 8) qTx vTx, bLn G (qKW 9) qLn vLn, bHo G (qKW 4) qHs v_386, bRo G qHs v_386 0, bRo G qHs v_386 1, bRo G qHs v_386 2, bRo G qHs v_386 3, bRo G qHs v_386 4, bRo G qHs v_386 5, bRo G qHs v_386 6, bRo G qHs v_386 7, bMd G hMd qMd v_389, bLa G aLa v_387, bDa G aDa vDa]) rfl rfl ?_
      change GW C (k0 + 1) (n0 + 6) _ 1991 _ [.int r_388]
      refine gw_istore (lv' := [(7, .int r_388), (6, .int r_384), (0, .ref bS), (1, .ref hKW), (2, .ref hMd), (3, .ref aLa), (4, .ref aDa), (5, .int x5)]) F dL_law_1991 (by decide) rfl ?_
      refine gw_aload_n F dL_law_1993 4 rfl ?_
      refine gw_callV F (ct_X8_thrown hw) 0 la_125 rfl rfl rfl hd_X8_thrown ⟨(Nat.le_of_ble_eq_true rfl), (Nat.le_of_ble_eq_true rfl)⟩ rfl rfl (Nat.le_of_ble_eq_true rfl) ⟨by show _ ≤ 603072; omega, by show _ ≤ 7207018; omega⟩ [0, 1, 2, 3, 4, 5, 6, 7, 8, 9, 10, 11, 12, 13, 14, 15, 16, 17, 18, 20, 21, 19] (bsr := [bKW G hKW qKW vKW, bLg G (qKW 0) qLg v_385, bLg G (qKW 1) qLg2 vLg2, bLg G (qKW 2) qLg3 vLg3, bLg G (qKW 3) qLg4 vLg4, bWv G (qKW 5) qWv vWv, bPr G (qKW 6) qPr vPr, bRf G (qKW 7) qRf vRf, bTx G (qKW 8) qTx vTx, bLn G (qKW 9) qLn vLn, bHo G (qKW 4) qHs v_386, bRo G qHs v_386 0, bRo G qHs v_386 1, bRo G qHs v_386 2, bRo G qHs v_386 3, bRo G qHs v_386 4, bRo G qHs v_386 5, bRo G qHs v_386 6, bRo G qHs v_386 7, bLa G aLa v_387, bDa G aDa vDa]) rfl rfl (q0 := 0) rfl rfl dL_law_1994 ?_
      rintro _ _ ⟨r_390, rfl, rfl, hw⟩
      refine gw_sel [0, 1, 2, 3, 4, 5, 6, 7, 8, 9, 10, 11, 12, 13, 14, 15, 16, 17, 18, 21, 19, 20] (bs' := [bKW G hKW qKW vKW, bLg G (qKW 0) qLg v_385, bLg G (qKW 1) qLg2 vLg2, bLg G (qKW 2) qLg3 vLg3, bLg G (qKW 3) qLg4 vLg4, bWv G (qKW 5) qWv vWv, bPr G (qKW 6) qPr vPr, bRf G (qKW 7) qRf vRf, bTx G (qKW 8) qTx vTx, bLn G (qKW 9) qLn vLn, bHo G (qKW 4) qHs v_386, bRo G qHs v_386 0, bRo G qHs v_386 1, bRo G qHs v_386 2, bRo G qHs v_386 3, bRo G qHs v_386 4, bRo G qHs v_386 5, bRo G qHs v_386 6, bRo G qHs v_386 7, bMd G hMd qMd v_389, bLa G aLa v_387, bDa G aDa vDa]) rfl rfl ?_
      change GW C (k0 + 1) (n0 + 6) _ 1997 _ [.int r_390]
      refine gw_iload F dL_law_1997 1 rfl ?_
      refine gw_icmp_eq (tgt := 2004) F dL_law_1999 (by decide) (fun c_391 => ?_) (fun c_391 => ?_)
      · have hw := hw.1 c_391
        refine gw_iload F dL_law_2004 1 rfl ?_
        refine gw_if_ne (tgt := 2021) F dL_law_2006 (by decide) (fun c_392 => ?_) (fun c_392 => ?_)
        · have hw := hw.1 c_392
          refine gw_lv [2, 3, 4, 5, 6, 7] rfl ?_
          exact lb_L_law_2021 hl0 hk F E hK28 hw
        · have hw := hw.2 c_392
          refine gw_aload_n F dL_law_2009 5 rfl ?_
          refine gw_iconst (v := (0 : Int32)) F dL_law_2010 ic_iconst_0 ?_
          refine gw_lald F 133 rfl (by unfold vp_in; decide) dL_law_2011 ?_
          refine gw_iload F dL_law_2012 0 rfl ?_
          refine gw_i2l F dL_law_2014 ?_
          refine gw_lcmp F dL_law_2015 ?_
          refine gw_if_eq (tgt := 2021) F dL_law_2016 (by decide) (fun c_393 => ?_) (fun c_393 => ?_)
          · have hw := hw.1 c_393
            refine gw_lv [2, 3, 4, 5, 6, 7] rfl ?_
            exact lb_L_law_2021 hl0 hk F E hK28 hw
          · have hw := hw.2 c_393
            refine gw_iconst (v := (0 : Int32)) F dL_law_2019 ic_iconst_0 ?_
            exact gw_lret F E hw (by omega) (by omega) dL_law_2020
      · have hw := hw.2 c_391
        refine gw_iconst (v := (0 : Int32)) F dL_law_2002 ic_iconst_0 ?_
        exact gw_lret F E hw (by omega) (by omega) dL_law_2003
    · have hw := hw.2.2.2.2.2.2.2.2.2.2.2.2.2.2.2.2.2.2.2.2.2.2.2.2.2.2.2.2.2.2.2.2.2.2.2.1 c_3
      refine gw_tin (j := 34) (off := 1980) (tgt := 2024) F dL_law_44 c_3 (by decide) (by decide) rfl (by decide) ?_
      refine gw_aload_n F dL_law_2024 1 rfl ?_
      refine gw_callV (F.mono XL_sub) (ct_X7_save hl0 hw) 0 la_240 rfl rfl rfl hd_X7_save ⟨(Nat.le_of_ble_eq_true rfl), (Nat.le_of_ble_eq_true rfl)⟩ rfl rfl (Nat.le_of_ble_eq_true rfl) ⟨by show _ ≤ 603072; omega, by show _ ≤ 7207018; omega⟩ [19, 20, 21, 0, 1, 2, 3, 4, 5, 6, 7, 8, 9, 10, 11, 12, 13, 14, 15, 16, 17, 18] (bsr := [bMd G hMd qMd vMd, bLa G aLa vLa, bDa G aDa vDa]) rfl rfl (q0 := 0) rfl rfl dL_law_2025 ?_
      rintro _ _ ⟨r_394, v_395, v_396, rfl, rfl, hw⟩
      refine gw_sel [3, 4, 5, 6, 7, 8, 9, 10, 11, 12, 13, 14, 15, 16, 17, 18, 19, 20, 21, 0, 1, 2] (bs' := [bKW G hKW qKW v_395, bLg G (qKW 0) qLg vLg, bLg G (qKW 1) qLg2 vLg2, bLg G (qKW 2) qLg3 v_396, bLg G (qKW 3) qLg4 vLg4, bWv G (qKW 5) qWv vWv, bPr G (qKW 6) qPr vPr, bRf G (qKW 7) qRf vRf, bTx G (qKW 8) qTx vTx, bLn G (qKW 9) qLn vLn, bHo G (qKW 4) qHs vHs, bRo G qHs vHs 0, bRo G qHs vHs 1, bRo G qHs vHs 2, bRo G qHs vHs 3, bRo G qHs vHs 4, bRo G qHs vHs 5, bRo G qHs vHs 6, bRo G qHs vHs 7, bMd G hMd qMd vMd, bLa G aLa vLa, bDa G aDa vDa]) rfl rfl ?_
      change GW C k0 n0 _ 2028 _ [.int r_394]
      refine gw_aload_n F dL_law_2028 2 rfl ?_
      refine gw_callV F (ct_X8_save hw) 0 la_243 rfl rfl rfl hd_X8_save ⟨(Nat.le_of_ble_eq_true rfl), (Nat.le_of_ble_eq_true rfl)⟩ rfl rfl (Nat.le_of_ble_eq_true rfl) ⟨by show _ ≤ 603072; omega, by show _ ≤ 7207018; omega⟩ [0, 1, 2, 3, 4, 5, 6, 7, 8, 9, 10, 11, 12, 13, 14, 15, 16, 17, 18, 20, 21, 19] (bsr := [bKW G hKW qKW v_395, bLg G (qKW 0) qLg vLg, bLg G (qKW 1) qLg2 vLg2, bLg G (qKW 2) qLg3 v_396, bLg G (qKW 3) qLg4 vLg4, bWv G (qKW 5) qWv vWv, bPr G (qKW 6) qPr vPr, bRf G (qKW 7) qRf vRf, bTx G (qKW 8) qTx vTx, bLn G (qKW 9) qLn vLn, bHo G (qKW 4) qHs vHs, bRo G qHs vHs 0, bRo G qHs vHs 1, bRo G qHs vHs 2, bRo G qHs vHs 3, bRo G qHs vHs 4, bRo G qHs vHs 5, bRo G qHs vHs 6, bRo G qHs vHs 7, bLa G aLa vLa, bDa G aDa vDa]) rfl rfl (q0 := 0) rfl rfl dL_law_2029 ?_
      rintro _ _ ⟨r_397, v_398, rfl, rfl, hw⟩
      refine gw_sel [0, 1, 2, 3, 4, 5, 6, 7, 8, 9, 10, 11, 12, 13, 14, 15, 16, 17, 18, 21, 19, 20] (bs' := [bKW G hKW qKW v_395, bLg G (qKW 0) qLg vLg, bLg G (qKW 1) qLg2 vLg2, bLg G (qKW 2) qLg3 v_396, bLg G (qKW 3) qLg4 vLg4, bWv G (qKW 5) qWv vWv, bPr G (qKW 6) qPr vPr, bRf G (qKW 7) qRf vRf, bTx G (qKW 8) qTx vTx, bLn G (qKW 9) qLn vLn, bHo G (qKW 4) qHs vHs, bRo G qHs vHs 0, bRo G qHs vHs 1, bRo G qHs vHs 2, bRo G qHs vHs 3, bRo G qHs vHs 4, bRo G qHs vHs 5, bRo G qHs vHs 6, bRo G qHs vHs 7, bMd G hMd qMd v_398, bLa G aLa vLa, bDa G aDa vDa]) rfl rfl ?_
      change GW C k0 n0 _ 2032 _ [.int r_397, .int r_394]
      refine gw_icmp_eq (tgt := 2081) F dL_law_2032 (by decide) (fun c_399 => ?_) (fun c_399 => ?_)
      · have hw := hw.1 c_399
        refine gw_widen (k' := k0 + 2) (n' := n0 + 12) (by omega) (by omega) ?_
        exact lb_L_law_2081 hl0 hk F E hK28 hw
      · have hw := hw.2 c_399
        refine gw_iconst (v := (0 : Int32)) F dL_law_2035 ic_iconst_0 ?_
        exact gw_lret F E hw (by omega) (by omega) dL_law_2036
    · have hw := hw.2.2.2.2.2.2.2.2.2.2.2.2.2.2.2.2.2.2.2.2.2.2.2.2.2.2.2.2.2.2.2.2.2.2.2.2 c_3
      refine gw_tin (j := 35) (off := 1993) (tgt := 2037) F dL_law_44 c_3 (by decide) (by decide) rfl (by decide) ?_
      refine gw_aload_n F dL_law_2037 1 rfl ?_
      refine gw_aload_n F dL_law_2038 3 rfl ?_
      refine gw_callSX F (ct_L_restore hl0 hw) 2 la_244 rfl rfl rfl hd_L_restore ⟨(Nat.le_of_ble_eq_true rfl), (Nat.le_of_ble_eq_true rfl)⟩ rfl rfl (Nat.le_of_ble_eq_true rfl) ⟨by show _ ≤ 603072; omega, by show _ ≤ 7207018; omega⟩ [19, 21, 0, 1, 2, 3, 4, 5, 6, 7, 8, 9, 10, 11, 12, 13, 14, 15, 16, 17, 18, 20] (bsr := [bMd G hMd qMd vMd, bDa G aDa vDa]) rfl rfl dL_law_2039 ?_
      rintro _ _ ⟨r_400, v_401, v_402, v_403, rfl, rfl, hw⟩
      refine gw_sel [2, 3, 4, 5, 6, 7, 8, 9, 10, 11, 12, 13, 14, 15, 16, 17, 18, 19, 20, 0, 21, 1] (bs' := [bKW G hKW qKW vKW, bLg G (qKW 0) qLg v_401, bLg G (qKW 1) qLg2 vLg2, bLg G (qKW 2) qLg3 vLg3, bLg G (qKW 3) qLg4 vLg4, bWv G (qKW 5) qWv vWv, bPr G (qKW 6) qPr vPr, bRf G (qKW 7) qRf vRf, bTx G (qKW 8) qTx vTx, bLn G (qKW 9) qLn vLn, bHo G (qKW 4) qHs v_402, bRo G qHs v_402 0, bRo G qHs v_402 1, bRo G qHs v_402 2, bRo G qHs v_402 3, bRo G qHs v_402 4, bRo G qHs v_402 5, bRo G qHs v_402 6, bRo G qHs v_402 7, bMd G hMd qMd vMd, bLa G aLa v_403, bDa G aDa vDa]) rfl rfl ?_
      change GW C (k0 + 1) (n0 + 6) _ 2042 _ [.int r_400]
      refine gw_istore (lv' := [(6, .int r_400), (0, .ref bS), (1, .ref hKW), (2, .ref hMd), (3, .ref aLa), (4, .ref aDa), (5, .int x5)]) F dL_law_2042 (by decide) rfl ?_
      refine gw_aload_n F dL_law_2044 3 rfl ?_
      refine gw_callV F (ct_X8_restore hw) 0 la_246 rfl rfl rfl hd_X8_restore ⟨(Nat.le_of_ble_eq_true rfl), (Nat.le_of_ble_eq_true rfl)⟩ rfl rfl (Nat.le_of_ble_eq_true rfl) ⟨by show _ ≤ 603072; omega, by show _ ≤ 7207018; omega⟩ [0, 1, 2, 3, 4, 5, 6, 7, 8, 9, 10, 11, 12, 13, 14, 15, 16, 17, 18, 20, 21, 19] (bsr := [bKW G hKW qKW vKW, bLg G (qKW 0) qLg v_401, bLg G (qKW 1) qLg2 vLg2, bLg G (qKW 2) qLg3 vLg3, bLg G (qKW 3) qLg4 vLg4, bWv G (qKW 5) qWv vWv, bPr G (qKW 6) qPr vPr, bRf G (qKW 7) qRf vRf, bTx G (qKW 8) qTx vTx, bLn G (qKW 9) qLn vLn, bHo G (qKW 4) qHs v_402, bRo G qHs v_402 0, bRo G qHs v_402 1, bRo G qHs v_402 2, bRo G qHs v_402 3, bRo G qHs v_402 4, bRo G qHs v_402 5, bRo G qHs v_402 6, bRo G qHs v_402 7, bLa G aLa v_403, bDa G aDa vDa]) rfl rfl (q0 := 0) rfl rfl dL_law_2045 ?_
      rintro _ _ ⟨r_404, v_405, rfl, rfl, hw⟩
      refine gw_sel [0, 1, 2, 3, 4, 5, 6, 7, 8, 9, 10, 11, 12, 13, 14, 15, 16, 17, 18, 21, 19, 20] (bs' := [bKW G hKW qKW vKW, bLg G (qKW 0) qLg v_401, bLg G (qKW 1) qLg2 vLg2, bLg G (qKW 2) qLg3 vLg3, bLg G (qKW 3) qLg4 vLg4, bWv G (qKW 5) qWv vWv, bPr G (qKW 6) qPr vPr, bRf G (qKW 7) qRf vRf, bTx G (qKW 8) qTx vTx, bLn G (qKW 9) qLn vLn, bHo G (qKW 4) qHs v_402, bRo G qHs v_402 0, bRo G qHs v_402 1, bRo G qHs v_402 2, bRo G qHs v_402 3, bRo G qHs v_402 4, bRo G qHs v_402 5, bRo G qHs v_402 6, bRo G qHs v_402 7, bMd G hMd qMd v_405, bLa G aLa v_403, bDa G aDa vDa]) rfl rfl ?_
      change GW C (k0 + 1) (n0 + 6) _ 2048 _ [.int r_404]
      refine gw_istore (lv' := [(7, .int r_404), (6, .int r_400), (0, .ref bS), (1, .ref hKW), (2, .ref hMd), (3, .ref aLa), (4, .ref aDa), (5, .int x5)]) F dL_law_2048 (by decide) rfl ?_
      refine gw_aload_n F dL_law_2050 4 rfl ?_
      refine gw_callV F (ct_X8_thrown hw) 0 la_125 rfl rfl rfl hd_X8_thrown ⟨(Nat.le_of_ble_eq_true rfl), (Nat.le_of_ble_eq_true rfl)⟩ rfl rfl (Nat.le_of_ble_eq_true rfl) ⟨by show _ ≤ 603072; omega, by show _ ≤ 7207018; omega⟩ [0, 1, 2, 3, 4, 5, 6, 7, 8, 9, 10, 11, 12, 13, 14, 15, 16, 17, 18, 20, 21, 19] (bsr := [bKW G hKW qKW vKW, bLg G (qKW 0) qLg v_401, bLg G (qKW 1) qLg2 vLg2, bLg G (qKW 2) qLg3 vLg3, bLg G (qKW 3) qLg4 vLg4, bWv G (qKW 5) qWv vWv, bPr G (qKW 6) qPr vPr, bRf G (qKW 7) qRf vRf, bTx G (qKW 8) qTx vTx, bLn G (qKW 9) qLn vLn, bHo G (qKW 4) qHs v_402, bRo G qHs v_402 0, bRo G qHs v_402 1, bRo G qHs v_402 2, bRo G qHs v_402 3, bRo G qHs v_402 4, bRo G qHs v_402 5, bRo G qHs v_402 6, bRo G qHs v_402 7, bLa G aLa v_403, bDa G aDa vDa]) rfl rfl (q0 := 0) rfl rfl dL_law_2051 ?_
      rintro _ _ ⟨r_406, rfl, rfl, hw⟩
      refine gw_sel [0, 1, 2, 3, 4, 5, 6, 7, 8, 9, 10, 11, 12, 13, 14, 15, 16, 17, 18, 21, 19, 20] (bs' := [bKW G hKW qKW vKW, bLg G (qKW 0) qLg v_401, bLg G (qKW 1) qLg2 vLg2, bLg G (qKW 2) qLg3 vLg3, bLg G (qKW 3) qLg4 vLg4, bWv G (qKW 5) qWv vWv, bPr G (qKW 6) qPr vPr, bRf G (qKW 7) qRf vRf, bTx G (qKW 8) qTx vTx, bLn G (qKW 9) qLn vLn, bHo G (qKW 4) qHs v_402, bRo G qHs v_402 0, bRo G qHs v_402 1, bRo G qHs v_402 2, bRo G qHs v_402 3, bRo G qHs v_402 4, bRo G qHs v_402 5, bRo G qHs v_402 6, bRo G qHs v_402 7, bMd G hMd qMd v_405, bLa G aLa v_403, bDa G aDa vDa]) rfl rfl ?_
      change GW C (k0 + 1) (n0 + 6) _ 2054 _ [.int r_406]
      refine gw_iload F dL_law_2054 1 rfl ?_
      refine gw_icmp_eq (tgt := 2061) F dL_law_2056 (by decide) (fun c_407 => ?_) (fun c_407 => ?_)
      · have hw := hw.1 c_407
        refine gw_iload F dL_law_2061 1 rfl ?_
        refine gw_if_ne (tgt := 2078) F dL_law_2063 (by decide) (fun c_408 => ?_) (fun c_408 => ?_)
        · have hw := hw.1 c_408
          refine gw_lv [2, 3, 4, 5, 6, 7] rfl ?_
          exact lb_L_law_2078 hl0 hk F E hK28 hw
        · have hw := hw.2 c_408
          refine gw_aload_n F dL_law_2066 5 rfl ?_
          refine gw_iconst (v := (0 : Int32)) F dL_law_2067 ic_iconst_0 ?_
          refine gw_lald F 133 rfl (by unfold vp_in; decide) dL_law_2068 ?_
          refine gw_iload F dL_law_2069 0 rfl ?_
          refine gw_i2l F dL_law_2071 ?_
          refine gw_lcmp F dL_law_2072 ?_
          refine gw_if_eq (tgt := 2078) F dL_law_2073 (by decide) (fun c_409 => ?_) (fun c_409 => ?_)
          · have hw := hw.1 c_409
            refine gw_lv [2, 3, 4, 5, 6, 7] rfl ?_
            exact lb_L_law_2078 hl0 hk F E hK28 hw
          · have hw := hw.2 c_409
            refine gw_iconst (v := (0 : Int32)) F dL_law_2076 ic_iconst_0 ?_
            exact gw_lret F E hw (by omega) (by omega) dL_law_2077
      · have hw := hw.2 c_407
        refine gw_iconst (v := (0 : Int32)) F dL_law_2059 ic_iconst_0 ?_
        exact gw_lret F E hw (by omega) (by omega) dL_law_2060
def wp_L_law_28_loop (L : Nat) (xs : Nat → Int32) : Nat → Int32 → OV → OV → OV → OV → OV → OV → OV → OV → OV → OV → HV → OV → (Nat → Int64) → (Nat → UInt64) → Prop
  | 0, _, _, _, _, _, _, _, _, _, _, _, _, _, _, _ => False
  | n + 1, x5, vKW, vLg, vLg2, vLg3, vLg4, vWv, vPr, vRf, vTx, vLn, vHs, vMd, vLa, vDa => wp_L_law_28 L xs (wp_L_law_28_loop L xs n) x5 vKW vLg vLg2 vLg3 vLg4 vWv vPr vRf vTx vLn vHs vMd vLa vDa
theorem lp_L_law {l : Launch} {D : va_G} {G : Nat → ClassId} {C : Cx} {bS L : Nat} {xs : Nat → Int32} {hKW : Nat} {qKW : Nat → Nat} {qLg : Nat → Nat} {qLg2 : Nat → Nat} {qLg3 : Nat → Nat} {qLg4 : Nat → Nat} {qWv : Nat → Nat} {qPr : Nat → Nat} {qRf : Nat → Nat} {qTx : Nat → Nat} {qLn : Nat → Nat} {qHs : Nat → Nat → Nat} {hMd : Nat} {qMd : Nat → Nat} {aLa : Nat} {aDa : Nat} (hl0 : l.stackTraces = false) (F : GF C XL cL_law lw_tbl RL room_1 9 (some .boolean) D G l) (E : GL C bS L xs) : ∀ (n k0 n0 : Nat) (x5 : Int32) (vKW : OV) (vLg : OV) (vLg2 : OV) (vLg3 : OV) (vLg4 : OV) (vWv : OV) (vPr : OV) (vRf : OV) (vTx : OV) (vLn : OV) (vHs : HV) (vMd : OV) (vLa : (Nat → Int64)) (vDa : (Nat → UInt64)), k0 + 2 * n + 20 ≤ 603072 → n0 + 12 * n + 100 ≤ 7207018 → wp_L_law_28_loop L xs n x5 vKW vLg vLg2 vLg3 vLg4 vWv vPr vRf vTx vLn vHs vMd vLa vDa → GW C k0 n0 [bKW G hKW qKW vKW, bLg G (qKW 0) qLg vLg, bLg G (qKW 1) qLg2 vLg2, bLg G (qKW 2) qLg3 vLg3, bLg G (qKW 3) qLg4 vLg4, bWv G (qKW 5) qWv vWv, bPr G (qKW 6) qPr vPr, bRf G (qKW 7) qRf vRf, bTx G (qKW 8) qTx vTx, bLn G (qKW 9) qLn vLn, bHo G (qKW 4) qHs vHs, bRo G qHs vHs 0, bRo G qHs vHs 1, bRo G qHs vHs 2, bRo G qHs vHs 3, bRo G qHs vHs 4, bRo G qHs vHs 5, bRo G qHs vHs 6, bRo G qHs vHs 7, bMd G hMd qMd vMd, bLa G aLa vLa, bDa G aDa vDa] 28 [(0, .ref bS), (1, .ref hKW), (2, .ref hMd), (3, .ref aLa), (4, .ref aDa), (5, .int x5)] [] := by
  intro n
  induction n with
  | zero => intro k0 n0 x5 vKW vLg vLg2 vLg3 vLg4 vWv vPr vRf vTx vLn vHs vMd vLa vDa _ _ hw; exact False.elim hw
  | succ n ih => intro k0 n0 x5 vKW vLg vLg2 vLg3 vLg4 vWv vPr vRf vTx vLn vHs vMd vLa vDa h1 h2 hw; exact lb_L_law_28 (K28 := wp_L_law_28_loop L xs n) hl0 ⟨by omega, by omega⟩ F E (fun x5 vKW vLg vLg2 vLg3 vLg4 vWv vPr vRf vTx vLn vHs vMd vLa vDa h => ih _ _ x5 vKW vLg vLg2 vLg3 vLg4 vWv vPr vRf vTx vLn vHs vMd vLa vDa (by omega) (by omega) h) hw
