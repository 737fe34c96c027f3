def fitC (t : FieldType) (x : Int32) : Prop := narrow t (.int x) = .int x ∧ fits t (.int x) = true
theorem gw_topi {C : Cx} {k n pc : Nat} {bs : List va_W} {lv : List (Nat × Value)} {st : List Value} {x : Int32} (K : ∀ y : Int32, y = x → GW C k n bs pc lv (.int y :: st)) : GW C k n bs pc lv (.int x :: st) := K x rfl
theorem pn_RJ6 : plainName RJ6 = true := by decide +kernel
theorem pn_RX0 : plainName RX0 = true := by decide +kernel
theorem pn_RX1 : plainName RX1 = true := by decide +kernel
theorem pn_RX2 : plainName RX2 = true := by decide +kernel
theorem pn_RX3 : plainName RX3 = true := by decide +kernel
theorem pn_RX4 : plainName RX4 = true := by decide +kernel
theorem pn_RX5 : plainName RX5 = true := by decide +kernel
theorem pn_RX6 : plainName RX6 = true := by decide +kernel
theorem pn_RX7 : plainName RX7 = true := by decide +kernel
theorem pn_RX8 : plainName RX8 = true := by decide +kernel
/-- the reference's object, cell by cell -/
def mdB (G : Nat → ClassId) (h : Nat) (q : Nat → Nat) (v : OV) : List va_W := [[(h, .inr (8, [.ref (q 0), .ref (q 1), .ref (q 2), .ref (q 3), .ref (q 4), .int (v.2 5), .int (v.2 6), .int (v.2 7), .int (v.2 8), .int (v.2 9), .int (v.2 10), .int (v.2 11), .int (v.2 12), .ref (q 13), .int (v.2 14), .int (v.2 15), .ref (q 16), .int (v.2 17), .ref (q 18), .ref (q 19), .int (v.2 20), .int (v.2 21), .ref (q 22), .int (v.2 23)]))], bAr G 177 (q 0) (v.1 0), bAr G 1416 (q 1) (v.1 1), bAr G 177 (q 2) (v.1 2), bAr G 177 (q 3) (v.1 3), bAr G 177 (q 4) (v.1 4), bAr G 60 (q 13) (v.1 13), [(q 16, .inl (G 2, 90, .inl (v.1 16)))], bAr G 10 (q 18) (v.1 18), [(q 19, .inl (G 1, 10, .inl (v.1 19)))], bAr G 124 (q 22) (v.1 22)]
theorem ic_bipush_6 : (Int8.ofInt (6)).toInt32 = (6 : Int32) := by decide
theorem ic_bipush_7 : (Int8.ofInt (7)).toInt32 = (7 : Int32) := by decide
theorem ic_bipush_8 : (Int8.ofInt (8)).toInt32 = (8 : Int32) := by decide
theorem ic_bipush_9 : (Int8.ofInt (9)).toInt32 = (9 : Int32) := by decide
theorem ic_bipush_10 : (Int8.ofInt (10)).toInt32 = (10 : Int32) := by decide
theorem ic_bipush_11 : (Int8.ofInt (11)).toInt32 = (11 : Int32) := by decide
theorem ic_bipush_16 : (Int8.ofInt (16)).toInt32 = (16 : Int32) := by decide
theorem ic_bipush_32 : (Int8.ofInt (32)).toInt32 = (32 : Int32) := by decide
theorem ic_bipush_35 : (Int8.ofInt (35)).toInt32 = (35 : Int32) := by decide
theorem ic_bipush_45 : (Int8.ofInt (45)).toInt32 = (45 : Int32) := by decide
theorem ic_bipush_47 : (Int8.ofInt (47)).toInt32 = (47 : Int32) := by decide
theorem ic_bipush_48 : (Int8.ofInt (48)).toInt32 = (48 : Int32) := by decide
theorem ic_bipush_57 : (Int8.ofInt (57)).toInt32 = (57 : Int32) := by decide
theorem ic_bipush_59 : (Int8.ofInt (59)).toInt32 = (59 : Int32) := by decide
theorem ic_bipush_60 : (Int8.ofInt (60)).toInt32 = (60 : Int32) := by decide
theorem ic_bipush_63 : (Int8.ofInt (63)).toInt32 = (63 : Int32) := by decide
theorem ic_bipush_77 : (Int8.ofInt (77)).toInt32 = (77 : Int32) := by decide
theorem ic_bipush_80 : (Int8.ofInt (80)).toInt32 = (80 : Int32) := by decide
theorem ic_bipush_98 : (Int8.ofInt (98)).toInt32 = (98 : Int32) := by decide
theorem ic_bipush_99 : (Int8.ofInt (99)).toInt32 = (99 : Int32) := by decide
theorem ic_bipush_100 : (Int8.ofInt (100)).toInt32 = (100 : Int32) := by decide
theorem ic_bipush_107 : (Int8.ofInt (107)).toInt32 = (107 : Int32) := by decide
theorem ic_bipush_108 : (Int8.ofInt (108)).toInt32 = (108 : Int32) := by decide
theorem ic_bipush_112 : (Int8.ofInt (112)).toInt32 = (112 : Int32) := by decide
theorem ic_bipush_115 : (Int8.ofInt (115)).toInt32 = (115 : Int32) := by decide
theorem ic_bipush_116 : (Int8.ofInt (116)).toInt32 = (116 : Int32) := by decide
theorem ic_bipush_117 : (Int8.ofInt (117)).toInt32 = (117 : Int32) := by decide
theorem ic_bipush_119 : (Int8.ofInt (119)).toInt32 = (119 : Int32) := by decide
theorem ic_iconst_m1 : Int32.ofInt (-1) = (-1 : Int32) := by decide
theorem ic_iconst_0 : Int32.ofInt (0) = (0 : Int32) := by decide
theorem ic_iconst_1 : Int32.ofInt (1) = (1 : Int32) := by decide
theorem ic_iconst_2 : Int32.ofInt (2) = (2 : Int32) := by decide
theorem ic_iconst_3 : Int32.ofInt (3) = (3 : Int32) := by decide
theorem ic_iconst_4 : Int32.ofInt (4) = (4 : Int32) := by decide
theorem ic_iconst_5 : Int32.ofInt (5) = (5 : Int32) := by decide
theorem ic_sipush_177 : (Int16.ofInt (177)).toInt32 = (177 : Int32) := by decide
theorem ic_sipush_1239 : (Int16.ofInt (1239)).toInt32 = (1239 : Int32) := by decide
theorem tb_0_10 (x : Int32) : (x.toInt < 0 ∨ 10 < x.toInt) ∨ x.toInt = 0 ∨ x.toInt = 1 ∨ x.toInt = 2 ∨ x.toInt = 3 ∨ x.toInt = 4 ∨ x.toInt = 5 ∨ x.toInt = 6 ∨ x.toInt = 7 ∨ x.toInt = 8 ∨ x.toInt = 9 ∨ x.toInt = 10 := by omega
theorem tb_3_5 (x : Int32) : (x.toInt < 3 ∨ 5 < x.toInt) ∨ x.toInt = 3 ∨ x.toInt = 4 ∨ x.toInt = 5 := by omega
theorem tb_98_119 (x : Int32) : (x.toInt < 98 ∨ 119 < x.toInt) ∨ x.toInt = 98 ∨ x.toInt = 99 ∨ x.toInt = 100 ∨ x.toInt = 101 ∨ x.toInt = 102 ∨ x.toInt = 103 ∨ x.toInt = 104 ∨ x.toInt = 105 ∨ x.toInt = 106 ∨ x.toInt = 107 ∨ x.toInt = 108 ∨ x.toInt = 109 ∨ x.toInt = 110 ∨ x.toInt = 111 ∨ x.toInt = 112 ∨ x.toInt = 113 ∨ x.toInt = 114 ∨ x.toInt = 115 ∨ x.toInt = 116 ∨ x.toInt = 117 ∨ x.toInt = 118 ∨ x.toInt = 119 := by omega
