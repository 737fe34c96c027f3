abbrev d0c : UInt64 := FP.dconst0
abbrev f0c : UInt32 := FP.fconst0
section GWFL
variable {C : Cx} {X : List Cond} {cc : ByteArray} {Ts : List Cond} {own : String} {R0 : Room} {n0 : Nat} {ret : Option FieldType} {D0 : va_G} {G0 : Nat → ClassId} {l0 : Launch} {k n pc : Nat} {bs bs' : List va_W} {lv lv' : List (Nat × Value)} {st : List Value}
theorem gw_dconst0 (F : GF C X cc Ts own R0 n0 ret D0 G0 l0) (d : decode cc pc = .ok (.dconst 0, 1)) (K : GW C k n bs (pc + 1) lv (.double d0c :: st)) : GW C k n bs pc lv st := by
  obtain ⟨p, l, e, R, s, m, args, below, meth, c, A, D, G, Q, nL⟩ := C
  obtain ⟨hx, hb, -⟩ := F
  exact fun H locs ls hP hD hS hl => lv_dconst0 hx hb d (K H locs ls hP hD hS hl)
theorem gw_fconst0 (F : GF C X cc Ts own R0 n0 ret D0 G0 l0) (d : decode cc pc = .ok (.fconst 0, 1)) (K : GW C k n bs (pc + 1) lv (.float f0c :: st)) : GW C k n bs pc lv st := by
  obtain ⟨p, l, e, R, s, m, args, below, meth, c, A, D, G, Q, nL⟩ := C
  obtain ⟨hx, hb, -⟩ := F
  exact fun H locs ls hP hD hS hl => lv_fconst0 hx hb d (K H locs ls hP hD hS hl)
end GWFL

abbrev rm_X8_meanFits : Room := { frames := 6, cells := 0, slots := 0, locals := 171 }
def po_X8_meanFits (G : Nat → ClassId) (hMd : Nat) (qMd : Nat → Nat) (Q : UInt64 → OV → Prop) : Option Value → List va_W → Prop := fun o bs => ∃ (r : UInt64) (vMd : OV), o = some (.double r) ∧ bs = [bMd G hMd qMd vMd] ∧ Q r vMd
theorem hd_X8_meanFits : yX8_meanFits.cls = RX8 ∧ yX8_meanFits.cls ≠ "java/lang/invoke/MethodHandle" ∧ yX8_meanFits.cls ≠ "java/lang/invoke/VarHandle" ∧ (parseMethodDescriptor yX8_meanFits.desc).map (fun d => d.parameters.length) = some 0 := by decide +kernel
theorem in_X8_meanFits_RX8 : ∀ w ∈ wsX80, w ∈ wsX8_meanFits := fun w h => List.mem_cons_of_mem _ (List.mem_append_left _ (List.mem_append_right _ h))
theorem lk_X8_meanFits_7 : Cond.fieldLink RX8 7 "KeyWavesModel" "g" "[I" ∈ wsX8_meanFits := List.mem_cons_of_mem _ (List.mem_append_left _ (List.mem_append_left _ (List.mem_append_left _ (List.mem_of_getElem? (i := 0) rfl))))
def wp_X8_meanFits_15 (Q : UInt64 → OV → Prop) (s1 : Int32) (vMd : OV) : Prop :=
  (wp_X8_fails (fun (r_3 : Int32) (v_4 : OV) => ((r_3 = 0 → (wp_X8_pairs (fun (r_6 : Int32) => (vp_in (0 : Int32) 177 ∧ (vf_n64 (FP.ddiv (FP.i2d r_6) (FP.i2d (v_4.1 0 (0 : Int32).toNatClampNeg))) ∧ (Q (FP.ddiv (FP.i2d r_6) (FP.i2d (v_4.1 0 (0 : Int32).toNatClampNeg))) v_4)))) v_4)) ∧ (¬ (r_3 = 0) → (Q d0c v_4)))) s1 vMd)
set_option maxRecDepth 20000 in
theorem lb_X8_meanFits_15 {X : List Cond} {l : Launch} {D : va_G} {G : Nat → ClassId} {C : Cx} {bs0 : List va_W} {hMd : Nat} {qMd : Nat → Nat} {Q : UInt64 → OV → Prop} (F : GF C X cX8_meanFits wsX8_meanFits RX8 rm_X8_meanFits 1 (some .double) D G l) (E : GE C bs0 0 0 (po_X8_meanFits G hMd qMd Q)) {s1 : Int32} {vMd : OV} (hw : wp_X8_meanFits_15 Q s1 vMd) : GW C 0 0 [bMd G hMd qMd vMd] 15 [(0, .ref hMd)] [.int s1, .ref hMd] := by
  unfold wp_X8_meanFits_15 at hw
  refine gw_callV F (ct_X8_fails hw) 1 gX8_meanFits_X8_fails rfl rfl rfl hd_X8_fails ⟨(Nat.le_of_ble_eq_true rfl), (Nat.le_of_ble_eq_true rfl)⟩ rfl rfl (Nat.le_of_ble_eq_true rfl) ⟨Nat.zero_le _, Nat.zero_le _⟩ [0] (bsr := []) rfl rfl (q0 := 0) rfl rfl dX8_meanFits_15 ?_
  rintro _ _ ⟨r_3, v_4, rfl, rfl, hw⟩
  refine gw_sel [0] (bs' := [bMd G hMd qMd v_4]) rfl rfl ?_
  change GW C 0 0 _ 18 _ [.int r_3]
  refine gw_if_eq (tgt := 25) F dX8_meanFits_18 (by decide) (fun c_5 => ?_) (fun c_5 => ?_)
  · have hw := hw.1 c_5
    refine gw_aload_n F dX8_meanFits_25 0 rfl ?_
    refine gw_callV F (ct_X8_pairs hw) 0 gX8_meanFits_X8_pairs rfl rfl rfl hd_X8_pairs ⟨(Nat.le_of_ble_eq_true rfl), (Nat.le_of_ble_eq_true rfl)⟩ rfl rfl (Nat.le_of_ble_eq_true rfl) ⟨Nat.zero_le _, Nat.zero_le _⟩ [0] (bsr := []) rfl rfl (q0 := 0) rfl rfl dX8_meanFits_26 ?_
    rintro _ _ ⟨r_6, rfl, rfl, hw⟩
    refine gw_sel [0] (bs' := [bMd G hMd qMd v_4]) rfl rfl ?_
    change GW C 0 0 _ 29 _ [.int r_6]
    refine gw_i2d F dX8_meanFits_29 ?_
    refine gw_aload_n F dX8_meanFits_30 0 rfl ?_
    refine gw_get F in_X8_meanFits_RX8 0 rfl rfl 0 (by decide) lk_X8_meanFits_7 rfl dX8_meanFits_31 ?_
    refine gw_iconst (v := (0 : Int32)) F dX8_meanFits_34 ic_iconst_0 ?_
    obtain ⟨h_7, hw⟩ := hw
    refine gw_iald F 1 rfl h_7 dX8_meanFits_35 ?_
    refine gw_i2d F dX8_meanFits_36 ?_
    obtain ⟨h_8, hw⟩ := hw
    refine gw_ddiv F dX8_meanFits_37 h_8 ?_
    exact gw_dret F E rfl (Nat.le_of_ble_eq_true rfl) (Nat.le_of_ble_eq_true rfl) dX8_meanFits_38 ⟨_, _, rfl, rfl, hw⟩
  · have hw := hw.2 c_5
    refine gw_dconst0 F dX8_meanFits_21 ?_
    refine gw_goto (tgt := 38) F dX8_meanFits_22 (by decide) ?_
    exact gw_dret F E rfl (Nat.le_of_ble_eq_true rfl) (Nat.le_of_ble_eq_true rfl) dX8_meanFits_38 ⟨_, _, rfl, rfl, hw⟩
def wp_X8_meanFits_0 (Q : UInt64 → OV → Prop) (vMd : OV) : Prop :=
  (vp_in (0 : Int32) 177 ∧ ((¬ (vMd.1 0 (0 : Int32).toNatClampNeg) = 0 → (wp_X8_meanFits_15 Q (0 : Int32) vMd)) ∧ ((vMd.1 0 (0 : Int32).toNatClampNeg) = 0 → (wp_X8_meanFits_15 Q (1 : Int32) vMd))))
set_option maxRecDepth 20000 in
theorem lb_X8_meanFits_0 {X : List Cond} {l : Launch} {D : va_G} {G : Nat → ClassId} {C : Cx} {bs0 : List va_W} {hMd : Nat} {qMd : Nat → Nat} {Q : UInt64 → OV → Prop} (F : GF C X cX8_meanFits wsX8_meanFits RX8 rm_X8_meanFits 1 (some .double) D G l) (E : GE C bs0 0 0 (po_X8_meanFits G hMd qMd Q)) {vMd : OV} (hw : wp_X8_meanFits_0 Q vMd) : GW C 0 0 [bMd G hMd qMd vMd] 0 [(0, .ref hMd)] [] := by
  unfold wp_X8_meanFits_0 at hw
  refine gw_aload_n F dX8_meanFits_0 0 rfl ?_
  refine gw_aload_n F dX8_meanFits_1 0 rfl ?_
  refine gw_get F in_X8_meanFits_RX8 0 rfl rfl 0 (by decide) lk_X8_meanFits_7 rfl dX8_meanFits_2 ?_
  refine gw_iconst (v := (0 : Int32)) F dX8_meanFits_5 ic_iconst_0 ?_
  obtain ⟨h_1, hw⟩ := hw
  refine gw_iald F 1 rfl h_1 dX8_meanFits_6 ?_
  refine gw_if_ne (tgt := 14) F dX8_meanFits_7 (by decide) (fun c_2 => ?_) (fun c_2 => ?_)
  · have hw := hw.1 c_2
    refine gw_iconst (v := (0 : Int32)) F dX8_meanFits_14 ic_iconst_0 ?_
    exact lb_X8_meanFits_15 F E hw
  · have hw := hw.2 c_2
    refine gw_iconst (v := (1 : Int32)) F dX8_meanFits_10 ic_iconst_1 ?_
    refine gw_goto (tgt := 15) F dX8_meanFits_11 (by decide) ?_
    exact lb_X8_meanFits_15 F E hw
def wp_X8_meanFits (Q : UInt64 → OV → Prop) (vMd : OV) : Prop := wp_X8_meanFits_0 Q vMd
theorem ct_X8_meanFits {X : List Cond} {l : Launch} {D : va_G} {G : Nat → ClassId} {hMd : Nat} {qMd : Nat → Nat} {Q : UInt64 → OV → Prop} {vMd : OV} (hw : wp_X8_meanFits Q vMd) : CM X l yX8_meanFits wsX8_meanFits rm_X8_meanFits D G [.ref hMd] [bMd G hMd qMd vMd] 0 0 (po_X8_meanFits G hMd qMd Q) :=
  CM.of pn_RX8 rfl rfl (Nat.le_of_ble_eq_true rfl) rfl (fun C F E => lb_X8_meanFits_0 F E hw)
abbrev rm_X8_openShare : Room := { frames := 3, cells := 0, slots := 0, locals := 104 }
def po_X8_openShare (G : Nat → ClassId) (hMd : Nat) (qMd : Nat → Nat) (Q : UInt32 → OV → Prop) : Option Value → List va_W → Prop := fun o bs => ∃ (r : UInt32) (vMd : OV), o = some (.float r) ∧ bs = [bMd G hMd qMd vMd] ∧ Q r vMd
theorem hd_X8_openShare : yX8_openShare.cls = RX8 ∧ yX8_openShare.cls ≠ "java/lang/invoke/MethodHandle" ∧ yX8_openShare.cls ≠ "java/lang/invoke/VarHandle" ∧ (parseMethodDescriptor yX8_openShare.desc).map (fun d => d.parameters.length) = some 0 := by decide +kernel
theorem in_X8_openShare_RX8 : ∀ w ∈ wsX80, w ∈ wsX8_openShare := fun w h => List.mem_cons_of_mem _ (List.mem_append_left _ (List.mem_append_right _ h))
theorem lk_X8_openShare_7 : Cond.fieldLink RX8 7 "KeyWavesModel" "g" "[I" ∈ wsX8_openShare := List.mem_cons_of_mem _ (List.mem_append_left _ (List.mem_append_left _ (List.mem_of_getElem? (i := 0) rfl)))
def wp_X8_openShare_15 (Q : UInt32 → OV → Prop) (s1 : Int32) (vMd : OV) : Prop :=
  (wp_X8_fails (fun (r_3 : Int32) (v_4 : OV) => ((r_3 = 0 → (wp_X8_openMany (fun (r_6 : Int32) => (vp_in (1 : Int32) 177 ∧ (vf_n32 (FP.fdiv (FP.i2f r_6) (FP.i2f (v_4.1 0 (1 : Int32).toNatClampNeg))) ∧ (Q (FP.fdiv (FP.i2f r_6) (FP.i2f (v_4.1 0 (1 : Int32).toNatClampNeg))) v_4)))) v_4)) ∧ (¬ (r_3 = 0) → (Q f0c v_4)))) s1 vMd)
set_option maxRecDepth 20000 in
theorem lb_X8_openShare_15 {X : List Cond} {l : Launch} {D : va_G} {G : Nat → ClassId} {C : Cx} {bs0 : List va_W} {hMd : Nat} {qMd : Nat → Nat} {Q : UInt32 → OV → Prop} (F : GF C X cX8_openShare wsX8_openShare RX8 rm_X8_openShare 1 (some .float) D G l) (E : GE C bs0 0 0 (po_X8_openShare G hMd qMd Q)) {s1 : Int32} {vMd : OV} (hw : wp_X8_openShare_15 Q s1 vMd) : GW C 0 0 [bMd G hMd qMd vMd] 15 [(0, .ref hMd)] [.int s1, .ref hMd] := by
  unfold wp_X8_openShare_15 at hw
  refine gw_callV F (ct_X8_fails hw) 1 gX8_openShare_X8_fails rfl rfl rfl hd_X8_fails ⟨(Nat.le_of_ble_eq_true rfl), (Nat.le_of_ble_eq_true rfl)⟩ rfl rfl (Nat.le_of_ble_eq_true rfl) ⟨Nat.zero_le _, Nat.zero_le _⟩ [0] (bsr := []) rfl rfl (q0 := 0) rfl rfl dX8_openShare_15 ?_
  rintro _ _ ⟨r_3, v_4, rfl, rfl, hw⟩
  refine gw_sel [0] (bs' := [bMd G hMd qMd v_4]) rfl rfl ?_
  change GW C 0 0 _ 18 _ [.int r_3]
  refine gw_if_eq (tgt := 25) F dX8_openShare_18 (by decide) (fun c_5 => ?_) (fun c_5 => ?_)
  · have hw := hw.1 c_5
    refine gw_aload_n F dX8_openShare_25 0 rfl ?_
    refine gw_callV F (ct_X8_openMany hw) 0 gX8_openShare_X8_openMany rfl rfl rfl hd_X8_openMany ⟨(Nat.le_of_ble_eq_true rfl), (Nat.le_of_ble_eq_true rfl)⟩ rfl rfl (Nat.le_of_ble_eq_true rfl) ⟨Nat.zero_le _, Nat.zero_le _⟩ [0] (bsr := []) rfl rfl (q0 := 0) rfl rfl dX8_openShare_26 ?_
    rintro _ _ ⟨r_6, rfl, rfl, hw⟩
    refine gw_sel [0] (bs' := [bMd G hMd qMd v_4]) rfl rfl ?_
    change GW C 0 0 _ 29 _ [.int r_6]
    refine gw_i2f F dX8_openShare_29 ?_
    refine gw_aload_n F dX8_openShare_30 0 rfl ?_
    refine gw_get F in_X8_openShare_RX8 0 rfl rfl 0 (by decide) lk_X8_openShare_7 rfl dX8_openShare_31 ?_
    refine gw_iconst (v := (1 : Int32)) F dX8_openShare_34 ic_iconst_1 ?_
    obtain ⟨h_7, hw⟩ := hw
    refine gw_iald F 1 rfl h_7 dX8_openShare_35 ?_
    refine gw_i2f F dX8_openShare_36 ?_
    obtain ⟨h_8, hw⟩ := hw
    refine gw_fdiv F dX8_openShare_37 h_8 ?_
    exact gw_fret F E rfl (Nat.le_of_ble_eq_true rfl) (Nat.le_of_ble_eq_true rfl) dX8_openShare_38 ⟨_, _, rfl, rfl, hw⟩
  · have hw := hw.2 c_5
    refine gw_fconst0 F dX8_openShare_21 ?_
    refine gw_goto (tgt := 38) F dX8_openShare_22 (by decide) ?_
    exact gw_fret F E rfl (Nat.le_of_ble_eq_true rfl) (Nat.le_of_ble_eq_true rfl) dX8_openShare_38 ⟨_, _, rfl, rfl, hw⟩
def wp_X8_openShare_0 (Q : UInt32 → OV → Prop) (vMd : OV) : Prop :=
  (vp_in (1 : Int32) 177 ∧ ((¬ (vMd.1 0 (1 : Int32).toNatClampNeg) = 0 → (wp_X8_openShare_15 Q (0 : Int32) vMd)) ∧ ((vMd.1 0 (1 : Int32).toNatClampNeg) = 0 → (wp_X8_openShare_15 Q (1 : Int32) vMd))))
set_option maxRecDepth 20000 in
theorem lb_X8_openShare_0 {X : List Cond} {l : Launch} {D : va_G} {G : Nat → ClassId} {C : Cx} {bs0 : List va_W} {hMd : Nat} {qMd : Nat → Nat} {Q : UInt32 → OV → Prop} (F : GF C X cX8_openShare wsX8_openShare RX8 rm_X8_openShare 1 (some .float) D G l) (E : GE C bs0 0 0 (po_X8_openShare G hMd qMd Q)) {vMd : OV} (hw : wp_X8_openShare_0 Q vMd) : GW C 0 0 [bMd G hMd qMd vMd] 0 [(0, .ref hMd)] [] := by
  unfold wp_X8_openShare_0 at hw
  refine gw_aload_n F dX8_openShare_0 0 rfl ?_
  refine gw_aload_n F dX8_openShare_1 0 rfl ?_
  refine gw_get F in_X8_openShare_RX8 0 rfl rfl 0 (by decide) lk_X8_openShare_7 rfl dX8_openShare_2 ?_
  refine gw_iconst (v := (1 : Int32)) F dX8_openShare_5 ic_iconst_1 ?_
  obtain ⟨h_1, hw⟩ := hw
  refine gw_iald F 1 rfl h_1 dX8_openShare_6 ?_
  refine gw_if_ne (tgt := 14) F dX8_openShare_7 (by decide) (fun c_2 => ?_) (fun c_2 => ?_)
  · have hw := hw.1 c_2
    refine gw_iconst (v := (0 : Int32)) F dX8_openShare_14 ic_iconst_0 ?_
    exact lb_X8_openShare_15 F E hw
  · have hw := hw.2 c_2
    refine gw_iconst (v := (1 : Int32)) F dX8_openShare_10 ic_iconst_1 ?_
    refine gw_goto (tgt := 15) F dX8_openShare_11 (by decide) ?_
    exact lb_X8_openShare_15 F E hw
def wp_X8_openShare (Q : UInt32 → OV → Prop) (vMd : OV) : Prop := wp_X8_openShare_0 Q vMd
theorem ct_X8_openShare {X : List Cond} {l : Launch} {D : va_G} {G : Nat → ClassId} {hMd : Nat} {qMd : Nat → Nat} {Q : UInt32 → OV → Prop} {vMd : OV} (hw : wp_X8_openShare Q vMd) : CM X l yX8_openShare wsX8_openShare rm_X8_openShare D G [.ref hMd] [bMd G hMd qMd vMd] 0 0 (po_X8_openShare G hMd qMd Q) :=
  CM.of pn_RX8 rfl rfl (Nat.le_of_ble_eq_true rfl) rfl (fun C F E => lb_X8_openShare_0 F E hw)
