-- J6_bitCount_0f7a4
abbrev rm_J6_bitCount_0f7a4 : Room := { frames := 1, cells := 0, slots := 0, locals := 60 }
def po_J6_bitCount_0f7a4 (G : Nat → ClassId) (Q : Int32 → Prop) : Option Value → List va_W → Prop := fun o bs => ∃ (r : Int32), o = some (.int r) ∧ bs = [] ∧ Q r
theorem hd_J6_bitCount_0f7a4 : yJ6_bitCount_0f7a4.cls ≠ "java/lang/invoke/MethodHandle" ∧ yJ6_bitCount_0f7a4.cls ≠ "java/lang/invoke/VarHandle" ∧ (parseMethodDescriptor yJ6_bitCount_0f7a4.desc).map (fun d => d.parameters.length) = some 1 := by decide +kernel
theorem wd_J6_bitCount_0f7a4_0 : Cond.constant RJ6 265 (1431655765 : Int32) ∈ wsJ6_bitCount_0f7a4 := List.mem_cons_of_mem _ (List.mem_of_getElem? (i := 0) rfl)
theorem wd_J6_bitCount_0f7a4_1 : Cond.constant RJ6 266 (858993459 : Int32) ∈ wsJ6_bitCount_0f7a4 := List.mem_cons_of_mem _ (List.mem_of_getElem? (i := 1) rfl)
theorem wd_J6_bitCount_0f7a4_2 : Cond.constant RJ6 267 (252645135 : Int32) ∈ wsJ6_bitCount_0f7a4 := List.mem_cons_of_mem _ (List.mem_of_getElem? (i := 2) rfl)
def wp_J6_bitCount_0f7a4_0 (Q : Int32 → Prop) (x0 : Int32) : Prop :=
  (∀ i_1 : Int32, i_1 = (x0 - ((ushr x0 (1 : Int32)) &&& (1431655765 : Int32))) → (∀ i_2 : Int32, i_2 = ((i_1 &&& (858993459 : Int32)) + ((ushr i_1 (2 : Int32)) &&& (858993459 : Int32))) → (∀ i_3 : Int32, i_3 = ((i_2 + (ushr i_2 (4 : Int32))) &&& (252645135 : Int32)) → (∀ i_4 : Int32, i_4 = (i_3 + (ushr i_3 (8 : Int32))) → (∀ i_5 : Int32, i_5 = (i_4 + (ushr i_4 (16 : Int32))) → (Q (i_5 &&& (63 : Int32))))))))
set_option maxRecDepth 20000 in
theorem lb_J6_bitCount_0f7a4_0 {X : List Cond} {l : Launch} {D : va_G} {G : Nat → ClassId} {C : Cx} {bs0 : List va_W} {Q : Int32 → Prop} (F : GF C X cJ6_bitCount_0f7a4 wsJ6_bitCount_0f7a4 RJ6 rm_J6_bitCount_0f7a4 1 (some .int) D G l) (E : GE C bs0 0 0 (po_J6_bitCount_0f7a4 G Q)) {x0 : Int32} (hw : wp_J6_bitCount_0f7a4_0 Q x0) : GW C 0 0 [] 0 [(0, .int x0)] [] := by
  unfold wp_J6_bitCount_0f7a4_0 at hw
  refine gw_iload_n F dJ6_bitCount_0f7a4_0 0 rfl ?_
  refine gw_iload_n F dJ6_bitCount_0f7a4_1 0 rfl ?_
  refine gw_iconst (v := (1 : Int32)) F dJ6_bitCount_0f7a4_2 ic_iconst_1 ?_
  refine gw_iushr F dJ6_bitCount_0f7a4_3 ?_
  refine gw_ldcw (v := (1431655765 : Int32)) F wd_J6_bitCount_0f7a4_0 dJ6_bitCount_0f7a4_4 ?_
  refine gw_iand F dJ6_bitCount_0f7a4_7 ?_
  refine gw_isub F dJ6_bitCount_0f7a4_8 ?_
  refine gw_topi (fun i_1 e_i_1 => ?_)
  have hw := hw i_1 e_i_1
  refine gw_istore_n (lv' := [(0, .int i_1)]) F dJ6_bitCount_0f7a4_9 (by decide) rfl ?_
  refine gw_iload_n F dJ6_bitCount_0f7a4_10 0 rfl ?_
  refine gw_ldcw (v := (858993459 : Int32)) F wd_J6_bitCount_0f7a4_1 dJ6_bitCount_0f7a4_11 ?_
  refine gw_iand F dJ6_bitCount_0f7a4_14 ?_
  refine gw_iload_n F dJ6_bitCount_0f7a4_15 0 rfl ?_
  refine gw_iconst (v := (2 : Int32)) F dJ6_bitCount_0f7a4_16 ic_iconst_2 ?_
  refine gw_iushr F dJ6_bitCount_0f7a4_17 ?_
  refine gw_ldcw (v := (858993459 : Int32)) F wd_J6_bitCount_0f7a4_1 dJ6_bitCount_0f7a4_18 ?_
  refine gw_iand F dJ6_bitCount_0f7a4_21 ?_
  refine gw_iadd F dJ6_bitCount_0f7a4_22 ?_
  refine gw_topi (fun i_2 e_i_2 => ?_)
  have hw := hw i_2 e_i_2
  refine gw_istore_n (lv' := [(0, .int i_2)]) F dJ6_bitCount_0f7a4_23 (by decide) rfl ?_
  refine gw_iload_n F dJ6_bitCount_0f7a4_24 0 rfl ?_
  refine gw_iload_n F dJ6_bitCount_0f7a4_25 0 rfl ?_
  refine gw_iconst (v := (4 : Int32)) F dJ6_bitCount_0f7a4_26 ic_iconst_4 ?_
  refine gw_iushr F dJ6_bitCount_0f7a4_27 ?_
  refine gw_iadd F dJ6_bitCount_0f7a4_28 ?_
  refine gw_ldcw (v := (252645135 : Int32)) F wd_J6_bitCount_0f7a4_2 dJ6_bitCount_0f7a4_29 ?_
  refine gw_iand F dJ6_bitCount_0f7a4_32 ?_
  refine gw_topi (fun i_3 e_i_3 => ?_)
  have hw := hw i_3 e_i_3
  refine gw_istore_n (lv' := [(0, .int i_3)]) F dJ6_bitCount_0f7a4_33 (by decide) rfl ?_
  refine gw_iload_n F dJ6_bitCount_0f7a4_34 0 rfl ?_
  refine gw_iload_n F dJ6_bitCount_0f7a4_35 0 rfl ?_
  refine gw_bipush (v := (8 : Int32)) F dJ6_bitCount_0f7a4_36 ic_bipush_8 ?_
  refine gw_iushr F dJ6_bitCount_0f7a4_38 ?_
  refine gw_iadd F dJ6_bitCount_0f7a4_39 ?_
  refine gw_topi (fun i_4 e_i_4 => ?_)
  have hw := hw i_4 e_i_4
  refine gw_istore_n (lv' := [(0, .int i_4)]) F dJ6_bitCount_0f7a4_40 (by decide) rfl ?_
  refine gw_iload_n F dJ6_bitCount_0f7a4_41 0 rfl ?_
  refine gw_iload_n F dJ6_bitCount_0f7a4_42 0 rfl ?_
  refine gw_bipush (v := (16 : Int32)) F dJ6_bitCount_0f7a4_43 ic_bipush_16 ?_
  refine gw_iushr F dJ6_bitCount_0f7a4_45 ?_
  refine gw_iadd F dJ6_bitCount_0f7a4_46 ?_
  refine gw_topi (fun i_5 e_i_5 => ?_)
  have hw := hw i_5 e_i_5
  refine gw_istore_n (lv' := [(0, .int i_5)]) F dJ6_bitCount_0f7a4_47 (by decide) rfl ?_
  refine gw_iload_n F dJ6_bitCount_0f7a4_48 0 rfl ?_
  refine gw_bipush (v := (63 : Int32)) F dJ6_bitCount_0f7a4_49 ic_bipush_63 ?_
  refine gw_iand F dJ6_bitCount_0f7a4_51 ?_
  exact gw_iret F E rfl rfl (Nat.le_of_ble_eq_true rfl) (Nat.le_of_ble_eq_true rfl) dJ6_bitCount_0f7a4_52 ⟨_, rfl, rfl, hw⟩
def wp_J6_bitCount_0f7a4 (Q : Int32 → Prop) (x0 : Int32) : Prop := wp_J6_bitCount_0f7a4_0 Q x0
theorem ct_J6_bitCount_0f7a4 {X : List Cond} {l : Launch} {D : va_G} {G : Nat → ClassId} {Q : Int32 → Prop} {x0 : Int32} (hw : wp_J6_bitCount_0f7a4 Q x0) : CM X l yJ6_bitCount_0f7a4 wsJ6_bitCount_0f7a4 rm_J6_bitCount_0f7a4 D G [.int x0] [] 0 0 (po_J6_bitCount_0f7a4 G Q) :=
  CM.of pn_RJ6 rfl rfl (Nat.le_of_ble_eq_true rfl) rfl (fun C F E => lb_J6_bitCount_0f7a4_0 F E hw)
-- X7_isSet
abbrev rm_X7_isSet : Room := { frames := 1, cells := 0, slots := 0, locals := 60 }
def po_X7_isSet (G : Nat → ClassId) (Q : Int32 → Prop) : Option Value → List va_W → Prop := fun o bs => ∃ (r : Int32), o = some (.int r) ∧ bs = [] ∧ Q r
theorem hd_X7_isSet : yX7_isSet.cls ≠ "java/lang/invoke/MethodHandle" ∧ yX7_isSet.cls ≠ "java/lang/invoke/VarHandle" ∧ (parseMethodDescriptor yX7_isSet.desc).map (fun d => d.parameters.length) = some 1 := by decide +kernel
def wp_X7_isSet_15 (Q : Int32 → Prop) (s0 : Int32) : Prop :=
  (narrow .boolean (.int s0) = .int s0 ∧ Q s0)
set_option maxRecDepth 20000 in
theorem lb_X7_isSet_15 {X : List Cond} {l : Launch} {D : va_G} {G : Nat → ClassId} {C : Cx} {bs0 : List va_W} {Q : Int32 → Prop} (F : GF C X cX7_isSet wsX7_isSet RX7 rm_X7_isSet 1 (some .boolean) D G l) (E : GE C bs0 0 0 (po_X7_isSet G Q)) {s0 : Int32} (hw : wp_X7_isSet_15 Q s0) : GW C 0 0 [] 15 [] [.int s0] := by
  unfold wp_X7_isSet_15 at hw
  obtain ⟨hn, hw⟩ := hw
  exact gw_iret F E rfl hn (Nat.le_of_ble_eq_true rfl) (Nat.le_of_ble_eq_true rfl) dX7_isSet_15 ⟨_, rfl, rfl, hw⟩
def wp_X7_isSet_14 (Q : Int32 → Prop) : Prop :=
  (wp_X7_isSet_15 Q (0 : Int32))
set_option maxRecDepth 20000 in
theorem lb_X7_isSet_14 {X : List Cond} {l : Launch} {D : va_G} {G : Nat → ClassId} {C : Cx} {bs0 : List va_W} {Q : Int32 → Prop} (F : GF C X cX7_isSet wsX7_isSet RX7 rm_X7_isSet 1 (some .boolean) D G l) (E : GE C bs0 0 0 (po_X7_isSet G Q)) (hw : wp_X7_isSet_14 Q ) : GW C 0 0 [] 14 [] [] := by
  unfold wp_X7_isSet_14 at hw
  refine gw_iconst (v := (0 : Int32)) F dX7_isSet_14 ic_iconst_0 ?_
  exact lb_X7_isSet_15 F E hw
def wp_X7_isSet_0 (Q : Int32 → Prop) (x0 : Int32) : Prop :=
  ((x0 < 0 → (wp_X7_isSet_14 Q)) ∧ (¬ (x0 < 0) → (((63 : Int32) < x0 → (wp_X7_isSet_14 Q)) ∧ (¬ ((63 : Int32) < x0) → (wp_X7_isSet_15 Q (1 : Int32))))))
set_option maxRecDepth 20000 in
theorem lb_X7_isSet_0 {X : List Cond} {l : Launch} {D : va_G} {G : Nat → ClassId} {C : Cx} {bs0 : List va_W} {Q : Int32 → Prop} (F : GF C X cX7_isSet wsX7_isSet RX7 rm_X7_isSet 1 (some .boolean) D G l) (E : GE C bs0 0 0 (po_X7_isSet G Q)) {x0 : Int32} (hw : wp_X7_isSet_0 Q x0) : GW C 0 0 [] 0 [(0, .int x0)] [] := by
  unfold wp_X7_isSet_0 at hw
  refine gw_iload_n F dX7_isSet_0 0 rfl ?_
  refine gw_if_lt (tgt := 14) F dX7_isSet_1 (by decide) (fun c_1 => ?_) (fun c_1 => ?_)
  · have hw := hw.1 c_1
    refine gw_lv [] rfl ?_
    exact lb_X7_isSet_14 F E hw
  · have hw := hw.2 c_1
    refine gw_iload_n F dX7_isSet_4 0 rfl ?_
    refine gw_bipush (v := (63 : Int32)) F dX7_isSet_5 ic_bipush_63 ?_
    refine gw_icmp_gt (tgt := 14) F dX7_isSet_7 (by decide) (fun c_2 => ?_) (fun c_2 => ?_)
    · have hw := hw.1 c_2
      refine gw_lv [] rfl ?_
      exact lb_X7_isSet_14 F E hw
    · have hw := hw.2 c_2
      refine gw_iconst (v := (1 : Int32)) F dX7_isSet_10 ic_iconst_1 ?_
      refine gw_goto (tgt := 15) F dX7_isSet_11 (by decide) ?_
      refine gw_lv [] rfl ?_
      exact lb_X7_isSet_15 F E hw
def wp_X7_isSet (Q : Int32 → Prop) (x0 : Int32) : Prop := wp_X7_isSet_0 Q x0
theorem ct_X7_isSet {X : List Cond} {l : Launch} {D : va_G} {G : Nat → ClassId} {Q : Int32 → Prop} {x0 : Int32} (hw : wp_X7_isSet Q x0) : CM X l yX7_isSet wsX7_isSet rm_X7_isSet D G [.int x0] [] 0 0 (po_X7_isSet G Q) :=
  CM.of pn_RX7 rfl rfl (Nat.le_of_ble_eq_true rfl) rfl (fun C F E => lb_X7_isSet_0 F E hw)
-- X7_isPorter
abbrev rm_X7_isPorter : Room := { frames := 1, cells := 0, slots := 0, locals := 60 }
def po_X7_isPorter (G : Nat → ClassId) (Q : Int32 → Prop) : Option Value → List va_W → Prop := fun o bs => ∃ (r : Int32), o = some (.int r) ∧ bs = [] ∧ Q r
theorem hd_X7_isPorter : yX7_isPorter.cls ≠ "java/lang/invoke/MethodHandle" ∧ yX7_isPorter.cls ≠ "java/lang/invoke/VarHandle" ∧ (parseMethodDescriptor yX7_isPorter.desc).map (fun d => d.parameters.length) = some 1 := by decide +kernel
def wp_X7_isPorter_14 (Q : Int32 → Prop) (s0 : Int32) : Prop :=
  (narrow .boolean (.int s0) = .int s0 ∧ Q s0)
set_option maxRecDepth 20000 in
theorem lb_X7_isPorter_14 {X : List Cond} {l : Launch} {D : va_G} {G : Nat → ClassId} {C : Cx} {bs0 : List va_W} {Q : Int32 → Prop} (F : GF C X cX7_isPorter wsX7_isPorter RX7 rm_X7_isPorter 1 (some .boolean) D G l) (E : GE C bs0 0 0 (po_X7_isPorter G Q)) {s0 : Int32} (hw : wp_X7_isPorter_14 Q s0) : GW C 0 0 [] 14 [] [.int s0] := by
  unfold wp_X7_isPorter_14 at hw
  obtain ⟨hn, hw⟩ := hw
  exact gw_iret F E rfl hn (Nat.le_of_ble_eq_true rfl) (Nat.le_of_ble_eq_true rfl) dX7_isPorter_14 ⟨_, rfl, rfl, hw⟩
def wp_X7_isPorter_13 (Q : Int32 → Prop) : Prop :=
  (wp_X7_isPorter_14 Q (0 : Int32))
set_option maxRecDepth 20000 in
theorem lb_X7_isPorter_13 {X : List Cond} {l : Launch} {D : va_G} {G : Nat → ClassId} {C : Cx} {bs0 : List va_W} {Q : Int32 → Prop} (F : GF C X cX7_isPorter wsX7_isPorter RX7 rm_X7_isPorter 1 (some .boolean) D G l) (E : GE C bs0 0 0 (po_X7_isPorter G Q)) (hw : wp_X7_isPorter_13 Q ) : GW C 0 0 [] 13 [] [] := by
  unfold wp_X7_isPorter_13 at hw
  refine gw_iconst (v := (0 : Int32)) F dX7_isPorter_13 ic_iconst_0 ?_
  exact lb_X7_isPorter_14 F E hw
def wp_X7_isPorter_0 (Q : Int32 → Prop) (x0 : Int32) : Prop :=
  ((x0 < 0 → (wp_X7_isPorter_13 Q)) ∧ (¬ (x0 < 0) → (((4 : Int32) ≤ x0 → (wp_X7_isPorter_13 Q)) ∧ (¬ ((4 : Int32) ≤ x0) → (wp_X7_isPorter_14 Q (1 : Int32))))))
set_option maxRecDepth 20000 in
theorem lb_X7_isPorter_0 {X : List Cond} {l : Launch} {D : va_G} {G : Nat → ClassId} {C : Cx} {bs0 : List va_W} {Q : Int32 → Prop} (F : GF C X cX7_isPorter wsX7_isPorter RX7 rm_X7_isPorter 1 (some .boolean) D G l) (E : GE C bs0 0 0 (po_X7_isPorter G Q)) {x0 : Int32} (hw : wp_X7_isPorter_0 Q x0) : GW C 0 0 [] 0 [(0, .int x0)] [] := by
  unfold wp_X7_isPorter_0 at hw
  refine gw_iload_n F dX7_isPorter_0 0 rfl ?_
  refine gw_if_lt (tgt := 13) F dX7_isPorter_1 (by decide) (fun c_1 => ?_) (fun c_1 => ?_)
  · have hw := hw.1 c_1
    refine gw_lv [] rfl ?_
    exact lb_X7_isPorter_13 F E hw
  · have hw := hw.2 c_1
    refine gw_iload_n F dX7_isPorter_4 0 rfl ?_
    refine gw_iconst (v := (4 : Int32)) F dX7_isPorter_5 ic_iconst_4 ?_
    refine gw_icmp_ge (tgt := 13) F dX7_isPorter_6 (by decide) (fun c_2 => ?_) (fun c_2 => ?_)
    · have hw := hw.1 c_2
      refine gw_lv [] rfl ?_
      exact lb_X7_isPorter_13 F E hw
    · have hw := hw.2 c_2
      refine gw_iconst (v := (1 : Int32)) F dX7_isPorter_9 ic_iconst_1 ?_
      refine gw_goto (tgt := 14) F dX7_isPorter_10 (by decide) ?_
      refine gw_lv [] rfl ?_
      exact lb_X7_isPorter_14 F E hw
def wp_X7_isPorter (Q : Int32 → Prop) (x0 : Int32) : Prop := wp_X7_isPorter_0 Q x0
theorem ct_X7_isPorter {X : List Cond} {l : Launch} {D : va_G} {G : Nat → ClassId} {Q : Int32 → Prop} {x0 : Int32} (hw : wp_X7_isPorter Q x0) : CM X l yX7_isPorter wsX7_isPorter rm_X7_isPorter D G [.int x0] [] 0 0 (po_X7_isPorter G Q) :=
  CM.of pn_RX7 rfl rfl (Nat.le_of_ble_eq_true rfl) rfl (fun C F E => lb_X7_isPorter_0 F E hw)
-- X5_refuse
abbrev rm_X5_refuse : Room := { frames := 1, cells := 0, slots := 0, locals := 60 }
def po_X5_refuse (G : Nat → ClassId) (hRf : Nat) (qRf : Nat → Nat) (Q : Int32 → OV → Prop) : Option Value → List va_W → Prop := fun o bs => ∃ (r : Int32) (vRf : OV), o = some (.int r) ∧ bs = [bRf G hRf qRf vRf] ∧ Q r vRf
theorem hd_X5_refuse : yX5_refuse.cls = RX5 ∧ yX5_refuse.cls ≠ "java/lang/invoke/MethodHandle" ∧ yX5_refuse.cls ≠ "java/lang/invoke/VarHandle" ∧ (parseMethodDescriptor yX5_refuse.desc).map (fun d => d.parameters.length) = some 2 := by decide +kernel
theorem in_X5_refuse_RX5 : ∀ w ∈ wsX50, w ∈ wsX5_refuse := fun w h => List.mem_cons_of_mem _ (List.mem_append_right _ h)
theorem lk_X5_refuse_9 : Cond.fieldLink RX5 9 "KeyWaves$Refusal" "reason" "I" ∈ wsX5_refuse := List.mem_cons_of_mem _ (List.mem_append_left _ (List.mem_of_getElem? (i := 0) rfl))
theorem lk_X5_refuse_15 : Cond.fieldLink RX5 15 "KeyWaves$Refusal" "detail" "I" ∈ wsX5_refuse := List.mem_cons_of_mem _ (List.mem_append_left _ (List.mem_of_getElem? (i := 1) rfl))
def wp_X5_refuse_0 (Q : Int32 → OV → Prop) (x1 : Int32) (x2 : Int32) (vRf : OV) : Prop :=
  (∀ v_1 : OV, v_1 = sI vRf 0 x1 → (∀ v_2 : OV, v_2 = sI v_1 1 x2 → (Q (-1 : Int32) v_2)))
set_option maxRecDepth 20000 in
theorem lb_X5_refuse_0 {X : List Cond} {l : Launch} {D : va_G} {G : Nat → ClassId} {C : Cx} {bs0 : List va_W} {hRf : Nat} {qRf : Nat → Nat} {Q : Int32 → OV → Prop} (F : GF C X cX5_refuse wsX5_refuse RX5 rm_X5_refuse 3 (some .int) D G l) (E : GE C bs0 0 0 (po_X5_refuse G hRf qRf Q)) {x1 : Int32} {x2 : Int32} {vRf : OV} (hw : wp_X5_refuse_0 Q x1 x2 vRf) : GW C 0 0 [bRf G hRf qRf vRf] 0 [(0, .ref hRf), (1, .int x1), (2, .int x2)] [] := by
  unfold wp_X5_refuse_0 at hw
  refine gw_aload_n F dX5_refuse_0 0 rfl ?_
  refine gw_iload_n F dX5_refuse_1 1 rfl ?_
  obtain ⟨v_1, e_v_1⟩ : ∃ z : OV, z = sI vRf 0 x1 := ⟨_, rfl⟩
  have hw := hw v_1 e_v_1
  refine gw_put (bs' := [bRf G hRf qRf v_1]) F in_X5_refuse_RX5 tyX5 tyX5_ok nmX5 0 rfl rfl 0 (by decide) lk_X5_refuse_9 rfl rfl rfl (Nat.le_of_ble_eq_true rfl) dX5_refuse_2 (by rw [e_v_1]; rfl) ?_
  refine gw_aload_n F dX5_refuse_5 0 rfl ?_
  refine gw_iload_n F dX5_refuse_6 2 rfl ?_
  obtain ⟨v_2, e_v_2⟩ : ∃ z : OV, z = sI v_1 1 x2 := ⟨_, rfl⟩
  have hw := hw v_2 e_v_2
  refine gw_put (bs' := [bRf G hRf qRf v_2]) F in_X5_refuse_RX5 tyX5 tyX5_ok nmX5 0 rfl rfl 1 (by decide) lk_X5_refuse_15 rfl rfl rfl (Nat.le_of_ble_eq_true rfl) dX5_refuse_7 (by rw [e_v_2]; rfl) ?_
  refine gw_iconst (v := (-1 : Int32)) F dX5_refuse_10 ic_iconst_m1 ?_
  exact gw_iret F E rfl rfl (Nat.le_of_ble_eq_true rfl) (Nat.le_of_ble_eq_true rfl) dX5_refuse_11 ⟨_, _, rfl, rfl, hw⟩
def wp_X5_refuse (Q : Int32 → OV → Prop) (x1 : Int32) (x2 : Int32) (vRf : OV) : Prop := wp_X5_refuse_0 Q x1 x2 vRf
theorem ct_X5_refuse {X : List Cond} {l : Launch} {D : va_G} {G : Nat → ClassId} {hRf : Nat} {qRf : Nat → Nat} {Q : Int32 → OV → Prop} {x1 : Int32} {x2 : Int32} {vRf : OV} (hw : wp_X5_refuse Q x1 x2 vRf) : CM X l yX5_refuse wsX5_refuse rm_X5_refuse D G [.ref hRf, .int x1, .int x2] [bRf G hRf qRf vRf] 0 0 (po_X5_refuse G hRf qRf Q) :=
  CM.of pn_RX5 rfl rfl (Nat.le_of_ble_eq_true rfl) rfl (fun C F E => lb_X5_refuse_0 F E hw)
-- X3_copyFrom
abbrev rm_X3_copyFrom : Room := { frames := 1, cells := 0, slots := 0, locals := 60 }
def po_X3_copyFrom (G : Nat → ClassId) (hLg : Nat) (qLg : Nat → Nat) (hLg2 : Nat) (qLg2 : Nat → Nat) (vLg2 : OV) (Q : OV → Prop) : Option Value → List va_W → Prop := fun o bs => ∃ (vLg : OV), o = none ∧ bs = [bLg G hLg qLg vLg, bLg G hLg2 qLg2 vLg2] ∧ Q vLg
theorem hd_X3_copyFrom : yX3_copyFrom.cls = RX3 ∧ yX3_copyFrom.cls ≠ "java/lang/invoke/MethodHandle" ∧ yX3_copyFrom.cls ≠ "java/lang/invoke/VarHandle" ∧ (parseMethodDescriptor yX3_copyFrom.desc).map (fun d => d.parameters.length) = some 1 := by decide +kernel
theorem in_X3_copyFrom_RX3 : ∀ w ∈ wsX30, w ∈ wsX3_copyFrom := fun w h => List.mem_cons_of_mem _ (List.mem_append_right _ h)
theorem lk_X3_copyFrom_9 : Cond.fieldLink RX3 9 "KeyWaves$Lodge" "wards" "[I" ∈ wsX3_copyFrom := List.mem_cons_of_mem _ (List.mem_append_left _ (List.mem_of_getElem? (i := 0) rfl))
theorem wd_X3_copyFrom_1 : Cond.methodLink RX3 55 arraycopyName ∈ wsX3_copyFrom := List.mem_cons_of_mem _ (List.mem_append_left _ (List.mem_of_getElem? (i := 1) rfl))
theorem wd_X3_copyFrom_2 : Cond.native arraycopyName ∈ wsX3_copyFrom := List.mem_cons_of_mem _ (List.mem_append_left _ (List.mem_of_getElem? (i := 2) rfl))
theorem wd_X3_copyFrom_3 : Cond.static arraycopyName ∈ wsX3_copyFrom := List.mem_cons_of_mem _ (List.mem_append_left _ (List.mem_of_getElem? (i := 3) rfl))
theorem wd_X3_copyFrom_4 : Cond.initialized "java/lang/System" ∈ wsX3_copyFrom := List.mem_cons_of_mem _ (List.mem_append_left _ (List.mem_of_getElem? (i := 4) rfl))
theorem lk_X3_copyFrom_15 : Cond.fieldLink RX3 15 "KeyWaves$Lodge" "porters" "[I" ∈ wsX3_copyFrom := List.mem_cons_of_mem _ (List.mem_append_left _ (List.mem_of_getElem? (i := 5) rfl))
theorem lk_X3_copyFrom_18 : Cond.fieldLink RX3 18 "KeyWaves$Lodge" "bars" "[I" ∈ wsX3_copyFrom := List.mem_cons_of_mem _ (List.mem_append_left _ (List.mem_of_getElem? (i := 6) rfl))
theorem lk_X3_copyFrom_21 : Cond.fieldLink RX3 21 "KeyWaves$Lodge" "cutCosts" "[I" ∈ wsX3_copyFrom := List.mem_cons_of_mem _ (List.mem_append_left _ (List.mem_of_getElem? (i := 7) rfl))
theorem lk_X3_copyFrom_24 : Cond.fieldLink RX3 24 "KeyWaves$Lodge" "lockOfKey" "[I" ∈ wsX3_copyFrom := List.mem_cons_of_mem _ (List.mem_append_left _ (List.mem_of_getElem? (i := 8) rfl))
theorem lk_X3_copyFrom_27 : Cond.fieldLink RX3 27 "KeyWaves$Lodge" "pins" "[I" ∈ wsX3_copyFrom := List.mem_cons_of_mem _ (List.mem_append_left _ (List.mem_of_getElem? (i := 9) rfl))
theorem lk_X3_copyFrom_30 : Cond.fieldLink RX3 30 "KeyWaves$Lodge" "keyOfLock" "[I" ∈ wsX3_copyFrom := List.mem_cons_of_mem _ (List.mem_append_left _ (List.mem_of_getElem? (i := 10) rfl))
theorem lk_X3_copyFrom_33 : Cond.fieldLink RX3 33 "KeyWaves$Lodge" "putCounts" "[I" ∈ wsX3_copyFrom := List.mem_cons_of_mem _ (List.mem_append_left _ (List.mem_of_getElem? (i := 11) rfl))
theorem lk_X3_copyFrom_36 : Cond.fieldLink RX3 36 "KeyWaves$Lodge" "keys" "I" ∈ wsX3_copyFrom := List.mem_cons_of_mem _ (List.mem_append_left _ (List.mem_of_getElem? (i := 12) rfl))
theorem lk_X3_copyFrom_40 : Cond.fieldLink RX3 40 "KeyWaves$Lodge" "locks" "I" ∈ wsX3_copyFrom := List.mem_cons_of_mem _ (List.mem_append_left _ (List.mem_of_getElem? (i := 13) rfl))
theorem lk_X3_copyFrom_43 : Cond.fieldLink RX3 43 "KeyWaves$Lodge" "slack" "I" ∈ wsX3_copyFrom := List.mem_cons_of_mem _ (List.mem_append_left _ (List.mem_of_getElem? (i := 14) rfl))
theorem lk_X3_copyFrom_46 : Cond.fieldLink RX3 46 "KeyWaves$Lodge" "wavesSoFar" "I" ∈ wsX3_copyFrom := List.mem_cons_of_mem _ (List.mem_append_left _ (List.mem_of_getElem? (i := 15) rfl))
theorem lk_X3_copyFrom_49 : Cond.fieldLink RX3 49 "KeyWaves$Lodge" "waysSoFar" "I" ∈ wsX3_copyFrom := List.mem_cons_of_mem _ (List.mem_append_left _ (List.mem_of_getElem? (i := 16) rfl))
theorem lk_X3_copyFrom_52 : Cond.fieldLink RX3 52 "KeyWaves$Lodge" "fallenSoFar" "I" ∈ wsX3_copyFrom := List.mem_cons_of_mem _ (List.mem_append_left _ (List.mem_of_getElem? (i := 17) rfl))
def wp_X3_copyFrom_0 (Q : OV → Prop) (vLg2 : OV) (vLg : OV) : Prop :=
  (∀ v_1 : OV, v_1 = sF vLg 0 (va_cpy (vLg2.1 0) (vLg.1 0) (0 : Int32).toNatClampNeg (0 : Int32).toNatClampNeg (10 : Int32).toNatClampNeg) → (∀ v_2 : OV, v_2 = sF v_1 1 (va_cpy (vLg2.1 1) (v_1.1 1) (0 : Int32).toNatClampNeg (0 : Int32).toNatClampNeg (10 : Int32).toNatClampNeg) → (∀ v_3 : OV, v_3 = sF v_2 2 (va_cpy (vLg2.1 2) (v_2.1 2) (0 : Int32).toNatClampNeg (0 : Int32).toNatClampNeg (10 : Int32).toNatClampNeg) → (∀ v_4 : OV, v_4 = sF v_3 3 (va_cpy (vLg2.1 3) (v_3.1 3) (0 : Int32).toNatClampNeg (0 : Int32).toNatClampNeg (10 : Int32).toNatClampNeg) → (∀ v_5 : OV, v_5 = sF v_4 4 (va_cpy (vLg2.1 4) (v_4.1 4) (0 : Int32).toNatClampNeg (0 : Int32).toNatClampNeg (10 : Int32).toNatClampNeg) → (∀ v_6 : OV, v_6 = sF v_5 5 (va_cpy (vLg2.1 5) (v_5.1 5) (0 : Int32).toNatClampNeg (0 : Int32).toNatClampNeg (10 : Int32).toNatClampNeg) → (∀ v_7 : OV, v_7 = sF v_6 6 (va_cpy (vLg2.1 6) (v_6.1 6) (0 : Int32).toNatClampNeg (0 : Int32).toNatClampNeg (10 : Int32).toNatClampNeg) → (∀ v_8 : OV, v_8 = sF v_7 7 (va_cpy (vLg2.1 7) (v_7.1 7) (0 : Int32).toNatClampNeg (0 : Int32).toNatClampNeg (10 : Int32).toNatClampNeg) → (∀ v_9 : OV, v_9 = sI v_8 8 (vLg2.2 8) → (∀ v_10 : OV, v_10 = sI v_9 9 (vLg2.2 9) → (∀ v_11 : OV, v_11 = sI v_10 10 (vLg2.2 10) → (∀ v_12 : OV, v_12 = sI v_11 11 (vLg2.2 11) → (∀ v_13 : OV, v_13 = sI v_12 12 (vLg2.2 12) → (∀ v_14 : OV, v_14 = sI v_13 13 (vLg2.2 13) → (Q v_14)))))))))))))))
set_option maxRecDepth 20000 in
theorem lb_X3_copyFrom_0 {X : List Cond} {l : Launch} {D : va_G} {G : Nat → ClassId} {C : Cx} {bs0 : List va_W} {hLg : Nat} {qLg : Nat → Nat} {hLg2 : Nat} {qLg2 : Nat → Nat} {Q : OV → Prop} {vLg2 : OV} (F : GF C X cX3_copyFrom wsX3_copyFrom RX3 rm_X3_copyFrom 2 none D G l) (E : GE C bs0 0 0 (po_X3_copyFrom G hLg qLg hLg2 qLg2 vLg2 Q)) {vLg : OV} (hw : wp_X3_copyFrom_0 Q vLg2 vLg) : GW C 0 0 [bLg G hLg qLg vLg, bLg G hLg2 qLg2 vLg2] 0 [(0, .ref hLg), (1, .ref hLg2)] [] := by
  unfold wp_X3_copyFrom_0 at hw
  refine gw_aload_n F dX3_copyFrom_0 1 rfl ?_
  refine gw_get F in_X3_copyFrom_RX3 9 rfl rfl 0 (by decide) lk_X3_copyFrom_9 rfl dX3_copyFrom_1 ?_
  refine gw_iconst (v := (0 : Int32)) F dX3_copyFrom_4 ic_iconst_0 ?_
  refine gw_aload_n F dX3_copyFrom_5 0 rfl ?_
  refine gw_get F in_X3_copyFrom_RX3 0 rfl rfl 0 (by decide) lk_X3_copyFrom_9 rfl dX3_copyFrom_6 ?_
  refine gw_iconst (v := (0 : Int32)) F dX3_copyFrom_9 ic_iconst_0 ?_
  refine gw_bipush (v := (10 : Int32)) F dX3_copyFrom_10 ic_bipush_10 ?_
  obtain ⟨v_1, e_v_1⟩ : ∃ z : OV, z = sF vLg 0 (va_cpy (vLg2.1 0) (vLg.1 0) (0 : Int32).toNatClampNeg (0 : Int32).toNatClampNeg (10 : Int32).toNatClampNeg) := ⟨_, rfl⟩
  have hw := hw v_1 e_v_1
  refine gw_copyi (bs' := [bLg G hLg qLg v_1, bLg G hLg2 qLg2 vLg2]) F wd_X3_copyFrom_1 wd_X3_copyFrom_2 wd_X3_copyFrom_3 wd_X3_copyFrom_4 10 1 rfl rfl (by decide) (by decide) (by decide) (by decide) (by decide) (Nat.le_of_ble_eq_true rfl) (Nat.le_of_ble_eq_true rfl) dX3_copyFrom_12 (by rw [e_v_1]; rfl) ?_
  refine gw_aload_n F dX3_copyFrom_15 1 rfl ?_
  refine gw_get F in_X3_copyFrom_RX3 9 rfl rfl 1 (by decide) lk_X3_copyFrom_15 rfl dX3_copyFrom_16 ?_
  refine gw_iconst (v := (0 : Int32)) F dX3_copyFrom_19 ic_iconst_0 ?_
  refine gw_aload_n F dX3_copyFrom_20 0 rfl ?_
  refine gw_get F in_X3_copyFrom_RX3 0 rfl rfl 1 (by decide) lk_X3_copyFrom_15 rfl dX3_copyFrom_21 ?_
  refine gw_iconst (v := (0 : Int32)) F dX3_copyFrom_24 ic_iconst_0 ?_
  refine gw_bipush (v := (10 : Int32)) F dX3_copyFrom_25 ic_bipush_10 ?_
  obtain ⟨v_2, e_v_2⟩ : ∃ z : OV, z = sF v_1 1 (va_cpy (vLg2.1 1) (v_1.1 1) (0 : Int32).toNatClampNeg (0 : Int32).toNatClampNeg (10 : Int32).toNatClampNeg) := ⟨_, rfl⟩
  have hw := hw v_2 e_v_2
  refine gw_copyi (bs' := [bLg G hLg qLg v_2, bLg G hLg2 qLg2 vLg2]) F wd_X3_copyFrom_1 wd_X3_copyFrom_2 wd_X3_copyFrom_3 wd_X3_copyFrom_4 11 2 rfl rfl (by decide) (by decide) (by decide) (by decide) (by decide) (Nat.le_of_ble_eq_true rfl) (Nat.le_of_ble_eq_true rfl) dX3_copyFrom_27 (by rw [e_v_2]; rfl) ?_
  refine gw_aload_n F dX3_copyFrom_30 1 rfl ?_
  refine gw_get F in_X3_copyFrom_RX3 9 rfl rfl 2 (by decide) lk_X3_copyFrom_18 rfl dX3_copyFrom_31 ?_
  refine gw_iconst (v := (0 : Int32)) F dX3_copyFrom_34 ic_iconst_0 ?_
  refine gw_aload_n F dX3_copyFrom_35 0 rfl ?_
  refine gw_get F in_X3_copyFrom_RX3 0 rfl rfl 2 (by decide) lk_X3_copyFrom_18 rfl dX3_copyFrom_36 ?_
  refine gw_iconst (v := (0 : Int32)) F dX3_copyFrom_39 ic_iconst_0 ?_
  refine gw_bipush (v := (10 : Int32)) F dX3_copyFrom_40 ic_bipush_10 ?_
  obtain ⟨v_3, e_v_3⟩ : ∃ z : OV, z = sF v_2 2 (va_cpy (vLg2.1 2) (v_2.1 2) (0 : Int32).toNatClampNeg (0 : Int32).toNatClampNeg (10 : Int32).toNatClampNeg) := ⟨_, rfl⟩
  have hw := hw v_3 e_v_3
  refine gw_copyi (bs' := [bLg G hLg qLg v_3, bLg G hLg2 qLg2 vLg2]) F wd_X3_copyFrom_1 wd_X3_copyFrom_2 wd_X3_copyFrom_3 wd_X3_copyFrom_4 12 3 rfl rfl (by decide) (by decide) (by decide) (by decide) (by decide) (Nat.le_of_ble_eq_true rfl) (Nat.le_of_ble_eq_true rfl) dX3_copyFrom_42 (by rw [e_v_3]; rfl) ?_
  refine gw_aload_n F dX3_copyFrom_45 1 rfl ?_
  refine gw_get F in_X3_copyFrom_RX3 9 rfl rfl 3 (by decide) lk_X3_copyFrom_21 rfl dX3_copyFrom_46 ?_
  refine gw_iconst (v := (0 : Int32)) F dX3_copyFrom_49 ic_iconst_0 ?_
  refine gw_aload_n F dX3_copyFrom_50 0 rfl ?_
  refine gw_get F in_X3_copyFrom_RX3 0 rfl rfl 3 (by decide) lk_X3_copyFrom_21 rfl dX3_copyFrom_51 ?_
  refine gw_iconst (v := (0 : Int32)) F dX3_copyFrom_54 ic_iconst_0 ?_
  refine gw_bipush (v := (10 : Int32)) F dX3_copyFrom_55 ic_bipush_10 ?_
  obtain ⟨v_4, e_v_4⟩ : ∃ z : OV, z = sF v_3 3 (va_cpy (vLg2.1 3) (v_3.1 3) (0 : Int32).toNatClampNeg (0 : Int32).toNatClampNeg (10 : Int32).toNatClampNeg) := ⟨_, rfl⟩
  have hw := hw v_4 e_v_4
  refine gw_copyi (bs' := [bLg G hLg qLg v_4, bLg G hLg2 qLg2 vLg2]) F wd_X3_copyFrom_1 wd_X3_copyFrom_2 wd_X3_copyFrom_3 wd_X3_copyFrom_4 13 4 rfl rfl (by decide) (by decide) (by decide) (by decide) (by decide) (Nat.le_of_ble_eq_true rfl) (Nat.le_of_ble_eq_true rfl) dX3_copyFrom_57 (by rw [e_v_4]; rfl) ?_
  refine gw_aload_n F dX3_copyFrom_60 1 rfl ?_
  refine gw_get F in_X3_copyFrom_RX3 9 rfl rfl 4 (by decide) lk_X3_copyFrom_24 rfl dX3_copyFrom_61 ?_
  refine gw_iconst (v := (0 : Int32)) F dX3_copyFrom_64 ic_iconst_0 ?_
  refine gw_aload_n F dX3_copyFrom_65 0 rfl ?_
  refine gw_get F in_X3_copyFrom_RX3 0 rfl rfl 4 (by decide) lk_X3_copyFrom_24 rfl dX3_copyFrom_66 ?_
  refine gw_iconst (v := (0 : Int32)) F dX3_copyFrom_69 ic_iconst_0 ?_
  refine gw_bipush (v := (10 : Int32)) F dX3_copyFrom_70 ic_bipush_10 ?_
  obtain ⟨v_5, e_v_5⟩ : ∃ z : OV, z = sF v_4 4 (va_cpy (vLg2.1 4) (v_4.1 4) (0 : Int32).toNatClampNeg (0 : Int32).toNatClampNeg (10 : Int32).toNatClampNeg) := ⟨_, rfl⟩
  have hw := hw v_5 e_v_5
  refine gw_copyi (bs' := [bLg G hLg qLg v_5, bLg G hLg2 qLg2 vLg2]) F wd_X3_copyFrom_1 wd_X3_copyFrom_2 wd_X3_copyFrom_3 wd_X3_copyFrom_4 14 5 rfl rfl (by decide) (by decide) (by decide) (by decide) (by decide) (Nat.le_of_ble_eq_true rfl) (Nat.le_of_ble_eq_true rfl) dX3_copyFrom_72 (by rw [e_v_5]; rfl) ?_
  refine gw_aload_n F dX3_copyFrom_75 1 rfl ?_
  refine gw_get F in_X3_copyFrom_RX3 9 rfl rfl 5 (by decide) lk_X3_copyFrom_27 rfl dX3_copyFrom_76 ?_
  refine gw_iconst (v := (0 : Int32)) F dX3_copyFrom_79 ic_iconst_0 ?_
  refine gw_aload_n F dX3_copyFrom_80 0 rfl ?_
  refine gw_get F in_X3_copyFrom_RX3 0 rfl rfl 5 (by decide) lk_X3_copyFrom_27 rfl dX3_copyFrom_81 ?_
  refine gw_iconst (v := (0 : Int32)) F dX3_copyFrom_84 ic_iconst_0 ?_
  refine gw_bipush (v := (10 : Int32)) F dX3_copyFrom_85 ic_bipush_10 ?_
  obtain ⟨v_6, e_v_6⟩ : ∃ z : OV, z = sF v_5 5 (va_cpy (vLg2.1 5) (v_5.1 5) (0 : Int32).toNatClampNeg (0 : Int32).toNatClampNeg (10 : Int32).toNatClampNeg) := ⟨_, rfl⟩
  have hw := hw v_6 e_v_6
  refine gw_copyi (bs' := [bLg G hLg qLg v_6, bLg G hLg2 qLg2 vLg2]) F wd_X3_copyFrom_1 wd_X3_copyFrom_2 wd_X3_copyFrom_3 wd_X3_copyFrom_4 15 6 rfl rfl (by decide) (by decide) (by decide) (by decide) (by decide) (Nat.le_of_ble_eq_true rfl) (Nat.le_of_ble_eq_true rfl) dX3_copyFrom_87 (by rw [e_v_6]; rfl) ?_
  refine gw_aload_n F dX3_copyFrom_90 1 rfl ?_
  refine gw_get F in_X3_copyFrom_RX3 9 rfl rfl 6 (by decide) lk_X3_copyFrom_30 rfl dX3_copyFrom_91 ?_
  refine gw_iconst (v := (0 : Int32)) F dX3_copyFrom_94 ic_iconst_0 ?_
  refine gw_aload_n F dX3_copyFrom_95 0 rfl ?_
  refine gw_get F in_X3_copyFrom_RX3 0 rfl rfl 6 (by decide) lk_X3_copyFrom_30 rfl dX3_copyFrom_96 ?_
  refine gw_iconst (v := (0 : Int32)) F dX3_copyFrom_99 ic_iconst_0 ?_
  refine gw_bipush (v := (10 : Int32)) F dX3_copyFrom_100 ic_bipush_10 ?_
  obtain ⟨v_7, e_v_7⟩ : ∃ z : OV, z = sF v_6 6 (va_cpy (vLg2.1 6) (v_6.1 6) (0 : Int32).toNatClampNeg (0 : Int32).toNatClampNeg (10 : Int32).toNatClampNeg) := ⟨_, rfl⟩
  have hw := hw v_7 e_v_7
  refine gw_copyi (bs' := [bLg G hLg qLg v_7, bLg G hLg2 qLg2 vLg2]) F wd_X3_copyFrom_1 wd_X3_copyFrom_2 wd_X3_copyFrom_3 wd_X3_copyFrom_4 16 7 rfl rfl (by decide) (by decide) (by decide) (by decide) (by decide) (Nat.le_of_ble_eq_true rfl) (Nat.le_of_ble_eq_true rfl) dX3_copyFrom_102 (by rw [e_v_7]; rfl) ?_
  refine gw_aload_n F dX3_copyFrom_105 1 rfl ?_
  refine gw_get F in_X3_copyFrom_RX3 9 rfl rfl 7 (by decide) lk_X3_copyFrom_33 rfl dX3_copyFrom_106 ?_
  refine gw_iconst (v := (0 : Int32)) F dX3_copyFrom_109 ic_iconst_0 ?_
  refine gw_aload_n F dX3_copyFrom_110 0 rfl ?_
  refine gw_get F in_X3_copyFrom_RX3 0 rfl rfl 7 (by decide) lk_X3_copyFrom_33 rfl dX3_copyFrom_111 ?_
  refine gw_iconst (v := (0 : Int32)) F dX3_copyFrom_114 ic_iconst_0 ?_
  refine gw_bipush (v := (10 : Int32)) F dX3_copyFrom_115 ic_bipush_10 ?_
  obtain ⟨v_8, e_v_8⟩ : ∃ z : OV, z = sF v_7 7 (va_cpy (vLg2.1 7) (v_7.1 7) (0 : Int32).toNatClampNeg (0 : Int32).toNatClampNeg (10 : Int32).toNatClampNeg) := ⟨_, rfl⟩
  have hw := hw v_8 e_v_8
  refine gw_copyi (bs' := [bLg G hLg qLg v_8, bLg G hLg2 qLg2 vLg2]) F wd_X3_copyFrom_1 wd_X3_copyFrom_2 wd_X3_copyFrom_3 wd_X3_copyFrom_4 17 8 rfl rfl (by decide) (by decide) (by decide) (by decide) (by decide) (Nat.le_of_ble_eq_true rfl) (Nat.le_of_ble_eq_true rfl) dX3_copyFrom_117 (by rw [e_v_8]; rfl) ?_
  refine gw_aload_n F dX3_copyFrom_120 0 rfl ?_
  refine gw_aload_n F dX3_copyFrom_121 1 rfl ?_
  refine gw_get F in_X3_copyFrom_RX3 9 rfl rfl 8 (by decide) lk_X3_copyFrom_36 rfl dX3_copyFrom_122 ?_
  obtain ⟨v_9, e_v_9⟩ : ∃ z : OV, z = sI v_8 8 (vLg2.2 8) := ⟨_, rfl⟩
  have hw := hw v_9 e_v_9
  refine gw_put (bs' := [bLg G hLg qLg v_9, bLg G hLg2 qLg2 vLg2]) F in_X3_copyFrom_RX3 tyX3 tyX3_ok nmX3 0 rfl rfl 8 (by decide) lk_X3_copyFrom_36 rfl rfl rfl (Nat.le_of_ble_eq_true rfl) dX3_copyFrom_125 (by rw [e_v_9]; rfl) ?_
  refine gw_aload_n F dX3_copyFrom_128 0 rfl ?_
  refine gw_aload_n F dX3_copyFrom_129 1 rfl ?_
  refine gw_get F in_X3_copyFrom_RX3 9 rfl rfl 9 (by decide) lk_X3_copyFrom_40 rfl dX3_copyFrom_130 ?_
  obtain ⟨v_10, e_v_10⟩ : ∃ z : OV, z = sI v_9 9 (vLg2.2 9) := ⟨_, rfl⟩
  have hw := hw v_10 e_v_10
  refine gw_put (bs' := [bLg G hLg qLg v_10, bLg G hLg2 qLg2 vLg2]) F in_X3_copyFrom_RX3 tyX3 tyX3_ok nmX3 0 rfl rfl 9 (by decide) lk_X3_copyFrom_40 rfl rfl rfl (Nat.le_of_ble_eq_true rfl) dX3_copyFrom_133 (by rw [e_v_10]; rfl) ?_
  refine gw_aload_n F dX3_copyFrom_136 0 rfl ?_
  refine gw_aload_n F dX3_copyFrom_137 1 rfl ?_
  refine gw_get F in_X3_copyFrom_RX3 9 rfl rfl 10 (by decide) lk_X3_copyFrom_43 rfl dX3_copyFrom_138 ?_
  obtain ⟨v_11, e_v_11⟩ : ∃ z : OV, z = sI v_10 10 (vLg2.2 10) := ⟨_, rfl⟩
  have hw := hw v_11 e_v_11
  refine gw_put (bs' := [bLg G hLg qLg v_11, bLg G hLg2 qLg2 vLg2]) F in_X3_copyFrom_RX3 tyX3 tyX3_ok nmX3 0 rfl rfl 10 (by decide) lk_X3_copyFrom_43 rfl rfl rfl (Nat.le_of_ble_eq_true rfl) dX3_copyFrom_141 (by rw [e_v_11]; rfl) ?_
  refine gw_aload_n F dX3_copyFrom_144 0 rfl ?_
  refine gw_aload_n F dX3_copyFrom_145 1 rfl ?_
  refine gw_get F in_X3_copyFrom_RX3 9 rfl rfl 11 (by decide) lk_X3_copyFrom_46 rfl dX3_copyFrom_146 ?_
  obtain ⟨v_12, e_v_12⟩ : ∃ z : OV, z = sI v_11 11 (vLg2.2 11) := ⟨_, rfl⟩
  have hw := hw v_12 e_v_12
  refine gw_put (bs' := [bLg G hLg qLg v_12, bLg G hLg2 qLg2 vLg2]) F in_X3_copyFrom_RX3 tyX3 tyX3_ok nmX3 0 rfl rfl 11 (by decide) lk_X3_copyFrom_46 rfl rfl rfl (Nat.le_of_ble_eq_true rfl) dX3_copyFrom_149 (by rw [e_v_12]; rfl) ?_
  refine gw_aload_n F dX3_copyFrom_152 0 rfl ?_
  refine gw_aload_n F dX3_copyFrom_153 1 rfl ?_
  refine gw_get F in_X3_copyFrom_RX3 9 rfl rfl 12 (by decide) lk_X3_copyFrom_49 rfl dX3_copyFrom_154 ?_
  obtain ⟨v_13, e_v_13⟩ : ∃ z : OV, z = sI v_12 12 (vLg2.2 12) := ⟨_, rfl⟩
  have hw := hw v_13 e_v_13
  refine gw_put (bs' := [bLg G hLg qLg v_13, bLg G hLg2 qLg2 vLg2]) F in_X3_copyFrom_RX3 tyX3 tyX3_ok nmX3 0 rfl rfl 12 (by decide) lk_X3_copyFrom_49 rfl rfl rfl (Nat.le_of_ble_eq_true rfl) dX3_copyFrom_157 (by rw [e_v_13]; rfl) ?_
  refine gw_aload_n F dX3_copyFrom_160 0 rfl ?_
  refine gw_aload_n F dX3_copyFrom_161 1 rfl ?_
  refine gw_get F in_X3_copyFrom_RX3 9 rfl rfl 13 (by decide) lk_X3_copyFrom_52 rfl dX3_copyFrom_162 ?_
  obtain ⟨v_14, e_v_14⟩ : ∃ z : OV, z = sI v_13 13 (vLg2.2 13) := ⟨_, rfl⟩
  have hw := hw v_14 e_v_14
  refine gw_put (bs' := [bLg G hLg qLg v_14, bLg G hLg2 qLg2 vLg2]) F in_X3_copyFrom_RX3 tyX3 tyX3_ok nmX3 0 rfl rfl 13 (by decide) lk_X3_copyFrom_52 rfl rfl rfl (Nat.le_of_ble_eq_true rfl) dX3_copyFrom_165 (by rw [e_v_14]; rfl) ?_
  exact gw_vret F E rfl (Nat.le_of_ble_eq_true rfl) (Nat.le_of_ble_eq_true rfl) dX3_copyFrom_168 ⟨_, rfl, rfl, hw⟩
def wp_X3_copyFrom (Q : OV → Prop) (vLg : OV) (vLg2 : OV) : Prop := wp_X3_copyFrom_0 Q vLg2 vLg
theorem ct_X3_copyFrom {X : List Cond} {l : Launch} {D : va_G} {G : Nat → ClassId} {hLg : Nat} {qLg : Nat → Nat} {hLg2 : Nat} {qLg2 : Nat → Nat} {Q : OV → Prop} {vLg : OV} {vLg2 : OV} (hw : wp_X3_copyFrom Q vLg vLg2) : CM X l yX3_copyFrom wsX3_copyFrom rm_X3_copyFrom D G [.ref hLg, .ref hLg2] [bLg G hLg qLg vLg, bLg G hLg2 qLg2 vLg2] 0 0 (po_X3_copyFrom G hLg qLg hLg2 qLg2 vLg2 Q) :=
  CM.of pn_RX3 rfl rfl (Nat.le_of_ble_eq_true rfl) rfl (fun C F E => lb_X3_copyFrom_0 F E hw)
-- X3_hasKey
abbrev rm_X3_hasKey : Room := { frames := 1, cells := 0, slots := 0, locals := 60 }
def po_X3_hasKey (G : Nat → ClassId) (hLg : Nat) (qLg : Nat → Nat) (vLg : OV) (Q : Int32 → Prop) : Option Value → List va_W → Prop := fun o bs => ∃ (r : Int32), o = some (.int r) ∧ bs = [bLg G hLg qLg vLg] ∧ Q r
theorem hd_X3_hasKey : yX3_hasKey.cls = RX3 ∧ yX3_hasKey.cls ≠ "java/lang/invoke/MethodHandle" ∧ yX3_hasKey.cls ≠ "java/lang/invoke/VarHandle" ∧ (parseMethodDescriptor yX3_hasKey.desc).map (fun d => d.parameters.length) = some 1 := by decide +kernel
theorem in_X3_hasKey_RX3 : ∀ w ∈ wsX30, w ∈ wsX3_hasKey := fun w h => List.mem_cons_of_mem _ (List.mem_append_right _ h)
theorem lk_X3_hasKey_36 : Cond.fieldLink RX3 36 "KeyWaves$Lodge" "keys" "I" ∈ wsX3_hasKey := List.mem_cons_of_mem _ (List.mem_append_left _ (List.mem_of_getElem? (i := 0) rfl))
def wp_X3_hasKey_23 (Q : Int32 → Prop) (vLg : OV) (s0 : Int32) : Prop :=
  (narrow .boolean (.int s0) = .int s0 ∧ Q s0)
set_option maxRecDepth 20000 in
theorem lb_X3_hasKey_23 {X : List Cond} {l : Launch} {D : va_G} {G : Nat → ClassId} {C : Cx} {bs0 : List va_W} {hLg : Nat} {qLg : Nat → Nat} {Q : Int32 → Prop} {vLg : OV} (F : GF C X cX3_hasKey wsX3_hasKey RX3 rm_X3_hasKey 2 (some .boolean) D G l) (E : GE C bs0 0 0 (po_X3_hasKey G hLg qLg vLg Q)) {s0 : Int32} (hw : wp_X3_hasKey_23 Q vLg s0) : GW C 0 0 [bLg G hLg qLg vLg] 23 [] [.int s0] := by
  unfold wp_X3_hasKey_23 at hw
  obtain ⟨hn, hw⟩ := hw
  exact gw_iret F E rfl hn (Nat.le_of_ble_eq_true rfl) (Nat.le_of_ble_eq_true rfl) dX3_hasKey_23 ⟨_, rfl, rfl, hw⟩
def wp_X3_hasKey_22 (Q : Int32 → Prop) (vLg : OV) : Prop :=
  (wp_X3_hasKey_23 Q vLg (0 : Int32))
set_option maxRecDepth 20000 in
theorem lb_X3_hasKey_22 {X : List Cond} {l : Launch} {D : va_G} {G : Nat → ClassId} {C : Cx} {bs0 : List va_W} {hLg : Nat} {qLg : Nat → Nat} {Q : Int32 → Prop} {vLg : OV} (F : GF C X cX3_hasKey wsX3_hasKey RX3 rm_X3_hasKey 2 (some .boolean) D G l) (E : GE C bs0 0 0 (po_X3_hasKey G hLg qLg vLg Q)) (hw : wp_X3_hasKey_22 Q vLg ) : GW C 0 0 [bLg G hLg qLg vLg] 22 [] [] := by
  unfold wp_X3_hasKey_22 at hw
  refine gw_iconst (v := (0 : Int32)) F dX3_hasKey_22 ic_iconst_0 ?_
  exact lb_X3_hasKey_23 F E hw
def wp_X3_hasKey_0 (Q : Int32 → Prop) (vLg : OV) (x1 : Int32) : Prop :=
  ((x1 < 0 → (wp_X3_hasKey_22 Q vLg)) ∧ (¬ (x1 < 0) → (((vLg.2 8) ≤ x1 → (wp_X3_hasKey_22 Q vLg)) ∧ (¬ ((vLg.2 8) ≤ x1) → (((10 : Int32) ≤ x1 → (wp_X3_hasKey_22 Q vLg)) ∧ (¬ ((10 : Int32) ≤ x1) → (wp_X3_hasKey_23 Q vLg (1 : Int32))))))))
set_option maxRecDepth 20000 in
theorem lb_X3_hasKey_0 {X : List Cond} {l : Launch} {D : va_G} {G : Nat → ClassId} {C : Cx} {bs0 : List va_W} {hLg : Nat} {qLg : Nat → Nat} {Q : Int32 → Prop} {vLg : OV} (F : GF C X cX3_hasKey wsX3_hasKey RX3 rm_X3_hasKey 2 (some .boolean) D G l) (E : GE C bs0 0 0 (po_X3_hasKey G hLg qLg vLg Q)) {x1 : Int32} (hw : wp_X3_hasKey_0 Q vLg x1) : GW C 0 0 [bLg G hLg qLg vLg] 0 [(0, .ref hLg), (1, .int x1)] [] := by
  unfold wp_X3_hasKey_0 at hw
  refine gw_iload_n F dX3_hasKey_0 1 rfl ?_
  refine gw_if_lt (tgt := 22) F dX3_hasKey_1 (by decide) (fun c_1 => ?_) (fun c_1 => ?_)
  · have hw := hw.1 c_1
    refine gw_lv [] rfl ?_
    exact lb_X3_hasKey_22 F E hw
  · have hw := hw.2 c_1
    refine gw_iload_n F dX3_hasKey_4 1 rfl ?_
    refine gw_aload_n F dX3_hasKey_5 0 rfl ?_
    refine gw_get F in_X3_hasKey_RX3 0 rfl rfl 8 (by decide) lk_X3_hasKey_36 rfl dX3_hasKey_6 ?_
    refine gw_icmp_ge (tgt := 22) F dX3_hasKey_9 (by decide) (fun c_2 => ?_) (fun c_2 => ?_)
    · have hw := hw.1 c_2
      refine gw_lv [] rfl ?_
      exact lb_X3_hasKey_22 F E hw
    · have hw := hw.2 c_2
      refine gw_iload_n F dX3_hasKey_12 1 rfl ?_
      refine gw_bipush (v := (10 : Int32)) F dX3_hasKey_13 ic_bipush_10 ?_
      refine gw_icmp_ge (tgt := 22) F dX3_hasKey_15 (by decide) (fun c_3 => ?_) (fun c_3 => ?_)
      · have hw := hw.1 c_3
        refine gw_lv [] rfl ?_
        exact lb_X3_hasKey_22 F E hw
      · have hw := hw.2 c_3
        refine gw_iconst (v := (1 : Int32)) F dX3_hasKey_18 ic_iconst_1 ?_
        refine gw_goto (tgt := 23) F dX3_hasKey_19 (by decide) ?_
        refine gw_lv [] rfl ?_
        exact lb_X3_hasKey_23 F E hw
def wp_X3_hasKey (Q : Int32 → Prop) (x1 : Int32) (vLg : OV) : Prop := wp_X3_hasKey_0 Q vLg x1
theorem ct_X3_hasKey {X : List Cond} {l : Launch} {D : va_G} {G : Nat → ClassId} {hLg : Nat} {qLg : Nat → Nat} {Q : Int32 → Prop} {x1 : Int32} {vLg : OV} (hw : wp_X3_hasKey Q x1 vLg) : CM X l yX3_hasKey wsX3_hasKey rm_X3_hasKey D G [.ref hLg, .int x1] [bLg G hLg qLg vLg] 0 0 (po_X3_hasKey G hLg qLg vLg Q) :=
  CM.of pn_RX3 rfl rfl (Nat.le_of_ble_eq_true rfl) rfl (fun C F E => lb_X3_hasKey_0 F E hw)
-- X3_hasLock
abbrev rm_X3_hasLock : Room := { frames := 1, cells := 0, slots := 0, locals := 60 }
def po_X3_hasLock (G : Nat → ClassId) (hLg : Nat) (qLg : Nat → Nat) (vLg : OV) (Q : Int32 → Prop) : Option Value → List va_W → Prop := fun o bs => ∃ (r : Int32), o = some (.int r) ∧ bs = [bLg G hLg qLg vLg] ∧ Q r
theorem hd_X3_hasLock : yX3_hasLock.cls = RX3 ∧ yX3_hasLock.cls ≠ "java/lang/invoke/MethodHandle" ∧ yX3_hasLock.cls ≠ "java/lang/invoke/VarHandle" ∧ (parseMethodDescriptor yX3_hasLock.desc).map (fun d => d.parameters.length) = some 1 := by decide +kernel
theorem in_X3_hasLock_RX3 : ∀ w ∈ wsX30, w ∈ wsX3_hasLock := fun w h => List.mem_cons_of_mem _ (List.mem_append_right _ h)
theorem lk_X3_hasLock_40 : Cond.fieldLink RX3 40 "KeyWaves$Lodge" "locks" "I" ∈ wsX3_hasLock := List.mem_cons_of_mem _ (List.mem_append_left _ (List.mem_of_getElem? (i := 0) rfl))
def wp_X3_hasLock_23 (Q : Int32 → Prop) (vLg : OV) (s0 : Int32) : Prop :=
  (narrow .boolean (.int s0) = .int s0 ∧ Q s0)
set_option maxRecDepth 20000 in
theorem lb_X3_hasLock_23 {X : List Cond} {l : Launch} {D : va_G} {G : Nat → ClassId} {C : Cx} {bs0 : List va_W} {hLg : Nat} {qLg : Nat → Nat} {Q : Int32 → Prop} {vLg : OV} (F : GF C X cX3_hasLock wsX3_hasLock RX3 rm_X3_hasLock 2 (some .boolean) D G l) (E : GE C bs0 0 0 (po_X3_hasLock G hLg qLg vLg Q)) {s0 : Int32} (hw : wp_X3_hasLock_23 Q vLg s0) : GW C 0 0 [bLg G hLg qLg vLg] 23 [] [.int s0] := by
  unfold wp_X3_hasLock_23 at hw
  obtain ⟨hn, hw⟩ := hw
  exact gw_iret F E rfl hn (Nat.le_of_ble_eq_true rfl) (Nat.le_of_ble_eq_true rfl) dX3_hasLock_23 ⟨_, rfl, rfl, hw⟩
def wp_X3_hasLock_22 (Q : Int32 → Prop) (vLg : OV) : Prop :=
  (wp_X3_hasLock_23 Q vLg (0 : Int32))
set_option maxRecDepth 20000 in
theorem lb_X3_hasLock_22 {X : List Cond} {l : Launch} {D : va_G} {G : Nat → ClassId} {C : Cx} {bs0 : List va_W} {hLg : Nat} {qLg : Nat → Nat} {Q : Int32 → Prop} {vLg : OV} (F : GF C X cX3_hasLock wsX3_hasLock RX3 rm_X3_hasLock 2 (some .boolean) D G l) (E : GE C bs0 0 0 (po_X3_hasLock G hLg qLg vLg Q)) (hw : wp_X3_hasLock_22 Q vLg ) : GW C 0 0 [bLg G hLg qLg vLg] 22 [] [] := by
  unfold wp_X3_hasLock_22 at hw
  refine gw_iconst (v := (0 : Int32)) F dX3_hasLock_22 ic_iconst_0 ?_
  exact lb_X3_hasLock_23 F E hw
def wp_X3_hasLock_0 (Q : Int32 → Prop) (vLg : OV) (x1 : Int32) : Prop :=
  ((x1 < 0 → (wp_X3_hasLock_22 Q vLg)) ∧ (¬ (x1 < 0) → (((vLg.2 9) ≤ x1 → (wp_X3_hasLock_22 Q vLg)) ∧ (¬ ((vLg.2 9) ≤ x1) → (((10 : Int32) ≤ x1 → (wp_X3_hasLock_22 Q vLg)) ∧ (¬ ((10 : Int32) ≤ x1) → (wp_X3_hasLock_23 Q vLg (1 : Int32))))))))
set_option maxRecDepth 20000 in
theorem lb_X3_hasLock_0 {X : List Cond} {l : Launch} {D : va_G} {G : Nat → ClassId} {C : Cx} {bs0 : List va_W} {hLg : Nat} {qLg : Nat → Nat} {Q : Int32 → Prop} {vLg : OV} (F : GF C X cX3_hasLock wsX3_hasLock RX3 rm_X3_hasLock 2 (some .boolean) D G l) (E : GE C bs0 0 0 (po_X3_hasLock G hLg qLg vLg Q)) {x1 : Int32} (hw : wp_X3_hasLock_0 Q vLg x1) : GW C 0 0 [bLg G hLg qLg vLg] 0 [(0, .ref hLg), (1, .int x1)] [] := by
  unfold wp_X3_hasLock_0 at hw
  refine gw_iload_n F dX3_hasLock_0 1 rfl ?_
  refine gw_if_lt (tgt := 22) F dX3_hasLock_1 (by decide) (fun c_1 => ?_) (fun c_1 => ?_)
  · have hw := hw.1 c_1
    refine gw_lv [] rfl ?_
    exact lb_X3_hasLock_22 F E hw
  · have hw := hw.2 c_1
    refine gw_iload_n F dX3_hasLock_4 1 rfl ?_
    refine gw_aload_n F dX3_hasLock_5 0 rfl ?_
    refine gw_get F in_X3_hasLock_RX3 0 rfl rfl 9 (by decide) lk_X3_hasLock_40 rfl dX3_hasLock_6 ?_
    refine gw_icmp_ge (tgt := 22) F dX3_hasLock_9 (by decide) (fun c_2 => ?_) (fun c_2 => ?_)
    · have hw := hw.1 c_2
      refine gw_lv [] rfl ?_
      exact lb_X3_hasLock_22 F E hw
    · have hw := hw.2 c_2
      refine gw_iload_n F dX3_hasLock_12 1 rfl ?_
      refine gw_bipush (v := (10 : Int32)) F dX3_hasLock_13 ic_bipush_10 ?_
      refine gw_icmp_ge (tgt := 22) F dX3_hasLock_15 (by decide) (fun c_3 => ?_) (fun c_3 => ?_)
      · have hw := hw.1 c_3
        refine gw_lv [] rfl ?_
        exact lb_X3_hasLock_22 F E hw
      · have hw := hw.2 c_3
        refine gw_iconst (v := (1 : Int32)) F dX3_hasLock_18 ic_iconst_1 ?_
        refine gw_goto (tgt := 23) F dX3_hasLock_19 (by decide) ?_
        refine gw_lv [] rfl ?_
        exact lb_X3_hasLock_23 F E hw
def wp_X3_hasLock (Q : Int32 → Prop) (x1 : Int32) (vLg : OV) : Prop := wp_X3_hasLock_0 Q vLg x1
theorem ct_X3_hasLock {X : List Cond} {l : Launch} {D : va_G} {G : Nat → ClassId} {hLg : Nat} {qLg : Nat → Nat} {Q : Int32 → Prop} {x1 : Int32} {vLg : OV} (hw : wp_X3_hasLock Q x1 vLg) : CM X l yX3_hasLock wsX3_hasLock rm_X3_hasLock D G [.ref hLg, .int x1] [bLg G hLg qLg vLg] 0 0 (po_X3_hasLock G hLg qLg vLg Q) :=
  CM.of pn_RX3 rfl rfl (Nat.le_of_ble_eq_true rfl) rfl (fun C F E => lb_X3_hasLock_0 F E hw)
-- X3_wardsOf
abbrev rm_X3_wardsOf : Room := { frames := 2, cells := 0, slots := 0, locals := 81 }
def po_X3_wardsOf (G : Nat → ClassId) (hLg : Nat) (qLg : Nat → Nat) (vLg : OV) (Q : Int32 → Prop) : Option Value → List va_W → Prop := fun o bs => ∃ (r : Int32), o = some (.int r) ∧ bs = [bLg G hLg qLg vLg] ∧ Q r
theorem hd_X3_wardsOf : yX3_wardsOf.cls = RX3 ∧ yX3_wardsOf.cls ≠ "java/lang/invoke/MethodHandle" ∧ yX3_wardsOf.cls ≠ "java/lang/invoke/VarHandle" ∧ (parseMethodDescriptor yX3_wardsOf.desc).map (fun d => d.parameters.length) = some 1 := by decide +kernel
theorem in_X3_wardsOf_RX3 : ∀ w ∈ wsX30, w ∈ wsX3_wardsOf := fun w h => List.mem_cons_of_mem _ (List.mem_append_left _ (List.mem_append_right _ h))
theorem lk_X3_wardsOf_9 : Cond.fieldLink RX3 9 "KeyWaves$Lodge" "wards" "[I" ∈ wsX3_wardsOf := List.mem_cons_of_mem _ (List.mem_append_left _ (List.mem_append_left _ (List.mem_of_getElem? (i := 0) rfl)))
def wp_X3_wardsOf_18 (Q : Int32 → Prop) (vLg : OV) (s0 : Int32) : Prop :=
  (Q s0)
set_option maxRecDepth 20000 in
theorem lb_X3_wardsOf_18 {X : List Cond} {l : Launch} {D : va_G} {G : Nat → ClassId} {C : Cx} {bs0 : List va_W} {hLg : Nat} {qLg : Nat → Nat} {Q : Int32 → Prop} {vLg : OV} (F : GF C X cX3_wardsOf wsX3_wardsOf RX3 rm_X3_wardsOf 2 (some .int) D G l) (E : GE C bs0 0 0 (po_X3_wardsOf G hLg qLg vLg Q)) {s0 : Int32} (hw : wp_X3_wardsOf_18 Q vLg s0) : GW C 0 0 [bLg G hLg qLg vLg] 18 [] [.int s0] := by
  unfold wp_X3_wardsOf_18 at hw
  exact gw_iret F E rfl rfl (Nat.le_of_ble_eq_true rfl) (Nat.le_of_ble_eq_true rfl) dX3_wardsOf_18 ⟨_, rfl, rfl, hw⟩
def wp_X3_wardsOf_0 (Q : Int32 → Prop) (vLg : OV) (x1 : Int32) : Prop :=
  (wp_X3_hasKey (fun (r_1 : Int32) => ((r_1 = 0 → (wp_X3_wardsOf_18 Q vLg (0 : Int32))) ∧ (¬ (r_1 = 0) → (vp_in x1 10 ∧ (wp_X3_wardsOf_18 Q vLg (vLg.1 0 x1.toNatClampNeg)))))) x1 vLg)
set_option maxRecDepth 20000 in
theorem lb_X3_wardsOf_0 {X : List Cond} {l : Launch} {D : va_G} {G : Nat → ClassId} {C : Cx} {bs0 : List va_W} {hLg : Nat} {qLg : Nat → Nat} {Q : Int32 → Prop} {vLg : OV} (F : GF C X cX3_wardsOf wsX3_wardsOf RX3 rm_X3_wardsOf 2 (some .int) D G l) (E : GE C bs0 0 0 (po_X3_wardsOf G hLg qLg vLg Q)) {x1 : Int32} (hw : wp_X3_wardsOf_0 Q vLg x1) : GW C 0 0 [bLg G hLg qLg vLg] 0 [(0, .ref hLg), (1, .int x1)] [] := by
  unfold wp_X3_wardsOf_0 at hw
  refine gw_aload_n F dX3_wardsOf_0 0 rfl ?_
  refine gw_iload_n F dX3_wardsOf_1 1 rfl ?_
  refine gw_callV F (ct_X3_hasKey hw) 1 gX3_wardsOf_X3_hasKey rfl rfl rfl hd_X3_hasKey ⟨(Nat.le_of_ble_eq_true rfl), (Nat.le_of_ble_eq_true rfl)⟩ rfl rfl (Nat.le_of_ble_eq_true rfl) ⟨Nat.zero_le _, Nat.zero_le _⟩ [0] (bsr := []) rfl rfl (q0 := 0) rfl rfl dX3_wardsOf_2 ?_
  rintro _ _ ⟨r_1, rfl, rfl, hw⟩
  refine gw_sel [0] (bs' := [bLg G hLg qLg vLg]) rfl rfl ?_
  change GW C 0 0 _ 5 _ [.int r_1]
  refine gw_if_eq (tgt := 17) F dX3_wardsOf_5 (by decide) (fun c_2 => ?_) (fun c_2 => ?_)
  · have hw := hw.1 c_2
    refine gw_iconst (v := (0 : Int32)) F dX3_wardsOf_17 ic_iconst_0 ?_
    refine gw_lv [] rfl ?_
    exact lb_X3_wardsOf_18 F E hw
  · have hw := hw.2 c_2
    refine gw_aload_n F dX3_wardsOf_8 0 rfl ?_
    refine gw_get F in_X3_wardsOf_RX3 0 rfl rfl 0 (by decide) lk_X3_wardsOf_9 rfl dX3_wardsOf_9 ?_
    refine gw_iload_n F dX3_wardsOf_12 1 rfl ?_
    obtain ⟨h_3, hw⟩ := hw
    refine gw_iald F 1 rfl h_3 dX3_wardsOf_13 ?_
    refine gw_goto (tgt := 18) F dX3_wardsOf_14 (by decide) ?_
    refine gw_lv [] rfl ?_
    exact lb_X3_wardsOf_18 F E hw
def wp_X3_wardsOf (Q : Int32 → Prop) (x1 : Int32) (vLg : OV) : Prop := wp_X3_wardsOf_0 Q vLg x1
theorem ct_X3_wardsOf {X : List Cond} {l : Launch} {D : va_G} {G : Nat → ClassId} {hLg : Nat} {qLg : Nat → Nat} {Q : Int32 → Prop} {x1 : Int32} {vLg : OV} (hw : wp_X3_wardsOf Q x1 vLg) : CM X l yX3_wardsOf wsX3_wardsOf rm_X3_wardsOf D G [.ref hLg, .int x1] [bLg G hLg qLg vLg] 0 0 (po_X3_wardsOf G hLg qLg vLg Q) :=
  CM.of pn_RX3 rfl rfl (Nat.le_of_ble_eq_true rfl) rfl (fun C F E => lb_X3_wardsOf_0 F E hw)
-- X3_porterWith
abbrev rm_X3_porterWith : Room := { frames := 2, cells := 0, slots := 0, locals := 81 }
def po_X3_porterWith (G : Nat → ClassId) (hLg : Nat) (qLg : Nat → Nat) (vLg : OV) (Q : Int32 → Prop) : Option Value → List va_W → Prop := fun o bs => ∃ (r : Int32), o = some (.int r) ∧ bs = [bLg G hLg qLg vLg] ∧ Q r
theorem hd_X3_porterWith : yX3_porterWith.cls = RX3 ∧ yX3_porterWith.cls ≠ "java/lang/invoke/MethodHandle" ∧ yX3_porterWith.cls ≠ "java/lang/invoke/VarHandle" ∧ (parseMethodDescriptor yX3_porterWith.desc).map (fun d => d.parameters.length) = some 1 := by decide +kernel
theorem in_X3_porterWith_RX3 : ∀ w ∈ wsX30, w ∈ wsX3_porterWith := fun w h => List.mem_cons_of_mem _ (List.mem_append_left _ (List.mem_append_right _ h))
theorem lk_X3_porterWith_15 : Cond.fieldLink RX3 15 "KeyWaves$Lodge" "porters" "[I" ∈ wsX3_porterWith := List.mem_cons_of_mem _ (List.mem_append_left _ (List.mem_append_left _ (List.mem_of_getElem? (i := 0) rfl)))
def wp_X3_porterWith_18 (Q : Int32 → Prop) (vLg : OV) (s0 : Int32) : Prop :=
  (Q s0)
set_option maxRecDepth 20000 in
theorem lb_X3_porterWith_18 {X : List Cond} {l : Launch} {D : va_G} {G : Nat → ClassId} {C : Cx} {bs0 : List va_W} {hLg : Nat} {qLg : Nat → Nat} {Q : Int32 → Prop} {vLg : OV} (F : GF C X cX3_porterWith wsX3_porterWith RX3 rm_X3_porterWith 2 (some .int) D G l) (E : GE C bs0 0 0 (po_X3_porterWith G hLg qLg vLg Q)) {s0 : Int32} (hw : wp_X3_porterWith_18 Q vLg s0) : GW C 0 0 [bLg G hLg qLg vLg] 18 [] [.int s0] := by
  unfold wp_X3_porterWith_18 at hw
  exact gw_iret F E rfl rfl (Nat.le_of_ble_eq_true rfl) (Nat.le_of_ble_eq_true rfl) dX3_porterWith_18 ⟨_, rfl, rfl, hw⟩
def wp_X3_porterWith_0 (Q : Int32 → Prop) (vLg : OV) (x1 : Int32) : Prop :=
  (wp_X3_hasKey (fun (r_1 : Int32) => ((r_1 = 0 → (wp_X3_porterWith_18 Q vLg (-1 : Int32))) ∧ (¬ (r_1 = 0) → (vp_in x1 10 ∧ (wp_X3_porterWith_18 Q vLg (vLg.1 1 x1.toNatClampNeg)))))) x1 vLg)
set_option maxRecDepth 20000 in
theorem lb_X3_porterWith_0 {X : List Cond} {l : Launch} {D : va_G} {G : Nat → ClassId} {C : Cx} {bs0 : List va_W} {hLg : Nat} {qLg : Nat → Nat} {Q : Int32 → Prop} {vLg : OV} (F : GF C X cX3_porterWith wsX3_porterWith RX3 rm_X3_porterWith 2 (some .int) D G l) (E : GE C bs0 0 0 (po_X3_porterWith G hLg qLg vLg Q)) {x1 : Int32} (hw : wp_X3_porterWith_0 Q vLg x1) : GW C 0 0 [bLg G hLg qLg vLg] 0 [(0, .ref hLg), (1, .int x1)] [] := by
  unfold wp_X3_porterWith_0 at hw
  refine gw_aload_n F dX3_porterWith_0 0 rfl ?_
  refine gw_iload_n F dX3_porterWith_1 1 rfl ?_
  refine gw_callV F (ct_X3_hasKey hw) 1 gX3_porterWith_X3_hasKey rfl rfl rfl hd_X3_hasKey ⟨(Nat.le_of_ble_eq_true rfl), (Nat.le_of_ble_eq_true rfl)⟩ rfl rfl (Nat.le_of_ble_eq_true rfl) ⟨Nat.zero_le _, Nat.zero_le _⟩ [0] (bsr := []) rfl rfl (q0 := 0) rfl rfl dX3_porterWith_2 ?_
  rintro _ _ ⟨r_1, rfl, rfl, hw⟩
  refine gw_sel [0] (bs' := [bLg G hLg qLg vLg]) rfl rfl ?_
  change GW C 0 0 _ 5 _ [.int r_1]
  refine gw_if_eq (tgt := 17) F dX3_porterWith_5 (by decide) (fun c_2 => ?_) (fun c_2 => ?_)
  · have hw := hw.1 c_2
    refine gw_iconst (v := (-1 : Int32)) F dX3_porterWith_17 ic_iconst_m1 ?_
    refine gw_lv [] rfl ?_
    exact lb_X3_porterWith_18 F E hw
  · have hw := hw.2 c_2
    refine gw_aload_n F dX3_porterWith_8 0 rfl ?_
    refine gw_get F in_X3_porterWith_RX3 0 rfl rfl 1 (by decide) lk_X3_porterWith_15 rfl dX3_porterWith_9 ?_
    refine gw_iload_n F dX3_porterWith_12 1 rfl ?_
    obtain ⟨h_3, hw⟩ := hw
    refine gw_iald F 2 rfl h_3 dX3_porterWith_13 ?_
    refine gw_goto (tgt := 18) F dX3_porterWith_14 (by decide) ?_
    refine gw_lv [] rfl ?_
    exact lb_X3_porterWith_18 F E hw
def wp_X3_porterWith (Q : Int32 → Prop) (x1 : Int32) (vLg : OV) : Prop := wp_X3_porterWith_0 Q vLg x1
theorem ct_X3_porterWith {X : List Cond} {l : Launch} {D : va_G} {G : Nat → ClassId} {hLg : Nat} {qLg : Nat → Nat} {Q : Int32 → Prop} {x1 : Int32} {vLg : OV} (hw : wp_X3_porterWith Q x1 vLg) : CM X l yX3_porterWith wsX3_porterWith rm_X3_porterWith D G [.ref hLg, .int x1] [bLg G hLg qLg vLg] 0 0 (po_X3_porterWith G hLg qLg vLg Q) :=
  CM.of pn_RX3 rfl rfl (Nat.le_of_ble_eq_true rfl) rfl (fun C F E => lb_X3_porterWith_0 F E hw)
-- X3_cutCostOf
abbrev rm_X3_cutCostOf : Room := { frames := 2, cells := 0, slots := 0, locals := 81 }
def po_X3_cutCostOf (G : Nat → ClassId) (hLg : Nat) (qLg : Nat → Nat) (vLg : OV) (Q : Int32 → Prop) : Option Value → List va_W → Prop := fun o bs => ∃ (r : Int32), o = some (.int r) ∧ bs = [bLg G hLg qLg vLg] ∧ Q r
theorem hd_X3_cutCostOf : yX3_cutCostOf.cls = RX3 ∧ yX3_cutCostOf.cls ≠ "java/lang/invoke/MethodHandle" ∧ yX3_cutCostOf.cls ≠ "java/lang/invoke/VarHandle" ∧ (parseMethodDescriptor yX3_cutCostOf.desc).map (fun d => d.parameters.length) = some 1 := by decide +kernel
theorem in_X3_cutCostOf_RX3 : ∀ w ∈ wsX30, w ∈ wsX3_cutCostOf := fun w h => List.mem_cons_of_mem _ (List.mem_append_left _ (List.mem_append_right _ h))
theorem lk_X3_cutCostOf_21 : Cond.fieldLink RX3 21 "KeyWaves$Lodge" "cutCosts" "[I" ∈ wsX3_cutCostOf := List.mem_cons_of_mem _ (List.mem_append_left _ (List.mem_append_left _ (List.mem_of_getElem? (i := 0) rfl)))
def wp_X3_cutCostOf_18 (Q : Int32 → Prop) (vLg : OV) (s0 : Int32) : Prop :=
  (Q s0)
set_option maxRecDepth 20000 in
theorem lb_X3_cutCostOf_18 {X : List Cond} {l : Launch} {D : va_G} {G : Nat → ClassId} {C : Cx} {bs0 : List va_W} {hLg : Nat} {qLg : Nat → Nat} {Q : Int32 → Prop} {vLg : OV} (F : GF C X cX3_cutCostOf wsX3_cutCostOf RX3 rm_X3_cutCostOf 2 (some .int) D G l) (E : GE C bs0 0 0 (po_X3_cutCostOf G hLg qLg vLg Q)) {s0 : Int32} (hw : wp_X3_cutCostOf_18 Q vLg s0) : GW C 0 0 [bLg G hLg qLg vLg] 18 [] [.int s0] := by
  unfold wp_X3_cutCostOf_18 at hw
  exact gw_iret F E rfl rfl (Nat.le_of_ble_eq_true rfl) (Nat.le_of_ble_eq_true rfl) dX3_cutCostOf_18 ⟨_, rfl, rfl, hw⟩
def wp_X3_cutCostOf_0 (Q : Int32 → Prop) (vLg : OV) (x1 : Int32) : Prop :=
  (wp_X3_hasKey (fun (r_1 : Int32) => ((r_1 = 0 → (wp_X3_cutCostOf_18 Q vLg (0 : Int32))) ∧ (¬ (r_1 = 0) → (vp_in x1 10 ∧ (wp_X3_cutCostOf_18 Q vLg (vLg.1 3 x1.toNatClampNeg)))))) x1 vLg)
set_option maxRecDepth 20000 in
theorem lb_X3_cutCostOf_0 {X : List Cond} {l : Launch} {D : va_G} {G : Nat → ClassId} {C : Cx} {bs0 : List va_W} {hLg : Nat} {qLg : Nat → Nat} {Q : Int32 → Prop} {vLg : OV} (F : GF C X cX3_cutCostOf wsX3_cutCostOf RX3 rm_X3_cutCostOf 2 (some .int) D G l) (E : GE C bs0 0 0 (po_X3_cutCostOf G hLg qLg vLg Q)) {x1 : Int32} (hw : wp_X3_cutCostOf_0 Q vLg x1) : GW C 0 0 [bLg G hLg qLg vLg] 0 [(0, .ref hLg), (1, .int x1)] [] := by
  unfold wp_X3_cutCostOf_0 at hw
  refine gw_aload_n F dX3_cutCostOf_0 0 rfl ?_
  refine gw_iload_n F dX3_cutCostOf_1 1 rfl ?_
  refine gw_callV F (ct_X3_hasKey hw) 1 gX3_cutCostOf_X3_hasKey rfl rfl rfl hd_X3_hasKey ⟨(Nat.le_of_ble_eq_true rfl), (Nat.le_of_ble_eq_true rfl)⟩ rfl rfl (Nat.le_of_ble_eq_true rfl) ⟨Nat.zero_le _, Nat.zero_le _⟩ [0] (bsr := []) rfl rfl (q0 := 0) rfl rfl dX3_cutCostOf_2 ?_
  rintro _ _ ⟨r_1, rfl, rfl, hw⟩
  refine gw_sel [0] (bs' := [bLg G hLg qLg vLg]) rfl rfl ?_
  change GW C 0 0 _ 5 _ [.int r_1]
  refine gw_if_eq (tgt := 17) F dX3_cutCostOf_5 (by decide) (fun c_2 => ?_) (fun c_2 => ?_)
  · have hw := hw.1 c_2
    refine gw_iconst (v := (0 : Int32)) F dX3_cutCostOf_17 ic_iconst_0 ?_
    refine gw_lv [] rfl ?_
    exact lb_X3_cutCostOf_18 F E hw
  · have hw := hw.2 c_2
    refine gw_aload_n F dX3_cutCostOf_8 0 rfl ?_
    refine gw_get F in_X3_cutCostOf_RX3 0 rfl rfl 3 (by decide) lk_X3_cutCostOf_21 rfl dX3_cutCostOf_9 ?_
    refine gw_iload_n F dX3_cutCostOf_12 1 rfl ?_
    obtain ⟨h_3, hw⟩ := hw
    refine gw_iald F 4 rfl h_3 dX3_cutCostOf_13 ?_
    refine gw_goto (tgt := 18) F dX3_cutCostOf_14 (by decide) ?_
    refine gw_lv [] rfl ?_
    exact lb_X3_cutCostOf_18 F E hw
def wp_X3_cutCostOf (Q : Int32 → Prop) (x1 : Int32) (vLg : OV) : Prop := wp_X3_cutCostOf_0 Q vLg x1
theorem ct_X3_cutCostOf {X : List Cond} {l : Launch} {D : va_G} {G : Nat → ClassId} {hLg : Nat} {qLg : Nat → Nat} {Q : Int32 → Prop} {x1 : Int32} {vLg : OV} (hw : wp_X3_cutCostOf Q x1 vLg) : CM X l yX3_cutCostOf wsX3_cutCostOf rm_X3_cutCostOf D G [.ref hLg, .int x1] [bLg G hLg qLg vLg] 0 0 (po_X3_cutCostOf G hLg qLg vLg Q) :=
  CM.of pn_RX3 rfl rfl (Nat.le_of_ble_eq_true rfl) rfl (fun C F E => lb_X3_cutCostOf_0 F E hw)
-- X3_barsOf
abbrev rm_X3_barsOf : Room := { frames := 2, cells := 0, slots := 0, locals := 81 }
def po_X3_barsOf (G : Nat → ClassId) (hLg : Nat) (qLg : Nat → Nat) (vLg : OV) (Q : Int32 → Prop) : Option Value → List va_W → Prop := fun o bs => ∃ (r : Int32), o = some (.int r) ∧ bs = [bLg G hLg qLg vLg] ∧ Q r
theorem hd_X3_barsOf : yX3_barsOf.cls = RX3 ∧ yX3_barsOf.cls ≠ "java/lang/invoke/MethodHandle" ∧ yX3_barsOf.cls ≠ "java/lang/invoke/VarHandle" ∧ (parseMethodDescriptor yX3_barsOf.desc).map (fun d => d.parameters.length) = some 1 := by decide +kernel
theorem in_X3_barsOf_RX3 : ∀ w ∈ wsX30, w ∈ wsX3_barsOf := fun w h => List.mem_cons_of_mem _ (List.mem_append_left _ (List.mem_append_right _ h))
theorem lk_X3_barsOf_18 : Cond.fieldLink RX3 18 "KeyWaves$Lodge" "bars" "[I" ∈ wsX3_barsOf := List.mem_cons_of_mem _ (List.mem_append_left _ (List.mem_append_left _ (List.mem_of_getElem? (i := 0) rfl)))
def wp_X3_barsOf_18 (Q : Int32 → Prop) (vLg : OV) (s0 : Int32) : Prop :=
  (Q s0)
set_option maxRecDepth 20000 in
theorem lb_X3_barsOf_18 {X : List Cond} {l : Launch} {D : va_G} {G : Nat → ClassId} {C : Cx} {bs0 : List va_W} {hLg : Nat} {qLg : Nat → Nat} {Q : Int32 → Prop} {vLg : OV} (F : GF C X cX3_barsOf wsX3_barsOf RX3 rm_X3_barsOf 2 (some .int) D G l) (E : GE C bs0 0 0 (po_X3_barsOf G hLg qLg vLg Q)) {s0 : Int32} (hw : wp_X3_barsOf_18 Q vLg s0) : GW C 0 0 [bLg G hLg qLg vLg] 18 [] [.int s0] := by
  unfold wp_X3_barsOf_18 at hw
  exact gw_iret F E rfl rfl (Nat.le_of_ble_eq_true rfl) (Nat.le_of_ble_eq_true rfl) dX3_barsOf_18 ⟨_, rfl, rfl, hw⟩
def wp_X3_barsOf_0 (Q : Int32 → Prop) (vLg : OV) (x1 : Int32) : Prop :=
  (wp_X3_hasKey (fun (r_1 : Int32) => ((r_1 = 0 → (wp_X3_barsOf_18 Q vLg (0 : Int32))) ∧ (¬ (r_1 = 0) → (vp_in x1 10 ∧ (wp_X3_barsOf_18 Q vLg (vLg.1 2 x1.toNatClampNeg)))))) x1 vLg)
set_option maxRecDepth 20000 in
theorem lb_X3_barsOf_0 {X : List Cond} {l : Launch} {D : va_G} {G : Nat → ClassId} {C : Cx} {bs0 : List va_W} {hLg : Nat} {qLg : Nat → Nat} {Q : Int32 → Prop} {vLg : OV} (F : GF C X cX3_barsOf wsX3_barsOf RX3 rm_X3_barsOf 2 (some .int) D G l) (E : GE C bs0 0 0 (po_X3_barsOf G hLg qLg vLg Q)) {x1 : Int32} (hw : wp_X3_barsOf_0 Q vLg x1) : GW C 0 0 [bLg G hLg qLg vLg] 0 [(0, .ref hLg), (1, .int x1)] [] := by
  unfold wp_X3_barsOf_0 at hw
  refine gw_aload_n F dX3_barsOf_0 0 rfl ?_
  refine gw_iload_n F dX3_barsOf_1 1 rfl ?_
  refine gw_callV F (ct_X3_hasKey hw) 1 gX3_barsOf_X3_hasKey rfl rfl rfl hd_X3_hasKey ⟨(Nat.le_of_ble_eq_true rfl), (Nat.le_of_ble_eq_true rfl)⟩ rfl rfl (Nat.le_of_ble_eq_true rfl) ⟨Nat.zero_le _, Nat.zero_le _⟩ [0] (bsr := []) rfl rfl (q0 := 0) rfl rfl dX3_barsOf_2 ?_
  rintro _ _ ⟨r_1, rfl, rfl, hw⟩
  refine gw_sel [0] (bs' := [bLg G hLg qLg vLg]) rfl rfl ?_
  change GW C 0 0 _ 5 _ [.int r_1]
  refine gw_if_eq (tgt := 17) F dX3_barsOf_5 (by decide) (fun c_2 => ?_) (fun c_2 => ?_)
  · have hw := hw.1 c_2
    refine gw_iconst (v := (0 : Int32)) F dX3_barsOf_17 ic_iconst_0 ?_
    refine gw_lv [] rfl ?_
    exact lb_X3_barsOf_18 F E hw
  · have hw := hw.2 c_2
    refine gw_aload_n F dX3_barsOf_8 0 rfl ?_
    refine gw_get F in_X3_barsOf_RX3 0 rfl rfl 2 (by decide) lk_X3_barsOf_18 rfl dX3_barsOf_9 ?_
    refine gw_iload_n F dX3_barsOf_12 1 rfl ?_
    obtain ⟨h_3, hw⟩ := hw
    refine gw_iald F 3 rfl h_3 dX3_barsOf_13 ?_
    refine gw_goto (tgt := 18) F dX3_barsOf_14 (by decide) ?_
    refine gw_lv [] rfl ?_
    exact lb_X3_barsOf_18 F E hw
def wp_X3_barsOf (Q : Int32 → Prop) (x1 : Int32) (vLg : OV) : Prop := wp_X3_barsOf_0 Q vLg x1
theorem ct_X3_barsOf {X : List Cond} {l : Launch} {D : va_G} {G : Nat → ClassId} {hLg : Nat} {qLg : Nat → Nat} {Q : Int32 → Prop} {x1 : Int32} {vLg : OV} (hw : wp_X3_barsOf Q x1 vLg) : CM X l yX3_barsOf wsX3_barsOf rm_X3_barsOf D G [.ref hLg, .int x1] [bLg G hLg qLg vLg] 0 0 (po_X3_barsOf G hLg qLg vLg Q) :=
  CM.of pn_RX3 rfl rfl (Nat.le_of_ble_eq_true rfl) rfl (fun C F E => lb_X3_barsOf_0 F E hw)
-- X3_lockWith
abbrev rm_X3_lockWith : Room := { frames := 2, cells := 0, slots := 0, locals := 81 }
def po_X3_lockWith (G : Nat → ClassId) (hLg : Nat) (qLg : Nat → Nat) (vLg : OV) (Q : Int32 → Prop) : Option Value → List va_W → Prop := fun o bs => ∃ (r : Int32), o = some (.int r) ∧ bs = [bLg G hLg qLg vLg] ∧ Q r
theorem hd_X3_lockWith : yX3_lockWith.cls = RX3 ∧ yX3_lockWith.cls ≠ "java/lang/invoke/MethodHandle" ∧ yX3_lockWith.cls ≠ "java/lang/invoke/VarHandle" ∧ (parseMethodDescriptor yX3_lockWith.desc).map (fun d => d.parameters.length) = some 1 := by decide +kernel
theorem in_X3_lockWith_RX3 : ∀ w ∈ wsX30, w ∈ wsX3_lockWith := fun w h => List.mem_cons_of_mem _ (List.mem_append_left _ (List.mem_append_right _ h))
theorem lk_X3_lockWith_24 : Cond.fieldLink RX3 24 "KeyWaves$Lodge" "lockOfKey" "[I" ∈ wsX3_lockWith := List.mem_cons_of_mem _ (List.mem_append_left _ (List.mem_append_left _ (List.mem_of_getElem? (i := 0) rfl)))
def wp_X3_lockWith_18 (Q : Int32 → Prop) (vLg : OV) (s0 : Int32) : Prop :=
  (Q s0)
set_option maxRecDepth 20000 in
theorem lb_X3_lockWith_18 {X : List Cond} {l : Launch} {D : va_G} {G : Nat → ClassId} {C : Cx} {bs0 : List va_W} {hLg : Nat} {qLg : Nat → Nat} {Q : Int32 → Prop} {vLg : OV} (F : GF C X cX3_lockWith wsX3_lockWith RX3 rm_X3_lockWith 2 (some .int) D G l) (E : GE C bs0 0 0 (po_X3_lockWith G hLg qLg vLg Q)) {s0 : Int32} (hw : wp_X3_lockWith_18 Q vLg s0) : GW C 0 0 [bLg G hLg qLg vLg] 18 [] [.int s0] := by
  unfold wp_X3_lockWith_18 at hw
  exact gw_iret F E rfl rfl (Nat.le_of_ble_eq_true rfl) (Nat.le_of_ble_eq_true rfl) dX3_lockWith_18 ⟨_, rfl, rfl, hw⟩
def wp_X3_lockWith_0 (Q : Int32 → Prop) (vLg : OV) (x1 : Int32) : Prop :=
  (wp_X3_hasKey (fun (r_1 : Int32) => ((r_1 = 0 → (wp_X3_lockWith_18 Q vLg (-1 : Int32))) ∧ (¬ (r_1 = 0) → (vp_in x1 10 ∧ (wp_X3_lockWith_18 Q vLg (vLg.1 4 x1.toNatClampNeg)))))) x1 vLg)
set_option maxRecDepth 20000 in
theorem lb_X3_lockWith_0 {X : List Cond} {l : Launch} {D : va_G} {G : Nat → ClassId} {C : Cx} {bs0 : List va_W} {hLg : Nat} {qLg : Nat → Nat} {Q : Int32 → Prop} {vLg : OV} (F : GF C X cX3_lockWith wsX3_lockWith RX3 rm_X3_lockWith 2 (some .int) D G l) (E : GE C bs0 0 0 (po_X3_lockWith G hLg qLg vLg Q)) {x1 : Int32} (hw : wp_X3_lockWith_0 Q vLg x1) : GW C 0 0 [bLg G hLg qLg vLg] 0 [(0, .ref hLg), (1, .int x1)] [] := by
  unfold wp_X3_lockWith_0 at hw
  refine gw_aload_n F dX3_lockWith_0 0 rfl ?_
  refine gw_iload_n F dX3_lockWith_1 1 rfl ?_
  refine gw_callV F (ct_X3_hasKey hw) 1 gX3_lockWith_X3_hasKey rfl rfl rfl hd_X3_hasKey ⟨(Nat.le_of_ble_eq_true rfl), (Nat.le_of_ble_eq_true rfl)⟩ rfl rfl (Nat.le_of_ble_eq_true rfl) ⟨Nat.zero_le _, Nat.zero_le _⟩ [0] (bsr := []) rfl rfl (q0 := 0) rfl rfl dX3_lockWith_2 ?_
  rintro _ _ ⟨r_1, rfl, rfl, hw⟩
  refine gw_sel [0] (bs' := [bLg G hLg qLg vLg]) rfl rfl ?_
  change GW C 0 0 _ 5 _ [.int r_1]
  refine gw_if_eq (tgt := 17) F dX3_lockWith_5 (by decide) (fun c_2 => ?_) (fun c_2 => ?_)
  · have hw := hw.1 c_2
    refine gw_iconst (v := (-1 : Int32)) F dX3_lockWith_17 ic_iconst_m1 ?_
    refine gw_lv [] rfl ?_
    exact lb_X3_lockWith_18 F E hw
  · have hw := hw.2 c_2
    refine gw_aload_n F dX3_lockWith_8 0 rfl ?_
    refine gw_get F in_X3_lockWith_RX3 0 rfl rfl 4 (by decide) lk_X3_lockWith_24 rfl dX3_lockWith_9 ?_
    refine gw_iload_n F dX3_lockWith_12 1 rfl ?_
    obtain ⟨h_3, hw⟩ := hw
    refine gw_iald F 5 rfl h_3 dX3_lockWith_13 ?_
    refine gw_goto (tgt := 18) F dX3_lockWith_14 (by decide) ?_
    refine gw_lv [] rfl ?_
    exact lb_X3_lockWith_18 F E hw
def wp_X3_lockWith (Q : Int32 → Prop) (x1 : Int32) (vLg : OV) : Prop := wp_X3_lockWith_0 Q vLg x1
theorem ct_X3_lockWith {X : List Cond} {l : Launch} {D : va_G} {G : Nat → ClassId} {hLg : Nat} {qLg : Nat → Nat} {Q : Int32 → Prop} {x1 : Int32} {vLg : OV} (hw : wp_X3_lockWith Q x1 vLg) : CM X l yX3_lockWith wsX3_lockWith rm_X3_lockWith D G [.ref hLg, .int x1] [bLg G hLg qLg vLg] 0 0 (po_X3_lockWith G hLg qLg vLg Q) :=
  CM.of pn_RX3 rfl rfl (Nat.le_of_ble_eq_true rfl) rfl (fun C F E => lb_X3_lockWith_0 F E hw)
-- X3_pinsOf
abbrev rm_X3_pinsOf : Room := { frames := 2, cells := 0, slots := 0, locals := 81 }
def po_X3_pinsOf (G : Nat → ClassId) (hLg : Nat) (qLg : Nat → Nat) (vLg : OV) (Q : Int32 → Prop) : Option Value → List va_W → Prop := fun o bs => ∃ (r : Int32), o = some (.int r) ∧ bs = [bLg G hLg qLg vLg] ∧ Q r
theorem hd_X3_pinsOf : yX3_pinsOf.cls = RX3 ∧ yX3_pinsOf.cls ≠ "java/lang/invoke/MethodHandle" ∧ yX3_pinsOf.cls ≠ "java/lang/invoke/VarHandle" ∧ (parseMethodDescriptor yX3_pinsOf.desc).map (fun d => d.parameters.length) = some 1 := by decide +kernel
theorem in_X3_pinsOf_RX3 : ∀ w ∈ wsX30, w ∈ wsX3_pinsOf := fun w h => List.mem_cons_of_mem _ (List.mem_append_left _ (List.mem_append_right _ h))
theorem lk_X3_pinsOf_27 : Cond.fieldLink RX3 27 "KeyWaves$Lodge" "pins" "[I" ∈ wsX3_pinsOf := List.mem_cons_of_mem _ (List.mem_append_left _ (List.mem_append_left _ (List.mem_of_getElem? (i := 0) rfl)))
def wp_X3_pinsOf_18 (Q : Int32 → Prop) (vLg : OV) (s0 : Int32) : Prop :=
  (Q s0)
set_option maxRecDepth 20000 in
theorem lb_X3_pinsOf_18 {X : List Cond} {l : Launch} {D : va_G} {G : Nat → ClassId} {C : Cx} {bs0 : List va_W} {hLg : Nat} {qLg : Nat → Nat} {Q : Int32 → Prop} {vLg : OV} (F : GF C X cX3_pinsOf wsX3_pinsOf RX3 rm_X3_pinsOf 2 (some .int) D G l) (E : GE C bs0 0 0 (po_X3_pinsOf G hLg qLg vLg Q)) {s0 : Int32} (hw : wp_X3_pinsOf_18 Q vLg s0) : GW C 0 0 [bLg G hLg qLg vLg] 18 [] [.int s0] := by
  unfold wp_X3_pinsOf_18 at hw
  exact gw_iret F E rfl rfl (Nat.le_of_ble_eq_true rfl) (Nat.le_of_ble_eq_true rfl) dX3_pinsOf_18 ⟨_, rfl, rfl, hw⟩
def wp_X3_pinsOf_0 (Q : Int32 → Prop) (vLg : OV) (x1 : Int32) : Prop :=
  (wp_X3_hasLock (fun (r_1 : Int32) => ((r_1 = 0 → (wp_X3_pinsOf_18 Q vLg (0 : Int32))) ∧ (¬ (r_1 = 0) → (vp_in x1 10 ∧ (wp_X3_pinsOf_18 Q vLg (vLg.1 5 x1.toNatClampNeg)))))) x1 vLg)
set_option maxRecDepth 20000 in
theorem lb_X3_pinsOf_0 {X : List Cond} {l : Launch} {D : va_G} {G : Nat → ClassId} {C : Cx} {bs0 : List va_W} {hLg : Nat} {qLg : Nat → Nat} {Q : Int32 → Prop} {vLg : OV} (F : GF C X cX3_pinsOf wsX3_pinsOf RX3 rm_X3_pinsOf 2 (some .int) D G l) (E : GE C bs0 0 0 (po_X3_pinsOf G hLg qLg vLg Q)) {x1 : Int32} (hw : wp_X3_pinsOf_0 Q vLg x1) : GW C 0 0 [bLg G hLg qLg vLg] 0 [(0, .ref hLg), (1, .int x1)] [] := by
  unfold wp_X3_pinsOf_0 at hw
  refine gw_aload_n F dX3_pinsOf_0 0 rfl ?_
  refine gw_iload_n F dX3_pinsOf_1 1 rfl ?_
  refine gw_callV F (ct_X3_hasLock hw) 1 gX3_pinsOf_X3_hasLock rfl rfl rfl hd_X3_hasLock ⟨(Nat.le_of_ble_eq_true rfl), (Nat.le_of_ble_eq_true rfl)⟩ rfl rfl (Nat.le_of_ble_eq_true rfl) ⟨Nat.zero_le _, Nat.zero_le _⟩ [0] (bsr := []) rfl rfl (q0 := 0) rfl rfl dX3_pinsOf_2 ?_
  rintro _ _ ⟨r_1, rfl, rfl, hw⟩
  refine gw_sel [0] (bs' := [bLg G hLg qLg vLg]) rfl rfl ?_
  change GW C 0 0 _ 5 _ [.int r_1]
  refine gw_if_eq (tgt := 17) F dX3_pinsOf_5 (by decide) (fun c_2 => ?_) (fun c_2 => ?_)
  · have hw := hw.1 c_2
    refine gw_iconst (v := (0 : Int32)) F dX3_pinsOf_17 ic_iconst_0 ?_
    refine gw_lv [] rfl ?_
    exact lb_X3_pinsOf_18 F E hw
  · have hw := hw.2 c_2
    refine gw_aload_n F dX3_pinsOf_8 0 rfl ?_
    refine gw_get F in_X3_pinsOf_RX3 0 rfl rfl 5 (by decide) lk_X3_pinsOf_27 rfl dX3_pinsOf_9 ?_
    refine gw_iload_n F dX3_pinsOf_12 1 rfl ?_
    obtain ⟨h_3, hw⟩ := hw
    refine gw_iald F 6 rfl h_3 dX3_pinsOf_13 ?_
    refine gw_goto (tgt := 18) F dX3_pinsOf_14 (by decide) ?_
    refine gw_lv [] rfl ?_
    exact lb_X3_pinsOf_18 F E hw
def wp_X3_pinsOf (Q : Int32 → Prop) (x1 : Int32) (vLg : OV) : Prop := wp_X3_pinsOf_0 Q vLg x1
theorem ct_X3_pinsOf {X : List Cond} {l : Launch} {D : va_G} {G : Nat → ClassId} {hLg : Nat} {qLg : Nat → Nat} {Q : Int32 → Prop} {x1 : Int32} {vLg : OV} (hw : wp_X3_pinsOf Q x1 vLg) : CM X l yX3_pinsOf wsX3_pinsOf rm_X3_pinsOf D G [.ref hLg, .int x1] [bLg G hLg qLg vLg] 0 0 (po_X3_pinsOf G hLg qLg vLg Q) :=
  CM.of pn_RX3 rfl rfl (Nat.le_of_ble_eq_true rfl) rfl (fun C F E => lb_X3_pinsOf_0 F E hw)
-- X3_keyIn
abbrev rm_X3_keyIn : Room := { frames := 2, cells := 0, slots := 0, locals := 81 }
def po_X3_keyIn (G : Nat → ClassId) (hLg : Nat) (qLg : Nat → Nat) (vLg : OV) (Q : Int32 → Prop) : Option Value → List va_W → Prop := fun o bs => ∃ (r : Int32), o = some (.int r) ∧ bs = [bLg G hLg qLg vLg] ∧ Q r
theorem hd_X3_keyIn : yX3_keyIn.cls = RX3 ∧ yX3_keyIn.cls ≠ "java/lang/invoke/MethodHandle" ∧ yX3_keyIn.cls ≠ "java/lang/invoke/VarHandle" ∧ (parseMethodDescriptor yX3_keyIn.desc).map (fun d => d.parameters.length) = some 1 := by decide +kernel
theorem in_X3_keyIn_RX3 : ∀ w ∈ wsX30, w ∈ wsX3_keyIn := fun w h => List.mem_cons_of_mem _ (List.mem_append_left _ (List.mem_append_right _ h))
theorem lk_X3_keyIn_30 : Cond.fieldLink RX3 30 "KeyWaves$Lodge" "keyOfLock" "[I" ∈ wsX3_keyIn := List.mem_cons_of_mem _ (List.mem_append_left _ (List.mem_append_left _ (List.mem_of_getElem? (i := 0) rfl)))
def wp_X3_keyIn_18 (Q : Int32 → Prop) (vLg : OV) (s0 : Int32) : Prop :=
  (Q s0)
set_option maxRecDepth 20000 in
theorem lb_X3_keyIn_18 {X : List Cond} {l : Launch} {D : va_G} {G : Nat → ClassId} {C : Cx} {bs0 : List va_W} {hLg : Nat} {qLg : Nat → Nat} {Q : Int32 → Prop} {vLg : OV} (F : GF C X cX3_keyIn wsX3_keyIn RX3 rm_X3_keyIn 2 (some .int) D G l) (E : GE C bs0 0 0 (po_X3_keyIn G hLg qLg vLg Q)) {s0 : Int32} (hw : wp_X3_keyIn_18 Q vLg s0) : GW C 0 0 [bLg G hLg qLg vLg] 18 [] [.int s0] := by
  unfold wp_X3_keyIn_18 at hw
  exact gw_iret F E rfl rfl (Nat.le_of_ble_eq_true rfl) (Nat.le_of_ble_eq_true rfl) dX3_keyIn_18 ⟨_, rfl, rfl, hw⟩
def wp_X3_keyIn_0 (Q : Int32 → Prop) (vLg : OV) (x1 : Int32) : Prop :=
  (wp_X3_hasLock (fun (r_1 : Int32) => ((r_1 = 0 → (wp_X3_keyIn_18 Q vLg (-1 : Int32))) ∧ (¬ (r_1 = 0) → (vp_in x1 10 ∧ (wp_X3_keyIn_18 Q vLg (vLg.1 6 x1.toNatClampNeg)))))) x1 vLg)
set_option maxRecDepth 20000 in
theorem lb_X3_keyIn_0 {X : List Cond} {l : Launch} {D : va_G} {G : Nat → ClassId} {C : Cx} {bs0 : List va_W} {hLg : Nat} {qLg : Nat → Nat} {Q : Int32 → Prop} {vLg : OV} (F : GF C X cX3_keyIn wsX3_keyIn RX3 rm_X3_keyIn 2 (some .int) D G l) (E : GE C bs0 0 0 (po_X3_keyIn G hLg qLg vLg Q)) {x1 : Int32} (hw : wp_X3_keyIn_0 Q vLg x1) : GW C 0 0 [bLg G hLg qLg vLg] 0 [(0, .ref hLg), (1, .int x1)] [] := by
  unfold wp_X3_keyIn_0 at hw
  refine gw_aload_n F dX3_keyIn_0 0 rfl ?_
  refine gw_iload_n F dX3_keyIn_1 1 rfl ?_
  refine gw_callV F (ct_X3_hasLock hw) 1 gX3_keyIn_X3_hasLock rfl rfl rfl hd_X3_hasLock ⟨(Nat.le_of_ble_eq_true rfl), (Nat.le_of_ble_eq_true rfl)⟩ rfl rfl (Nat.le_of_ble_eq_true rfl) ⟨Nat.zero_le _, Nat.zero_le _⟩ [0] (bsr := []) rfl rfl (q0 := 0) rfl rfl dX3_keyIn_2 ?_
  rintro _ _ ⟨r_1, rfl, rfl, hw⟩
  refine gw_sel [0] (bs' := [bLg G hLg qLg vLg]) rfl rfl ?_
  change GW C 0 0 _ 5 _ [.int r_1]
  refine gw_if_eq (tgt := 17) F dX3_keyIn_5 (by decide) (fun c_2 => ?_) (fun c_2 => ?_)
  · have hw := hw.1 c_2
    refine gw_iconst (v := (-1 : Int32)) F dX3_keyIn_17 ic_iconst_m1 ?_
    refine gw_lv [] rfl ?_
    exact lb_X3_keyIn_18 F E hw
  · have hw := hw.2 c_2
    refine gw_aload_n F dX3_keyIn_8 0 rfl ?_
    refine gw_get F in_X3_keyIn_RX3 0 rfl rfl 6 (by decide) lk_X3_keyIn_30 rfl dX3_keyIn_9 ?_
    refine gw_iload_n F dX3_keyIn_12 1 rfl ?_
    obtain ⟨h_3, hw⟩ := hw
    refine gw_iald F 7 rfl h_3 dX3_keyIn_13 ?_
    refine gw_goto (tgt := 18) F dX3_keyIn_14 (by decide) ?_
    refine gw_lv [] rfl ?_
    exact lb_X3_keyIn_18 F E hw
def wp_X3_keyIn (Q : Int32 → Prop) (x1 : Int32) (vLg : OV) : Prop := wp_X3_keyIn_0 Q vLg x1
theorem ct_X3_keyIn {X : List Cond} {l : Launch} {D : va_G} {G : Nat → ClassId} {hLg : Nat} {qLg : Nat → Nat} {Q : Int32 → Prop} {x1 : Int32} {vLg : OV} (hw : wp_X3_keyIn Q x1 vLg) : CM X l yX3_keyIn wsX3_keyIn rm_X3_keyIn D G [.ref hLg, .int x1] [bLg G hLg qLg vLg] 0 0 (po_X3_keyIn G hLg qLg vLg Q) :=
  CM.of pn_RX3 rfl rfl (Nat.le_of_ble_eq_true rfl) rfl (fun C F E => lb_X3_keyIn_0 F E hw)
-- X3_putCountOf
abbrev rm_X3_putCountOf : Room := { frames := 2, cells := 0, slots := 0, locals := 81 }
def po_X3_putCountOf (G : Nat → ClassId) (hLg : Nat) (qLg : Nat → Nat) (vLg : OV) (Q : Int32 → Prop) : Option Value → List va_W → Prop := fun o bs => ∃ (r : Int32), o = some (.int r) ∧ bs = [bLg G hLg qLg vLg] ∧ Q r
theorem hd_X3_putCountOf : yX3_putCountOf.cls = RX3 ∧ yX3_putCountOf.cls ≠ "java/lang/invoke/MethodHandle" ∧ yX3_putCountOf.cls ≠ "java/lang/invoke/VarHandle" ∧ (parseMethodDescriptor yX3_putCountOf.desc).map (fun d => d.parameters.length) = some 1 := by decide +kernel
theorem in_X3_putCountOf_RX3 : ∀ w ∈ wsX30, w ∈ wsX3_putCountOf := fun w h => List.mem_cons_of_mem _ (List.mem_append_left _ (List.mem_append_right _ h))
theorem lk_X3_putCountOf_33 : Cond.fieldLink RX3 33 "KeyWaves$Lodge" "putCounts" "[I" ∈ wsX3_putCountOf := List.mem_cons_of_mem _ (List.mem_append_left _ (List.mem_append_left _ (List.mem_of_getElem? (i := 0) rfl)))
def wp_X3_putCountOf_18 (Q : Int32 → Prop) (vLg : OV) (s0 : Int32) : Prop :=
  (Q s0)
set_option maxRecDepth 20000 in
theorem lb_X3_putCountOf_18 {X : List Cond} {l : Launch} {D : va_G} {G : Nat → ClassId} {C : Cx} {bs0 : List va_W} {hLg : Nat} {qLg : Nat → Nat} {Q : Int32 → Prop} {vLg : OV} (F : GF C X cX3_putCountOf wsX3_putCountOf RX3 rm_X3_putCountOf 2 (some .int) D G l) (E : GE C bs0 0 0 (po_X3_putCountOf G hLg qLg vLg Q)) {s0 : Int32} (hw : wp_X3_putCountOf_18 Q vLg s0) : GW C 0 0 [bLg G hLg qLg vLg] 18 [] [.int s0] := by
  unfold wp_X3_putCountOf_18 at hw
  exact gw_iret F E rfl rfl (Nat.le_of_ble_eq_true rfl) (Nat.le_of_ble_eq_true rfl) dX3_putCountOf_18 ⟨_, rfl, rfl, hw⟩
def wp_X3_putCountOf_0 (Q : Int32 → Prop) (vLg : OV) (x1 : Int32) : Prop :=
  (wp_X3_hasLock (fun (r_1 : Int32) => ((r_1 = 0 → (wp_X3_putCountOf_18 Q vLg (0 : Int32))) ∧ (¬ (r_1 = 0) → (vp_in x1 10 ∧ (wp_X3_putCountOf_18 Q vLg (vLg.1 7 x1.toNatClampNeg)))))) x1 vLg)
set_option maxRecDepth 20000 in
theorem lb_X3_putCountOf_0 {X : List Cond} {l : Launch} {D : va_G} {G : Nat → ClassId} {C : Cx} {bs0 : List va_W} {hLg : Nat} {qLg : Nat → Nat} {Q : Int32 → Prop} {vLg : OV} (F : GF C X cX3_putCountOf wsX3_putCountOf RX3 rm_X3_putCountOf 2 (some .int) D G l) (E : GE C bs0 0 0 (po_X3_putCountOf G hLg qLg vLg Q)) {x1 : Int32} (hw : wp_X3_putCountOf_0 Q vLg x1) : GW C 0 0 [bLg G hLg qLg vLg] 0 [(0, .ref hLg), (1, .int x1)] [] := by
  unfold wp_X3_putCountOf_0 at hw
  refine gw_aload_n F dX3_putCountOf_0 0 rfl ?_
  refine gw_iload_n F dX3_putCountOf_1 1 rfl ?_
  refine gw_callV F (ct_X3_hasLock hw) 1 gX3_putCountOf_X3_hasLock rfl rfl rfl hd_X3_hasLock ⟨(Nat.le_of_ble_eq_true rfl), (Nat.le_of_ble_eq_true rfl)⟩ rfl rfl (Nat.le_of_ble_eq_true rfl) ⟨Nat.zero_le _, Nat.zero_le _⟩ [0] (bsr := []) rfl rfl (q0 := 0) rfl rfl dX3_putCountOf_2 ?_
  rintro _ _ ⟨r_1, rfl, rfl, hw⟩
  refine gw_sel [0] (bs' := [bLg G hLg qLg vLg]) rfl rfl ?_
  change GW C 0 0 _ 5 _ [.int r_1]
  refine gw_if_eq (tgt := 17) F dX3_putCountOf_5 (by decide) (fun c_2 => ?_) (fun c_2 => ?_)
  · have hw := hw.1 c_2
    refine gw_iconst (v := (0 : Int32)) F dX3_putCountOf_17 ic_iconst_0 ?_
    refine gw_lv [] rfl ?_
    exact lb_X3_putCountOf_18 F E hw
  · have hw := hw.2 c_2
    refine gw_aload_n F dX3_putCountOf_8 0 rfl ?_
    refine gw_get F in_X3_putCountOf_RX3 0 rfl rfl 7 (by decide) lk_X3_putCountOf_33 rfl dX3_putCountOf_9 ?_
    refine gw_iload_n F dX3_putCountOf_12 1 rfl ?_
    obtain ⟨h_3, hw⟩ := hw
    refine gw_iald F 8 rfl h_3 dX3_putCountOf_13 ?_
    refine gw_goto (tgt := 18) F dX3_putCountOf_14 (by decide) ?_
    refine gw_lv [] rfl ?_
    exact lb_X3_putCountOf_18 F E hw
def wp_X3_putCountOf (Q : Int32 → Prop) (x1 : Int32) (vLg : OV) : Prop := wp_X3_putCountOf_0 Q vLg x1
theorem ct_X3_putCountOf {X : List Cond} {l : Launch} {D : va_G} {G : Nat → ClassId} {hLg : Nat} {qLg : Nat → Nat} {Q : Int32 → Prop} {x1 : Int32} {vLg : OV} (hw : wp_X3_putCountOf Q x1 vLg) : CM X l yX3_putCountOf wsX3_putCountOf rm_X3_putCountOf D G [.ref hLg, .int x1] [bLg G hLg qLg vLg] 0 0 (po_X3_putCountOf G hLg qLg vLg Q) :=
  CM.of pn_RX3 rfl rfl (Nat.le_of_ble_eq_true rfl) rfl (fun C F E => lb_X3_putCountOf_0 F E hw)
-- X3_hasBar
abbrev rm_X3_hasBar : Room := { frames := 3, cells := 0, slots := 0, locals := 102 }
def po_X3_hasBar (G : Nat → ClassId) (hLg : Nat) (qLg : Nat → Nat) (vLg : OV) (Q : Int32 → Prop) : Option Value → List va_W → Prop := fun o bs => ∃ (r : Int32), o = some (.int r) ∧ bs = [bLg G hLg qLg vLg] ∧ Q r
theorem hd_X3_hasBar : yX3_hasBar.cls = RX3 ∧ yX3_hasBar.cls ≠ "java/lang/invoke/MethodHandle" ∧ yX3_hasBar.cls ≠ "java/lang/invoke/VarHandle" ∧ (parseMethodDescriptor yX3_hasBar.desc).map (fun d => d.parameters.length) = some 2 := by decide +kernel
def wp_X3_hasBar_25 (Q : Int32 → Prop) (vLg : OV) (s0 : Int32) : Prop :=
  (narrow .boolean (.int s0) = .int s0 ∧ Q s0)
set_option maxRecDepth 20000 in
theorem lb_X3_hasBar_25 {X : List Cond} {l : Launch} {D : va_G} {G : Nat → ClassId} {C : Cx} {bs0 : List va_W} {hLg : Nat} {qLg : Nat → Nat} {Q : Int32 → Prop} {vLg : OV} (F : GF C X cX3_hasBar wsX3_hasBar RX3 rm_X3_hasBar 3 (some .boolean) D G l) (E : GE C bs0 0 0 (po_X3_hasBar G hLg qLg vLg Q)) {s0 : Int32} (hw : wp_X3_hasBar_25 Q vLg s0) : GW C 0 0 [bLg G hLg qLg vLg] 25 [] [.int s0] := by
  unfold wp_X3_hasBar_25 at hw
  obtain ⟨hn, hw⟩ := hw
  exact gw_iret F E rfl hn (Nat.le_of_ble_eq_true rfl) (Nat.le_of_ble_eq_true rfl) dX3_hasBar_25 ⟨_, rfl, rfl, hw⟩
def wp_X3_hasBar_24 (Q : Int32 → Prop) (vLg : OV) : Prop :=
  (wp_X3_hasBar_25 Q vLg (0 : Int32))
set_option maxRecDepth 20000 in
theorem lb_X3_hasBar_24 {X : List Cond} {l : Launch} {D : va_G} {G : Nat → ClassId} {C : Cx} {bs0 : List va_W} {hLg : Nat} {qLg : Nat → Nat} {Q : Int32 → Prop} {vLg : OV} (F : GF C X cX3_hasBar wsX3_hasBar RX3 rm_X3_hasBar 3 (some .boolean) D G l) (E : GE C bs0 0 0 (po_X3_hasBar G hLg qLg vLg Q)) (hw : wp_X3_hasBar_24 Q vLg ) : GW C 0 0 [bLg G hLg qLg vLg] 24 [] [] := by
  unfold wp_X3_hasBar_24 at hw
  refine gw_iconst (v := (0 : Int32)) F dX3_hasBar_24 ic_iconst_0 ?_
  exact lb_X3_hasBar_25 F E hw
def wp_X3_hasBar_0 (Q : Int32 → Prop) (vLg : OV) (x1 : Int32) (x2 : Int32) : Prop :=
  (wp_X3_hasLock (fun (r_1 : Int32) => ((r_1 = 0 → (wp_X3_hasBar_24 Q vLg)) ∧ (¬ (r_1 = 0) → (wp_X3_barsOf (fun (r_3 : Int32) => (((r_3 &&& ((1 : Int32) <<< (x2 &&& 31))) = 0 → (wp_X3_hasBar_24 Q vLg)) ∧ (¬ ((r_3 &&& ((1 : Int32) <<< (x2 &&& 31))) = 0) → (wp_X3_hasBar_25 Q vLg (1 : Int32))))) x1 vLg)))) x2 vLg)
set_option maxRecDepth 20000 in
theorem lb_X3_hasBar_0 {X : List Cond} {l : Launch} {D : va_G} {G : Nat → ClassId} {C : Cx} {bs0 : List va_W} {hLg : Nat} {qLg : Nat → Nat} {Q : Int32 → Prop} {vLg : OV} (F : GF C X cX3_hasBar wsX3_hasBar RX3 rm_X3_hasBar 3 (some .boolean) D G l) (E : GE C bs0 0 0 (po_X3_hasBar G hLg qLg vLg Q)) {x1 : Int32} {x2 : Int32} (hw : wp_X3_hasBar_0 Q vLg x1 x2) : GW C 0 0 [bLg G hLg qLg vLg] 0 [(0, .ref hLg), (1, .int x1), (2, .int x2)] [] := by
  unfold wp_X3_hasBar_0 at hw
  refine gw_aload_n F dX3_hasBar_0 0 rfl ?_
  refine gw_iload_n F dX3_hasBar_1 2 rfl ?_
  refine gw_callV F (ct_X3_hasLock hw) 1 gX3_hasBar_X3_hasLock rfl rfl rfl hd_X3_hasLock ⟨(Nat.le_of_ble_eq_true rfl), (Nat.le_of_ble_eq_true rfl)⟩ rfl rfl (Nat.le_of_ble_eq_true rfl) ⟨Nat.zero_le _, Nat.zero_le _⟩ [0] (bsr := []) rfl rfl (q0 := 0) rfl rfl dX3_hasBar_2 ?_
  rintro _ _ ⟨r_1, rfl, rfl, hw⟩
  refine gw_sel [0] (bs' := [bLg G hLg qLg vLg]) rfl rfl ?_
  change GW C 0 0 _ 5 _ [.int r_1]
  refine gw_if_eq (tgt := 24) F dX3_hasBar_5 (by decide) (fun c_2 => ?_) (fun c_2 => ?_)
  · have hw := hw.1 c_2
    refine gw_lv [] rfl ?_
    exact lb_X3_hasBar_24 F E hw
  · have hw := hw.2 c_2
    refine gw_aload_n F dX3_hasBar_8 0 rfl ?_
    refine gw_iload_n F dX3_hasBar_9 1 rfl ?_
    refine gw_callV F (ct_X3_barsOf hw) 1 gX3_hasBar_X3_barsOf rfl rfl rfl hd_X3_barsOf ⟨(Nat.le_of_ble_eq_true rfl), (Nat.le_of_ble_eq_true rfl)⟩ rfl rfl (Nat.le_of_ble_eq_true rfl) ⟨Nat.zero_le _, Nat.zero_le _⟩ [0] (bsr := []) rfl rfl (q0 := 0) rfl rfl dX3_hasBar_10 ?_
    rintro _ _ ⟨r_3, rfl, rfl, hw⟩
    refine gw_sel [0] (bs' := [bLg G hLg qLg vLg]) rfl rfl ?_
    change GW C 0 0 _ 13 _ [.int r_3]
    refine gw_iconst (v := (1 : Int32)) F dX3_hasBar_13 ic_iconst_1 ?_
    refine gw_iload_n F dX3_hasBar_14 2 rfl ?_
    refine gw_ishl F dX3_hasBar_15 ?_
    refine gw_iand F dX3_hasBar_16 ?_
    refine gw_if_eq (tgt := 24) F dX3_hasBar_17 (by decide) (fun c_4 => ?_) (fun c_4 => ?_)
    · have hw := hw.1 c_4
      refine gw_lv [] rfl ?_
      exact lb_X3_hasBar_24 F E hw
    · have hw := hw.2 c_4
      refine gw_iconst (v := (1 : Int32)) F dX3_hasBar_20 ic_iconst_1 ?_
      refine gw_goto (tgt := 25) F dX3_hasBar_21 (by decide) ?_
      refine gw_lv [] rfl ?_
      exact lb_X3_hasBar_25 F E hw
def wp_X3_hasBar (Q : Int32 → Prop) (x1 : Int32) (x2 : Int32) (vLg : OV) : Prop := wp_X3_hasBar_0 Q vLg x1 x2
theorem ct_X3_hasBar {X : List Cond} {l : Launch} {D : va_G} {G : Nat → ClassId} {hLg : Nat} {qLg : Nat → Nat} {Q : Int32 → Prop} {x1 : Int32} {x2 : Int32} {vLg : OV} (hw : wp_X3_hasBar Q x1 x2 vLg) : CM X l yX3_hasBar wsX3_hasBar rm_X3_hasBar D G [.ref hLg, .int x1, .int x2] [bLg G hLg qLg vLg] 0 0 (po_X3_hasBar G hLg qLg vLg Q) :=
  CM.of pn_RX3 rfl rfl (Nat.le_of_ble_eq_true rfl) rfl (fun C F E => lb_X3_hasBar_0 F E hw)
-- X3_isFit
abbrev rm_X3_isFit : Room := { frames := 2, cells := 0, slots := 0, locals := 81 }
def po_X3_isFit (G : Nat → ClassId) (hLg : Nat) (qLg : Nat → Nat) (vLg : OV) (Q : Int32 → Prop) : Option Value → List va_W → Prop := fun o bs => ∃ (r : Int32), o = some (.int r) ∧ bs = [bLg G hLg qLg vLg] ∧ Q r
theorem hd_X3_isFit : yX3_isFit.cls = RX3 ∧ yX3_isFit.cls ≠ "java/lang/invoke/MethodHandle" ∧ yX3_isFit.cls ≠ "java/lang/invoke/VarHandle" ∧ (parseMethodDescriptor yX3_isFit.desc).map (fun d => d.parameters.length) = some 2 := by decide +kernel
theorem in_X3_isFit_RX3 : ∀ w ∈ wsX30, w ∈ wsX3_isFit := fun w h => List.mem_cons_of_mem _ (List.mem_append_left _ (List.mem_append_right _ h))
theorem lk_X3_isFit_27 : Cond.fieldLink RX3 27 "KeyWaves$Lodge" "pins" "[I" ∈ wsX3_isFit := List.mem_cons_of_mem _ (List.mem_append_left _ (List.mem_append_left _ (List.mem_of_getElem? (i := 0) rfl)))
theorem lk_X3_isFit_9 : Cond.fieldLink RX3 9 "KeyWaves$Lodge" "wards" "[I" ∈ wsX3_isFit := List.mem_cons_of_mem _ (List.mem_append_left _ (List.mem_append_left _ (List.mem_of_getElem? (i := 1) rfl)))
theorem lk_X3_isFit_43 : Cond.fieldLink RX3 43 "KeyWaves$Lodge" "slack" "I" ∈ wsX3_isFit := List.mem_cons_of_mem _ (List.mem_append_left _ (List.mem_append_left _ (List.mem_of_getElem? (i := 2) rfl)))
theorem lk_X3_isFit_18 : Cond.fieldLink RX3 18 "KeyWaves$Lodge" "bars" "[I" ∈ wsX3_isFit := List.mem_cons_of_mem _ (List.mem_append_left _ (List.mem_append_left _ (List.mem_of_getElem? (i := 3) rfl)))
def wp_X3_isFit_16 (Q : Int32 → Prop) (vLg : OV) : Prop :=
  (Q (0 : Int32))
set_option maxRecDepth 20000 in
theorem lb_X3_isFit_16 {X : List Cond} {l : Launch} {D : va_G} {G : Nat → ClassId} {C : Cx} {bs0 : List va_W} {hLg : Nat} {qLg : Nat → Nat} {Q : Int32 → Prop} {vLg : OV} (F : GF C X cX3_isFit wsX3_isFit RX3 rm_X3_isFit 5 (some .boolean) D G l) (E : GE C bs0 0 0 (po_X3_isFit G hLg qLg vLg Q)) (hw : wp_X3_isFit_16 Q vLg ) : GW C 0 0 [bLg G hLg qLg vLg] 16 [] [] := by
  unfold wp_X3_isFit_16 at hw
  refine gw_iconst (v := (0 : Int32)) F dX3_isFit_16 ic_iconst_0 ?_
  exact gw_iret F E rfl rfl (Nat.le_of_ble_eq_true rfl) (Nat.le_of_ble_eq_true rfl) dX3_isFit_17 ⟨_, rfl, rfl, hw⟩
def wp_X3_isFit_102 (Q : Int32 → Prop) (vLg : OV) (s0 : Int32) : Prop :=
  (narrow .boolean (.int s0) = .int s0 ∧ Q s0)
set_option maxRecDepth 20000 in
theorem lb_X3_isFit_102 {X : List Cond} {l : Launch} {D : va_G} {G : Nat → ClassId} {C : Cx} {bs0 : List va_W} {hLg : Nat} {qLg : Nat → Nat} {Q : Int32 → Prop} {vLg : OV} (F : GF C X cX3_isFit wsX3_isFit RX3 rm_X3_isFit 5 (some .boolean) D G l) (E : GE C bs0 0 0 (po_X3_isFit G hLg qLg vLg Q)) {s0 : Int32} (hw : wp_X3_isFit_102 Q vLg s0) : GW C 0 0 [bLg G hLg qLg vLg] 102 [] [.int s0] := by
  unfold wp_X3_isFit_102 at hw
  obtain ⟨hn, hw⟩ := hw
  exact gw_iret F E rfl hn (Nat.le_of_ble_eq_true rfl) (Nat.le_of_ble_eq_true rfl) dX3_isFit_102 ⟨_, rfl, rfl, hw⟩
def wp_X3_isFit_101 (Q : Int32 → Prop) (vLg : OV) : Prop :=
  (wp_X3_isFit_102 Q vLg (0 : Int32))
set_option maxRecDepth 20000 in
theorem lb_X3_isFit_101 {X : List Cond} {l : Launch} {D : va_G} {G : Nat → ClassId} {C : Cx} {bs0 : List va_W} {hLg : Nat} {qLg : Nat → Nat} {Q : Int32 → Prop} {vLg : OV} (F : GF C X cX3_isFit wsX3_isFit RX3 rm_X3_isFit 5 (some .boolean) D G l) (E : GE C bs0 0 0 (po_X3_isFit G hLg qLg vLg Q)) (hw : wp_X3_isFit_101 Q vLg ) : GW C 0 0 [bLg G hLg qLg vLg] 101 [] [] := by
  unfold wp_X3_isFit_101 at hw
  refine gw_iconst (v := (0 : Int32)) F dX3_isFit_101 ic_iconst_0 ?_
  exact lb_X3_isFit_102 F E hw
def wp_X3_isFit_73 (Q : Int32 → Prop) (vLg : OV) (x1 x2 x3 s0 : Int32) : Prop :=
  ((x3 = 0 → (wp_X3_isFit_101 Q vLg)) ∧ (¬ (x3 = 0) → ((s0 = 0 → (wp_X3_isFit_101 Q vLg)) ∧ (¬ (s0 = 0) → (vp_in x1 10 ∧ ((¬ ((vLg.1 2 x1.toNatClampNeg) &&& ((1 : Int32) <<< (x2 &&& 31))) = 0 → (wp_X3_isFit_101 Q vLg)) ∧ (((vLg.1 2 x1.toNatClampNeg) &&& ((1 : Int32) <<< (x2 &&& 31))) = 0 → (wp_X3_isFit_102 Q vLg (1 : Int32)))))))))
set_option maxRecDepth 20000 in
theorem lb_X3_isFit_73 {X : List Cond} {l : Launch} {D : va_G} {G : Nat → ClassId} {C : Cx} {bs0 : List va_W} {hLg : Nat} {qLg : Nat → Nat} {Q : Int32 → Prop} {vLg : OV} (F : GF C X cX3_isFit wsX3_isFit RX3 rm_X3_isFit 5 (some .boolean) D G l) (E : GE C bs0 0 0 (po_X3_isFit G hLg qLg vLg Q)) {x1 x2 x3 s0 : Int32} (hw : wp_X3_isFit_73 Q vLg x1 x2 x3 s0) : GW C 0 0 [bLg G hLg qLg vLg] 73 [(0, .ref hLg), (1, .int x1), (2, .int x2), (3, .int x3)] [.int s0] := by
  unfold wp_X3_isFit_73 at hw
  refine gw_istore (lv' := [(4, .int s0), (0, .ref hLg), (1, .int x1), (2, .int x2), (3, .int x3)]) F dX3_isFit_73 (by decide) rfl ?_
  refine gw_iload_n F dX3_isFit_75 4 rfl ?_
  refine gw_if_eq (tgt := 101) F dX3_isFit_76 (by decide) (fun c_13 => ?_) (fun c_13 => ?_)
  · have hw := hw.1 c_13
    refine gw_lv [] rfl ?_
    exact lb_X3_isFit_101 F E hw
  · have hw := hw.2 c_13
    refine gw_iload F dX3_isFit_79 0 rfl ?_
    refine gw_if_eq (tgt := 101) F dX3_isFit_81 (by decide) (fun c_14 => ?_) (fun c_14 => ?_)
    · have hw := hw.1 c_14
      refine gw_lv [] rfl ?_
      exact lb_X3_isFit_101 F E hw
    · have hw := hw.2 c_14
      refine gw_aload_n F dX3_isFit_84 1 rfl ?_
      refine gw_get F in_X3_isFit_RX3 0 rfl rfl 2 (by decide) lk_X3_isFit_18 rfl dX3_isFit_85 ?_
      refine gw_iload_n F dX3_isFit_88 2 rfl ?_
      obtain ⟨h_15, hw⟩ := hw
      refine gw_iald F 3 rfl h_15 dX3_isFit_89 ?_
      refine gw_iconst (v := (1 : Int32)) F dX3_isFit_90 ic_iconst_1 ?_
      refine gw_iload_n F dX3_isFit_91 3 rfl ?_
      refine gw_ishl F dX3_isFit_92 ?_
      refine gw_iand F dX3_isFit_93 ?_
      refine gw_if_ne (tgt := 101) F dX3_isFit_94 (by decide) (fun c_16 => ?_) (fun c_16 => ?_)
      · have hw := hw.1 c_16
        refine gw_lv [] rfl ?_
        exact lb_X3_isFit_101 F E hw
      · have hw := hw.2 c_16
        refine gw_iconst (v := (1 : Int32)) F dX3_isFit_97 ic_iconst_1 ?_
        refine gw_goto (tgt := 102) F dX3_isFit_98 (by decide) ?_
        refine gw_lv [] rfl ?_
        exact lb_X3_isFit_102 F E hw
def wp_X3_isFit_41 (Q : Int32 → Prop) (vLg : OV) (x1 x2 s0 : Int32) : Prop :=
  (vp_in x1 10 ∧ (wp_J6_bitCount_0f7a4 (fun (r_9 : Int32) => (vp_in x2 10 ∧ (wp_J6_bitCount_0f7a4 (fun (r_11 : Int32) => (((r_11 + (vLg.2 10)) < r_9 → (wp_X3_isFit_73 Q vLg x1 x2 s0 (0 : Int32))) ∧ (¬ ((r_11 + (vLg.2 10)) < r_9) → (wp_X3_isFit_73 Q vLg x1 x2 s0 (1 : Int32))))) (vLg.1 5 x2.toNatClampNeg)))) (vLg.1 0 x1.toNatClampNeg)))
set_option maxRecDepth 20000 in
theorem lb_X3_isFit_41 {X : List Cond} {l : Launch} {D : va_G} {G : Nat → ClassId} {C : Cx} {bs0 : List va_W} {hLg : Nat} {qLg : Nat → Nat} {Q : Int32 → Prop} {vLg : OV} (F : GF C X cX3_isFit wsX3_isFit RX3 rm_X3_isFit 5 (some .boolean) D G l) (E : GE C bs0 0 0 (po_X3_isFit G hLg qLg vLg Q)) {x1 x2 s0 : Int32} (hw : wp_X3_isFit_41 Q vLg x1 x2 s0) : GW C 0 0 [bLg G hLg qLg vLg] 41 [(0, .ref hLg), (1, .int x1), (2, .int x2)] [.int s0] := by
  unfold wp_X3_isFit_41 at hw
  refine gw_istore_n (lv' := [(3, .int s0), (0, .ref hLg), (1, .int x1), (2, .int x2)]) F dX3_isFit_41 (by decide) rfl ?_
  refine gw_aload_n F dX3_isFit_42 1 rfl ?_
  refine gw_get F in_X3_isFit_RX3 0 rfl rfl 0 (by decide) lk_X3_isFit_9 rfl dX3_isFit_43 ?_
  refine gw_iload_n F dX3_isFit_46 2 rfl ?_
  obtain ⟨h_8, hw⟩ := hw
  refine gw_iald F 1 rfl h_8 dX3_isFit_47 ?_
  refine gw_callS F (ct_J6_bitCount_0f7a4 hw) 1 gX3_isFit_J6_bitCount_0f7a4 rfl rfl rfl hd_J6_bitCount_0f7a4 ⟨(Nat.le_of_ble_eq_true rfl), (Nat.le_of_ble_eq_true rfl)⟩ rfl rfl (Nat.le_of_ble_eq_true rfl) ⟨Nat.zero_le _, Nat.zero_le _⟩ [0] (bsr := [bLg G hLg qLg vLg]) rfl rfl dX3_isFit_48 ?_
  rintro _ _ ⟨r_9, rfl, rfl, hw⟩
  refine gw_sel [0] (bs' := [bLg G hLg qLg vLg]) rfl rfl ?_
  change GW C 0 0 _ 51 _ [.int r_9]
  refine gw_aload_n F dX3_isFit_51 1 rfl ?_
  refine gw_get F in_X3_isFit_RX3 0 rfl rfl 5 (by decide) lk_X3_isFit_27 rfl dX3_isFit_52 ?_
  refine gw_iload_n F dX3_isFit_55 3 rfl ?_
  obtain ⟨h_10, hw⟩ := hw
  refine gw_iald F 6 rfl h_10 dX3_isFit_56 ?_
  refine gw_callS F (ct_J6_bitCount_0f7a4 hw) 1 gX3_isFit_J6_bitCount_0f7a4 rfl rfl rfl hd_J6_bitCount_0f7a4 ⟨(Nat.le_of_ble_eq_true rfl), (Nat.le_of_ble_eq_true rfl)⟩ rfl rfl (Nat.le_of_ble_eq_true rfl) ⟨Nat.zero_le _, Nat.zero_le _⟩ [0] (bsr := [bLg G hLg qLg vLg]) rfl rfl dX3_isFit_57 ?_
  rintro _ _ ⟨r_11, rfl, rfl, hw⟩
  refine gw_sel [0] (bs' := [bLg G hLg qLg vLg]) rfl rfl ?_
  change GW C 0 0 _ 60 _ [.int r_11, .int r_9]
  refine gw_aload_n F dX3_isFit_60 1 rfl ?_
  refine gw_get F in_X3_isFit_RX3 0 rfl rfl 10 (by decide) lk_X3_isFit_43 rfl dX3_isFit_61 ?_
  refine gw_iadd F dX3_isFit_64 ?_
  refine gw_icmp_gt (tgt := 72) F dX3_isFit_65 (by decide) (fun c_12 => ?_) (fun c_12 => ?_)
  · have hw := hw.1 c_12
    refine gw_iconst (v := (0 : Int32)) F dX3_isFit_72 ic_iconst_0 ?_
    refine gw_lv [1, 2, 3, 0] rfl ?_
    exact lb_X3_isFit_73 F E hw
  · have hw := hw.2 c_12
    refine gw_iconst (v := (1 : Int32)) F dX3_isFit_68 ic_iconst_1 ?_
    refine gw_goto (tgt := 73) F dX3_isFit_69 (by decide) ?_
    refine gw_lv [1, 2, 3, 0] rfl ?_
    exact lb_X3_isFit_73 F E hw
def wp_X3_isFit_0 (Q : Int32 → Prop) (vLg : OV) (x1 : Int32) (x2 : Int32) : Prop :=
  (wp_X3_hasKey (fun (r_1 : Int32) => ((r_1 = 0 → (wp_X3_isFit_16 Q vLg)) ∧ (¬ (r_1 = 0) → (wp_X3_hasLock (fun (r_3 : Int32) => ((¬ r_3 = 0 → (vp_in x2 10 ∧ (vp_in x1 10 ∧ ((¬ ((vLg.1 5 x2.toNatClampNeg) &&& ((vLg.1 0 x1.toNatClampNeg) ^^^ (-1 : Int32))) = 0 → (wp_X3_isFit_41 Q vLg x1 x2 (0 : Int32))) ∧ (((vLg.1 5 x2.toNatClampNeg) &&& ((vLg.1 0 x1.toNatClampNeg) ^^^ (-1 : Int32))) = 0 → (wp_X3_isFit_41 Q vLg x1 x2 (1 : Int32))))))) ∧ (r_3 = 0 → (wp_X3_isFit_16 Q vLg)))) x2 vLg)))) x1 vLg)
set_option maxRecDepth 20000 in
theorem lb_X3_isFit_0 {X : List Cond} {l : Launch} {D : va_G} {G : Nat → ClassId} {C : Cx} {bs0 : List va_W} {hLg : Nat} {qLg : Nat → Nat} {Q : Int32 → Prop} {vLg : OV} (F : GF C X cX3_isFit wsX3_isFit RX3 rm_X3_isFit 5 (some .boolean) D G l) (E : GE C bs0 0 0 (po_X3_isFit G hLg qLg vLg Q)) {x1 : Int32} {x2 : Int32} (hw : wp_X3_isFit_0 Q vLg x1 x2) : GW C 0 0 [bLg G hLg qLg vLg] 0 [(0, .ref hLg), (1, .int x1), (2, .int x2)] [] := by
  unfold wp_X3_isFit_0 at hw
  refine gw_aload_n F dX3_isFit_0 0 rfl ?_
  refine gw_iload_n F dX3_isFit_1 1 rfl ?_
  refine gw_callV F (ct_X3_hasKey hw) 1 gX3_isFit_X3_hasKey rfl rfl rfl hd_X3_hasKey ⟨(Nat.le_of_ble_eq_true rfl), (Nat.le_of_ble_eq_true rfl)⟩ rfl rfl (Nat.le_of_ble_eq_true rfl) ⟨Nat.zero_le _, Nat.zero_le _⟩ [0] (bsr := []) rfl rfl (q0 := 0) rfl rfl dX3_isFit_2 ?_
  rintro _ _ ⟨r_1, rfl, rfl, hw⟩
  refine gw_sel [0] (bs' := [bLg G hLg qLg vLg]) rfl rfl ?_
  change GW C 0 0 _ 5 _ [.int r_1]
  refine gw_if_eq (tgt := 16) F dX3_isFit_5 (by decide) (fun c_2 => ?_) (fun c_2 => ?_)
  · have hw := hw.1 c_2
    refine gw_lv [] rfl ?_
    exact lb_X3_isFit_16 F E hw
  · have hw := hw.2 c_2
    refine gw_aload_n F dX3_isFit_8 0 rfl ?_
    refine gw_iload_n F dX3_isFit_9 2 rfl ?_
    refine gw_callV F (ct_X3_hasLock hw) 1 gX3_isFit_X3_hasLock rfl rfl rfl hd_X3_hasLock ⟨(Nat.le_of_ble_eq_true rfl), (Nat.le_of_ble_eq_true rfl)⟩ rfl rfl (Nat.le_of_ble_eq_true rfl) ⟨Nat.zero_le _, Nat.zero_le _⟩ [0] (bsr := []) rfl rfl (q0 := 0) rfl rfl dX3_isFit_10 ?_
    rintro _ _ ⟨r_3, rfl, rfl, hw⟩
    refine gw_sel [0] (bs' := [bLg G hLg qLg vLg]) rfl rfl ?_
    change GW C 0 0 _ 13 _ [.int r_3]
    refine gw_if_ne (tgt := 18) F dX3_isFit_13 (by decide) (fun c_4 => ?_) (fun c_4 => ?_)
    · have hw := hw.1 c_4
      refine gw_aload_n F dX3_isFit_18 0 rfl ?_
      refine gw_get F in_X3_isFit_RX3 0 rfl rfl 5 (by decide) lk_X3_isFit_27 rfl dX3_isFit_19 ?_
      refine gw_iload_n F dX3_isFit_22 2 rfl ?_
      obtain ⟨h_5, hw⟩ := hw
      refine gw_iald F 6 rfl h_5 dX3_isFit_23 ?_
      refine gw_aload_n F dX3_isFit_24 0 rfl ?_
      refine gw_get F in_X3_isFit_RX3 0 rfl rfl 0 (by decide) lk_X3_isFit_9 rfl dX3_isFit_25 ?_
      refine gw_iload_n F dX3_isFit_28 1 rfl ?_
      obtain ⟨h_6, hw⟩ := hw
      refine gw_iald F 1 rfl h_6 dX3_isFit_29 ?_
      refine gw_iconst (v := (-1 : Int32)) F dX3_isFit_30 ic_iconst_m1 ?_
      refine gw_ixor F dX3_isFit_31 ?_
      refine gw_iand F dX3_isFit_32 ?_
      refine gw_if_ne (tgt := 40) F dX3_isFit_33 (by decide) (fun c_7 => ?_) (fun c_7 => ?_)
      · have hw := hw.1 c_7
        refine gw_iconst (v := (0 : Int32)) F dX3_isFit_40 ic_iconst_0 ?_
        exact lb_X3_isFit_41 F E hw
      · have hw := hw.2 c_7
        refine gw_iconst (v := (1 : Int32)) F dX3_isFit_36 ic_iconst_1 ?_
        refine gw_goto (tgt := 41) F dX3_isFit_37 (by decide) ?_
        exact lb_X3_isFit_41 F E hw
    · have hw := hw.2 c_4
      refine gw_lv [] rfl ?_
      exact lb_X3_isFit_16 F E hw
def wp_X3_isFit (Q : Int32 → Prop) (x1 : Int32) (x2 : Int32) (vLg : OV) : Prop := wp_X3_isFit_0 Q vLg x1 x2
theorem ct_X3_isFit {X : List Cond} {l : Launch} {D : va_G} {G : Nat → ClassId} {hLg : Nat} {qLg : Nat → Nat} {Q : Int32 → Prop} {x1 : Int32} {x2 : Int32} {vLg : OV} (hw : wp_X3_isFit Q x1 x2 vLg) : CM X l yX3_isFit wsX3_isFit rm_X3_isFit D G [.ref hLg, .int x1, .int x2] [bLg G hLg qLg vLg] 0 0 (po_X3_isFit G hLg qLg vLg Q) :=
  CM.of pn_RX3 rfl rfl (Nat.le_of_ble_eq_true rfl) rfl (fun C F E => lb_X3_isFit_0 F E hw)
-- X3_countMissing
abbrev rm_X3_countMissing : Room := { frames := 3, cells := 0, slots := 0, locals := 102 }
def po_X3_countMissing (G : Nat → ClassId) (hLg : Nat) (qLg : Nat → Nat) (vLg : OV) (Q : Int32 → Prop) : Option Value → List va_W → Prop := fun o bs => ∃ (r : Int32), o = some (.int r) ∧ bs = [bLg G hLg qLg vLg] ∧ Q r
theorem hd_X3_countMissing : yX3_countMissing.cls = RX3 ∧ yX3_countMissing.cls ≠ "java/lang/invoke/MethodHandle" ∧ yX3_countMissing.cls ≠ "java/lang/invoke/VarHandle" ∧ (parseMethodDescriptor yX3_countMissing.desc).map (fun d => d.parameters.length) = some 2 := by decide +kernel
def wp_X3_countMissing_0 (Q : Int32 → Prop) (vLg : OV) (x1 : Int32) (x2 : Int32) : Prop :=
  (wp_X3_pinsOf (fun (r_1 : Int32) => (wp_X3_wardsOf (fun (r_2 : Int32) => (wp_J6_bitCount_0f7a4 (fun (r_3 : Int32) => (Q r_3)) (r_1 &&& (r_2 ^^^ (-1 : Int32))))) x1 vLg)) x2 vLg)
set_option maxRecDepth 20000 in
theorem lb_X3_countMissing_0 {X : List Cond} {l : Launch} {D : va_G} {G : Nat → ClassId} {C : Cx} {bs0 : List va_W} {hLg : Nat} {qLg : Nat → Nat} {Q : Int32 → Prop} {vLg : OV} (F : GF C X cX3_countMissing wsX3_countMissing RX3 rm_X3_countMissing 3 (some .int) D G l) (E : GE C bs0 0 0 (po_X3_countMissing G hLg qLg vLg Q)) {x1 : Int32} {x2 : Int32} (hw : wp_X3_countMissing_0 Q vLg x1 x2) : GW C 0 0 [bLg G hLg qLg vLg] 0 [(0, .ref hLg), (1, .int x1), (2, .int x2)] [] := by
  unfold wp_X3_countMissing_0 at hw
  refine gw_aload_n F dX3_countMissing_0 0 rfl ?_
  refine gw_iload_n F dX3_countMissing_1 2 rfl ?_
  refine gw_callV F (ct_X3_pinsOf hw) 1 gX3_countMissing_X3_pinsOf rfl rfl rfl hd_X3_pinsOf ⟨(Nat.le_of_ble_eq_true rfl), (Nat.le_of_ble_eq_true rfl)⟩ rfl rfl (Nat.le_of_ble_eq_true rfl) ⟨Nat.zero_le _, Nat.zero_le _⟩ [0] (bsr := []) rfl rfl (q0 := 0) rfl rfl dX3_countMissing_2 ?_
  rintro _ _ ⟨r_1, rfl, rfl, hw⟩
  refine gw_sel [0] (bs' := [bLg G hLg qLg vLg]) rfl rfl ?_
  change GW C 0 0 _ 5 _ [.int r_1]
  refine gw_aload_n F dX3_countMissing_5 0 rfl ?_
  refine gw_iload_n F dX3_countMissing_6 1 rfl ?_
  refine gw_callV F (ct_X3_wardsOf hw) 1 gX3_countMissing_X3_wardsOf rfl rfl rfl hd_X3_wardsOf ⟨(Nat.le_of_ble_eq_true rfl), (Nat.le_of_ble_eq_true rfl)⟩ rfl rfl (Nat.le_of_ble_eq_true rfl) ⟨Nat.zero_le _, Nat.zero_le _⟩ [0] (bsr := []) rfl rfl (q0 := 0) rfl rfl dX3_countMissing_7 ?_
  rintro _ _ ⟨r_2, rfl, rfl, hw⟩
  refine gw_sel [0] (bs' := [bLg G hLg qLg vLg]) rfl rfl ?_
  change GW C 0 0 _ 10 _ [.int r_2, .int r_1]
  refine gw_iconst (v := (-1 : Int32)) F dX3_countMissing_10 ic_iconst_m1 ?_
  refine gw_ixor F dX3_countMissing_11 ?_
  refine gw_iand F dX3_countMissing_12 ?_
  refine gw_callS F (ct_J6_bitCount_0f7a4 hw) 1 gX3_countMissing_J6_bitCount_0f7a4 rfl rfl rfl hd_J6_bitCount_0f7a4 ⟨(Nat.le_of_ble_eq_true rfl), (Nat.le_of_ble_eq_true rfl)⟩ rfl rfl (Nat.le_of_ble_eq_true rfl) ⟨Nat.zero_le _, Nat.zero_le _⟩ [0] (bsr := [bLg G hLg qLg vLg]) rfl rfl dX3_countMissing_13 ?_
  rintro _ _ ⟨r_3, rfl, rfl, hw⟩
  refine gw_sel [0] (bs' := [bLg G hLg qLg vLg]) rfl rfl ?_
  change GW C 0 0 _ 16 _ [.int r_3]
  exact gw_iret F E rfl rfl (Nat.le_of_ble_eq_true rfl) (Nat.le_of_ble_eq_true rfl) dX3_countMissing_16 ⟨_, rfl, rfl, hw⟩
def wp_X3_countMissing (Q : Int32 → Prop) (x1 : Int32) (x2 : Int32) (vLg : OV) : Prop := wp_X3_countMissing_0 Q vLg x1 x2
theorem ct_X3_countMissing {X : List Cond} {l : Launch} {D : va_G} {G : Nat → ClassId} {hLg : Nat} {qLg : Nat → Nat} {Q : Int32 → Prop} {x1 : Int32} {x2 : Int32} {vLg : OV} (hw : wp_X3_countMissing Q x1 x2 vLg) : CM X l yX3_countMissing wsX3_countMissing rm_X3_countMissing D G [.ref hLg, .int x1, .int x2] [bLg G hLg qLg vLg] 0 0 (po_X3_countMissing G hLg qLg vLg Q) :=
  CM.of pn_RX3 rfl rfl (Nat.le_of_ble_eq_true rfl) rfl (fun C F E => lb_X3_countMissing_0 F E hw)
-- X3_costToFit
abbrev rm_X3_costToFit : Room := { frames := 4, cells := 0, slots := 0, locals := 124 }
def po_X3_costToFit (G : Nat → ClassId) (hLg : Nat) (qLg : Nat → Nat) (vLg : OV) (Q : Int32 → Prop) : Option Value → List va_W → Prop := fun o bs => ∃ (r : Int32), o = some (.int r) ∧ bs = [bLg G hLg qLg vLg] ∧ Q r
theorem hd_X3_costToFit : yX3_costToFit.cls = RX3 ∧ yX3_costToFit.cls ≠ "java/lang/invoke/MethodHandle" ∧ yX3_costToFit.cls ≠ "java/lang/invoke/VarHandle" ∧ (parseMethodDescriptor yX3_costToFit.desc).map (fun d => d.parameters.length) = some 2 := by decide +kernel
theorem in_X3_costToFit_RX3 : ∀ w ∈ wsX30, w ∈ wsX3_costToFit := fun w h => List.mem_cons_of_mem _ (List.mem_append_left _ (List.mem_append_right _ h))
theorem lk_X3_costToFit_43 : Cond.fieldLink RX3 43 "KeyWaves$Lodge" "slack" "I" ∈ wsX3_costToFit := List.mem_cons_of_mem _ (List.mem_append_left _ (List.mem_append_left _ (List.mem_append_left _ (List.mem_of_getElem? (i := 0) rfl))))
theorem wd_X3_costToFit_1 : Cond.methodLink RX3 87 Lib.Math.max.name ∈ wsX3_costToFit := List.mem_cons_of_mem _ (List.mem_append_left _ (List.mem_append_left _ (List.mem_append_left _ (List.mem_of_getElem? (i := 1) rfl))))
theorem wd_X3_costToFit_2 : Cond.static Lib.Math.max.name ∈ wsX3_costToFit := List.mem_cons_of_mem _ (List.mem_append_left _ (List.mem_append_left _ (List.mem_append_left _ (List.mem_of_getElem? (i := 2) rfl))))
theorem wd_X3_costToFit_3 : Cond.initialized "java/lang/Math" ∈ wsX3_costToFit := List.mem_cons_of_mem _ (List.mem_append_left _ (List.mem_append_left _ (List.mem_append_left _ (List.mem_of_getElem? (i := 3) rfl))))
theorem wd_X3_costToFit_4 : Cond.code Lib.Math.max.name Lib.Math.max.code 2 (some .int) ∈ wsX3_costToFit := List.mem_cons_of_mem _ (List.mem_append_left _ (List.mem_append_left _ (List.mem_append_left _ (List.mem_of_getElem? (i := 4) rfl))))
def wp_X3_costToFit_0 (Q : Int32 → Prop) (vLg : OV) (x1 : Int32) (x2 : Int32) : Prop :=
  (wp_X3_countMissing (fun (r_1 : Int32) => (wp_X3_wardsOf (fun (r_2 : Int32) => (wp_J6_bitCount_0f7a4 (fun (r_3 : Int32) => (∀ i_4 : Int32, i_4 = (r_3 + r_1) → (wp_X3_pinsOf (fun (r_5 : Int32) => (wp_J6_bitCount_0f7a4 (fun (r_6 : Int32) => (∀ i_7 : Int32, i_7 = (r_6 + (vLg.2 10)) → (Q (r_1 + (if (0 : Int32) < (i_4 - i_7) then (i_4 - i_7) else (0 : Int32)))))) r_5)) x2 vLg))) r_2)) x1 vLg)) x1 x2 vLg)
set_option maxRecDepth 20000 in
theorem lb_X3_costToFit_0 {X : List Cond} {l : Launch} {D : va_G} {G : Nat → ClassId} {C : Cx} {bs0 : List va_W} {hLg : Nat} {qLg : Nat → Nat} {Q : Int32 → Prop} {vLg : OV} (F : GF C X cX3_costToFit wsX3_costToFit RX3 rm_X3_costToFit 6 (some .int) D G l) (E : GE C bs0 0 0 (po_X3_costToFit G hLg qLg vLg Q)) {x1 : Int32} {x2 : Int32} (hw : wp_X3_costToFit_0 Q vLg x1 x2) : GW C 0 0 [bLg G hLg qLg vLg] 0 [(0, .ref hLg), (1, .int x1), (2, .int x2)] [] := by
  unfold wp_X3_costToFit_0 at hw
  refine gw_aload_n F dX3_costToFit_0 0 rfl ?_
  refine gw_iload_n F dX3_costToFit_1 1 rfl ?_
  refine gw_iload_n F dX3_costToFit_2 2 rfl ?_
  refine gw_callV F (ct_X3_countMissing hw) 2 gX3_costToFit_X3_countMissing rfl rfl rfl hd_X3_countMissing ⟨(Nat.le_of_ble_eq_true rfl), (Nat.le_of_ble_eq_true rfl)⟩ rfl rfl (Nat.le_of_ble_eq_true rfl) ⟨Nat.zero_le _, Nat.zero_le _⟩ [0] (bsr := []) rfl rfl (q0 := 0) rfl rfl dX3_costToFit_3 ?_
  rintro _ _ ⟨r_1, rfl, rfl, hw⟩
  refine gw_sel [0] (bs' := [bLg G hLg qLg vLg]) rfl rfl ?_
  change GW C 0 0 _ 6 _ [.int r_1]
  refine gw_istore_n (lv' := [(3, .int r_1), (0, .ref hLg), (1, .int x1), (2, .int x2)]) F dX3_costToFit_6 (by decide) rfl ?_
  refine gw_aload_n F dX3_costToFit_7 1 rfl ?_
  refine gw_iload_n F dX3_costToFit_8 2 rfl ?_
  refine gw_callV F (ct_X3_wardsOf hw) 1 gX3_costToFit_X3_wardsOf rfl rfl rfl hd_X3_wardsOf ⟨(Nat.le_of_ble_eq_true rfl), (Nat.le_of_ble_eq_true rfl)⟩ rfl rfl (Nat.le_of_ble_eq_true rfl) ⟨Nat.zero_le _, Nat.zero_le _⟩ [0] (bsr := []) rfl rfl (q0 := 0) rfl rfl dX3_costToFit_9 ?_
  rintro _ _ ⟨r_2, rfl, rfl, hw⟩
  refine gw_sel [0] (bs' := [bLg G hLg qLg vLg]) rfl rfl ?_
  change GW C 0 0 _ 12 _ [.int r_2]
  refine gw_callS F (ct_J6_bitCount_0f7a4 hw) 1 gX3_costToFit_J6_bitCount_0f7a4 rfl rfl rfl hd_J6_bitCount_0f7a4 ⟨(Nat.le_of_ble_eq_true rfl), (Nat.le_of_ble_eq_true rfl)⟩ rfl rfl (Nat.le_of_ble_eq_true rfl) ⟨Nat.zero_le _, Nat.zero_le _⟩ [0] (bsr := [bLg G hLg qLg vLg]) rfl rfl dX3_costToFit_12 ?_
  rintro _ _ ⟨r_3, rfl, rfl, hw⟩
  refine gw_sel [0] (bs' := [bLg G hLg qLg vLg]) rfl rfl ?_
  change GW C 0 0 _ 15 _ [.int r_3]
  refine gw_iload_n F dX3_costToFit_15 0 rfl ?_
  refine gw_iadd F dX3_costToFit_16 ?_
  refine gw_topi (fun i_4 e_i_4 => ?_)
  have hw := hw i_4 e_i_4
  refine gw_istore (lv' := [(4, .int i_4), (3, .int r_1), (0, .ref hLg), (1, .int x1), (2, .int x2)]) F dX3_costToFit_17 (by decide) rfl ?_
  refine gw_aload_n F dX3_costToFit_19 2 rfl ?_
  refine gw_iload_n F dX3_costToFit_20 4 rfl ?_
  refine gw_callV F (ct_X3_pinsOf hw) 1 gX3_costToFit_X3_pinsOf rfl rfl rfl hd_X3_pinsOf ⟨(Nat.le_of_ble_eq_true rfl), (Nat.le_of_ble_eq_true rfl)⟩ rfl rfl (Nat.le_of_ble_eq_true rfl) ⟨Nat.zero_le _, Nat.zero_le _⟩ [0] (bsr := []) rfl rfl (q0 := 0) rfl rfl dX3_costToFit_21 ?_
  rintro _ _ ⟨r_5, rfl, rfl, hw⟩
  refine gw_sel [0] (bs' := [bLg G hLg qLg vLg]) rfl rfl ?_
  change GW C 0 0 _ 24 _ [.int r_5]
  refine gw_callS F (ct_J6_bitCount_0f7a4 hw) 1 gX3_costToFit_J6_bitCount_0f7a4 rfl rfl rfl hd_J6_bitCount_0f7a4 ⟨(Nat.le_of_ble_eq_true rfl), (Nat.le_of_ble_eq_true rfl)⟩ rfl rfl (Nat.le_of_ble_eq_true rfl) ⟨Nat.zero_le _, Nat.zero_le _⟩ [0] (bsr := [bLg G hLg qLg vLg]) rfl rfl dX3_costToFit_24 ?_
  rintro _ _ ⟨r_6, rfl, rfl, hw⟩
  refine gw_sel [0] (bs' := [bLg G hLg qLg vLg]) rfl rfl ?_
  change GW C 0 0 _ 27 _ [.int r_6]
  refine gw_aload_n F dX3_costToFit_27 2 rfl ?_
  refine gw_get F in_X3_costToFit_RX3 0 rfl rfl 10 (by decide) lk_X3_costToFit_43 rfl dX3_costToFit_28 ?_
  refine gw_iadd F dX3_costToFit_31 ?_
  refine gw_topi (fun i_7 e_i_7 => ?_)
  have hw := hw i_7 e_i_7
  refine gw_istore (lv' := [(5, .int i_7), (4, .int i_4), (3, .int r_1), (0, .ref hLg), (1, .int x1), (2, .int x2)]) F dX3_costToFit_32 (by decide) rfl ?_
  refine gw_iload_n F dX3_costToFit_34 2 rfl ?_
  refine gw_iconst (v := (0 : Int32)) F dX3_costToFit_35 ic_iconst_0 ?_
  refine gw_iload F dX3_costToFit_36 1 rfl ?_
  refine gw_iload F dX3_costToFit_38 0 rfl ?_
  refine gw_isub F dX3_costToFit_40 ?_
  refine gw_max F wd_X3_costToFit_1 wd_X3_costToFit_2 wd_X3_costToFit_3 wd_X3_costToFit_4 (Nat.le_of_ble_eq_true rfl) (Nat.le_of_ble_eq_true rfl) (Nat.zero_le _) (Nat.zero_le _) dX3_costToFit_41 ?_
  refine gw_iadd F dX3_costToFit_44 ?_
  exact gw_iret F E rfl rfl (Nat.le_of_ble_eq_true rfl) (Nat.le_of_ble_eq_true rfl) dX3_costToFit_45 ⟨_, rfl, rfl, hw⟩
def wp_X3_costToFit (Q : Int32 → Prop) (x1 : Int32) (x2 : Int32) (vLg : OV) : Prop := wp_X3_costToFit_0 Q vLg x1 x2
theorem ct_X3_costToFit {X : List Cond} {l : Launch} {D : va_G} {G : Nat → ClassId} {hLg : Nat} {qLg : Nat → Nat} {Q : Int32 → Prop} {x1 : Int32} {x2 : Int32} {vLg : OV} (hw : wp_X3_costToFit Q x1 x2 vLg) : CM X l yX3_costToFit wsX3_costToFit rm_X3_costToFit D G [.ref hLg, .int x1, .int x2] [bLg G hLg qLg vLg] 0 0 (po_X3_costToFit G hLg qLg vLg Q) :=
  CM.of pn_RX3 rfl rfl (Nat.le_of_ble_eq_true rfl) rfl (fun C F E => lb_X3_costToFit_0 F E hw)
-- X3_addKey
abbrev rm_X3_addKey : Room := { frames := 2, cells := 0, slots := 0, locals := 82 }
def po_X3_addKey (G : Nat → ClassId) (hLg : Nat) (qLg : Nat → Nat) (hRf : Nat) (qRf : Nat → Nat) (Q : Int32 → OV → OV → Prop) : Option Value → List va_W → Prop := fun o bs => ∃ (r : Int32) (vLg : OV) (vRf : OV), o = some (.int r) ∧ bs = [bLg G hLg qLg vLg, bRf G hRf qRf vRf] ∧ Q r vLg vRf
theorem hd_X3_addKey : yX3_addKey.cls = RX3 ∧ yX3_addKey.cls ≠ "java/lang/invoke/MethodHandle" ∧ yX3_addKey.cls ≠ "java/lang/invoke/VarHandle" ∧ (parseMethodDescriptor yX3_addKey.desc).map (fun d => d.parameters.length) = some 3 := by decide +kernel
theorem wd_X3_addKey_0 : Cond.initialized RX7 ∈ wsX3_addKey := List.mem_cons_of_mem _ (List.mem_append_left _ (List.mem_append_left _ (List.mem_append_left _ (List.mem_of_getElem? (i := 7) rfl))))
theorem wd_X3_addKey_1 : Cond.static yX7_isSet ∈ wsX3_addKey := List.mem_cons_of_mem _ (List.mem_append_left _ (List.mem_append_left _ (List.mem_append_left _ (List.mem_of_getElem? (i := 6) rfl))))
theorem wd_X3_addKey_2 : Cond.static yX7_isPorter ∈ wsX3_addKey := List.mem_cons_of_mem _ (List.mem_append_left _ (List.mem_append_left _ (List.mem_append_left _ (List.mem_of_getElem? (i := 9) rfl))))
theorem in_X3_addKey_RX3 : ∀ w ∈ wsX30, w ∈ wsX3_addKey := fun w h => List.mem_cons_of_mem _ (List.mem_append_left _ (List.mem_append_left _ (List.mem_append_right _ h)))
theorem lk_X3_addKey_36 : Cond.fieldLink RX3 36 "KeyWaves$Lodge" "keys" "I" ∈ wsX3_addKey := List.mem_cons_of_mem _ (List.mem_append_left _ (List.mem_append_left _ (List.mem_append_left _ (List.mem_of_getElem? (i := 0) rfl))))
theorem lk_X3_addKey_9 : Cond.fieldLink RX3 9 "KeyWaves$Lodge" "wards" "[I" ∈ wsX3_addKey := List.mem_cons_of_mem _ (List.mem_append_left _ (List.mem_append_left _ (List.mem_append_left _ (List.mem_of_getElem? (i := 1) rfl))))
theorem lk_X3_addKey_15 : Cond.fieldLink RX3 15 "KeyWaves$Lodge" "porters" "[I" ∈ wsX3_addKey := List.mem_cons_of_mem _ (List.mem_append_left _ (List.mem_append_left _ (List.mem_append_left _ (List.mem_of_getElem? (i := 2) rfl))))
theorem lk_X3_addKey_18 : Cond.fieldLink RX3 18 "KeyWaves$Lodge" "bars" "[I" ∈ wsX3_addKey := List.mem_cons_of_mem _ (List.mem_append_left _ (List.mem_append_left _ (List.mem_append_left _ (List.mem_of_getElem? (i := 3) rfl))))
theorem lk_X3_addKey_21 : Cond.fieldLink RX3 21 "KeyWaves$Lodge" "cutCosts" "[I" ∈ wsX3_addKey := List.mem_cons_of_mem _ (List.mem_append_left _ (List.mem_append_left _ (List.mem_append_left _ (List.mem_of_getElem? (i := 4) rfl))))
theorem lk_X3_addKey_24 : Cond.fieldLink RX3 24 "KeyWaves$Lodge" "lockOfKey" "[I" ∈ wsX3_addKey := List.mem_cons_of_mem _ (List.mem_append_left _ (List.mem_append_left _ (List.mem_append_left _ (List.mem_of_getElem? (i := 5) rfl))))
def wp_X3_addKey_14 (Q : Int32 → OV → OV → Prop) (vLg : OV) (vRf : OV) : Prop :=
  (wp_X5_refuse (fun (r_3 : Int32) (v_4 : OV) => (Q r_3 vLg v_4)) (1 : Int32) (0 : Int32) vRf)
set_option maxRecDepth 20000 in
theorem lb_X3_addKey_14 {X : List Cond} {l : Launch} {D : va_G} {G : Nat → ClassId} {C : Cx} {bs0 : List va_W} {hLg : Nat} {qLg : Nat → Nat} {hRf : Nat} {qRf : Nat → Nat} {Q : Int32 → OV → OV → Prop} (F : GF C X cX3_addKey wsX3_addKey RX3 rm_X3_addKey 5 (some .int) D G l) (E : GE C bs0 0 0 (po_X3_addKey G hLg qLg hRf qRf Q)) {vLg : OV} {vRf : OV} (hw : wp_X3_addKey_14 Q vLg vRf) : GW C 0 0 [bLg G hLg qLg vLg, bRf G hRf qRf vRf] 14 [(3, .ref hRf)] [] := by
  unfold wp_X3_addKey_14 at hw
  refine gw_aload_n F dX3_addKey_14 0 rfl ?_
  refine gw_iconst (v := (1 : Int32)) F dX3_addKey_15 ic_iconst_1 ?_
  refine gw_iconst (v := (0 : Int32)) F dX3_addKey_16 ic_iconst_0 ?_
  refine gw_callV F (ct_X5_refuse hw) 2 gX3_addKey_X5_refuse rfl rfl rfl hd_X5_refuse ⟨(Nat.le_of_ble_eq_true rfl), (Nat.le_of_ble_eq_true rfl)⟩ rfl rfl (Nat.le_of_ble_eq_true rfl) ⟨Nat.zero_le _, Nat.zero_le _⟩ [0, 1] (bsr := [bLg G hLg qLg vLg]) rfl rfl (q0 := 0) rfl rfl dX3_addKey_17 ?_
  rintro _ _ ⟨r_3, v_4, rfl, rfl, hw⟩
  refine gw_sel [0, 1] (bs' := [bLg G hLg qLg vLg, bRf G hRf qRf v_4]) rfl rfl ?_
  change GW C 0 0 _ 20 _ [.int r_3]
  exact gw_iret F E rfl rfl (Nat.le_of_ble_eq_true rfl) (Nat.le_of_ble_eq_true rfl) dX3_addKey_20 ⟨_, _, _, rfl, rfl, hw⟩
def wp_X3_addKey_37 (Q : Int32 → OV → OV → Prop) (vLg : OV) (vRf : OV) : Prop :=
  (wp_X5_refuse (fun (r_8 : Int32) (v_9 : OV) => (Q r_8 vLg v_9)) (2 : Int32) (10 : Int32) vRf)
set_option maxRecDepth 20000 in
theorem lb_X3_addKey_37 {X : List Cond} {l : Launch} {D : va_G} {G : Nat → ClassId} {C : Cx} {bs0 : List va_W} {hLg : Nat} {qLg : Nat → Nat} {hRf : Nat} {qRf : Nat → Nat} {Q : Int32 → OV → OV → Prop} (F : GF C X cX3_addKey wsX3_addKey RX3 rm_X3_addKey 5 (some .int) D G l) (E : GE C bs0 0 0 (po_X3_addKey G hLg qLg hRf qRf Q)) {vLg : OV} {vRf : OV} (hw : wp_X3_addKey_37 Q vLg vRf) : GW C 0 0 [bLg G hLg qLg vLg, bRf G hRf qRf vRf] 37 [(3, .ref hRf)] [] := by
  unfold wp_X3_addKey_37 at hw
  refine gw_aload_n F dX3_addKey_37 0 rfl ?_
  refine gw_iconst (v := (2 : Int32)) F dX3_addKey_38 ic_iconst_2 ?_
  refine gw_bipush (v := (10 : Int32)) F dX3_addKey_39 ic_bipush_10 ?_
  refine gw_callV F (ct_X5_refuse hw) 2 gX3_addKey_X5_refuse rfl rfl rfl hd_X5_refuse ⟨(Nat.le_of_ble_eq_true rfl), (Nat.le_of_ble_eq_true rfl)⟩ rfl rfl (Nat.le_of_ble_eq_true rfl) ⟨Nat.zero_le _, Nat.zero_le _⟩ [0, 1] (bsr := [bLg G hLg qLg vLg]) rfl rfl (q0 := 0) rfl rfl dX3_addKey_41 ?_
  rintro _ _ ⟨r_8, v_9, rfl, rfl, hw⟩
  refine gw_sel [0, 1] (bs' := [bLg G hLg qLg vLg, bRf G hRf qRf v_9]) rfl rfl ?_
  change GW C 0 0 _ 44 _ [.int r_8]
  exact gw_iret F E rfl rfl (Nat.le_of_ble_eq_true rfl) (Nat.le_of_ble_eq_true rfl) dX3_addKey_44 ⟨_, _, _, rfl, rfl, hw⟩
def wp_X3_addKey_0 (Q : Int32 → OV → OV → Prop) (x1 : Int32) (x2 : Int32) (vLg : OV) (vRf : OV) : Prop :=
  (wp_X7_isSet (fun (r_1 : Int32) => ((r_1 = 0 → (wp_X3_addKey_14 Q vLg vRf)) ∧ (¬ (r_1 = 0) → (wp_X7_isPorter (fun (r_5 : Int32) => ((¬ r_5 = 0 → (((vLg.2 8) < 0 → (wp_X3_addKey_37 Q vLg vRf)) ∧ (¬ ((vLg.2 8) < 0) → (((vLg.2 8) < (10 : Int32) → (∀ i_11 : Int32, i_11 = (vLg.2 8) → (vp_in i_11 10 ∧ ∀ v_12 : OV, v_12 = sA vLg 0 i_11.toNatClampNeg x1 → (vp_in i_11 10 ∧ ∀ v_14 : OV, v_14 = sA v_12 1 i_11.toNatClampNeg x2 → (vp_in i_11 10 ∧ ∀ v_16 : OV, v_16 = sA v_14 2 i_11.toNatClampNeg (0 : Int32) → (vp_in i_11 10 ∧ ∀ v_18 : OV, v_18 = sA v_16 3 i_11.toNatClampNeg (0 : Int32) → (vp_in i_11 10 ∧ ∀ v_20 : OV, v_20 = sA v_18 4 i_11.toNatClampNeg (-1 : Int32) → (∀ v_22 : OV, v_22 = sI v_20 8 ((v_20.2 8) + (1 : Int32)) → (Q i_11 v_22 vRf))))))))) ∧ (¬ ((vLg.2 8) < (10 : Int32)) → (wp_X3_addKey_37 Q vLg vRf)))))) ∧ (r_5 = 0 → (wp_X3_addKey_14 Q vLg vRf)))) x2)))) x1)
set_option maxRecDepth 20000 in
theorem lb_X3_addKey_0 {X : List Cond} {l : Launch} {D : va_G} {G : Nat → ClassId} {C : Cx} {bs0 : List va_W} {hLg : Nat} {qLg : Nat → Nat} {hRf : Nat} {qRf : Nat → Nat} {Q : Int32 → OV → OV → Prop} (F : GF C X cX3_addKey wsX3_addKey RX3 rm_X3_addKey 5 (some .int) D G l) (E : GE C bs0 0 0 (po_X3_addKey G hLg qLg hRf qRf Q)) {x1 : Int32} {x2 : Int32} {vLg : OV} {vRf : OV} (hw : wp_X3_addKey_0 Q x1 x2 vLg vRf) : GW C 0 0 [bLg G hLg qLg vLg, bRf G hRf qRf vRf] 0 [(0, .ref hLg), (1, .int x1), (2, .int x2), (3, .ref hRf)] [] := by
  unfold wp_X3_addKey_0 at hw
  refine gw_iload_n F dX3_addKey_0 1 rfl ?_
  refine gw_callSN (host := RX7) F (ct_X7_isSet hw) 1 gX3_addKey_X7_isSet_n92 (List.mem_of_getElem? (i := 7) rfl) wd_X3_addKey_0 wd_X3_addKey_1 rfl rfl rfl hd_X7_isSet ⟨(Nat.le_of_ble_eq_true rfl), (Nat.le_of_ble_eq_true rfl)⟩ rfl rfl (Nat.le_of_ble_eq_true rfl) ⟨Nat.zero_le _, Nat.zero_le _⟩ [0, 1] (bsr := [bLg G hLg qLg vLg, bRf G hRf qRf vRf]) rfl rfl dX3_addKey_1 ?_
  rintro _ _ ⟨r_1, rfl, rfl, hw⟩
  refine gw_sel [0, 1] (bs' := [bLg G hLg qLg vLg, bRf G hRf qRf vRf]) rfl rfl ?_
  change GW C 0 0 _ 4 _ [.int r_1]
  refine gw_if_eq (tgt := 14) F dX3_addKey_4 (by decide) (fun c_2 => ?_) (fun c_2 => ?_)
  · have hw := hw.1 c_2
    refine gw_lv [3] rfl ?_
    exact lb_X3_addKey_14 F E hw
  · have hw := hw.2 c_2
    refine gw_iload_n F dX3_addKey_7 2 rfl ?_
    refine gw_callSN (host := RX7) F (ct_X7_isPorter hw) 1 gX3_addKey_X7_isPorter_n95 (List.mem_of_getElem? (i := 8) rfl) wd_X3_addKey_0 wd_X3_addKey_2 rfl rfl rfl hd_X7_isPorter ⟨(Nat.le_of_ble_eq_true rfl), (Nat.le_of_ble_eq_true rfl)⟩ rfl rfl (Nat.le_of_ble_eq_true rfl) ⟨Nat.zero_le _, Nat.zero_le _⟩ [0, 1] (bsr := [bLg G hLg qLg vLg, bRf G hRf qRf vRf]) rfl rfl dX3_addKey_8 ?_
    rintro _ _ ⟨r_5, rfl, rfl, hw⟩
    refine gw_sel [0, 1] (bs' := [bLg G hLg qLg vLg, bRf G hRf qRf vRf]) rfl rfl ?_
    change GW C 0 0 _ 11 _ [.int r_5]
    refine gw_if_ne (tgt := 21) F dX3_addKey_11 (by decide) (fun c_6 => ?_) (fun c_6 => ?_)
    · have hw := hw.1 c_6
      refine gw_aload_n F dX3_addKey_21 0 rfl ?_
      refine gw_get F in_X3_addKey_RX3 0 rfl rfl 8 (by decide) lk_X3_addKey_36 rfl dX3_addKey_22 ?_
      refine gw_if_lt (tgt := 37) F dX3_addKey_25 (by decide) (fun c_7 => ?_) (fun c_7 => ?_)
      · have hw := hw.1 c_7
        refine gw_lv [3] rfl ?_
        exact lb_X3_addKey_37 F E hw
      · have hw := hw.2 c_7
        refine gw_aload_n F dX3_addKey_28 0 rfl ?_
        refine gw_get F in_X3_addKey_RX3 0 rfl rfl 8 (by decide) lk_X3_addKey_36 rfl dX3_addKey_29 ?_
        refine gw_bipush (v := (10 : Int32)) F dX3_addKey_32 ic_bipush_10 ?_
        refine gw_icmp_lt (tgt := 45) F dX3_addKey_34 (by decide) (fun c_10 => ?_) (fun c_10 => ?_)
        · have hw := hw.1 c_10
          refine gw_aload_n F dX3_addKey_45 0 rfl ?_
          refine gw_get F in_X3_addKey_RX3 0 rfl rfl 8 (by decide) lk_X3_addKey_36 rfl dX3_addKey_46 ?_
          refine gw_topi (fun i_11 e_i_11 => ?_)
          have hw := hw i_11 e_i_11
          refine gw_istore (lv' := [(4, .int i_11), (0, .ref hLg), (1, .int x1), (2, .int x2), (3, .ref hRf)]) F dX3_addKey_49 (by decide) rfl ?_
          refine gw_aload_n F dX3_addKey_51 1 rfl ?_
          refine gw_get F in_X3_addKey_RX3 0 rfl rfl 0 (by decide) lk_X3_addKey_9 rfl dX3_addKey_52 ?_
          refine gw_iload F dX3_addKey_55 0 rfl ?_
          refine gw_iload_n F dX3_addKey_57 2 rfl ?_
          obtain ⟨h_13, hw⟩ := hw
          obtain ⟨v_12, e_v_12⟩ : ∃ z : OV, z = sA vLg 0 i_11.toNatClampNeg x1 := ⟨_, rfl⟩
          have hw := hw v_12 e_v_12
          refine gw_iast (bs' := [bLg G hLg qLg v_12, bRf G hRf qRf vRf]) F 1 rfl h_13 dX3_addKey_58 (by rw [e_v_12]; rfl) ?_
          refine gw_aload_n F dX3_addKey_59 1 rfl ?_
          refine gw_get F in_X3_addKey_RX3 0 rfl rfl 1 (by decide) lk_X3_addKey_15 rfl dX3_addKey_60 ?_
          refine gw_iload F dX3_addKey_63 0 rfl ?_
          refine gw_iload_n F dX3_addKey_65 3 rfl ?_
          obtain ⟨h_15, hw⟩ := hw
          obtain ⟨v_14, e_v_14⟩ : ∃ z : OV, z = sA v_12 1 i_11.toNatClampNeg x2 := ⟨_, rfl⟩
          have hw := hw v_14 e_v_14
          refine gw_iast (bs' := [bLg G hLg qLg v_14, bRf G hRf qRf vRf]) F 2 rfl h_15 dX3_addKey_66 (by rw [e_v_14]; rfl) ?_
          refine gw_aload_n F dX3_addKey_67 1 rfl ?_
          refine gw_get F in_X3_addKey_RX3 0 rfl rfl 2 (by decide) lk_X3_addKey_18 rfl dX3_addKey_68 ?_
          refine gw_iload F dX3_addKey_71 0 rfl ?_
          refine gw_iconst (v := (0 : Int32)) F dX3_addKey_73 ic_iconst_0 ?_
          obtain ⟨h_17, hw⟩ := hw
          obtain ⟨v_16, e_v_16⟩ : ∃ z : OV, z = sA v_14 2 i_11.toNatClampNeg (0 : Int32) := ⟨_, rfl⟩
          have hw := hw v_16 e_v_16
          refine gw_iast (bs' := [bLg G hLg qLg v_16, bRf G hRf qRf vRf]) F 3 rfl h_17 dX3_addKey_74 (by rw [e_v_16]; rfl) ?_
          refine gw_aload_n F dX3_addKey_75 1 rfl ?_
          refine gw_get F in_X3_addKey_RX3 0 rfl rfl 3 (by decide) lk_X3_addKey_21 rfl dX3_addKey_76 ?_
          refine gw_iload F dX3_addKey_79 0 rfl ?_
          refine gw_iconst (v := (0 : Int32)) F dX3_addKey_81 ic_iconst_0 ?_
          obtain ⟨h_19, hw⟩ := hw
          obtain ⟨v_18, e_v_18⟩ : ∃ z : OV, z = sA v_16 3 i_11.toNatClampNeg (0 : Int32) := ⟨_, rfl⟩
          have hw := hw v_18 e_v_18
          refine gw_iast (bs' := [bLg G hLg qLg v_18, bRf G hRf qRf vRf]) F 4 rfl h_19 dX3_addKey_82 (by rw [e_v_18]; rfl) ?_
          refine gw_aload_n F dX3_addKey_83 1 rfl ?_
          refine gw_get F in_X3_addKey_RX3 0 rfl rfl 4 (by decide) lk_X3_addKey_24 rfl dX3_addKey_84 ?_
          refine gw_iload F dX3_addKey_87 0 rfl ?_
          refine gw_iconst (v := (-1 : Int32)) F dX3_addKey_89 ic_iconst_m1 ?_
          obtain ⟨h_21, hw⟩ := hw
          obtain ⟨v_20, e_v_20⟩ : ∃ z : OV, z = sA v_18 4 i_11.toNatClampNeg (-1 : Int32) := ⟨_, rfl⟩
          have hw := hw v_20 e_v_20
          refine gw_iast (bs' := [bLg G hLg qLg v_20, bRf G hRf qRf vRf]) F 5 rfl h_21 dX3_addKey_90 (by rw [e_v_20]; rfl) ?_
          refine gw_aload_n F dX3_addKey_91 1 rfl ?_
          refine gw_dup F dX3_addKey_92 rfl ?_
          refine gw_get F in_X3_addKey_RX3 0 rfl rfl 8 (by decide) lk_X3_addKey_36 rfl dX3_addKey_93 ?_
          refine gw_iconst (v := (1 : Int32)) F dX3_addKey_96 ic_iconst_1 ?_
          refine gw_iadd F dX3_addKey_97 ?_
          obtain ⟨v_22, e_v_22⟩ : ∃ z : OV, z = sI v_20 8 ((v_20.2 8) + (1 : Int32)) := ⟨_, rfl⟩
          have hw := hw v_22 e_v_22
          refine gw_put (bs' := [bLg G hLg qLg v_22, bRf G hRf qRf vRf]) F in_X3_addKey_RX3 tyX3 tyX3_ok nmX3 0 rfl rfl 8 (by decide) lk_X3_addKey_36 rfl rfl rfl (Nat.le_of_ble_eq_true rfl) dX3_addKey_98 (by rw [e_v_22]; rfl) ?_
          refine gw_iload F dX3_addKey_101 0 rfl ?_
          exact gw_iret F E rfl rfl (Nat.le_of_ble_eq_true rfl) (Nat.le_of_ble_eq_true rfl) dX3_addKey_103 ⟨_, _, _, rfl, rfl, hw⟩
        · have hw := hw.2 c_10
          refine gw_lv [3] rfl ?_
          exact lb_X3_addKey_37 F E hw
    · have hw := hw.2 c_6
      refine gw_lv [3] rfl ?_
      exact lb_X3_addKey_14 F E hw
def wp_X3_addKey (Q : Int32 → OV → OV → Prop) (x1 : Int32) (x2 : Int32) (vLg : OV) (vRf : OV) : Prop := wp_X3_addKey_0 Q x1 x2 vLg vRf
theorem ct_X3_addKey {X : List Cond} {l : Launch} {D : va_G} {G : Nat → ClassId} {hLg : Nat} {qLg : Nat → Nat} {hRf : Nat} {qRf : Nat → Nat} {Q : Int32 → OV → OV → Prop} {x1 : Int32} {x2 : Int32} {vLg : OV} {vRf : OV} (hw : wp_X3_addKey Q x1 x2 vLg vRf) : CM X l yX3_addKey wsX3_addKey rm_X3_addKey D G [.ref hLg, .int x1, .int x2, .ref hRf] [bLg G hLg qLg vLg, bRf G hRf qRf vRf] 0 0 (po_X3_addKey G hLg qLg hRf qRf Q) :=
  CM.of pn_RX3 rfl rfl (Nat.le_of_ble_eq_true rfl) rfl (fun C F E => lb_X3_addKey_0 F E hw)
-- X3_addLock
abbrev rm_X3_addLock : Room := { frames := 2, cells := 0, slots := 0, locals := 82 }
def po_X3_addLock (G : Nat → ClassId) (hLg : Nat) (qLg : Nat → Nat) (hRf : Nat) (qRf : Nat → Nat) (Q : Int32 → OV → OV → Prop) : Option Value → List va_W → Prop := fun o bs => ∃ (r : Int32) (vLg : OV) (vRf : OV), o = some (.int r) ∧ bs = [bLg G hLg qLg vLg, bRf G hRf qRf vRf] ∧ Q r vLg vRf
theorem hd_X3_addLock : yX3_addLock.cls = RX3 ∧ yX3_addLock.cls ≠ "java/lang/invoke/MethodHandle" ∧ yX3_addLock.cls ≠ "java/lang/invoke/VarHandle" ∧ (parseMethodDescriptor yX3_addLock.desc).map (fun d => d.parameters.length) = some 2 := by decide +kernel
theorem wd_X3_addLock_0 : Cond.initialized RX7 ∈ wsX3_addLock := List.mem_cons_of_mem _ (List.mem_append_left _ (List.mem_append_left _ (List.mem_append_left _ (List.mem_of_getElem? (i := 5) rfl))))
theorem wd_X3_addLock_1 : Cond.static yX7_isSet ∈ wsX3_addLock := List.mem_cons_of_mem _ (List.mem_append_left _ (List.mem_append_left _ (List.mem_append_left _ (List.mem_of_getElem? (i := 4) rfl))))
theorem in_X3_addLock_RX3 : ∀ w ∈ wsX30, w ∈ wsX3_addLock := fun w h => List.mem_cons_of_mem _ (List.mem_append_left _ (List.mem_append_left _ (List.mem_append_right _ h)))
theorem lk_X3_addLock_40 : Cond.fieldLink RX3 40 "KeyWaves$Lodge" "locks" "I" ∈ wsX3_addLock := List.mem_cons_of_mem _ (List.mem_append_left _ (List.mem_append_left _ (List.mem_append_left _ (List.mem_of_getElem? (i := 0) rfl))))
theorem lk_X3_addLock_27 : Cond.fieldLink RX3 27 "KeyWaves$Lodge" "pins" "[I" ∈ wsX3_addLock := List.mem_cons_of_mem _ (List.mem_append_left _ (List.mem_append_left _ (List.mem_append_left _ (List.mem_of_getElem? (i := 1) rfl))))
theorem lk_X3_addLock_30 : Cond.fieldLink RX3 30 "KeyWaves$Lodge" "keyOfLock" "[I" ∈ wsX3_addLock := List.mem_cons_of_mem _ (List.mem_append_left _ (List.mem_append_left _ (List.mem_append_left _ (List.mem_of_getElem? (i := 2) rfl))))
theorem lk_X3_addLock_33 : Cond.fieldLink RX3 33 "KeyWaves$Lodge" "putCounts" "[I" ∈ wsX3_addLock := List.mem_cons_of_mem _ (List.mem_append_left _ (List.mem_append_left _ (List.mem_append_left _ (List.mem_of_getElem? (i := 3) rfl))))
def wp_X3_addLock_30 (Q : Int32 → OV → OV → Prop) (vLg : OV) (vRf : OV) : Prop :=
  (wp_X5_refuse (fun (r_4 : Int32) (v_5 : OV) => (Q r_4 vLg v_5)) (2 : Int32) (10 : Int32) vRf)
set_option maxRecDepth 20000 in
theorem lb_X3_addLock_30 {X : List Cond} {l : Launch} {D : va_G} {G : Nat → ClassId} {C : Cx} {bs0 : List va_W} {hLg : Nat} {qLg : Nat → Nat} {hRf : Nat} {qRf : Nat → Nat} {Q : Int32 → OV → OV → Prop} (F : GF C X cX3_addLock wsX3_addLock RX3 rm_X3_addLock 4 (some .int) D G l) (E : GE C bs0 0 0 (po_X3_addLock G hLg qLg hRf qRf Q)) {vLg : OV} {vRf : OV} (hw : wp_X3_addLock_30 Q vLg vRf) : GW C 0 0 [bLg G hLg qLg vLg, bRf G hRf qRf vRf] 30 [(2, .ref hRf)] [] := by
  unfold wp_X3_addLock_30 at hw
  refine gw_aload_n F dX3_addLock_30 0 rfl ?_
  refine gw_iconst (v := (2 : Int32)) F dX3_addLock_31 ic_iconst_2 ?_
  refine gw_bipush (v := (10 : Int32)) F dX3_addLock_32 ic_bipush_10 ?_
  refine gw_callV F (ct_X5_refuse hw) 2 gX3_addLock_X5_refuse rfl rfl rfl hd_X5_refuse ⟨(Nat.le_of_ble_eq_true rfl), (Nat.le_of_ble_eq_true rfl)⟩ rfl rfl (Nat.le_of_ble_eq_true rfl) ⟨Nat.zero_le _, Nat.zero_le _⟩ [0, 1] (bsr := [bLg G hLg qLg vLg]) rfl rfl (q0 := 0) rfl rfl dX3_addLock_34 ?_
  rintro _ _ ⟨r_4, v_5, rfl, rfl, hw⟩
  refine gw_sel [0, 1] (bs' := [bLg G hLg qLg vLg, bRf G hRf qRf v_5]) rfl rfl ?_
  change GW C 0 0 _ 37 _ [.int r_4]
  exact gw_iret F E rfl rfl (Nat.le_of_ble_eq_true rfl) (Nat.le_of_ble_eq_true rfl) dX3_addLock_37 ⟨_, _, _, rfl, rfl, hw⟩
def wp_X3_addLock_0 (Q : Int32 → OV → OV → Prop) (x1 : Int32) (vLg : OV) (vRf : OV) : Prop :=
  (wp_X7_isSet (fun (r_1 : Int32) => ((¬ r_1 = 0 → (((vLg.2 9) < 0 → (wp_X3_addLock_30 Q vLg vRf)) ∧ (¬ ((vLg.2 9) < 0) → (((vLg.2 9) < (10 : Int32) → (∀ i_7 : Int32, i_7 = (vLg.2 9) → (vp_in i_7 10 ∧ ∀ v_8 : OV, v_8 = sA vLg 5 i_7.toNatClampNeg x1 → (vp_in i_7 10 ∧ ∀ v_10 : OV, v_10 = sA v_8 6 i_7.toNatClampNeg (-1 : Int32) → (vp_in i_7 10 ∧ ∀ v_12 : OV, v_12 = sA v_10 7 i_7.toNatClampNeg (0 : Int32) → (∀ v_14 : OV, v_14 = sI v_12 9 ((v_12.2 9) + (1 : Int32)) → (Q i_7 v_14 vRf))))))) ∧ (¬ ((vLg.2 9) < (10 : Int32)) → (wp_X3_addLock_30 Q vLg vRf)))))) ∧ (r_1 = 0 → (wp_X5_refuse (fun (r_15 : Int32) (v_16 : OV) => (Q r_15 vLg v_16)) (1 : Int32) (0 : Int32) vRf)))) x1)
set_option maxRecDepth 20000 in
theorem lb_X3_addLock_0 {X : List Cond} {l : Launch} {D : va_G} {G : Nat → ClassId} {C : Cx} {bs0 : List va_W} {hLg : Nat} {qLg : Nat → Nat} {hRf : Nat} {qRf : Nat → Nat} {Q : Int32 → OV → OV → Prop} (F : GF C X cX3_addLock wsX3_addLock RX3 rm_X3_addLock 4 (some .int) D G l) (E : GE C bs0 0 0 (po_X3_addLock G hLg qLg hRf qRf Q)) {x1 : Int32} {vLg : OV} {vRf : OV} (hw : wp_X3_addLock_0 Q x1 vLg vRf) : GW C 0 0 [bLg G hLg qLg vLg, bRf G hRf qRf vRf] 0 [(0, .ref hLg), (1, .int x1), (2, .ref hRf)] [] := by
  unfold wp_X3_addLock_0 at hw
  refine gw_iload_n F dX3_addLock_0 1 rfl ?_
  refine gw_callSN (host := RX7) F (ct_X7_isSet hw) 1 gX3_addLock_X7_isSet_n92 (List.mem_of_getElem? (i := 7) rfl) wd_X3_addLock_0 wd_X3_addLock_1 rfl rfl rfl hd_X7_isSet ⟨(Nat.le_of_ble_eq_true rfl), (Nat.le_of_ble_eq_true rfl)⟩ rfl rfl (Nat.le_of_ble_eq_true rfl) ⟨Nat.zero_le _, Nat.zero_le _⟩ [0, 1] (bsr := [bLg G hLg qLg vLg, bRf G hRf qRf vRf]) rfl rfl dX3_addLock_1 ?_
  rintro _ _ ⟨r_1, rfl, rfl, hw⟩
  refine gw_sel [0, 1] (bs' := [bLg G hLg qLg vLg, bRf G hRf qRf vRf]) rfl rfl ?_
  change GW C 0 0 _ 4 _ [.int r_1]
  refine gw_if_ne (tgt := 14) F dX3_addLock_4 (by decide) (fun c_2 => ?_) (fun c_2 => ?_)
  · have hw := hw.1 c_2
    refine gw_aload_n F dX3_addLock_14 0 rfl ?_
    refine gw_get F in_X3_addLock_RX3 0 rfl rfl 9 (by decide) lk_X3_addLock_40 rfl dX3_addLock_15 ?_
    refine gw_if_lt (tgt := 30) F dX3_addLock_18 (by decide) (fun c_3 => ?_) (fun c_3 => ?_)
    · have hw := hw.1 c_3
      refine gw_lv [2] rfl ?_
      exact lb_X3_addLock_30 F E hw
    · have hw := hw.2 c_3
      refine gw_aload_n F dX3_addLock_21 0 rfl ?_
      refine gw_get F in_X3_addLock_RX3 0 rfl rfl 9 (by decide) lk_X3_addLock_40 rfl dX3_addLock_22 ?_
      refine gw_bipush (v := (10 : Int32)) F dX3_addLock_25 ic_bipush_10 ?_
      refine gw_icmp_lt (tgt := 38) F dX3_addLock_27 (by decide) (fun c_6 => ?_) (fun c_6 => ?_)
      · have hw := hw.1 c_6
        refine gw_aload_n F dX3_addLock_38 0 rfl ?_
        refine gw_get F in_X3_addLock_RX3 0 rfl rfl 9 (by decide) lk_X3_addLock_40 rfl dX3_addLock_39 ?_
        refine gw_topi (fun i_7 e_i_7 => ?_)
        have hw := hw i_7 e_i_7
        refine gw_istore_n (lv' := [(3, .int i_7), (0, .ref hLg), (1, .int x1), (2, .ref hRf)]) F dX3_addLock_42 (by decide) rfl ?_
        refine gw_aload_n F dX3_addLock_43 1 rfl ?_
        refine gw_get F in_X3_addLock_RX3 0 rfl rfl 5 (by decide) lk_X3_addLock_27 rfl dX3_addLock_44 ?_
        refine gw_iload_n F dX3_addLock_47 0 rfl ?_
        refine gw_iload_n F dX3_addLock_48 2 rfl ?_
        obtain ⟨h_9, hw⟩ := hw
        obtain ⟨v_8, e_v_8⟩ : ∃ z : OV, z = sA vLg 5 i_7.toNatClampNeg x1 := ⟨_, rfl⟩
        have hw := hw v_8 e_v_8
        refine gw_iast (bs' := [bLg G hLg qLg v_8, bRf G hRf qRf vRf]) F 6 rfl h_9 dX3_addLock_49 (by rw [e_v_8]; rfl) ?_
        refine gw_aload_n F dX3_addLock_50 1 rfl ?_
        refine gw_get F in_X3_addLock_RX3 0 rfl rfl 6 (by decide) lk_X3_addLock_30 rfl dX3_addLock_51 ?_
        refine gw_iload_n F dX3_addLock_54 0 rfl ?_
        refine gw_iconst (v := (-1 : Int32)) F dX3_addLock_55 ic_iconst_m1 ?_
        obtain ⟨h_11, hw⟩ := hw
        obtain ⟨v_10, e_v_10⟩ : ∃ z : OV, z = sA v_8 6 i_7.toNatClampNeg (-1 : Int32) := ⟨_, rfl⟩
        have hw := hw v_10 e_v_10
        refine gw_iast (bs' := [bLg G hLg qLg v_10, bRf G hRf qRf vRf]) F 7 rfl h_11 dX3_addLock_56 (by rw [e_v_10]; rfl) ?_
        refine gw_aload_n F dX3_addLock_57 1 rfl ?_
        refine gw_get F in_X3_addLock_RX3 0 rfl rfl 7 (by decide) lk_X3_addLock_33 rfl dX3_addLock_58 ?_
        refine gw_iload_n F dX3_addLock_61 0 rfl ?_
        refine gw_iconst (v := (0 : Int32)) F dX3_addLock_62 ic_iconst_0 ?_
        obtain ⟨h_13, hw⟩ := hw
        obtain ⟨v_12, e_v_12⟩ : ∃ z : OV, z = sA v_10 7 i_7.toNatClampNeg (0 : Int32) := ⟨_, rfl⟩
        have hw := hw v_12 e_v_12
        refine gw_iast (bs' := [bLg G hLg qLg v_12, bRf G hRf qRf vRf]) F 8 rfl h_13 dX3_addLock_63 (by rw [e_v_12]; rfl) ?_
        refine gw_aload_n F dX3_addLock_64 1 rfl ?_
        refine gw_dup F dX3_addLock_65 rfl ?_
        refine gw_get F in_X3_addLock_RX3 0 rfl rfl 9 (by decide) lk_X3_addLock_40 rfl dX3_addLock_66 ?_
        refine gw_iconst (v := (1 : Int32)) F dX3_addLock_69 ic_iconst_1 ?_
        refine gw_iadd F dX3_addLock_70 ?_
        obtain ⟨v_14, e_v_14⟩ : ∃ z : OV, z = sI v_12 9 ((v_12.2 9) + (1 : Int32)) := ⟨_, rfl⟩
        have hw := hw v_14 e_v_14
        refine gw_put (bs' := [bLg G hLg qLg v_14, bRf G hRf qRf vRf]) F in_X3_addLock_RX3 tyX3 tyX3_ok nmX3 0 rfl rfl 9 (by decide) lk_X3_addLock_40 rfl rfl rfl (Nat.le_of_ble_eq_true rfl) dX3_addLock_71 (by rw [e_v_14]; rfl) ?_
        refine gw_iload_n F dX3_addLock_74 0 rfl ?_
        exact gw_iret F E rfl rfl (Nat.le_of_ble_eq_true rfl) (Nat.le_of_ble_eq_true rfl) dX3_addLock_75 ⟨_, _, _, rfl, rfl, hw⟩
      · have hw := hw.2 c_6
        refine gw_lv [2] rfl ?_
        exact lb_X3_addLock_30 F E hw
  · have hw := hw.2 c_2
    refine gw_aload_n F dX3_addLock_7 2 rfl ?_
    refine gw_iconst (v := (1 : Int32)) F dX3_addLock_8 ic_iconst_1 ?_
    refine gw_iconst (v := (0 : Int32)) F dX3_addLock_9 ic_iconst_0 ?_
    refine gw_callV F (ct_X5_refuse hw) 2 gX3_addLock_X5_refuse rfl rfl rfl hd_X5_refuse ⟨(Nat.le_of_ble_eq_true rfl), (Nat.le_of_ble_eq_true rfl)⟩ rfl rfl (Nat.le_of_ble_eq_true rfl) ⟨Nat.zero_le _, Nat.zero_le _⟩ [0, 1] (bsr := [bLg G hLg qLg vLg]) rfl rfl (q0 := 0) rfl rfl dX3_addLock_10 ?_
    rintro _ _ ⟨r_15, v_16, rfl, rfl, hw⟩
    refine gw_sel [0, 1] (bs' := [bLg G hLg qLg vLg, bRf G hRf qRf v_16]) rfl rfl ?_
    change GW C 0 0 _ 13 _ [.int r_15]
    exact gw_iret F E rfl rfl (Nat.le_of_ble_eq_true rfl) (Nat.le_of_ble_eq_true rfl) dX3_addLock_13 ⟨_, _, _, rfl, rfl, hw⟩
def wp_X3_addLock (Q : Int32 → OV → OV → Prop) (x1 : Int32) (vLg : OV) (vRf : OV) : Prop := wp_X3_addLock_0 Q x1 vLg vRf
theorem ct_X3_addLock {X : List Cond} {l : Launch} {D : va_G} {G : Nat → ClassId} {hLg : Nat} {qLg : Nat → Nat} {hRf : Nat} {qRf : Nat → Nat} {Q : Int32 → OV → OV → Prop} {x1 : Int32} {vLg : OV} {vRf : OV} (hw : wp_X3_addLock Q x1 vLg vRf) : CM X l yX3_addLock wsX3_addLock rm_X3_addLock D G [.ref hLg, .int x1, .ref hRf] [bLg G hLg qLg vLg, bRf G hRf qRf vRf] 0 0 (po_X3_addLock G hLg qLg hRf qRf Q) :=
  CM.of pn_RX3 rfl rfl (Nat.le_of_ble_eq_true rfl) rfl (fun C F E => lb_X3_addLock_0 F E hw)
-- X3_dropUnfit
abbrev rm_X3_dropUnfit : Room := { frames := 3, cells := 0, slots := 0, locals := 105 }
def po_X3_dropUnfit (G : Nat → ClassId) (hLg : Nat) (qLg : Nat → Nat) (Q : Int32 → OV → Prop) : Option Value → List va_W → Prop := fun o bs => ∃ (r : Int32) (vLg : OV), o = some (.int r) ∧ bs = [bLg G hLg qLg vLg] ∧ Q r vLg
theorem hd_X3_dropUnfit : yX3_dropUnfit.cls = RX3 ∧ yX3_dropUnfit.cls ≠ "java/lang/invoke/MethodHandle" ∧ yX3_dropUnfit.cls ≠ "java/lang/invoke/VarHandle" ∧ (parseMethodDescriptor yX3_dropUnfit.desc).map (fun d => d.parameters.length) = some 0 := by decide +kernel
theorem in_X3_dropUnfit_RX3 : ∀ w ∈ wsX30, w ∈ wsX3_dropUnfit := fun w h => List.mem_cons_of_mem _ (List.mem_append_left _ (List.mem_append_right _ h))
theorem lk_X3_dropUnfit_36 : Cond.fieldLink RX3 36 "KeyWaves$Lodge" "keys" "I" ∈ wsX3_dropUnfit := List.mem_cons_of_mem _ (List.mem_append_left _ (List.mem_append_left _ (List.mem_append_left _ (List.mem_of_getElem? (i := 0) rfl))))
theorem lk_X3_dropUnfit_52 : Cond.fieldLink RX3 52 "KeyWaves$Lodge" "fallenSoFar" "I" ∈ wsX3_dropUnfit := List.mem_cons_of_mem _ (List.mem_append_left _ (List.mem_append_left _ (List.mem_append_left _ (List.mem_of_getElem? (i := 3) rfl))))
theorem lk_X3_dropUnfit_24 : Cond.fieldLink RX3 24 "KeyWaves$Lodge" "lockOfKey" "[I" ∈ wsX3_dropUnfit := List.mem_cons_of_mem _ (List.mem_append_left _ (List.mem_append_left _ (List.mem_append_left _ (List.mem_of_getElem? (i := 1) rfl))))
theorem lk_X3_dropUnfit_30 : Cond.fieldLink RX3 30 "KeyWaves$Lodge" "keyOfLock" "[I" ∈ wsX3_dropUnfit := List.mem_cons_of_mem _ (List.mem_append_left _ (List.mem_append_left _ (List.mem_append_left _ (List.mem_of_getElem? (i := 2) rfl))))
def wp_X3_dropUnfit_52 (Q : Int32 → OV → Prop) (K4 : Int32 → Int32 → OV → Prop) (x1 x2 : Int32) (vLg : OV) : Prop :=
  (∀ i_6 : Int32, i_6 = x2 + (1 : Int32) → (K4 x1 i_6 vLg))
set_option maxRecDepth 20000 in
theorem lb_X3_dropUnfit_52 {X : List Cond} {l : Launch} {D : va_G} {G : Nat → ClassId} {C : Cx} {bs0 : List va_W} {hLg : Nat} {qLg : Nat → Nat} {Q : Int32 → OV → Prop} {K4 : Int32 → Int32 → OV → Prop} (F : GF C X cX3_dropUnfit wsX3_dropUnfit RX3 rm_X3_dropUnfit 4 (some .int) D G l) (E : GE C bs0 0 0 (po_X3_dropUnfit G hLg qLg Q)) (hK4 : ∀ (x1 x2 : Int32) (vLg : OV), K4 x1 x2 vLg → GW C 0 0 [bLg G hLg qLg vLg] 4 [(0, .ref hLg), (1, .int x1), (2, .int x2)] []) {x1 x2 : Int32} {vLg : OV} (hw : wp_X3_dropUnfit_52 Q K4 x1 x2 vLg) : GW C 0 0 [bLg G hLg qLg vLg] 52 [(0, .ref hLg), (1, .int x1), (2, .int x2)] [] := by
  unfold wp_X3_dropUnfit_52 at hw
  obtain ⟨i_6, e_i_6⟩ : ∃ z : Int32, z = x2 + (1 : Int32) := ⟨_, rfl⟩
  have hw := hw i_6 e_i_6
  refine gw_iinc (v := i_6) (lv' := [(2, .int i_6), (0, .ref hLg), (1, .int x1)]) F dX3_dropUnfit_52 2 rfl (by rw [e_i_6]; rfl) (by decide) rfl ?_
  refine gw_goto (tgt := 4) F dX3_dropUnfit_55 (by decide) ?_
  refine gw_lv [1, 2, 0] rfl ?_
  exact hK4 _ _ _ hw
def wp_X3_dropUnfit_4 (Q : Int32 → OV → Prop) (K4 : Int32 → Int32 → OV → Prop) (x1 x2 : Int32) (vLg : OV) : Prop :=
  (((vLg.2 8) ≤ x2 → (∀ v_2 : OV, v_2 = sI vLg 13 ((vLg.2 13) + x1) → (Q x1 v_2))) ∧ (¬ ((vLg.2 8) ≤ x2) → (wp_X3_lockWith (fun (r_3 : Int32) => (wp_X3_hasLock (fun (r_4 : Int32) => ((r_4 = 0 → (wp_X3_dropUnfit_52 Q K4 x1 x2 vLg)) ∧ (¬ (r_4 = 0) → (wp_X3_isFit (fun (r_7 : Int32) => ((¬ r_7 = 0 → (wp_X3_dropUnfit_52 Q K4 x1 x2 vLg)) ∧ (r_7 = 0 → (vp_in x2 10 ∧ ∀ v_9 : OV, v_9 = sA vLg 4 x2.toNatClampNeg (-1 : Int32) → (vp_in r_3 10 ∧ ∀ v_11 : OV, v_11 = sA v_9 6 r_3.toNatClampNeg (-1 : Int32) → (∀ i_13 : Int32, i_13 = x1 + (1 : Int32) → (wp_X3_dropUnfit_52 Q K4 i_13 x2 v_11))))))) x2 r_3 vLg)))) r_3 vLg)) x2 vLg)))
set_option maxRecDepth 20000 in
theorem lb_X3_dropUnfit_4 {X : List Cond} {l : Launch} {D : va_G} {G : Nat → ClassId} {C : Cx} {bs0 : List va_W} {hLg : Nat} {qLg : Nat → Nat} {Q : Int32 → OV → Prop} {K4 : Int32 → Int32 → OV → Prop} (F : GF C X cX3_dropUnfit wsX3_dropUnfit RX3 rm_X3_dropUnfit 4 (some .int) D G l) (E : GE C bs0 0 0 (po_X3_dropUnfit G hLg qLg Q)) (hK4 : ∀ (x1 x2 : Int32) (vLg : OV), K4 x1 x2 vLg → GW C 0 0 [bLg G hLg qLg vLg] 4 [(0, .ref hLg), (1, .int x1), (2, .int x2)] []) {x1 x2 : Int32} {vLg : OV} (hw : wp_X3_dropUnfit_4 Q K4 x1 x2 vLg) : GW C 0 0 [bLg G hLg qLg vLg] 4 [(0, .ref hLg), (1, .int x1), (2, .int x2)] [] := by
  unfold wp_X3_dropUnfit_4 at hw
  refine gw_iload_n F dX3_dropUnfit_4 2 rfl ?_
  refine gw_aload_n F dX3_dropUnfit_5 0 rfl ?_
  refine gw_get F in_X3_dropUnfit_RX3 0 rfl rfl 8 (by decide) lk_X3_dropUnfit_36 rfl dX3_dropUnfit_6 ?_
  refine gw_icmp_ge (tgt := 58) F dX3_dropUnfit_9 (by decide) (fun c_1 => ?_) (fun c_1 => ?_)
  · have hw := hw.1 c_1
    refine gw_aload_n F dX3_dropUnfit_58 0 rfl ?_
    refine gw_dup F dX3_dropUnfit_59 rfl ?_
    refine gw_get F in_X3_dropUnfit_RX3 0 rfl rfl 13 (by decide) lk_X3_dropUnfit_52 rfl dX3_dropUnfit_60 ?_
    refine gw_iload_n F dX3_dropUnfit_63 1 rfl ?_
    refine gw_iadd F dX3_dropUnfit_64 ?_
    obtain ⟨v_2, e_v_2⟩ : ∃ z : OV, z = sI vLg 13 ((vLg.2 13) + x1) := ⟨_, rfl⟩
    have hw := hw v_2 e_v_2
    refine gw_put (bs' := [bLg G hLg qLg v_2]) F in_X3_dropUnfit_RX3 tyX3 tyX3_ok nmX3 0 rfl rfl 13 (by decide) lk_X3_dropUnfit_52 rfl rfl rfl (Nat.le_of_ble_eq_true rfl) dX3_dropUnfit_65 (by rw [e_v_2]; rfl) ?_
    refine gw_iload_n F dX3_dropUnfit_68 1 rfl ?_
    exact gw_iret F E rfl rfl (Nat.le_of_ble_eq_true rfl) (Nat.le_of_ble_eq_true rfl) dX3_dropUnfit_69 ⟨_, _, rfl, rfl, hw⟩
  · have hw := hw.2 c_1
    refine gw_aload_n F dX3_dropUnfit_12 0 rfl ?_
    refine gw_iload_n F dX3_dropUnfit_13 2 rfl ?_
    refine gw_callV F (ct_X3_lockWith hw) 1 gX3_dropUnfit_X3_lockWith rfl rfl rfl hd_X3_lockWith ⟨(Nat.le_of_ble_eq_true rfl), (Nat.le_of_ble_eq_true rfl)⟩ rfl rfl (Nat.le_of_ble_eq_true rfl) ⟨Nat.zero_le _, Nat.zero_le _⟩ [0] (bsr := []) rfl rfl (q0 := 0) rfl rfl dX3_dropUnfit_14 ?_
    rintro _ _ ⟨r_3, rfl, rfl, hw⟩
    refine gw_sel [0] (bs' := [bLg G hLg qLg vLg]) rfl rfl ?_
    change GW C 0 0 _ 17 _ [.int r_3]
    refine gw_istore_n (lv' := [(3, .int r_3), (0, .ref hLg), (1, .int x1), (2, .int x2)]) F dX3_dropUnfit_17 (by decide) rfl ?_
    refine gw_aload_n F dX3_dropUnfit_18 1 rfl ?_
    refine gw_iload_n F dX3_dropUnfit_19 0 rfl ?_
    refine gw_callV F (ct_X3_hasLock hw) 1 gX3_dropUnfit_X3_hasLock rfl rfl rfl hd_X3_hasLock ⟨(Nat.le_of_ble_eq_true rfl), (Nat.le_of_ble_eq_true rfl)⟩ rfl rfl (Nat.le_of_ble_eq_true rfl) ⟨Nat.zero_le _, Nat.zero_le _⟩ [0] (bsr := []) rfl rfl (q0 := 0) rfl rfl dX3_dropUnfit_20 ?_
    rintro _ _ ⟨r_4, rfl, rfl, hw⟩
    refine gw_sel [0] (bs' := [bLg G hLg qLg vLg]) rfl rfl ?_
    change GW C 0 0 _ 23 _ [.int r_4]
    refine gw_if_eq (tgt := 52) F dX3_dropUnfit_23 (by decide) (fun c_5 => ?_) (fun c_5 => ?_)
    · have hw := hw.1 c_5
      refine gw_lv [1, 2, 3] rfl ?_
      exact lb_X3_dropUnfit_52 F E hK4 hw
    · have hw := hw.2 c_5
      refine gw_aload_n F dX3_dropUnfit_26 1 rfl ?_
      refine gw_iload_n F dX3_dropUnfit_27 3 rfl ?_
      refine gw_iload_n F dX3_dropUnfit_28 0 rfl ?_
      refine gw_callV F (ct_X3_isFit hw) 2 gX3_dropUnfit_X3_isFit rfl rfl rfl hd_X3_isFit ⟨(Nat.le_of_ble_eq_true rfl), (Nat.le_of_ble_eq_true rfl)⟩ rfl rfl (Nat.le_of_ble_eq_true rfl) ⟨Nat.zero_le _, Nat.zero_le _⟩ [0] (bsr := []) rfl rfl (q0 := 0) rfl rfl dX3_dropUnfit_29 ?_
      rintro _ _ ⟨r_7, rfl, rfl, hw⟩
      refine gw_sel [0] (bs' := [bLg G hLg qLg vLg]) rfl rfl ?_
      change GW C 0 0 _ 32 _ [.int r_7]
      refine gw_if_ne (tgt := 52) F dX3_dropUnfit_32 (by decide) (fun c_8 => ?_) (fun c_8 => ?_)
      · have hw := hw.1 c_8
        refine gw_lv [1, 2, 3] rfl ?_
        exact lb_X3_dropUnfit_52 F E hK4 hw
      · have hw := hw.2 c_8
        refine gw_aload_n F dX3_dropUnfit_35 1 rfl ?_
        refine gw_get F in_X3_dropUnfit_RX3 0 rfl rfl 4 (by decide) lk_X3_dropUnfit_24 rfl dX3_dropUnfit_36 ?_
        refine gw_iload_n F dX3_dropUnfit_39 3 rfl ?_
        refine gw_iconst (v := (-1 : Int32)) F dX3_dropUnfit_40 ic_iconst_m1 ?_
        obtain ⟨h_10, hw⟩ := hw
        obtain ⟨v_9, e_v_9⟩ : ∃ z : OV, z = sA vLg 4 x2.toNatClampNeg (-1 : Int32) := ⟨_, rfl⟩
        have hw := hw v_9 e_v_9
        refine gw_iast (bs' := [bLg G hLg qLg v_9]) F 5 rfl h_10 dX3_dropUnfit_41 (by rw [e_v_9]; rfl) ?_
        refine gw_aload_n F dX3_dropUnfit_42 1 rfl ?_
        refine gw_get F in_X3_dropUnfit_RX3 0 rfl rfl 6 (by decide) lk_X3_dropUnfit_30 rfl dX3_dropUnfit_43 ?_
        refine gw_iload_n F dX3_dropUnfit_46 0 rfl ?_
        refine gw_iconst (v := (-1 : Int32)) F dX3_dropUnfit_47 ic_iconst_m1 ?_
        obtain ⟨h_12, hw⟩ := hw
        obtain ⟨v_11, e_v_11⟩ : ∃ z : OV, z = sA v_9 6 r_3.toNatClampNeg (-1 : Int32) := ⟨_, rfl⟩
        have hw := hw v_11 e_v_11
        refine gw_iast (bs' := [bLg G hLg qLg v_11]) F 7 rfl h_12 dX3_dropUnfit_48 (by rw [e_v_11]; rfl) ?_
        obtain ⟨i_13, e_i_13⟩ : ∃ z : Int32, z = x1 + (1 : Int32) := ⟨_, rfl⟩
        have hw := hw i_13 e_i_13
        refine gw_iinc (v := i_13) (lv' := [(1, .int i_13), (3, .int r_3), (0, .ref hLg), (2, .int x2)]) F dX3_dropUnfit_49 2 rfl (by rw [e_i_13]; rfl) (by decide) rfl ?_
        refine gw_lv [2, 0, 3] rfl ?_
        exact lb_X3_dropUnfit_52 F E hK4 hw
def wp_X3_dropUnfit_4_loop (Q : Int32 → OV → Prop) : Nat → Int32 → Int32 → OV → Prop
  | 0, _, _, _ => False
  | n + 1, x1, x2, vLg => wp_X3_dropUnfit_4 Q (wp_X3_dropUnfit_4_loop Q n) x1 x2 vLg
theorem lp_X3_dropUnfit_4 {X : List Cond} {l : Launch} {D : va_G} {G : Nat → ClassId} {C : Cx} {bs0 : List va_W} {hLg : Nat} {qLg : Nat → Nat} {Q : Int32 → OV → Prop} (F : GF C X cX3_dropUnfit wsX3_dropUnfit RX3 rm_X3_dropUnfit 4 (some .int) D G l) (E : GE C bs0 0 0 (po_X3_dropUnfit G hLg qLg Q)) : ∀ (n : Nat) (x1 x2 : Int32) (vLg : OV), wp_X3_dropUnfit_4_loop Q n x1 x2 vLg → GW C 0 0 [bLg G hLg qLg vLg] 4 [(0, .ref hLg), (1, .int x1), (2, .int x2)] [] := by
  intro n
  induction n with
  | zero => intro x1 x2 vLg hw; exact False.elim hw
  | succ n ih => intro x1 x2 vLg hw; exact lb_X3_dropUnfit_4 (K4 := wp_X3_dropUnfit_4_loop Q n) F E ih hw
def wp_X3_dropUnfit_0 (Q : Int32 → OV → Prop) (vLg : OV) : Prop :=
  (∃ n_14 : Nat, wp_X3_dropUnfit_4_loop Q n_14 (0 : Int32) (0 : Int32) vLg)
set_option maxRecDepth 20000 in
theorem lb_X3_dropUnfit_0 {X : List Cond} {l : Launch} {D : va_G} {G : Nat → ClassId} {C : Cx} {bs0 : List va_W} {hLg : Nat} {qLg : Nat → Nat} {Q : Int32 → OV → Prop} (F : GF C X cX3_dropUnfit wsX3_dropUnfit RX3 rm_X3_dropUnfit 4 (some .int) D G l) (E : GE C bs0 0 0 (po_X3_dropUnfit G hLg qLg Q)) {vLg : OV} (hw : wp_X3_dropUnfit_0 Q vLg) : GW C 0 0 [bLg G hLg qLg vLg] 0 [(0, .ref hLg)] [] := by
  unfold wp_X3_dropUnfit_0 at hw
  refine gw_iconst (v := (0 : Int32)) F dX3_dropUnfit_0 ic_iconst_0 ?_
  refine gw_istore_n (lv' := [(1, .int (0 : Int32)), (0, .ref hLg)]) F dX3_dropUnfit_1 (by decide) rfl ?_
  refine gw_iconst (v := (0 : Int32)) F dX3_dropUnfit_2 ic_iconst_0 ?_
  refine gw_istore_n (lv' := [(2, .int (0 : Int32)), (1, .int (0 : Int32)), (0, .ref hLg)]) F dX3_dropUnfit_3 (by decide) rfl ?_
  refine gw_lv [2, 1, 0] rfl ?_
  obtain ⟨n_14, hw⟩ := hw
  exact lp_X3_dropUnfit_4 F E n_14 _ _ _ hw
def wp_X3_dropUnfit (Q : Int32 → OV → Prop) (vLg : OV) : Prop := wp_X3_dropUnfit_0 Q vLg
theorem ct_X3_dropUnfit {X : List Cond} {l : Launch} {D : va_G} {G : Nat → ClassId} {hLg : Nat} {qLg : Nat → Nat} {Q : Int32 → OV → Prop} {vLg : OV} (hw : wp_X3_dropUnfit Q vLg) : CM X l yX3_dropUnfit wsX3_dropUnfit rm_X3_dropUnfit D G [.ref hLg] [bLg G hLg qLg vLg] 0 0 (po_X3_dropUnfit G hLg qLg Q) :=
  CM.of pn_RX3 rfl rfl (Nat.le_of_ble_eq_true rfl) rfl (fun C F E => lb_X3_dropUnfit_0 F E hw)
-- X3_cutKey
abbrev rm_X3_cutKey : Room := { frames := 4, cells := 0, slots := 0, locals := 128 }
def po_X3_cutKey (G : Nat → ClassId) (hLg : Nat) (qLg : Nat → Nat) (hRf : Nat) (qRf : Nat → Nat) (Q : Int32 → OV → OV → Prop) : Option Value → List va_W → Prop := fun o bs => ∃ (r : Int32) (vLg : OV) (vRf : OV), o = some (.int r) ∧ bs = [bLg G hLg qLg vLg, bRf G hRf qRf vRf] ∧ Q r vLg vRf
theorem hd_X3_cutKey : yX3_cutKey.cls = RX3 ∧ yX3_cutKey.cls ≠ "java/lang/invoke/MethodHandle" ∧ yX3_cutKey.cls ≠ "java/lang/invoke/VarHandle" ∧ (parseMethodDescriptor yX3_cutKey.desc).map (fun d => d.parameters.length) = some 3 := by decide +kernel
theorem wd_X3_cutKey_0 : Cond.initialized RX7 ∈ wsX3_cutKey := List.mem_cons_of_mem _ (List.mem_append_left _ (List.mem_append_left _ (List.mem_append_left _ (List.mem_append_left _ (List.mem_of_getElem? (i := 16) rfl)))))
theorem wd_X3_cutKey_1 : Cond.static yX7_isSet ∈ wsX3_cutKey := List.mem_cons_of_mem _ (List.mem_append_left _ (List.mem_append_left _ (List.mem_append_left _ (List.mem_append_left _ (List.mem_of_getElem? (i := 15) rfl)))))
theorem in_X3_cutKey_RX3 : ∀ w ∈ wsX30, w ∈ wsX3_cutKey := fun w h => List.mem_cons_of_mem _ (List.mem_append_left _ (List.mem_append_left _ (List.mem_append_right _ h)))
theorem lk_X3_cutKey_9 : Cond.fieldLink RX3 9 "KeyWaves$Lodge" "wards" "[I" ∈ wsX3_cutKey := List.mem_cons_of_mem _ (List.mem_append_left _ (List.mem_append_left _ (List.mem_append_left _ (List.mem_append_left _ (List.mem_of_getElem? (i := 0) rfl)))))
theorem lk_X3_cutKey_21 : Cond.fieldLink RX3 21 "KeyWaves$Lodge" "cutCosts" "[I" ∈ wsX3_cutKey := List.mem_cons_of_mem _ (List.mem_append_left _ (List.mem_append_left _ (List.mem_append_left _ (List.mem_append_left _ (List.mem_of_getElem? (i := 1) rfl)))))
def wp_X3_cutKey_0 (Q : Int32 → OV → OV → Prop) (x1 : Int32) (x2 : Int32) (vLg : OV) (vRf : OV) : Prop :=
  (wp_X3_hasKey (fun (r_1 : Int32) => ((¬ r_1 = 0 → (wp_X7_isSet (fun (r_3 : Int32) => ((¬ r_3 = 0 → (vp_in x1 10 ∧ ((¬ (vLg.1 0 x1.toNatClampNeg) = x2 → (vp_in x1 10 ∧ (wp_J6_bitCount_0f7a4 (fun (r_8 : Int32) => (vp_in x1 10 ∧ ∀ v_9 : OV, v_9 = sA vLg 0 x1.toNatClampNeg x2 → (vp_in x1 10 ∧ (vp_in x1 10 ∧ ∀ v_12 : OV, v_12 = sA v_9 3 x1.toNatClampNeg ((v_9.1 3 x1.toNatClampNeg) + r_8) → (wp_X3_dropUnfit (fun (r_14 : Int32) (v_15 : OV) => (Q r_8 v_15 vRf)) v_12))))) ((vLg.1 0 x1.toNatClampNeg) ^^^ x2)))) ∧ ((vLg.1 0 x1.toNatClampNeg) = x2 → (wp_X5_refuse (fun (r_16 : Int32) (v_17 : OV) => (Q r_16 vLg v_17)) (5 : Int32) (0 : Int32) vRf))))) ∧ (r_3 = 0 → (wp_X5_refuse (fun (r_18 : Int32) (v_19 : OV) => (Q r_18 vLg v_19)) (1 : Int32) (0 : Int32) vRf)))) x2)) ∧ (r_1 = 0 → (wp_X5_refuse (fun (r_20 : Int32) (v_21 : OV) => (Q r_20 vLg v_21)) (3 : Int32) x1 vRf)))) x1 vLg)
set_option maxRecDepth 20000 in
theorem lb_X3_cutKey_0 {X : List Cond} {l : Launch} {D : va_G} {G : Nat → ClassId} {C : Cx} {bs0 : List va_W} {hLg : Nat} {qLg : Nat → Nat} {hRf : Nat} {qRf : Nat → Nat} {Q : Int32 → OV → OV → Prop} (F : GF C X cX3_cutKey wsX3_cutKey RX3 rm_X3_cutKey 5 (some .int) D G l) (E : GE C bs0 0 0 (po_X3_cutKey G hLg qLg hRf qRf Q)) {x1 : Int32} {x2 : Int32} {vLg : OV} {vRf : OV} (hw : wp_X3_cutKey_0 Q x1 x2 vLg vRf) : GW C 0 0 [bLg G hLg qLg vLg, bRf G hRf qRf vRf] 0 [(0, .ref hLg), (1, .int x1), (2, .int x2), (3, .ref hRf)] [] := by
  unfold wp_X3_cutKey_0 at hw
  refine gw_aload_n F dX3_cutKey_0 0 rfl ?_
  refine gw_iload_n F dX3_cutKey_1 1 rfl ?_
  refine gw_callV F (ct_X3_hasKey hw) 1 gX3_cutKey_X3_hasKey rfl rfl rfl hd_X3_hasKey ⟨(Nat.le_of_ble_eq_true rfl), (Nat.le_of_ble_eq_true rfl)⟩ rfl rfl (Nat.le_of_ble_eq_true rfl) ⟨Nat.zero_le _, Nat.zero_le _⟩ [1, 0] (bsr := [bRf G hRf qRf vRf]) rfl rfl (q0 := 0) rfl rfl dX3_cutKey_2 ?_
  rintro _ _ ⟨r_1, rfl, rfl, hw⟩
  refine gw_sel [1, 0] (bs' := [bLg G hLg qLg vLg, bRf G hRf qRf vRf]) rfl rfl ?_
  change GW C 0 0 _ 5 _ [.int r_1]
  refine gw_if_ne (tgt := 15) F dX3_cutKey_5 (by decide) (fun c_2 => ?_) (fun c_2 => ?_)
  · have hw := hw.1 c_2
    refine gw_iload_n F dX3_cutKey_15 2 rfl ?_
    refine gw_callSN (host := RX7) F (ct_X7_isSet hw) 1 gX3_cutKey_X7_isSet_n92 (List.mem_of_getElem? (i := 7) rfl) wd_X3_cutKey_0 wd_X3_cutKey_1 rfl rfl rfl hd_X7_isSet ⟨(Nat.le_of_ble_eq_true rfl), (Nat.le_of_ble_eq_true rfl)⟩ rfl rfl (Nat.le_of_ble_eq_true rfl) ⟨Nat.zero_le _, Nat.zero_le _⟩ [0, 1] (bsr := [bLg G hLg qLg vLg, bRf G hRf qRf vRf]) rfl rfl dX3_cutKey_16 ?_
    rintro _ _ ⟨r_3, rfl, rfl, hw⟩
    refine gw_sel [0, 1] (bs' := [bLg G hLg qLg vLg, bRf G hRf qRf vRf]) rfl rfl ?_
    change GW C 0 0 _ 19 _ [.int r_3]
    refine gw_if_ne (tgt := 29) F dX3_cutKey_19 (by decide) (fun c_4 => ?_) (fun c_4 => ?_)
    · have hw := hw.1 c_4
      refine gw_aload_n F dX3_cutKey_29 0 rfl ?_
      refine gw_get F in_X3_cutKey_RX3 0 rfl rfl 0 (by decide) lk_X3_cutKey_9 rfl dX3_cutKey_30 ?_
      refine gw_iload_n F dX3_cutKey_33 1 rfl ?_
      obtain ⟨h_5, hw⟩ := hw
      refine gw_iald F 1 rfl h_5 dX3_cutKey_34 ?_
      refine gw_iload_n F dX3_cutKey_35 2 rfl ?_
      refine gw_icmp_ne (tgt := 46) F dX3_cutKey_36 (by decide) (fun c_6 => ?_) (fun c_6 => ?_)
      · have hw := hw.1 c_6
        refine gw_aload_n F dX3_cutKey_46 0 rfl ?_
        refine gw_get F in_X3_cutKey_RX3 0 rfl rfl 0 (by decide) lk_X3_cutKey_9 rfl dX3_cutKey_47 ?_
        refine gw_iload_n F dX3_cutKey_50 1 rfl ?_
        obtain ⟨h_7, hw⟩ := hw
        refine gw_iald F 1 rfl h_7 dX3_cutKey_51 ?_
        refine gw_iload_n F dX3_cutKey_52 2 rfl ?_
        refine gw_ixor F dX3_cutKey_53 ?_
        refine gw_callS F (ct_J6_bitCount_0f7a4 hw) 1 gX3_cutKey_J6_bitCount_0f7a4 rfl rfl rfl hd_J6_bitCount_0f7a4 ⟨(Nat.le_of_ble_eq_true rfl), (Nat.le_of_ble_eq_true rfl)⟩ rfl rfl (Nat.le_of_ble_eq_true rfl) ⟨Nat.zero_le _, Nat.zero_le _⟩ [0, 1] (bsr := [bLg G hLg qLg vLg, bRf G hRf qRf vRf]) rfl rfl dX3_cutKey_54 ?_
        rintro _ _ ⟨r_8, rfl, rfl, hw⟩
        refine gw_sel [0, 1] (bs' := [bLg G hLg qLg vLg, bRf G hRf qRf vRf]) rfl rfl ?_
        change GW C 0 0 _ 57 _ [.int r_8]
        refine gw_istore (lv' := [(4, .int r_8), (0, .ref hLg), (1, .int x1), (2, .int x2), (3, .ref hRf)]) F dX3_cutKey_57 (by decide) rfl ?_
        refine gw_aload_n F dX3_cutKey_59 1 rfl ?_
        refine gw_get F in_X3_cutKey_RX3 0 rfl rfl 0 (by decide) lk_X3_cutKey_9 rfl dX3_cutKey_60 ?_
        refine gw_iload_n F dX3_cutKey_63 2 rfl ?_
        refine gw_iload_n F dX3_cutKey_64 3 rfl ?_
        obtain ⟨h_10, hw⟩ := hw
        obtain ⟨v_9, e_v_9⟩ : ∃ z : OV, z = sA vLg 0 x1.toNatClampNeg x2 := ⟨_, rfl⟩
        have hw := hw v_9 e_v_9
        refine gw_iast (bs' := [bLg G hLg qLg v_9, bRf G hRf qRf vRf]) F 1 rfl h_10 dX3_cutKey_65 (by rw [e_v_9]; rfl) ?_
        refine gw_aload_n F dX3_cutKey_66 1 rfl ?_
        refine gw_get F in_X3_cutKey_RX3 0 rfl rfl 3 (by decide) lk_X3_cutKey_21 rfl dX3_cutKey_67 ?_
        refine gw_iload_n F dX3_cutKey_70 2 rfl ?_
        refine gw_dup2 F dX3_cutKey_71 rfl rfl ?_
        obtain ⟨h_11, hw⟩ := hw
        refine gw_iald F 4 rfl h_11 dX3_cutKey_72 ?_
        refine gw_iload F dX3_cutKey_73 0 rfl ?_
        refine gw_iadd F dX3_cutKey_75 ?_
        obtain ⟨h_13, hw⟩ := hw
        obtain ⟨v_12, e_v_12⟩ : ∃ z : OV, z = sA v_9 3 x1.toNatClampNeg ((v_9.1 3 x1.toNatClampNeg) + r_8) := ⟨_, rfl⟩
        have hw := hw v_12 e_v_12
        refine gw_iast (bs' := [bLg G hLg qLg v_12, bRf G hRf qRf vRf]) F 4 rfl h_13 dX3_cutKey_76 (by rw [e_v_12]; rfl) ?_
        refine gw_aload_n F dX3_cutKey_77 1 rfl ?_
        refine gw_callV F (ct_X3_dropUnfit hw) 0 gX3_cutKey_X3_dropUnfit rfl rfl rfl hd_X3_dropUnfit ⟨(Nat.le_of_ble_eq_true rfl), (Nat.le_of_ble_eq_true rfl)⟩ rfl rfl (Nat.le_of_ble_eq_true rfl) ⟨Nat.zero_le _, Nat.zero_le _⟩ [1, 0] (bsr := [bRf G hRf qRf vRf]) rfl rfl (q0 := 0) rfl rfl dX3_cutKey_78 ?_
        rintro _ _ ⟨r_14, v_15, rfl, rfl, hw⟩
        refine gw_sel [1, 0] (bs' := [bLg G hLg qLg v_15, bRf G hRf qRf vRf]) rfl rfl ?_
        change GW C 0 0 _ 81 _ [.int r_14]
        refine gw_pop F dX3_cutKey_81 rfl ?_
        refine gw_iload F dX3_cutKey_82 0 rfl ?_
        exact gw_iret F E rfl rfl (Nat.le_of_ble_eq_true rfl) (Nat.le_of_ble_eq_true rfl) dX3_cutKey_84 ⟨_, _, _, rfl, rfl, hw⟩
      · have hw := hw.2 c_6
        refine gw_aload_n F dX3_cutKey_39 3 rfl ?_
        refine gw_iconst (v := (5 : Int32)) F dX3_cutKey_40 ic_iconst_5 ?_
        refine gw_iconst (v := (0 : Int32)) F dX3_cutKey_41 ic_iconst_0 ?_
        refine gw_callV F (ct_X5_refuse hw) 2 gX3_cutKey_X5_refuse rfl rfl rfl hd_X5_refuse ⟨(Nat.le_of_ble_eq_true rfl), (Nat.le_of_ble_eq_true rfl)⟩ rfl rfl (Nat.le_of_ble_eq_true rfl) ⟨Nat.zero_le _, Nat.zero_le _⟩ [0, 1] (bsr := [bLg G hLg qLg vLg]) rfl rfl (q0 := 0) rfl rfl dX3_cutKey_42 ?_
        rintro _ _ ⟨r_16, v_17, rfl, rfl, hw⟩
        refine gw_sel [0, 1] (bs' := [bLg G hLg qLg vLg, bRf G hRf qRf v_17]) rfl rfl ?_
        change GW C 0 0 _ 45 _ [.int r_16]
        exact gw_iret F E rfl rfl (Nat.le_of_ble_eq_true rfl) (Nat.le_of_ble_eq_true rfl) dX3_cutKey_45 ⟨_, _, _, rfl, rfl, hw⟩
    · have hw := hw.2 c_4
      refine gw_aload_n F dX3_cutKey_22 3 rfl ?_
      refine gw_iconst (v := (1 : Int32)) F dX3_cutKey_23 ic_iconst_1 ?_
      refine gw_iconst (v := (0 : Int32)) F dX3_cutKey_24 ic_iconst_0 ?_
      refine gw_callV F (ct_X5_refuse hw) 2 gX3_cutKey_X5_refuse rfl rfl rfl hd_X5_refuse ⟨(Nat.le_of_ble_eq_true rfl), (Nat.le_of_ble_eq_true rfl)⟩ rfl rfl (Nat.le_of_ble_eq_true rfl) ⟨Nat.zero_le _, Nat.zero_le _⟩ [0, 1] (bsr := [bLg G hLg qLg vLg]) rfl rfl (q0 := 0) rfl rfl dX3_cutKey_25 ?_
      rintro _ _ ⟨r_18, v_19, rfl, rfl, hw⟩
      refine gw_sel [0, 1] (bs' := [bLg G hLg qLg vLg, bRf G hRf qRf v_19]) rfl rfl ?_
      change GW C 0 0 _ 28 _ [.int r_18]
      exact gw_iret F E rfl rfl (Nat.le_of_ble_eq_true rfl) (Nat.le_of_ble_eq_true rfl) dX3_cutKey_28 ⟨_, _, _, rfl, rfl, hw⟩
  · have hw := hw.2 c_2
    refine gw_aload_n F dX3_cutKey_8 3 rfl ?_
    refine gw_iconst (v := (3 : Int32)) F dX3_cutKey_9 ic_iconst_3 ?_
    refine gw_iload_n F dX3_cutKey_10 1 rfl ?_
    refine gw_callV F (ct_X5_refuse hw) 2 gX3_cutKey_X5_refuse rfl rfl rfl hd_X5_refuse ⟨(Nat.le_of_ble_eq_true rfl), (Nat.le_of_ble_eq_true rfl)⟩ rfl rfl (Nat.le_of_ble_eq_true rfl) ⟨Nat.zero_le _, Nat.zero_le _⟩ [0, 1] (bsr := [bLg G hLg qLg vLg]) rfl rfl (q0 := 0) rfl rfl dX3_cutKey_11 ?_
    rintro _ _ ⟨r_20, v_21, rfl, rfl, hw⟩
    refine gw_sel [0, 1] (bs' := [bLg G hLg qLg vLg, bRf G hRf qRf v_21]) rfl rfl ?_
    change GW C 0 0 _ 14 _ [.int r_20]
    exact gw_iret F E rfl rfl (Nat.le_of_ble_eq_true rfl) (Nat.le_of_ble_eq_true rfl) dX3_cutKey_14 ⟨_, _, _, rfl, rfl, hw⟩
def wp_X3_cutKey (Q : Int32 → OV → OV → Prop) (x1 : Int32) (x2 : Int32) (vLg : OV) (vRf : OV) : Prop := wp_X3_cutKey_0 Q x1 x2 vLg vRf
theorem ct_X3_cutKey {X : List Cond} {l : Launch} {D : va_G} {G : Nat → ClassId} {hLg : Nat} {qLg : Nat → Nat} {hRf : Nat} {qRf : Nat → Nat} {Q : Int32 → OV → OV → Prop} {x1 : Int32} {x2 : Int32} {vLg : OV} {vRf : OV} (hw : wp_X3_cutKey Q x1 x2 vLg vRf) : CM X l yX3_cutKey wsX3_cutKey rm_X3_cutKey D G [.ref hLg, .int x1, .int x2, .ref hRf] [bLg G hLg qLg vLg, bRf G hRf qRf vRf] 0 0 (po_X3_cutKey G hLg qLg hRf qRf Q) :=
  CM.of pn_RX3 rfl rfl (Nat.le_of_ble_eq_true rfl) rfl (fun C F E => lb_X3_cutKey_0 F E hw)
-- X3_countBars
abbrev rm_X3_countBars : Room := { frames := 3, cells := 0, slots := 0, locals := 102 }
def po_X3_countBars (G : Nat → ClassId) (hLg : Nat) (qLg : Nat → Nat) (vLg : OV) (Q : Int32 → Prop) : Option Value → List va_W → Prop := fun o bs => ∃ (r : Int32), o = some (.int r) ∧ bs = [bLg G hLg qLg vLg] ∧ Q r
theorem hd_X3_countBars : yX3_countBars.cls = RX3 ∧ yX3_countBars.cls ≠ "java/lang/invoke/MethodHandle" ∧ yX3_countBars.cls ≠ "java/lang/invoke/VarHandle" ∧ (parseMethodDescriptor yX3_countBars.desc).map (fun d => d.parameters.length) = some 0 := by decide +kernel
theorem in_X3_countBars_RX3 : ∀ w ∈ wsX30, w ∈ wsX3_countBars := fun w h => List.mem_cons_of_mem _ (List.mem_append_left _ (List.mem_append_right _ h))
theorem lk_X3_countBars_36 : Cond.fieldLink RX3 36 "KeyWaves$Lodge" "keys" "I" ∈ wsX3_countBars := List.mem_cons_of_mem _ (List.mem_append_left _ (List.mem_append_left _ (List.mem_of_getElem? (i := 0) rfl)))
def wp_X3_countBars_4 (Q : Int32 → Prop) (K4 : Int32 → Int32 → Prop) (vLg : OV) (x1 x2 : Int32) : Prop :=
  (((vLg.2 8) ≤ x2 → (Q x1)) ∧ (¬ ((vLg.2 8) ≤ x2) → (wp_X3_barsOf (fun (r_2 : Int32) => (wp_J6_bitCount_0f7a4 (fun (r_3 : Int32) => (∀ i_4 : Int32, i_4 = (x1 + r_3) → (∀ i_5 : Int32, i_5 = x2 + (1 : Int32) → (K4 i_4 i_5)))) r_2)) x2 vLg)))
set_option maxRecDepth 20000 in
theorem lb_X3_countBars_4 {X : List Cond} {l : Launch} {D : va_G} {G : Nat → ClassId} {C : Cx} {bs0 : List va_W} {hLg : Nat} {qLg : Nat → Nat} {Q : Int32 → Prop} {K4 : Int32 → Int32 → Prop} {vLg : OV} (F : GF C X cX3_countBars wsX3_countBars RX3 rm_X3_countBars 3 (some .int) D G l) (E : GE C bs0 0 0 (po_X3_countBars G hLg qLg vLg Q)) (hK4 : ∀ (x1 x2 : Int32), K4 x1 x2 → GW C 0 0 [bLg G hLg qLg vLg] 4 [(0, .ref hLg), (1, .int x1), (2, .int x2)] []) {x1 x2 : Int32} (hw : wp_X3_countBars_4 Q K4 vLg x1 x2) : GW C 0 0 [bLg G hLg qLg vLg] 4 [(0, .ref hLg), (1, .int x1), (2, .int x2)] [] := by
  unfold wp_X3_countBars_4 at hw
  refine gw_iload_n F dX3_countBars_4 2 rfl ?_
  refine gw_aload_n F dX3_countBars_5 0 rfl ?_
  refine gw_get F in_X3_countBars_RX3 0 rfl rfl 8 (by decide) lk_X3_countBars_36 rfl dX3_countBars_6 ?_
  refine gw_icmp_ge (tgt := 29) F dX3_countBars_9 (by decide) (fun c_1 => ?_) (fun c_1 => ?_)
  · have hw := hw.1 c_1
    refine gw_iload_n F dX3_countBars_29 1 rfl ?_
    exact gw_iret F E rfl rfl (Nat.le_of_ble_eq_true rfl) (Nat.le_of_ble_eq_true rfl) dX3_countBars_30 ⟨_, rfl, rfl, hw⟩
  · have hw := hw.2 c_1
    refine gw_iload_n F dX3_countBars_12 1 rfl ?_
    refine gw_aload_n F dX3_countBars_13 0 rfl ?_
    refine gw_iload_n F dX3_countBars_14 2 rfl ?_
    refine gw_callV F (ct_X3_barsOf hw) 1 gX3_countBars_X3_barsOf rfl rfl rfl hd_X3_barsOf ⟨(Nat.le_of_ble_eq_true rfl), (Nat.le_of_ble_eq_true rfl)⟩ rfl rfl (Nat.le_of_ble_eq_true rfl) ⟨Nat.zero_le _, Nat.zero_le _⟩ [0] (bsr := []) rfl rfl (q0 := 0) rfl rfl dX3_countBars_15 ?_
    rintro _ _ ⟨r_2, rfl, rfl, hw⟩
    refine gw_sel [0] (bs' := [bLg G hLg qLg vLg]) rfl rfl ?_
    change GW C 0 0 _ 18 _ [.int r_2, .int x1]
    refine gw_callS F (ct_J6_bitCount_0f7a4 hw) 1 gX3_countBars_J6_bitCount_0f7a4 rfl rfl rfl hd_J6_bitCount_0f7a4 ⟨(Nat.le_of_ble_eq_true rfl), (Nat.le_of_ble_eq_true rfl)⟩ rfl rfl (Nat.le_of_ble_eq_true rfl) ⟨Nat.zero_le _, Nat.zero_le _⟩ [0] (bsr := [bLg G hLg qLg vLg]) rfl rfl dX3_countBars_18 ?_
    rintro _ _ ⟨r_3, rfl, rfl, hw⟩
    refine gw_sel [0] (bs' := [bLg G hLg qLg vLg]) rfl rfl ?_
    change GW C 0 0 _ 21 _ [.int r_3, .int x1]
    refine gw_iadd F dX3_countBars_21 ?_
    refine gw_topi (fun i_4 e_i_4 => ?_)
    have hw := hw i_4 e_i_4
    refine gw_istore_n (lv' := [(1, .int i_4), (0, .ref hLg), (2, .int x2)]) F dX3_countBars_22 (by decide) rfl ?_
    obtain ⟨i_5, e_i_5⟩ : ∃ z : Int32, z = x2 + (1 : Int32) := ⟨_, rfl⟩
    have hw := hw i_5 e_i_5
    refine gw_iinc (v := i_5) (lv' := [(2, .int i_5), (1, .int i_4), (0, .ref hLg)]) F dX3_countBars_23 2 rfl (by rw [e_i_5]; rfl) (by decide) rfl ?_
    refine gw_goto (tgt := 4) F dX3_countBars_26 (by decide) ?_
    refine gw_lv [2, 1, 0] rfl ?_
    exact hK4 _ _ hw
def wp_X3_countBars_4_loop (Q : Int32 → Prop) (vLg : OV) : Nat → Int32 → Int32 → Prop
  | 0, _, _ => False
  | n + 1, x1, x2 => wp_X3_countBars_4 Q (wp_X3_countBars_4_loop Q vLg n) vLg x1 x2
theorem lp_X3_countBars_4 {X : List Cond} {l : Launch} {D : va_G} {G : Nat → ClassId} {C : Cx} {bs0 : List va_W} {hLg : Nat} {qLg : Nat → Nat} {Q : Int32 → Prop} {vLg : OV} (F : GF C X cX3_countBars wsX3_countBars RX3 rm_X3_countBars 3 (some .int) D G l) (E : GE C bs0 0 0 (po_X3_countBars G hLg qLg vLg Q)) : ∀ (n : Nat) (x1 x2 : Int32), wp_X3_countBars_4_loop Q vLg n x1 x2 → GW C 0 0 [bLg G hLg qLg vLg] 4 [(0, .ref hLg), (1, .int x1), (2, .int x2)] [] := by
  intro n
  induction n with
  | zero => intro x1 x2 hw; exact False.elim hw
  | succ n ih => intro x1 x2 hw; exact lb_X3_countBars_4 (K4 := wp_X3_countBars_4_loop Q vLg n) F E ih hw
def wp_X3_countBars_0 (Q : Int32 → Prop) (vLg : OV) : Prop :=
  (∃ n_6 : Nat, wp_X3_countBars_4_loop Q vLg n_6 (0 : Int32) (0 : Int32))
set_option maxRecDepth 20000 in
theorem lb_X3_countBars_0 {X : List Cond} {l : Launch} {D : va_G} {G : Nat → ClassId} {C : Cx} {bs0 : List va_W} {hLg : Nat} {qLg : Nat → Nat} {Q : Int32 → Prop} {vLg : OV} (F : GF C X cX3_countBars wsX3_countBars RX3 rm_X3_countBars 3 (some .int) D G l) (E : GE C bs0 0 0 (po_X3_countBars G hLg qLg vLg Q)) (hw : wp_X3_countBars_0 Q vLg ) : GW C 0 0 [bLg G hLg qLg vLg] 0 [(0, .ref hLg)] [] := by
  unfold wp_X3_countBars_0 at hw
  refine gw_iconst (v := (0 : Int32)) F dX3_countBars_0 ic_iconst_0 ?_
  refine gw_istore_n (lv' := [(1, .int (0 : Int32)), (0, .ref hLg)]) F dX3_countBars_1 (by decide) rfl ?_
  refine gw_iconst (v := (0 : Int32)) F dX3_countBars_2 ic_iconst_0 ?_
  refine gw_istore_n (lv' := [(2, .int (0 : Int32)), (1, .int (0 : Int32)), (0, .ref hLg)]) F dX3_countBars_3 (by decide) rfl ?_
  refine gw_lv [2, 1, 0] rfl ?_
  obtain ⟨n_6, hw⟩ := hw
  exact lp_X3_countBars_4 F E n_6 _ _ hw
def wp_X3_countBars (Q : Int32 → Prop) (vLg : OV) : Prop := wp_X3_countBars_0 Q vLg
theorem ct_X3_countBars {X : List Cond} {l : Launch} {D : va_G} {G : Nat → ClassId} {hLg : Nat} {qLg : Nat → Nat} {Q : Int32 → Prop} {vLg : OV} (hw : wp_X3_countBars Q vLg) : CM X l yX3_countBars wsX3_countBars rm_X3_countBars D G [.ref hLg] [bLg G hLg qLg vLg] 0 0 (po_X3_countBars G hLg qLg vLg Q) :=
  CM.of pn_RX3 rfl rfl (Nat.le_of_ble_eq_true rfl) rfl (fun C F E => lb_X3_countBars_0 F E hw)
-- X3_setBar
abbrev rm_X3_setBar : Room := { frames := 4, cells := 0, slots := 0, locals := 128 }
def po_X3_setBar (G : Nat → ClassId) (hLg : Nat) (qLg : Nat → Nat) (hRf : Nat) (qRf : Nat → Nat) (Q : Int32 → OV → OV → Prop) : Option Value → List va_W → Prop := fun o bs => ∃ (r : Int32) (vLg : OV) (vRf : OV), o = some (.int r) ∧ bs = [bLg G hLg qLg vLg, bRf G hRf qRf vRf] ∧ Q r vLg vRf
theorem hd_X3_setBar : yX3_setBar.cls = RX3 ∧ yX3_setBar.cls ≠ "java/lang/invoke/MethodHandle" ∧ yX3_setBar.cls ≠ "java/lang/invoke/VarHandle" ∧ (parseMethodDescriptor yX3_setBar.desc).map (fun d => d.parameters.length) = some 4 := by decide +kernel
theorem in_X3_setBar_RX3 : ∀ w ∈ wsX30, w ∈ wsX3_setBar := fun w h => List.mem_cons_of_mem _ (List.mem_append_left _ (List.mem_append_left _ (List.mem_append_right _ h)))
theorem lk_X3_setBar_18 : Cond.fieldLink RX3 18 "KeyWaves$Lodge" "bars" "[I" ∈ wsX3_setBar := List.mem_cons_of_mem _ (List.mem_append_left _ (List.mem_append_left _ (List.mem_append_left _ (List.mem_append_left _ (List.mem_of_getElem? (i := 0) rfl)))))
def wp_X3_setBar_0 (Q : Int32 → OV → OV → Prop) (x1 : Int32) (x2 : Int32) (x3 : Int32) (vLg : OV) (vRf : OV) : Prop :=
  (wp_X3_hasKey (fun (r_1 : Int32) => ((¬ r_1 = 0 → (wp_X3_hasLock (fun (r_3 : Int32) => ((¬ r_3 = 0 → (wp_X3_hasBar (fun (r_5 : Int32) => ((¬ r_5 = x3 → (vp_in x1 10 ∧ (vp_in x1 10 ∧ ∀ v_8 : OV, v_8 = sA vLg 2 x1.toNatClampNeg ((vLg.1 2 x1.toNatClampNeg) ^^^ ((1 : Int32) <<< (x2 &&& 31))) → (wp_X3_dropUnfit (fun (r_10 : Int32) (v_11 : OV) => (wp_X3_countBars (fun (r_12 : Int32) => (Q r_12 v_11 vRf)) v_11)) v_8)))) ∧ (r_5 = x3 → (wp_X5_refuse (fun (r_13 : Int32) (v_14 : OV) => (Q r_13 vLg v_14)) (5 : Int32) (0 : Int32) vRf)))) x1 x2 vLg)) ∧ (r_3 = 0 → (wp_X5_refuse (fun (r_15 : Int32) (v_16 : OV) => (Q r_15 vLg v_16)) (4 : Int32) x2 vRf)))) x2 vLg)) ∧ (r_1 = 0 → (wp_X5_refuse (fun (r_17 : Int32) (v_18 : OV) => (Q r_17 vLg v_18)) (3 : Int32) x1 vRf)))) x1 vLg)
set_option maxRecDepth 20000 in
theorem lb_X3_setBar_0 {X : List Cond} {l : Launch} {D : va_G} {G : Nat → ClassId} {C : Cx} {bs0 : List va_W} {hLg : Nat} {qLg : Nat → Nat} {hRf : Nat} {qRf : Nat → Nat} {Q : Int32 → OV → OV → Prop} (F : GF C X cX3_setBar wsX3_setBar RX3 rm_X3_setBar 5 (some .int) D G l) (E : GE C bs0 0 0 (po_X3_setBar G hLg qLg hRf qRf Q)) {x1 : Int32} {x2 : Int32} {x3 : Int32} {vLg : OV} {vRf : OV} (hw : wp_X3_setBar_0 Q x1 x2 x3 vLg vRf) : GW C 0 0 [bLg G hLg qLg vLg, bRf G hRf qRf vRf] 0 [(0, .ref hLg), (1, .int x1), (2, .int x2), (3, .int x3), (4, .ref hRf)] [] := by
  unfold wp_X3_setBar_0 at hw
  refine gw_aload_n F dX3_setBar_0 0 rfl ?_
  refine gw_iload_n F dX3_setBar_1 1 rfl ?_
  refine gw_callV F (ct_X3_hasKey hw) 1 gX3_setBar_X3_hasKey rfl rfl rfl hd_X3_hasKey ⟨(Nat.le_of_ble_eq_true rfl), (Nat.le_of_ble_eq_true rfl)⟩ rfl rfl (Nat.le_of_ble_eq_true rfl) ⟨Nat.zero_le _, Nat.zero_le _⟩ [1, 0] (bsr := [bRf G hRf qRf vRf]) rfl rfl (q0 := 0) rfl rfl dX3_setBar_2 ?_
  rintro _ _ ⟨r_1, rfl, rfl, hw⟩
  refine gw_sel [1, 0] (bs' := [bLg G hLg qLg vLg, bRf G hRf qRf vRf]) rfl rfl ?_
  change GW C 0 0 _ 5 _ [.int r_1]
  refine gw_if_ne (tgt := 16) F dX3_setBar_5 (by decide) (fun c_2 => ?_) (fun c_2 => ?_)
  · have hw := hw.1 c_2
    refine gw_aload_n F dX3_setBar_16 0 rfl ?_
    refine gw_iload_n F dX3_setBar_17 2 rfl ?_
    refine gw_callV F (ct_X3_hasLock hw) 1 gX3_setBar_X3_hasLock rfl rfl rfl hd_X3_hasLock ⟨(Nat.le_of_ble_eq_true rfl), (Nat.le_of_ble_eq_true rfl)⟩ rfl rfl (Nat.le_of_ble_eq_true rfl) ⟨Nat.zero_le _, Nat.zero_le _⟩ [1, 0] (bsr := [bRf G hRf qRf vRf]) rfl rfl (q0 := 0) rfl rfl dX3_setBar_18 ?_
    rintro _ _ ⟨r_3, rfl, rfl, hw⟩
    refine gw_sel [1, 0] (bs' := [bLg G hLg qLg vLg, bRf G hRf qRf vRf]) rfl rfl ?_
    change GW C 0 0 _ 21 _ [.int r_3]
    refine gw_if_ne (tgt := 32) F dX3_setBar_21 (by decide) (fun c_4 => ?_) (fun c_4 => ?_)
    · have hw := hw.1 c_4
      refine gw_aload_n F dX3_setBar_32 0 rfl ?_
      refine gw_iload_n F dX3_setBar_33 1 rfl ?_
      refine gw_iload_n F dX3_setBar_34 2 rfl ?_
      refine gw_callV F (ct_X3_hasBar hw) 2 gX3_setBar_X3_hasBar rfl rfl rfl hd_X3_hasBar ⟨(Nat.le_of_ble_eq_true rfl), (Nat.le_of_ble_eq_true rfl)⟩ rfl rfl (Nat.le_of_ble_eq_true rfl) ⟨Nat.zero_le _, Nat.zero_le _⟩ [1, 0] (bsr := [bRf G hRf qRf vRf]) rfl rfl (q0 := 0) rfl rfl dX3_setBar_35 ?_
      rintro _ _ ⟨r_5, rfl, rfl, hw⟩
      refine gw_sel [1, 0] (bs' := [bLg G hLg qLg vLg, bRf G hRf qRf vRf]) rfl rfl ?_
      change GW C 0 0 _ 38 _ [.int r_5]
      refine gw_iload_n F dX3_setBar_38 3 rfl ?_
      refine gw_icmp_ne (tgt := 50) F dX3_setBar_39 (by decide) (fun c_6 => ?_) (fun c_6 => ?_)
      · have hw := hw.1 c_6
        refine gw_aload_n F dX3_setBar_50 0 rfl ?_
        refine gw_get F in_X3_setBar_RX3 0 rfl rfl 2 (by decide) lk_X3_setBar_18 rfl dX3_setBar_51 ?_
        refine gw_iload_n F dX3_setBar_54 1 rfl ?_
        refine gw_dup2 F dX3_setBar_55 rfl rfl ?_
        obtain ⟨h_7, hw⟩ := hw
        refine gw_iald F 3 rfl h_7 dX3_setBar_56 ?_
        refine gw_iconst (v := (1 : Int32)) F dX3_setBar_57 ic_iconst_1 ?_
        refine gw_iload_n F dX3_setBar_58 2 rfl ?_
        refine gw_ishl F dX3_setBar_59 ?_
        refine gw_ixor F dX3_setBar_60 ?_
        obtain ⟨h_9, hw⟩ := hw
        obtain ⟨v_8, e_v_8⟩ : ∃ z : OV, z = sA vLg 2 x1.toNatClampNeg ((vLg.1 2 x1.toNatClampNeg) ^^^ ((1 : Int32) <<< (x2 &&& 31))) := ⟨_, rfl⟩
        have hw := hw v_8 e_v_8
        refine gw_iast (bs' := [bLg G hLg qLg v_8, bRf G hRf qRf vRf]) F 3 rfl h_9 dX3_setBar_61 (by rw [e_v_8]; rfl) ?_
        refine gw_aload_n F dX3_setBar_62 0 rfl ?_
        refine gw_callV F (ct_X3_dropUnfit hw) 0 gX3_setBar_X3_dropUnfit rfl rfl rfl hd_X3_dropUnfit ⟨(Nat.le_of_ble_eq_true rfl), (Nat.le_of_ble_eq_true rfl)⟩ rfl rfl (Nat.le_of_ble_eq_true rfl) ⟨Nat.zero_le _, Nat.zero_le _⟩ [1, 0] (bsr := [bRf G hRf qRf vRf]) rfl rfl (q0 := 0) rfl rfl dX3_setBar_63 ?_
        rintro _ _ ⟨r_10, v_11, rfl, rfl, hw⟩
        refine gw_sel [1, 0] (bs' := [bLg G hLg qLg v_11, bRf G hRf qRf vRf]) rfl rfl ?_
        change GW C 0 0 _ 66 _ [.int r_10]
        refine gw_pop F dX3_setBar_66 rfl ?_
        refine gw_aload_n F dX3_setBar_67 0 rfl ?_
        refine gw_callV F (ct_X3_countBars hw) 0 gX3_setBar_X3_countBars rfl rfl rfl hd_X3_countBars ⟨(Nat.le_of_ble_eq_true rfl), (Nat.le_of_ble_eq_true rfl)⟩ rfl rfl (Nat.le_of_ble_eq_true rfl) ⟨Nat.zero_le _, Nat.zero_le _⟩ [1, 0] (bsr := [bRf G hRf qRf vRf]) rfl rfl (q0 := 0) rfl rfl dX3_setBar_68 ?_
        rintro _ _ ⟨r_12, rfl, rfl, hw⟩
        refine gw_sel [1, 0] (bs' := [bLg G hLg qLg v_11, bRf G hRf qRf vRf]) rfl rfl ?_
        change GW C 0 0 _ 71 _ [.int r_12]
        exact gw_iret F E rfl rfl (Nat.le_of_ble_eq_true rfl) (Nat.le_of_ble_eq_true rfl) dX3_setBar_71 ⟨_, _, _, rfl, rfl, hw⟩
      · have hw := hw.2 c_6
        refine gw_aload F dX3_setBar_42 4 rfl ?_
        refine gw_iconst (v := (5 : Int32)) F dX3_setBar_44 ic_iconst_5 ?_
        refine gw_iconst (v := (0 : Int32)) F dX3_setBar_45 ic_iconst_0 ?_
        refine gw_callV F (ct_X5_refuse hw) 2 gX3_setBar_X5_refuse rfl rfl rfl hd_X5_refuse ⟨(Nat.le_of_ble_eq_true rfl), (Nat.le_of_ble_eq_true rfl)⟩ rfl rfl (Nat.le_of_ble_eq_true rfl) ⟨Nat.zero_le _, Nat.zero_le _⟩ [0, 1] (bsr := [bLg G hLg qLg vLg]) rfl rfl (q0 := 0) rfl rfl dX3_setBar_46 ?_
        rintro _ _ ⟨r_13, v_14, rfl, rfl, hw⟩
        refine gw_sel [0, 1] (bs' := [bLg G hLg qLg vLg, bRf G hRf qRf v_14]) rfl rfl ?_
        change GW C 0 0 _ 49 _ [.int r_13]
        exact gw_iret F E rfl rfl (Nat.le_of_ble_eq_true rfl) (Nat.le_of_ble_eq_true rfl) dX3_setBar_49 ⟨_, _, _, rfl, rfl, hw⟩
    · have hw := hw.2 c_4
      refine gw_aload F dX3_setBar_24 4 rfl ?_
      refine gw_iconst (v := (4 : Int32)) F dX3_setBar_26 ic_iconst_4 ?_
      refine gw_iload_n F dX3_setBar_27 2 rfl ?_
      refine gw_callV F (ct_X5_refuse hw) 2 gX3_setBar_X5_refuse rfl rfl rfl hd_X5_refuse ⟨(Nat.le_of_ble_eq_true rfl), (Nat.le_of_ble_eq_true rfl)⟩ rfl rfl (Nat.le_of_ble_eq_true rfl) ⟨Nat.zero_le _, Nat.zero_le _⟩ [0, 1] (bsr := [bLg G hLg qLg vLg]) rfl rfl (q0 := 0) rfl rfl dX3_setBar_28 ?_
      rintro _ _ ⟨r_15, v_16, rfl, rfl, hw⟩
      refine gw_sel [0, 1] (bs' := [bLg G hLg qLg vLg, bRf G hRf qRf v_16]) rfl rfl ?_
      change GW C 0 0 _ 31 _ [.int r_15]
      exact gw_iret F E rfl rfl (Nat.le_of_ble_eq_true rfl) (Nat.le_of_ble_eq_true rfl) dX3_setBar_31 ⟨_, _, _, rfl, rfl, hw⟩
  · have hw := hw.2 c_2
    refine gw_aload F dX3_setBar_8 4 rfl ?_
    refine gw_iconst (v := (3 : Int32)) F dX3_setBar_10 ic_iconst_3 ?_
    refine gw_iload_n F dX3_setBar_11 1 rfl ?_
    refine gw_callV F (ct_X5_refuse hw) 2 gX3_setBar_X5_refuse rfl rfl rfl hd_X5_refuse ⟨(Nat.le_of_ble_eq_true rfl), (Nat.le_of_ble_eq_true rfl)⟩ rfl rfl (Nat.le_of_ble_eq_true rfl) ⟨Nat.zero_le _, Nat.zero_le _⟩ [0, 1] (bsr := [bLg G hLg qLg vLg]) rfl rfl (q0 := 0) rfl rfl dX3_setBar_12 ?_
    rintro _ _ ⟨r_17, v_18, rfl, rfl, hw⟩
    refine gw_sel [0, 1] (bs' := [bLg G hLg qLg vLg, bRf G hRf qRf v_18]) rfl rfl ?_
    change GW C 0 0 _ 15 _ [.int r_17]
    exact gw_iret F E rfl rfl (Nat.le_of_ble_eq_true rfl) (Nat.le_of_ble_eq_true rfl) dX3_setBar_15 ⟨_, _, _, rfl, rfl, hw⟩
def wp_X3_setBar (Q : Int32 → OV → OV → Prop) (x1 : Int32) (x2 : Int32) (x3 : Int32) (vLg : OV) (vRf : OV) : Prop := wp_X3_setBar_0 Q x1 x2 x3 vLg vRf
theorem ct_X3_setBar {X : List Cond} {l : Launch} {D : va_G} {G : Nat → ClassId} {hLg : Nat} {qLg : Nat → Nat} {hRf : Nat} {qRf : Nat → Nat} {Q : Int32 → OV → OV → Prop} {x1 : Int32} {x2 : Int32} {x3 : Int32} {vLg : OV} {vRf : OV} (hw : wp_X3_setBar Q x1 x2 x3 vLg vRf) : CM X l yX3_setBar wsX3_setBar rm_X3_setBar D G [.ref hLg, .int x1, .int x2, .int x3, .ref hRf] [bLg G hLg qLg vLg, bRf G hRf qRf vRf] 0 0 (po_X3_setBar G hLg qLg hRf qRf Q) :=
  CM.of pn_RX3 rfl rfl (Nat.le_of_ble_eq_true rfl) rfl (fun C F E => lb_X3_setBar_0 F E hw)
-- X3_setSlack
abbrev rm_X3_setSlack : Room := { frames := 4, cells := 0, slots := 0, locals := 128 }
def po_X3_setSlack (G : Nat → ClassId) (hLg : Nat) (qLg : Nat → Nat) (hRf : Nat) (qRf : Nat → Nat) (Q : Int32 → OV → OV → Prop) : Option Value → List va_W → Prop := fun o bs => ∃ (r : Int32) (vLg : OV) (vRf : OV), o = some (.int r) ∧ bs = [bLg G hLg qLg vLg, bRf G hRf qRf vRf] ∧ Q r vLg vRf
theorem hd_X3_setSlack : yX3_setSlack.cls = RX3 ∧ yX3_setSlack.cls ≠ "java/lang/invoke/MethodHandle" ∧ yX3_setSlack.cls ≠ "java/lang/invoke/VarHandle" ∧ (parseMethodDescriptor yX3_setSlack.desc).map (fun d => d.parameters.length) = some 2 := by decide +kernel
theorem in_X3_setSlack_RX3 : ∀ w ∈ wsX30, w ∈ wsX3_setSlack := fun w h => List.mem_cons_of_mem _ (List.mem_append_left _ (List.mem_append_left _ (List.mem_append_right _ h)))
theorem lk_X3_setSlack_43 : Cond.fieldLink RX3 43 "KeyWaves$Lodge" "slack" "I" ∈ wsX3_setSlack := List.mem_cons_of_mem _ (List.mem_append_left _ (List.mem_append_left _ (List.mem_append_left _ (List.mem_append_left _ (List.mem_of_getElem? (i := 0) rfl)))))
def wp_X3_setSlack_10 (Q : Int32 → OV → OV → Prop) (vLg : OV) (vRf : OV) : Prop :=
  (wp_X5_refuse (fun (r_2 : Int32) (v_3 : OV) => (Q r_2 vLg v_3)) (1 : Int32) (0 : Int32) vRf)
set_option maxRecDepth 20000 in
theorem lb_X3_setSlack_10 {X : List Cond} {l : Launch} {D : va_G} {G : Nat → ClassId} {C : Cx} {bs0 : List va_W} {hLg : Nat} {qLg : Nat → Nat} {hRf : Nat} {qRf : Nat → Nat} {Q : Int32 → OV → OV → Prop} (F : GF C X cX3_setSlack wsX3_setSlack RX3 rm_X3_setSlack 3 (some .int) D G l) (E : GE C bs0 0 0 (po_X3_setSlack G hLg qLg hRf qRf Q)) {vLg : OV} {vRf : OV} (hw : wp_X3_setSlack_10 Q vLg vRf) : GW C 0 0 [bLg G hLg qLg vLg, bRf G hRf qRf vRf] 10 [(2, .ref hRf)] [] := by
  unfold wp_X3_setSlack_10 at hw
  refine gw_aload_n F dX3_setSlack_10 0 rfl ?_
  refine gw_iconst (v := (1 : Int32)) F dX3_setSlack_11 ic_iconst_1 ?_
  refine gw_iconst (v := (0 : Int32)) F dX3_setSlack_12 ic_iconst_0 ?_
  refine gw_callV F (ct_X5_refuse hw) 2 gX3_setSlack_X5_refuse rfl rfl rfl hd_X5_refuse ⟨(Nat.le_of_ble_eq_true rfl), (Nat.le_of_ble_eq_true rfl)⟩ rfl rfl (Nat.le_of_ble_eq_true rfl) ⟨Nat.zero_le _, Nat.zero_le _⟩ [0, 1] (bsr := [bLg G hLg qLg vLg]) rfl rfl (q0 := 0) rfl rfl dX3_setSlack_13 ?_
  rintro _ _ ⟨r_2, v_3, rfl, rfl, hw⟩
  refine gw_sel [0, 1] (bs' := [bLg G hLg qLg vLg, bRf G hRf qRf v_3]) rfl rfl ?_
  change GW C 0 0 _ 16 _ [.int r_2]
  exact gw_iret F E rfl rfl (Nat.le_of_ble_eq_true rfl) (Nat.le_of_ble_eq_true rfl) dX3_setSlack_16 ⟨_, _, _, rfl, rfl, hw⟩
def wp_X3_setSlack_0 (Q : Int32 → OV → OV → Prop) (x1 : Int32) (vLg : OV) (vRf : OV) : Prop :=
  ((x1 < 0 → (wp_X3_setSlack_10 Q vLg vRf)) ∧ (¬ (x1 < 0) → ((x1 ≤ (6 : Int32) → ((¬ (vLg.2 10) = x1 → (∀ v_6 : OV, v_6 = sI vLg 10 x1 → (wp_X3_dropUnfit (fun (r_7 : Int32) (v_8 : OV) => (Q r_7 v_8 vRf)) v_6))) ∧ ((vLg.2 10) = x1 → (wp_X5_refuse (fun (r_9 : Int32) (v_10 : OV) => (Q r_9 vLg v_10)) (5 : Int32) (0 : Int32) vRf)))) ∧ (¬ (x1 ≤ (6 : Int32)) → (wp_X3_setSlack_10 Q vLg vRf)))))
set_option maxRecDepth 20000 in
theorem lb_X3_setSlack_0 {X : List Cond} {l : Launch} {D : va_G} {G : Nat → ClassId} {C : Cx} {bs0 : List va_W} {hLg : Nat} {qLg : Nat → Nat} {hRf : Nat} {qRf : Nat → Nat} {Q : Int32 → OV → OV → Prop} (F : GF C X cX3_setSlack wsX3_setSlack RX3 rm_X3_setSlack 3 (some .int) D G l) (E : GE C bs0 0 0 (po_X3_setSlack G hLg qLg hRf qRf Q)) {x1 : Int32} {vLg : OV} {vRf : OV} (hw : wp_X3_setSlack_0 Q x1 vLg vRf) : GW C 0 0 [bLg G hLg qLg vLg, bRf G hRf qRf vRf] 0 [(0, .ref hLg), (1, .int x1), (2, .ref hRf)] [] := by
  unfold wp_X3_setSlack_0 at hw
  refine gw_iload_n F dX3_setSlack_0 1 rfl ?_
  refine gw_if_lt (tgt := 10) F dX3_setSlack_1 (by decide) (fun c_1 => ?_) (fun c_1 => ?_)
  · have hw := hw.1 c_1
    refine gw_lv [2] rfl ?_
    exact lb_X3_setSlack_10 F E hw
  · have hw := hw.2 c_1
    refine gw_iload_n F dX3_setSlack_4 1 rfl ?_
    refine gw_bipush (v := (6 : Int32)) F dX3_setSlack_5 ic_bipush_6 ?_
    refine gw_icmp_le (tgt := 17) F dX3_setSlack_7 (by decide) (fun c_4 => ?_) (fun c_4 => ?_)
    · have hw := hw.1 c_4
      refine gw_aload_n F dX3_setSlack_17 0 rfl ?_
      refine gw_get F in_X3_setSlack_RX3 0 rfl rfl 10 (by decide) lk_X3_setSlack_43 rfl dX3_setSlack_18 ?_
      refine gw_iload_n F dX3_setSlack_21 1 rfl ?_
      refine gw_icmp_ne (tgt := 32) F dX3_setSlack_22 (by decide) (fun c_5 => ?_) (fun c_5 => ?_)
      · have hw := hw.1 c_5
        refine gw_aload_n F dX3_setSlack_32 0 rfl ?_
        refine gw_iload_n F dX3_setSlack_33 1 rfl ?_
        obtain ⟨v_6, e_v_6⟩ : ∃ z : OV, z = sI vLg 10 x1 := ⟨_, rfl⟩
        have hw := hw v_6 e_v_6
        refine gw_put (bs' := [bLg G hLg qLg v_6, bRf G hRf qRf vRf]) F in_X3_setSlack_RX3 tyX3 tyX3_ok nmX3 0 rfl rfl 10 (by decide) lk_X3_setSlack_43 rfl rfl rfl (Nat.le_of_ble_eq_true rfl) dX3_setSlack_34 (by rw [e_v_6]; rfl) ?_
        refine gw_aload_n F dX3_setSlack_37 0 rfl ?_
        refine gw_callV F (ct_X3_dropUnfit hw) 0 gX3_setSlack_X3_dropUnfit rfl rfl rfl hd_X3_dropUnfit ⟨(Nat.le_of_ble_eq_true rfl), (Nat.le_of_ble_eq_true rfl)⟩ rfl rfl (Nat.le_of_ble_eq_true rfl) ⟨Nat.zero_le _, Nat.zero_le _⟩ [1, 0] (bsr := [bRf G hRf qRf vRf]) rfl rfl (q0 := 0) rfl rfl dX3_setSlack_38 ?_
        rintro _ _ ⟨r_7, v_8, rfl, rfl, hw⟩
        refine gw_sel [1, 0] (bs' := [bLg G hLg qLg v_8, bRf G hRf qRf vRf]) rfl rfl ?_
        change GW C 0 0 _ 41 _ [.int r_7]
        exact gw_iret F E rfl rfl (Nat.le_of_ble_eq_true rfl) (Nat.le_of_ble_eq_true rfl) dX3_setSlack_41 ⟨_, _, _, rfl, rfl, hw⟩
      · have hw := hw.2 c_5
        refine gw_aload_n F dX3_setSlack_25 2 rfl ?_
        refine gw_iconst (v := (5 : Int32)) F dX3_setSlack_26 ic_iconst_5 ?_
        refine gw_iconst (v := (0 : Int32)) F dX3_setSlack_27 ic_iconst_0 ?_
        refine gw_callV F (ct_X5_refuse hw) 2 gX3_setSlack_X5_refuse rfl rfl rfl hd_X5_refuse ⟨(Nat.le_of_ble_eq_true rfl), (Nat.le_of_ble_eq_true rfl)⟩ rfl rfl (Nat.le_of_ble_eq_true rfl) ⟨Nat.zero_le _, Nat.zero_le _⟩ [0, 1] (bsr := [bLg G hLg qLg vLg]) rfl rfl (q0 := 0) rfl rfl dX3_setSlack_28 ?_
        rintro _ _ ⟨r_9, v_10, rfl, rfl, hw⟩
        refine gw_sel [0, 1] (bs' := [bLg G hLg qLg vLg, bRf G hRf qRf v_10]) rfl rfl ?_
        change GW C 0 0 _ 31 _ [.int r_9]
        exact gw_iret F E rfl rfl (Nat.le_of_ble_eq_true rfl) (Nat.le_of_ble_eq_true rfl) dX3_setSlack_31 ⟨_, _, _, rfl, rfl, hw⟩
    · have hw := hw.2 c_4
      refine gw_lv [2] rfl ?_
      exact lb_X3_setSlack_10 F E hw
def wp_X3_setSlack (Q : Int32 → OV → OV → Prop) (x1 : Int32) (vLg : OV) (vRf : OV) : Prop := wp_X3_setSlack_0 Q x1 vLg vRf
theorem ct_X3_setSlack {X : List Cond} {l : Launch} {D : va_G} {G : Nat → ClassId} {hLg : Nat} {qLg : Nat → Nat} {hRf : Nat} {qRf : Nat → Nat} {Q : Int32 → OV → OV → Prop} {x1 : Int32} {vLg : OV} {vRf : OV} (hw : wp_X3_setSlack Q x1 vLg vRf) : CM X l yX3_setSlack wsX3_setSlack rm_X3_setSlack D G [.ref hLg, .int x1, .ref hRf] [bLg G hLg qLg vLg, bRf G hRf qRf vRf] 0 0 (po_X3_setSlack G hLg qLg hRf qRf Q) :=
  CM.of pn_RX3 rfl rfl (Nat.le_of_ble_eq_true rfl) rfl (fun C F E => lb_X3_setSlack_0 F E hw)
-- X3_countOpen
abbrev rm_X3_countOpen : Room := { frames := 3, cells := 0, slots := 0, locals := 102 }
def po_X3_countOpen (G : Nat → ClassId) (hLg : Nat) (qLg : Nat → Nat) (vLg : OV) (Q : Int32 → Prop) : Option Value → List va_W → Prop := fun o bs => ∃ (r : Int32), o = some (.int r) ∧ bs = [bLg G hLg qLg vLg] ∧ Q r
theorem hd_X3_countOpen : yX3_countOpen.cls = RX3 ∧ yX3_countOpen.cls ≠ "java/lang/invoke/MethodHandle" ∧ yX3_countOpen.cls ≠ "java/lang/invoke/VarHandle" ∧ (parseMethodDescriptor yX3_countOpen.desc).map (fun d => d.parameters.length) = some 0 := by decide +kernel
theorem in_X3_countOpen_RX3 : ∀ w ∈ wsX30, w ∈ wsX3_countOpen := fun w h => List.mem_cons_of_mem _ (List.mem_append_left _ (List.mem_append_right _ h))
theorem lk_X3_countOpen_40 : Cond.fieldLink RX3 40 "KeyWaves$Lodge" "locks" "I" ∈ wsX3_countOpen := List.mem_cons_of_mem _ (List.mem_append_left _ (List.mem_append_left _ (List.mem_of_getElem? (i := 0) rfl)))
def wp_X3_countOpen_24 (Q : Int32 → Prop) (K4 : Int32 → Int32 → Prop) (vLg : OV) (x1 x2 : Int32) : Prop :=
  (∀ i_4 : Int32, i_4 = x2 + (1 : Int32) → (K4 x1 i_4))
set_option maxRecDepth 20000 in
theorem lb_X3_countOpen_24 {X : List Cond} {l : Launch} {D : va_G} {G : Nat → ClassId} {C : Cx} {bs0 : List va_W} {hLg : Nat} {qLg : Nat → Nat} {Q : Int32 → Prop} {K4 : Int32 → Int32 → Prop} {vLg : OV} (F : GF C X cX3_countOpen wsX3_countOpen RX3 rm_X3_countOpen 3 (some .int) D G l) (E : GE C bs0 0 0 (po_X3_countOpen G hLg qLg vLg Q)) (hK4 : ∀ (x1 x2 : Int32), K4 x1 x2 → GW C 0 0 [bLg G hLg qLg vLg] 4 [(0, .ref hLg), (1, .int x1), (2, .int x2)] []) {x1 x2 : Int32} (hw : wp_X3_countOpen_24 Q K4 vLg x1 x2) : GW C 0 0 [bLg G hLg qLg vLg] 24 [(0, .ref hLg), (1, .int x1), (2, .int x2)] [] := by
  unfold wp_X3_countOpen_24 at hw
  obtain ⟨i_4, e_i_4⟩ : ∃ z : Int32, z = x2 + (1 : Int32) := ⟨_, rfl⟩
  have hw := hw i_4 e_i_4
  refine gw_iinc (v := i_4) (lv' := [(2, .int i_4), (0, .ref hLg), (1, .int x1)]) F dX3_countOpen_24 2 rfl (by rw [e_i_4]; rfl) (by decide) rfl ?_
  refine gw_goto (tgt := 4) F dX3_countOpen_27 (by decide) ?_
  refine gw_lv [1, 2, 0] rfl ?_
  exact hK4 _ _ hw
def wp_X3_countOpen_4 (Q : Int32 → Prop) (K4 : Int32 → Int32 → Prop) (vLg : OV) (x1 x2 : Int32) : Prop :=
  (((vLg.2 9) ≤ x2 → (Q x1)) ∧ (¬ ((vLg.2 9) ≤ x2) → (wp_X3_keyIn (fun (r_2 : Int32) => ((r_2 = (-1 : Int32) → (wp_X3_countOpen_24 Q K4 vLg x1 x2)) ∧ (¬ (r_2 = (-1 : Int32)) → (∀ i_5 : Int32, i_5 = x1 + (1 : Int32) → (wp_X3_countOpen_24 Q K4 vLg i_5 x2))))) x2 vLg)))
set_option maxRecDepth 20000 in
theorem lb_X3_countOpen_4 {X : List Cond} {l : Launch} {D : va_G} {G : Nat → ClassId} {C : Cx} {bs0 : List va_W} {hLg : Nat} {qLg : Nat → Nat} {Q : Int32 → Prop} {K4 : Int32 → Int32 → Prop} {vLg : OV} (F : GF C X cX3_countOpen wsX3_countOpen RX3 rm_X3_countOpen 3 (some .int) D G l) (E : GE C bs0 0 0 (po_X3_countOpen G hLg qLg vLg Q)) (hK4 : ∀ (x1 x2 : Int32), K4 x1 x2 → GW C 0 0 [bLg G hLg qLg vLg] 4 [(0, .ref hLg), (1, .int x1), (2, .int x2)] []) {x1 x2 : Int32} (hw : wp_X3_countOpen_4 Q K4 vLg x1 x2) : GW C 0 0 [bLg G hLg qLg vLg] 4 [(0, .ref hLg), (1, .int x1), (2, .int x2)] [] := by
  unfold wp_X3_countOpen_4 at hw
  refine gw_iload_n F dX3_countOpen_4 2 rfl ?_
  refine gw_aload_n F dX3_countOpen_5 0 rfl ?_
  refine gw_get F in_X3_countOpen_RX3 0 rfl rfl 9 (by decide) lk_X3_countOpen_40 rfl dX3_countOpen_6 ?_
  refine gw_icmp_ge (tgt := 30) F dX3_countOpen_9 (by decide) (fun c_1 => ?_) (fun c_1 => ?_)
  · have hw := hw.1 c_1
    refine gw_iload_n F dX3_countOpen_30 1 rfl ?_
    exact gw_iret F E rfl rfl (Nat.le_of_ble_eq_true rfl) (Nat.le_of_ble_eq_true rfl) dX3_countOpen_31 ⟨_, rfl, rfl, hw⟩
  · have hw := hw.2 c_1
    refine gw_aload_n F dX3_countOpen_12 0 rfl ?_
    refine gw_iload_n F dX3_countOpen_13 2 rfl ?_
    refine gw_callV F (ct_X3_keyIn hw) 1 gX3_countOpen_X3_keyIn rfl rfl rfl hd_X3_keyIn ⟨(Nat.le_of_ble_eq_true rfl), (Nat.le_of_ble_eq_true rfl)⟩ rfl rfl (Nat.le_of_ble_eq_true rfl) ⟨Nat.zero_le _, Nat.zero_le _⟩ [0] (bsr := []) rfl rfl (q0 := 0) rfl rfl dX3_countOpen_14 ?_
    rintro _ _ ⟨r_2, rfl, rfl, hw⟩
    refine gw_sel [0] (bs' := [bLg G hLg qLg vLg]) rfl rfl ?_
    change GW C 0 0 _ 17 _ [.int r_2]
    refine gw_iconst (v := (-1 : Int32)) F dX3_countOpen_17 ic_iconst_m1 ?_
    refine gw_icmp_eq (tgt := 24) F dX3_countOpen_18 (by decide) (fun c_3 => ?_) (fun c_3 => ?_)
    · have hw := hw.1 c_3
      exact lb_X3_countOpen_24 F E hK4 hw
    · have hw := hw.2 c_3
      obtain ⟨i_5, e_i_5⟩ : ∃ z : Int32, z = x1 + (1 : Int32) := ⟨_, rfl⟩
      have hw := hw i_5 e_i_5
      refine gw_iinc (v := i_5) (lv' := [(1, .int i_5), (0, .ref hLg), (2, .int x2)]) F dX3_countOpen_21 1 rfl (by rw [e_i_5]; rfl) (by decide) rfl ?_
      refine gw_lv [1, 0, 2] rfl ?_
      exact lb_X3_countOpen_24 F E hK4 hw
def wp_X3_countOpen_4_loop (Q : Int32 → Prop) (vLg : OV) : Nat → Int32 → Int32 → Prop
  | 0, _, _ => False
  | n + 1, x1, x2 => wp_X3_countOpen_4 Q (wp_X3_countOpen_4_loop Q vLg n) vLg x1 x2
theorem lp_X3_countOpen_4 {X : List Cond} {l : Launch} {D : va_G} {G : Nat → ClassId} {C : Cx} {bs0 : List va_W} {hLg : Nat} {qLg : Nat → Nat} {Q : Int32 → Prop} {vLg : OV} (F : GF C X cX3_countOpen wsX3_countOpen RX3 rm_X3_countOpen 3 (some .int) D G l) (E : GE C bs0 0 0 (po_X3_countOpen G hLg qLg vLg Q)) : ∀ (n : Nat) (x1 x2 : Int32), wp_X3_countOpen_4_loop Q vLg n x1 x2 → GW C 0 0 [bLg G hLg qLg vLg] 4 [(0, .ref hLg), (1, .int x1), (2, .int x2)] [] := by
  intro n
  induction n with
  | zero => intro x1 x2 hw; exact False.elim hw
  | succ n ih => intro x1 x2 hw; exact lb_X3_countOpen_4 (K4 := wp_X3_countOpen_4_loop Q vLg n) F E ih hw
def wp_X3_countOpen_0 (Q : Int32 → Prop) (vLg : OV) : Prop :=
  (∃ n_6 : Nat, wp_X3_countOpen_4_loop Q vLg n_6 (0 : Int32) (0 : Int32))
set_option maxRecDepth 20000 in
theorem lb_X3_countOpen_0 {X : List Cond} {l : Launch} {D : va_G} {G : Nat → ClassId} {C : Cx} {bs0 : List va_W} {hLg : Nat} {qLg : Nat → Nat} {Q : Int32 → Prop} {vLg : OV} (F : GF C X cX3_countOpen wsX3_countOpen RX3 rm_X3_countOpen 3 (some .int) D G l) (E : GE C bs0 0 0 (po_X3_countOpen G hLg qLg vLg Q)) (hw : wp_X3_countOpen_0 Q vLg ) : GW C 0 0 [bLg G hLg qLg vLg] 0 [(0, .ref hLg)] [] := by
  unfold wp_X3_countOpen_0 at hw
  refine gw_iconst (v := (0 : Int32)) F dX3_countOpen_0 ic_iconst_0 ?_
  refine gw_istore_n (lv' := [(1, .int (0 : Int32)), (0, .ref hLg)]) F dX3_countOpen_1 (by decide) rfl ?_
  refine gw_iconst (v := (0 : Int32)) F dX3_countOpen_2 ic_iconst_0 ?_
  refine gw_istore_n (lv' := [(2, .int (0 : Int32)), (1, .int (0 : Int32)), (0, .ref hLg)]) F dX3_countOpen_3 (by decide) rfl ?_
  refine gw_lv [2, 1, 0] rfl ?_
  obtain ⟨n_6, hw⟩ := hw
  exact lp_X3_countOpen_4 F E n_6 _ _ hw
def wp_X3_countOpen (Q : Int32 → Prop) (vLg : OV) : Prop := wp_X3_countOpen_0 Q vLg
theorem ct_X3_countOpen {X : List Cond} {l : Launch} {D : va_G} {G : Nat → ClassId} {hLg : Nat} {qLg : Nat → Nat} {Q : Int32 → Prop} {vLg : OV} (hw : wp_X3_countOpen Q vLg) : CM X l yX3_countOpen wsX3_countOpen rm_X3_countOpen D G [.ref hLg] [bLg G hLg qLg vLg] 0 0 (po_X3_countOpen G hLg qLg vLg Q) :=
  CM.of pn_RX3 rfl rfl (Nat.le_of_ble_eq_true rfl) rfl (fun C F E => lb_X3_countOpen_0 F E hw)
-- X3_place
abbrev rm_X3_place : Room := { frames := 2, cells := 0, slots := 0, locals := 81 }
def po_X3_place (G : Nat → ClassId) (hLg : Nat) (qLg : Nat → Nat) (Q : OV → Prop) : Option Value → List va_W → Prop := fun o bs => ∃ (vLg : OV), o = none ∧ bs = [bLg G hLg qLg vLg] ∧ Q vLg
theorem hd_X3_place : yX3_place.cls = RX3 ∧ yX3_place.cls ≠ "java/lang/invoke/MethodHandle" ∧ yX3_place.cls ≠ "java/lang/invoke/VarHandle" ∧ (parseMethodDescriptor yX3_place.desc).map (fun d => d.parameters.length) = some 2 := by decide +kernel
theorem in_X3_place_RX3 : ∀ w ∈ wsX30, w ∈ wsX3_place := fun w h => List.mem_cons_of_mem _ (List.mem_append_left _ (List.mem_append_right _ h))
theorem lk_X3_place_24 : Cond.fieldLink RX3 24 "KeyWaves$Lodge" "lockOfKey" "[I" ∈ wsX3_place := List.mem_cons_of_mem _ (List.mem_append_left _ (List.mem_append_left _ (List.mem_of_getElem? (i := 0) rfl)))
theorem lk_X3_place_30 : Cond.fieldLink RX3 30 "KeyWaves$Lodge" "keyOfLock" "[I" ∈ wsX3_place := List.mem_cons_of_mem _ (List.mem_append_left _ (List.mem_append_left _ (List.mem_of_getElem? (i := 1) rfl)))
theorem lk_X3_place_33 : Cond.fieldLink RX3 33 "KeyWaves$Lodge" "putCounts" "[I" ∈ wsX3_place := List.mem_cons_of_mem _ (List.mem_append_left _ (List.mem_append_left _ (List.mem_of_getElem? (i := 2) rfl)))
def wp_X3_place_40 (Q : OV → Prop) (vLg : OV) : Prop :=
  (Q vLg)
set_option maxRecDepth 20000 in
theorem lb_X3_place_40 {X : List Cond} {l : Launch} {D : va_G} {G : Nat → ClassId} {C : Cx} {bs0 : List va_W} {hLg : Nat} {qLg : Nat → Nat} {Q : OV → Prop} (F : GF C X cX3_place wsX3_place RX3 rm_X3_place 3 none D G l) (E : GE C bs0 0 0 (po_X3_place G hLg qLg Q)) {vLg : OV} (hw : wp_X3_place_40 Q vLg) : GW C 0 0 [bLg G hLg qLg vLg] 40 [] [] := by
  unfold wp_X3_place_40 at hw
  exact gw_vret F E rfl (Nat.le_of_ble_eq_true rfl) (Nat.le_of_ble_eq_true rfl) dX3_place_40 ⟨_, rfl, rfl, hw⟩
def wp_X3_place_0 (Q : OV → Prop) (x1 : Int32) (x2 : Int32) (vLg : OV) : Prop :=
  (wp_X3_hasKey (fun (r_1 : Int32) => ((r_1 = 0 → (wp_X3_place_40 Q vLg)) ∧ (¬ (r_1 = 0) → (wp_X3_hasLock (fun (r_3 : Int32) => ((r_3 = 0 → (wp_X3_place_40 Q vLg)) ∧ (¬ (r_3 = 0) → (vp_in x1 10 ∧ ∀ v_5 : OV, v_5 = sA vLg 4 x1.toNatClampNeg x2 → (vp_in x2 10 ∧ ∀ v_7 : OV, v_7 = sA v_5 6 x2.toNatClampNeg x1 → (vp_in x2 10 ∧ (vp_in x2 10 ∧ ∀ v_10 : OV, v_10 = sA v_7 7 x2.toNatClampNeg ((v_7.1 7 x2.toNatClampNeg) + (1 : Int32)) → (wp_X3_place_40 Q v_10)))))))) x2 vLg)))) x1 vLg)
set_option maxRecDepth 20000 in
theorem lb_X3_place_0 {X : List Cond} {l : Launch} {D : va_G} {G : Nat → ClassId} {C : Cx} {bs0 : List va_W} {hLg : Nat} {qLg : Nat → Nat} {Q : OV → Prop} (F : GF C X cX3_place wsX3_place RX3 rm_X3_place 3 none D G l) (E : GE C bs0 0 0 (po_X3_place G hLg qLg Q)) {x1 : Int32} {x2 : Int32} {vLg : OV} (hw : wp_X3_place_0 Q x1 x2 vLg) : GW C 0 0 [bLg G hLg qLg vLg] 0 [(0, .ref hLg), (1, .int x1), (2, .int x2)] [] := by
  unfold wp_X3_place_0 at hw
  refine gw_aload_n F dX3_place_0 0 rfl ?_
  refine gw_iload_n F dX3_place_1 1 rfl ?_
  refine gw_callV F (ct_X3_hasKey hw) 1 gX3_place_X3_hasKey rfl rfl rfl hd_X3_hasKey ⟨(Nat.le_of_ble_eq_true rfl), (Nat.le_of_ble_eq_true rfl)⟩ rfl rfl (Nat.le_of_ble_eq_true rfl) ⟨Nat.zero_le _, Nat.zero_le _⟩ [0] (bsr := []) rfl rfl (q0 := 0) rfl rfl dX3_place_2 ?_
  rintro _ _ ⟨r_1, rfl, rfl, hw⟩
  refine gw_sel [0] (bs' := [bLg G hLg qLg vLg]) rfl rfl ?_
  change GW C 0 0 _ 5 _ [.int r_1]
  refine gw_if_eq (tgt := 40) F dX3_place_5 (by decide) (fun c_2 => ?_) (fun c_2 => ?_)
  · have hw := hw.1 c_2
    refine gw_lv [] rfl ?_
    exact lb_X3_place_40 F E hw
  · have hw := hw.2 c_2
    refine gw_aload_n F dX3_place_8 0 rfl ?_
    refine gw_iload_n F dX3_place_9 2 rfl ?_
    refine gw_callV F (ct_X3_hasLock hw) 1 gX3_place_X3_hasLock rfl rfl rfl hd_X3_hasLock ⟨(Nat.le_of_ble_eq_true rfl), (Nat.le_of_ble_eq_true rfl)⟩ rfl rfl (Nat.le_of_ble_eq_true rfl) ⟨Nat.zero_le _, Nat.zero_le _⟩ [0] (bsr := []) rfl rfl (q0 := 0) rfl rfl dX3_place_10 ?_
    rintro _ _ ⟨r_3, rfl, rfl, hw⟩
    refine gw_sel [0] (bs' := [bLg G hLg qLg vLg]) rfl rfl ?_
    change GW C 0 0 _ 13 _ [.int r_3]
    refine gw_if_eq (tgt := 40) F dX3_place_13 (by decide) (fun c_4 => ?_) (fun c_4 => ?_)
    · have hw := hw.1 c_4
      refine gw_lv [] rfl ?_
      exact lb_X3_place_40 F E hw
    · have hw := hw.2 c_4
      refine gw_aload_n F dX3_place_16 0 rfl ?_
      refine gw_get F in_X3_place_RX3 0 rfl rfl 4 (by decide) lk_X3_place_24 rfl dX3_place_17 ?_
      refine gw_iload_n F dX3_place_20 1 rfl ?_
      refine gw_iload_n F dX3_place_21 2 rfl ?_
      obtain ⟨h_6, hw⟩ := hw
      obtain ⟨v_5, e_v_5⟩ : ∃ z : OV, z = sA vLg 4 x1.toNatClampNeg x2 := ⟨_, rfl⟩
      have hw := hw v_5 e_v_5
      refine gw_iast (bs' := [bLg G hLg qLg v_5]) F 5 rfl h_6 dX3_place_22 (by rw [e_v_5]; rfl) ?_
      refine gw_aload_n F dX3_place_23 0 rfl ?_
      refine gw_get F in_X3_place_RX3 0 rfl rfl 6 (by decide) lk_X3_place_30 rfl dX3_place_24 ?_
      refine gw_iload_n F dX3_place_27 2 rfl ?_
      refine gw_iload_n F dX3_place_28 1 rfl ?_
      obtain ⟨h_8, hw⟩ := hw
      obtain ⟨v_7, e_v_7⟩ : ∃ z : OV, z = sA v_5 6 x2.toNatClampNeg x1 := ⟨_, rfl⟩
      have hw := hw v_7 e_v_7
      refine gw_iast (bs' := [bLg G hLg qLg v_7]) F 7 rfl h_8 dX3_place_29 (by rw [e_v_7]; rfl) ?_
      refine gw_aload_n F dX3_place_30 0 rfl ?_
      refine gw_get F in_X3_place_RX3 0 rfl rfl 7 (by decide) lk_X3_place_33 rfl dX3_place_31 ?_
      refine gw_iload_n F dX3_place_34 2 rfl ?_
      refine gw_dup2 F dX3_place_35 rfl rfl ?_
      obtain ⟨h_9, hw⟩ := hw
      refine gw_iald F 8 rfl h_9 dX3_place_36 ?_
      refine gw_iconst (v := (1 : Int32)) F dX3_place_37 ic_iconst_1 ?_
      refine gw_iadd F dX3_place_38 ?_
      obtain ⟨h_11, hw⟩ := hw
      obtain ⟨v_10, e_v_10⟩ : ∃ z : OV, z = sA v_7 7 x2.toNatClampNeg ((v_7.1 7 x2.toNatClampNeg) + (1 : Int32)) := ⟨_, rfl⟩
      have hw := hw v_10 e_v_10
      refine gw_iast (bs' := [bLg G hLg qLg v_10]) F 8 rfl h_11 dX3_place_39 (by rw [e_v_10]; rfl) ?_
      refine gw_lv [] rfl ?_
      exact lb_X3_place_40 F E hw
def wp_X3_place (Q : OV → Prop) (x1 : Int32) (x2 : Int32) (vLg : OV) : Prop := wp_X3_place_0 Q x1 x2 vLg
theorem ct_X3_place {X : List Cond} {l : Launch} {D : va_G} {G : Nat → ClassId} {hLg : Nat} {qLg : Nat → Nat} {Q : OV → Prop} {x1 : Int32} {x2 : Int32} {vLg : OV} (hw : wp_X3_place Q x1 x2 vLg) : CM X l yX3_place wsX3_place rm_X3_place D G [.ref hLg, .int x1, .int x2] [bLg G hLg qLg vLg] 0 0 (po_X3_place G hLg qLg Q) :=
  CM.of pn_RX3 rfl rfl (Nat.le_of_ble_eq_true rfl) rfl (fun C F E => lb_X3_place_0 F E hw)
-- X3_putIn
abbrev rm_X3_putIn : Room := { frames := 4, cells := 0, slots := 0, locals := 124 }
def po_X3_putIn (G : Nat → ClassId) (hLg : Nat) (qLg : Nat → Nat) (hRf : Nat) (qRf : Nat → Nat) (Q : Int32 → OV → OV → Prop) : Option Value → List va_W → Prop := fun o bs => ∃ (r : Int32) (vLg : OV) (vRf : OV), o = some (.int r) ∧ bs = [bLg G hLg qLg vLg, bRf G hRf qRf vRf] ∧ Q r vLg vRf
theorem hd_X3_putIn : yX3_putIn.cls = RX3 ∧ yX3_putIn.cls ≠ "java/lang/invoke/MethodHandle" ∧ yX3_putIn.cls ≠ "java/lang/invoke/VarHandle" ∧ (parseMethodDescriptor yX3_putIn.desc).map (fun d => d.parameters.length) = some 3 := by decide +kernel
theorem in_X3_putIn_RX3 : ∀ w ∈ wsX30, w ∈ wsX3_putIn := fun w h => List.mem_cons_of_mem _ (List.mem_append_left _ (List.mem_append_left _ (List.mem_append_right _ h)))
theorem lk_X3_putIn_24 : Cond.fieldLink RX3 24 "KeyWaves$Lodge" "lockOfKey" "[I" ∈ wsX3_putIn := List.mem_cons_of_mem _ (List.mem_append_left _ (List.mem_append_left _ (List.mem_append_left _ (List.mem_append_left _ (List.mem_of_getElem? (i := 0) rfl)))))
theorem lk_X3_putIn_30 : Cond.fieldLink RX3 30 "KeyWaves$Lodge" "keyOfLock" "[I" ∈ wsX3_putIn := List.mem_cons_of_mem _ (List.mem_append_left _ (List.mem_append_left _ (List.mem_append_left _ (List.mem_append_left _ (List.mem_of_getElem? (i := 1) rfl)))))
def wp_X3_putIn_0 (Q : Int32 → OV → OV → Prop) (x1 : Int32) (x2 : Int32) (vLg : OV) (vRf : OV) : Prop :=
  (wp_X3_hasKey (fun (r_1 : Int32) => ((¬ r_1 = 0 → (wp_X3_hasLock (fun (r_3 : Int32) => ((¬ r_3 = 0 → (vp_in x1 10 ∧ (((vLg.1 4 x1.toNatClampNeg) = (-1 : Int32) → (vp_in x2 10 ∧ (((vLg.1 6 x2.toNatClampNeg) = (-1 : Int32) → (wp_X3_isFit (fun (r_9 : Int32) => ((¬ r_9 = 0 → (wp_X3_place (fun (v_11 : OV) => (wp_X3_countOpen (fun (r_12 : Int32) => (Q r_12 v_11 vRf)) v_11)) x1 x2 vLg)) ∧ (r_9 = 0 → (wp_X3_countMissing (fun (r_13 : Int32) => (wp_X5_refuse (fun (r_14 : Int32) (v_15 : OV) => (Q r_14 vLg v_15)) (6 : Int32) r_13 vRf)) x1 x2 vLg)))) x1 x2 vLg)) ∧ (¬ ((vLg.1 6 x2.toNatClampNeg) = (-1 : Int32)) → (vp_in x2 10 ∧ (wp_X5_refuse (fun (r_17 : Int32) (v_18 : OV) => (Q r_17 vLg v_18)) (7 : Int32) (vLg.1 6 x2.toNatClampNeg) vRf)))))) ∧ (¬ ((vLg.1 4 x1.toNatClampNeg) = (-1 : Int32)) → (vp_in x1 10 ∧ (wp_X5_refuse (fun (r_20 : Int32) (v_21 : OV) => (Q r_20 vLg v_21)) (8 : Int32) (vLg.1 4 x1.toNatClampNeg) vRf)))))) ∧ (r_3 = 0 → (wp_X5_refuse (fun (r_22 : Int32) (v_23 : OV) => (Q r_22 vLg v_23)) (4 : Int32) x2 vRf)))) x2 vLg)) ∧ (r_1 = 0 → (wp_X5_refuse (fun (r_24 : Int32) (v_25 : OV) => (Q r_24 vLg v_25)) (3 : Int32) x1 vRf)))) x1 vLg)
set_option maxRecDepth 20000 in
theorem lb_X3_putIn_0 {X : List Cond} {l : Launch} {D : va_G} {G : Nat → ClassId} {C : Cx} {bs0 : List va_W} {hLg : Nat} {qLg : Nat → Nat} {hRf : Nat} {qRf : Nat → Nat} {Q : Int32 → OV → OV → Prop} (F : GF C X cX3_putIn wsX3_putIn RX3 rm_X3_putIn 4 (some .int) D G l) (E : GE C bs0 0 0 (po_X3_putIn G hLg qLg hRf qRf Q)) {x1 : Int32} {x2 : Int32} {vLg : OV} {vRf : OV} (hw : wp_X3_putIn_0 Q x1 x2 vLg vRf) : GW C 0 0 [bLg G hLg qLg vLg, bRf G hRf qRf vRf] 0 [(0, .ref hLg), (1, .int x1), (2, .int x2), (3, .ref hRf)] [] := by
  unfold wp_X3_putIn_0 at hw
  refine gw_aload_n F dX3_putIn_0 0 rfl ?_
  refine gw_iload_n F dX3_putIn_1 1 rfl ?_
  refine gw_callV F (ct_X3_hasKey hw) 1 gX3_putIn_X3_hasKey rfl rfl rfl hd_X3_hasKey ⟨(Nat.le_of_ble_eq_true rfl), (Nat.le_of_ble_eq_true rfl)⟩ rfl rfl (Nat.le_of_ble_eq_true rfl) ⟨Nat.zero_le _, Nat.zero_le _⟩ [1, 0] (bsr := [bRf G hRf qRf vRf]) rfl rfl (q0 := 0) rfl rfl dX3_putIn_2 ?_
  rintro _ _ ⟨r_1, rfl, rfl, hw⟩
  refine gw_sel [1, 0] (bs' := [bLg G hLg qLg vLg, bRf G hRf qRf vRf]) rfl rfl ?_
  change GW C 0 0 _ 5 _ [.int r_1]
  refine gw_if_ne (tgt := 15) F dX3_putIn_5 (by decide) (fun c_2 => ?_) (fun c_2 => ?_)
  · have hw := hw.1 c_2
    refine gw_aload_n F dX3_putIn_15 0 rfl ?_
    refine gw_iload_n F dX3_putIn_16 2 rfl ?_
    refine gw_callV F (ct_X3_hasLock hw) 1 gX3_putIn_X3_hasLock rfl rfl rfl hd_X3_hasLock ⟨(Nat.le_of_ble_eq_true rfl), (Nat.le_of_ble_eq_true rfl)⟩ rfl rfl (Nat.le_of_ble_eq_true rfl) ⟨Nat.zero_le _, Nat.zero_le _⟩ [1, 0] (bsr := [bRf G hRf qRf vRf]) rfl rfl (q0 := 0) rfl rfl dX3_putIn_17 ?_
    rintro _ _ ⟨r_3, rfl, rfl, hw⟩
    refine gw_sel [1, 0] (bs' := [bLg G hLg qLg vLg, bRf G hRf qRf vRf]) rfl rfl ?_
    change GW C 0 0 _ 20 _ [.int r_3]
    refine gw_if_ne (tgt := 30) F dX3_putIn_20 (by decide) (fun c_4 => ?_) (fun c_4 => ?_)
    · have hw := hw.1 c_4
      refine gw_aload_n F dX3_putIn_30 0 rfl ?_
      refine gw_get F in_X3_putIn_RX3 0 rfl rfl 4 (by decide) lk_X3_putIn_24 rfl dX3_putIn_31 ?_
      refine gw_iload_n F dX3_putIn_34 1 rfl ?_
      obtain ⟨h_5, hw⟩ := hw
      refine gw_iald F 5 rfl h_5 dX3_putIn_35 ?_
      refine gw_iconst (v := (-1 : Int32)) F dX3_putIn_36 ic_iconst_m1 ?_
      refine gw_icmp_eq (tgt := 53) F dX3_putIn_37 (by decide) (fun c_6 => ?_) (fun c_6 => ?_)
      · have hw := hw.1 c_6
        refine gw_aload_n F dX3_putIn_53 0 rfl ?_
        refine gw_get F in_X3_putIn_RX3 0 rfl rfl 6 (by decide) lk_X3_putIn_30 rfl dX3_putIn_54 ?_
        refine gw_iload_n F dX3_putIn_57 2 rfl ?_
        obtain ⟨h_7, hw⟩ := hw
        refine gw_iald F 7 rfl h_7 dX3_putIn_58 ?_
        refine gw_iconst (v := (-1 : Int32)) F dX3_putIn_59 ic_iconst_m1 ?_
        refine gw_icmp_eq (tgt := 76) F dX3_putIn_60 (by decide) (fun c_8 => ?_) (fun c_8 => ?_)
        · have hw := hw.1 c_8
          refine gw_aload_n F dX3_putIn_76 0 rfl ?_
          refine gw_iload_n F dX3_putIn_77 1 rfl ?_
          refine gw_iload_n F dX3_putIn_78 2 rfl ?_
          refine gw_callV F (ct_X3_isFit hw) 2 gX3_putIn_X3_isFit rfl rfl rfl hd_X3_isFit ⟨(Nat.le_of_ble_eq_true rfl), (Nat.le_of_ble_eq_true rfl)⟩ rfl rfl (Nat.le_of_ble_eq_true rfl) ⟨Nat.zero_le _, Nat.zero_le _⟩ [1, 0] (bsr := [bRf G hRf qRf vRf]) rfl rfl (q0 := 0) rfl rfl dX3_putIn_79 ?_
          rintro _ _ ⟨r_9, rfl, rfl, hw⟩
          refine gw_sel [1, 0] (bs' := [bLg G hLg qLg vLg, bRf G hRf qRf vRf]) rfl rfl ?_
          change GW C 0 0 _ 82 _ [.int r_9]
          refine gw_if_ne (tgt := 98) F dX3_putIn_82 (by decide) (fun c_10 => ?_) (fun c_10 => ?_)
          · have hw := hw.1 c_10
            refine gw_aload_n F dX3_putIn_98 0 rfl ?_
            refine gw_iload_n F dX3_putIn_99 1 rfl ?_
            refine gw_iload_n F dX3_putIn_100 2 rfl ?_
            refine gw_callV F (ct_X3_place hw) 2 gX3_putIn_X3_place rfl rfl rfl hd_X3_place ⟨(Nat.le_of_ble_eq_true rfl), (Nat.le_of_ble_eq_true rfl)⟩ rfl rfl (Nat.le_of_ble_eq_true rfl) ⟨Nat.zero_le _, Nat.zero_le _⟩ [1, 0] (bsr := [bRf G hRf qRf vRf]) rfl rfl (q0 := 0) rfl rfl dX3_putIn_101 ?_
            rintro _ _ ⟨v_11, rfl, rfl, hw⟩
            refine gw_sel [1, 0] (bs' := [bLg G hLg qLg v_11, bRf G hRf qRf vRf]) rfl rfl ?_
            change GW C 0 0 _ 104 _ []
            refine gw_aload_n F dX3_putIn_104 0 rfl ?_
            refine gw_callV F (ct_X3_countOpen hw) 0 gX3_putIn_X3_countOpen rfl rfl rfl hd_X3_countOpen ⟨(Nat.le_of_ble_eq_true rfl), (Nat.le_of_ble_eq_true rfl)⟩ rfl rfl (Nat.le_of_ble_eq_true rfl) ⟨Nat.zero_le _, Nat.zero_le _⟩ [1, 0] (bsr := [bRf G hRf qRf vRf]) rfl rfl (q0 := 0) rfl rfl dX3_putIn_105 ?_
            rintro _ _ ⟨r_12, rfl, rfl, hw⟩
            refine gw_sel [1, 0] (bs' := [bLg G hLg qLg v_11, bRf G hRf qRf vRf]) rfl rfl ?_
            change GW C 0 0 _ 108 _ [.int r_12]
            exact gw_iret F E rfl rfl (Nat.le_of_ble_eq_true rfl) (Nat.le_of_ble_eq_true rfl) dX3_putIn_108 ⟨_, _, _, rfl, rfl, hw⟩
          · have hw := hw.2 c_10
            refine gw_aload_n F dX3_putIn_85 3 rfl ?_
            refine gw_bipush (v := (6 : Int32)) F dX3_putIn_86 ic_bipush_6 ?_
            refine gw_aload_n F dX3_putIn_88 0 rfl ?_
            refine gw_iload_n F dX3_putIn_89 1 rfl ?_
            refine gw_iload_n F dX3_putIn_90 2 rfl ?_
            refine gw_callV F (ct_X3_countMissing hw) 2 gX3_putIn_X3_countMissing rfl rfl rfl hd_X3_countMissing ⟨(Nat.le_of_ble_eq_true rfl), (Nat.le_of_ble_eq_true rfl)⟩ rfl rfl (Nat.le_of_ble_eq_true rfl) ⟨Nat.zero_le _, Nat.zero_le _⟩ [1, 0] (bsr := [bRf G hRf qRf vRf]) rfl rfl (q0 := 0) rfl rfl dX3_putIn_91 ?_
            rintro _ _ ⟨r_13, rfl, rfl, hw⟩
            refine gw_sel [1, 0] (bs' := [bLg G hLg qLg vLg, bRf G hRf qRf vRf]) rfl rfl ?_
            change GW C 0 0 _ 94 _ [.int r_13, .int (6 : Int32), .ref hRf]
            refine gw_callV F (ct_X5_refuse hw) 2 gX3_putIn_X5_refuse rfl rfl rfl hd_X5_refuse ⟨(Nat.le_of_ble_eq_true rfl), (Nat.le_of_ble_eq_true rfl)⟩ rfl rfl (Nat.le_of_ble_eq_true rfl) ⟨Nat.zero_le _, Nat.zero_le _⟩ [0, 1] (bsr := [bLg G hLg qLg vLg]) rfl rfl (q0 := 0) rfl rfl dX3_putIn_94 ?_
            rintro _ _ ⟨r_14, v_15, rfl, rfl, hw⟩
            refine gw_sel [0, 1] (bs' := [bLg G hLg qLg vLg, bRf G hRf qRf v_15]) rfl rfl ?_
            change GW C 0 0 _ 97 _ [.int r_14]
            exact gw_iret F E rfl rfl (Nat.le_of_ble_eq_true rfl) (Nat.le_of_ble_eq_true rfl) dX3_putIn_97 ⟨_, _, _, rfl, rfl, hw⟩
        · have hw := hw.2 c_8
          refine gw_aload_n F dX3_putIn_63 3 rfl ?_
          refine gw_bipush (v := (7 : Int32)) F dX3_putIn_64 ic_bipush_7 ?_
          refine gw_aload_n F dX3_putIn_66 0 rfl ?_
          refine gw_get F in_X3_putIn_RX3 0 rfl rfl 6 (by decide) lk_X3_putIn_30 rfl dX3_putIn_67 ?_
          refine gw_iload_n F dX3_putIn_70 2 rfl ?_
          obtain ⟨h_16, hw⟩ := hw
          refine gw_iald F 7 rfl h_16 dX3_putIn_71 ?_
          refine gw_callV F (ct_X5_refuse hw) 2 gX3_putIn_X5_refuse rfl rfl rfl hd_X5_refuse ⟨(Nat.le_of_ble_eq_true rfl), (Nat.le_of_ble_eq_true rfl)⟩ rfl rfl (Nat.le_of_ble_eq_true rfl) ⟨Nat.zero_le _, Nat.zero_le _⟩ [0, 1] (bsr := [bLg G hLg qLg vLg]) rfl rfl (q0 := 0) rfl rfl dX3_putIn_72 ?_
          rintro _ _ ⟨r_17, v_18, rfl, rfl, hw⟩
          refine gw_sel [0, 1] (bs' := [bLg G hLg qLg vLg, bRf G hRf qRf v_18]) rfl rfl ?_
          change GW C 0 0 _ 75 _ [.int r_17]
          exact gw_iret F E rfl rfl (Nat.le_of_ble_eq_true rfl) (Nat.le_of_ble_eq_true rfl) dX3_putIn_75 ⟨_, _, _, rfl, rfl, hw⟩
      · have hw := hw.2 c_6
        refine gw_aload_n F dX3_putIn_40 3 rfl ?_
        refine gw_bipush (v := (8 : Int32)) F dX3_putIn_41 ic_bipush_8 ?_
        refine gw_aload_n F dX3_putIn_43 0 rfl ?_
        refine gw_get F in_X3_putIn_RX3 0 rfl rfl 4 (by decide) lk_X3_putIn_24 rfl dX3_putIn_44 ?_
        refine gw_iload_n F dX3_putIn_47 1 rfl ?_
        obtain ⟨h_19, hw⟩ := hw
        refine gw_iald F 5 rfl h_19 dX3_putIn_48 ?_
        refine gw_callV F (ct_X5_refuse hw) 2 gX3_putIn_X5_refuse rfl rfl rfl hd_X5_refuse ⟨(Nat.le_of_ble_eq_true rfl), (Nat.le_of_ble_eq_true rfl)⟩ rfl rfl (Nat.le_of_ble_eq_true rfl) ⟨Nat.zero_le _, Nat.zero_le _⟩ [0, 1] (bsr := [bLg G hLg qLg vLg]) rfl rfl (q0 := 0) rfl rfl dX3_putIn_49 ?_
        rintro _ _ ⟨r_20, v_21, rfl, rfl, hw⟩
        refine gw_sel [0, 1] (bs' := [bLg G hLg qLg vLg, bRf G hRf qRf v_21]) rfl rfl ?_
        change GW C 0 0 _ 52 _ [.int r_20]
        exact gw_iret F E rfl rfl (Nat.le_of_ble_eq_true rfl) (Nat.le_of_ble_eq_true rfl) dX3_putIn_52 ⟨_, _, _, rfl, rfl, hw⟩
    · have hw := hw.2 c_4
      refine gw_aload_n F dX3_putIn_23 3 rfl ?_
      refine gw_iconst (v := (4 : Int32)) F dX3_putIn_24 ic_iconst_4 ?_
      refine gw_iload_n F dX3_putIn_25 2 rfl ?_
      refine gw_callV F (ct_X5_refuse hw) 2 gX3_putIn_X5_refuse rfl rfl rfl hd_X5_refuse ⟨(Nat.le_of_ble_eq_true rfl), (Nat.le_of_ble_eq_true rfl)⟩ rfl rfl (Nat.le_of_ble_eq_true rfl) ⟨Nat.zero_le _, Nat.zero_le _⟩ [0, 1] (bsr := [bLg G hLg qLg vLg]) rfl rfl (q0 := 0) rfl rfl dX3_putIn_26 ?_
      rintro _ _ ⟨r_22, v_23, rfl, rfl, hw⟩
      refine gw_sel [0, 1] (bs' := [bLg G hLg qLg vLg, bRf G hRf qRf v_23]) rfl rfl ?_
      change GW C 0 0 _ 29 _ [.int r_22]
      exact gw_iret F E rfl rfl (Nat.le_of_ble_eq_true rfl) (Nat.le_of_ble_eq_true rfl) dX3_putIn_29 ⟨_, _, _, rfl, rfl, hw⟩
  · have hw := hw.2 c_2
    refine gw_aload_n F dX3_putIn_8 3 rfl ?_
    refine gw_iconst (v := (3 : Int32)) F dX3_putIn_9 ic_iconst_3 ?_
    refine gw_iload_n F dX3_putIn_10 1 rfl ?_
    refine gw_callV F (ct_X5_refuse hw) 2 gX3_putIn_X5_refuse rfl rfl rfl hd_X5_refuse ⟨(Nat.le_of_ble_eq_true rfl), (Nat.le_of_ble_eq_true rfl)⟩ rfl rfl (Nat.le_of_ble_eq_true rfl) ⟨Nat.zero_le _, Nat.zero_le _⟩ [0, 1] (bsr := [bLg G hLg qLg vLg]) rfl rfl (q0 := 0) rfl rfl dX3_putIn_11 ?_
    rintro _ _ ⟨r_24, v_25, rfl, rfl, hw⟩
    refine gw_sel [0, 1] (bs' := [bLg G hLg qLg vLg, bRf G hRf qRf v_25]) rfl rfl ?_
    change GW C 0 0 _ 14 _ [.int r_24]
    exact gw_iret F E rfl rfl (Nat.le_of_ble_eq_true rfl) (Nat.le_of_ble_eq_true rfl) dX3_putIn_14 ⟨_, _, _, rfl, rfl, hw⟩
def wp_X3_putIn (Q : Int32 → OV → OV → Prop) (x1 : Int32) (x2 : Int32) (vLg : OV) (vRf : OV) : Prop := wp_X3_putIn_0 Q x1 x2 vLg vRf
theorem ct_X3_putIn {X : List Cond} {l : Launch} {D : va_G} {G : Nat → ClassId} {hLg : Nat} {qLg : Nat → Nat} {hRf : Nat} {qRf : Nat → Nat} {Q : Int32 → OV → OV → Prop} {x1 : Int32} {x2 : Int32} {vLg : OV} {vRf : OV} (hw : wp_X3_putIn Q x1 x2 vLg vRf) : CM X l yX3_putIn wsX3_putIn rm_X3_putIn D G [.ref hLg, .int x1, .int x2, .ref hRf] [bLg G hLg qLg vLg, bRf G hRf qRf vRf] 0 0 (po_X3_putIn G hLg qLg hRf qRf Q) :=
  CM.of pn_RX3 rfl rfl (Nat.le_of_ble_eq_true rfl) rfl (fun C F E => lb_X3_putIn_0 F E hw)
-- X3_takeOut
abbrev rm_X3_takeOut : Room := { frames := 2, cells := 0, slots := 0, locals := 82 }
def po_X3_takeOut (G : Nat → ClassId) (hLg : Nat) (qLg : Nat → Nat) (hRf : Nat) (qRf : Nat → Nat) (Q : Int32 → OV → OV → Prop) : Option Value → List va_W → Prop := fun o bs => ∃ (r : Int32) (vLg : OV) (vRf : OV), o = some (.int r) ∧ bs = [bLg G hLg qLg vLg, bRf G hRf qRf vRf] ∧ Q r vLg vRf
theorem hd_X3_takeOut : yX3_takeOut.cls = RX3 ∧ yX3_takeOut.cls ≠ "java/lang/invoke/MethodHandle" ∧ yX3_takeOut.cls ≠ "java/lang/invoke/VarHandle" ∧ (parseMethodDescriptor yX3_takeOut.desc).map (fun d => d.parameters.length) = some 2 := by decide +kernel
theorem in_X3_takeOut_RX3 : ∀ w ∈ wsX30, w ∈ wsX3_takeOut := fun w h => List.mem_cons_of_mem _ (List.mem_append_left _ (List.mem_append_left _ (List.mem_append_right _ h)))
theorem lk_X3_takeOut_24 : Cond.fieldLink RX3 24 "KeyWaves$Lodge" "lockOfKey" "[I" ∈ wsX3_takeOut := List.mem_cons_of_mem _ (List.mem_append_left _ (List.mem_append_left _ (List.mem_append_left _ (List.mem_of_getElem? (i := 0) rfl))))
theorem lk_X3_takeOut_30 : Cond.fieldLink RX3 30 "KeyWaves$Lodge" "keyOfLock" "[I" ∈ wsX3_takeOut := List.mem_cons_of_mem _ (List.mem_append_left _ (List.mem_append_left _ (List.mem_append_left _ (List.mem_of_getElem? (i := 1) rfl))))
def wp_X3_takeOut_0 (Q : Int32 → OV → OV → Prop) (x1 : Int32) (vLg : OV) (vRf : OV) : Prop :=
  (wp_X3_hasKey (fun (r_1 : Int32) => ((¬ r_1 = 0 → (vp_in x1 10 ∧ (∀ i_4 : Int32, i_4 = (vLg.1 4 x1.toNatClampNeg) → (wp_X3_hasLock (fun (r_5 : Int32) => ((¬ r_5 = 0 → (vp_in x1 10 ∧ ∀ v_7 : OV, v_7 = sA vLg 4 x1.toNatClampNeg (-1 : Int32) → (vp_in i_4 10 ∧ ∀ v_9 : OV, v_9 = sA v_7 6 i_4.toNatClampNeg (-1 : Int32) → (Q i_4 v_9 vRf)))) ∧ (r_5 = 0 → (wp_X5_refuse (fun (r_11 : Int32) (v_12 : OV) => (Q r_11 vLg v_12)) (9 : Int32) x1 vRf)))) i_4 vLg)))) ∧ (r_1 = 0 → (wp_X5_refuse (fun (r_13 : Int32) (v_14 : OV) => (Q r_13 vLg v_14)) (3 : Int32) x1 vRf)))) x1 vLg)
set_option maxRecDepth 20000 in
theorem lb_X3_takeOut_0 {X : List Cond} {l : Launch} {D : va_G} {G : Nat → ClassId} {C : Cx} {bs0 : List va_W} {hLg : Nat} {qLg : Nat → Nat} {hRf : Nat} {qRf : Nat → Nat} {Q : Int32 → OV → OV → Prop} (F : GF C X cX3_takeOut wsX3_takeOut RX3 rm_X3_takeOut 4 (some .int) D G l) (E : GE C bs0 0 0 (po_X3_takeOut G hLg qLg hRf qRf Q)) {x1 : Int32} {vLg : OV} {vRf : OV} (hw : wp_X3_takeOut_0 Q x1 vLg vRf) : GW C 0 0 [bLg G hLg qLg vLg, bRf G hRf qRf vRf] 0 [(0, .ref hLg), (1, .int x1), (2, .ref hRf)] [] := by
  unfold wp_X3_takeOut_0 at hw
  refine gw_aload_n F dX3_takeOut_0 0 rfl ?_
  refine gw_iload_n F dX3_takeOut_1 1 rfl ?_
  refine gw_callV F (ct_X3_hasKey hw) 1 gX3_takeOut_X3_hasKey rfl rfl rfl hd_X3_hasKey ⟨(Nat.le_of_ble_eq_true rfl), (Nat.le_of_ble_eq_true rfl)⟩ rfl rfl (Nat.le_of_ble_eq_true rfl) ⟨Nat.zero_le _, Nat.zero_le _⟩ [1, 0] (bsr := [bRf G hRf qRf vRf]) rfl rfl (q0 := 0) rfl rfl dX3_takeOut_2 ?_
  rintro _ _ ⟨r_1, rfl, rfl, hw⟩
  refine gw_sel [1, 0] (bs' := [bLg G hLg qLg vLg, bRf G hRf qRf vRf]) rfl rfl ?_
  change GW C 0 0 _ 5 _ [.int r_1]
  refine gw_if_ne (tgt := 15) F dX3_takeOut_5 (by decide) (fun c_2 => ?_) (fun c_2 => ?_)
  · have hw := hw.1 c_2
    refine gw_aload_n F dX3_takeOut_15 0 rfl ?_
    refine gw_get F in_X3_takeOut_RX3 0 rfl rfl 4 (by decide) lk_X3_takeOut_24 rfl dX3_takeOut_16 ?_
    refine gw_iload_n F dX3_takeOut_19 1 rfl ?_
    obtain ⟨h_3, hw⟩ := hw
    refine gw_iald F 5 rfl h_3 dX3_takeOut_20 ?_
    refine gw_topi (fun i_4 e_i_4 => ?_)
    have hw := hw i_4 e_i_4
    refine gw_istore_n (lv' := [(3, .int i_4), (0, .ref hLg), (1, .int x1), (2, .ref hRf)]) F dX3_takeOut_21 (by decide) rfl ?_
    refine gw_aload_n F dX3_takeOut_22 1 rfl ?_
    refine gw_iload_n F dX3_takeOut_23 0 rfl ?_
    refine gw_callV F (ct_X3_hasLock hw) 1 gX3_takeOut_X3_hasLock rfl rfl rfl hd_X3_hasLock ⟨(Nat.le_of_ble_eq_true rfl), (Nat.le_of_ble_eq_true rfl)⟩ rfl rfl (Nat.le_of_ble_eq_true rfl) ⟨Nat.zero_le _, Nat.zero_le _⟩ [1, 0] (bsr := [bRf G hRf qRf vRf]) rfl rfl (q0 := 0) rfl rfl dX3_takeOut_24 ?_
    rintro _ _ ⟨r_5, rfl, rfl, hw⟩
    refine gw_sel [1, 0] (bs' := [bLg G hLg qLg vLg, bRf G hRf qRf vRf]) rfl rfl ?_
    change GW C 0 0 _ 27 _ [.int r_5]
    refine gw_if_ne (tgt := 38) F dX3_takeOut_27 (by decide) (fun c_6 => ?_) (fun c_6 => ?_)
    · have hw := hw.1 c_6
      refine gw_aload_n F dX3_takeOut_38 1 rfl ?_
      refine gw_get F in_X3_takeOut_RX3 0 rfl rfl 4 (by decide) lk_X3_takeOut_24 rfl dX3_takeOut_39 ?_
      refine gw_iload_n F dX3_takeOut_42 2 rfl ?_
      refine gw_iconst (v := (-1 : Int32)) F dX3_takeOut_43 ic_iconst_m1 ?_
      obtain ⟨h_8, hw⟩ := hw
      obtain ⟨v_7, e_v_7⟩ : ∃ z : OV, z = sA vLg 4 x1.toNatClampNeg (-1 : Int32) := ⟨_, rfl⟩
      have hw := hw v_7 e_v_7
      refine gw_iast (bs' := [bLg G hLg qLg v_7, bRf G hRf qRf vRf]) F 5 rfl h_8 dX3_takeOut_44 (by rw [e_v_7]; rfl) ?_
      refine gw_aload_n F dX3_takeOut_45 1 rfl ?_
      refine gw_get F in_X3_takeOut_RX3 0 rfl rfl 6 (by decide) lk_X3_takeOut_30 rfl dX3_takeOut_46 ?_
      refine gw_iload_n F dX3_takeOut_49 0 rfl ?_
      refine gw_iconst (v := (-1 : Int32)) F dX3_takeOut_50 ic_iconst_m1 ?_
      obtain ⟨h_10, hw⟩ := hw
      obtain ⟨v_9, e_v_9⟩ : ∃ z : OV, z = sA v_7 6 i_4.toNatClampNeg (-1 : Int32) := ⟨_, rfl⟩
      have hw := hw v_9 e_v_9
      refine gw_iast (bs' := [bLg G hLg qLg v_9, bRf G hRf qRf vRf]) F 7 rfl h_10 dX3_takeOut_51 (by rw [e_v_9]; rfl) ?_
      refine gw_iload_n F dX3_takeOut_52 0 rfl ?_
      exact gw_iret F E rfl rfl (Nat.le_of_ble_eq_true rfl) (Nat.le_of_ble_eq_true rfl) dX3_takeOut_53 ⟨_, _, _, rfl, rfl, hw⟩
    · have hw := hw.2 c_6
      refine gw_aload_n F dX3_takeOut_30 3 rfl ?_
      refine gw_bipush (v := (9 : Int32)) F dX3_takeOut_31 ic_bipush_9 ?_
      refine gw_iload_n F dX3_takeOut_33 2 rfl ?_
      refine gw_callV F (ct_X5_refuse hw) 2 gX3_takeOut_X5_refuse rfl rfl rfl hd_X5_refuse ⟨(Nat.le_of_ble_eq_true rfl), (Nat.le_of_ble_eq_true rfl)⟩ rfl rfl (Nat.le_of_ble_eq_true rfl) ⟨Nat.zero_le _, Nat.zero_le _⟩ [0, 1] (bsr := [bLg G hLg qLg vLg]) rfl rfl (q0 := 0) rfl rfl dX3_takeOut_34 ?_
      rintro _ _ ⟨r_11, v_12, rfl, rfl, hw⟩
      refine gw_sel [0, 1] (bs' := [bLg G hLg qLg vLg, bRf G hRf qRf v_12]) rfl rfl ?_
      change GW C 0 0 _ 37 _ [.int r_11]
      exact gw_iret F E rfl rfl (Nat.le_of_ble_eq_true rfl) (Nat.le_of_ble_eq_true rfl) dX3_takeOut_37 ⟨_, _, _, rfl, rfl, hw⟩
  · have hw := hw.2 c_2
    refine gw_aload_n F dX3_takeOut_8 2 rfl ?_
    refine gw_iconst (v := (3 : Int32)) F dX3_takeOut_9 ic_iconst_3 ?_
    refine gw_iload_n F dX3_takeOut_10 1 rfl ?_
    refine gw_callV F (ct_X5_refuse hw) 2 gX3_takeOut_X5_refuse rfl rfl rfl hd_X5_refuse ⟨(Nat.le_of_ble_eq_true rfl), (Nat.le_of_ble_eq_true rfl)⟩ rfl rfl (Nat.le_of_ble_eq_true rfl) ⟨Nat.zero_le _, Nat.zero_le _⟩ [0, 1] (bsr := [bLg G hLg qLg vLg]) rfl rfl (q0 := 0) rfl rfl dX3_takeOut_11 ?_
    rintro _ _ ⟨r_13, v_14, rfl, rfl, hw⟩
    refine gw_sel [0, 1] (bs' := [bLg G hLg qLg vLg, bRf G hRf qRf v_14]) rfl rfl ?_
    change GW C 0 0 _ 14 _ [.int r_13]
    exact gw_iret F E rfl rfl (Nat.le_of_ble_eq_true rfl) (Nat.le_of_ble_eq_true rfl) dX3_takeOut_14 ⟨_, _, _, rfl, rfl, hw⟩
def wp_X3_takeOut (Q : Int32 → OV → OV → Prop) (x1 : Int32) (vLg : OV) (vRf : OV) : Prop := wp_X3_takeOut_0 Q x1 vLg vRf
theorem ct_X3_takeOut {X : List Cond} {l : Launch} {D : va_G} {G : Nat → ClassId} {hLg : Nat} {qLg : Nat → Nat} {hRf : Nat} {qRf : Nat → Nat} {Q : Int32 → OV → OV → Prop} {x1 : Int32} {vLg : OV} {vRf : OV} (hw : wp_X3_takeOut Q x1 vLg vRf) : CM X l yX3_takeOut wsX3_takeOut rm_X3_takeOut D G [.ref hLg, .int x1, .ref hRf] [bLg G hLg qLg vLg, bRf G hRf qRf vRf] 0 0 (po_X3_takeOut G hLg qLg hRf qRf Q) :=
  CM.of pn_RX3 rfl rfl (Nat.le_of_ble_eq_true rfl) rfl (fun C F E => lb_X3_takeOut_0 F E hw)
-- X3_countLocksFor
abbrev rm_X3_countLocksFor : Room := { frames := 3, cells := 0, slots := 0, locals := 105 }
def po_X3_countLocksFor (G : Nat → ClassId) (hLg : Nat) (qLg : Nat → Nat) (vLg : OV) (Q : Int32 → Prop) : Option Value → List va_W → Prop := fun o bs => ∃ (r : Int32), o = some (.int r) ∧ bs = [bLg G hLg qLg vLg] ∧ Q r
theorem hd_X3_countLocksFor : yX3_countLocksFor.cls = RX3 ∧ yX3_countLocksFor.cls ≠ "java/lang/invoke/MethodHandle" ∧ yX3_countLocksFor.cls ≠ "java/lang/invoke/VarHandle" ∧ (parseMethodDescriptor yX3_countLocksFor.desc).map (fun d => d.parameters.length) = some 1 := by decide +kernel
theorem in_X3_countLocksFor_RX3 : ∀ w ∈ wsX30, w ∈ wsX3_countLocksFor := fun w h => List.mem_cons_of_mem _ (List.mem_append_left _ (List.mem_append_right _ h))
theorem lk_X3_countLocksFor_40 : Cond.fieldLink RX3 40 "KeyWaves$Lodge" "locks" "I" ∈ wsX3_countLocksFor := List.mem_cons_of_mem _ (List.mem_append_left _ (List.mem_append_left _ (List.mem_append_left _ (List.mem_of_getElem? (i := 0) rfl))))
def wp_X3_countLocksFor_24 (Q : Int32 → Prop) (K4 : Int32 → Int32 → Int32 → Prop) (vLg : OV) (x1 x2 x3 : Int32) : Prop :=
  (∀ i_4 : Int32, i_4 = x3 + (1 : Int32) → (K4 x1 x2 i_4))
set_option maxRecDepth 20000 in
theorem lb_X3_countLocksFor_24 {X : List Cond} {l : Launch} {D : va_G} {G : Nat → ClassId} {C : Cx} {bs0 : List va_W} {hLg : Nat} {qLg : Nat → Nat} {Q : Int32 → Prop} {K4 : Int32 → Int32 → Int32 → Prop} {vLg : OV} (F : GF C X cX3_countLocksFor wsX3_countLocksFor RX3 rm_X3_countLocksFor 4 (some .int) D G l) (E : GE C bs0 0 0 (po_X3_countLocksFor G hLg qLg vLg Q)) (hK4 : ∀ (x1 x2 x3 : Int32), K4 x1 x2 x3 → GW C 0 0 [bLg G hLg qLg vLg] 4 [(0, .ref hLg), (1, .int x1), (2, .int x2), (3, .int x3)] []) {x1 x2 x3 : Int32} (hw : wp_X3_countLocksFor_24 Q K4 vLg x1 x2 x3) : GW C 0 0 [bLg G hLg qLg vLg] 24 [(0, .ref hLg), (1, .int x1), (2, .int x2), (3, .int x3)] [] := by
  unfold wp_X3_countLocksFor_24 at hw
  obtain ⟨i_4, e_i_4⟩ : ∃ z : Int32, z = x3 + (1 : Int32) := ⟨_, rfl⟩
  have hw := hw i_4 e_i_4
  refine gw_iinc (v := i_4) (lv' := [(3, .int i_4), (0, .ref hLg), (1, .int x1), (2, .int x2)]) F dX3_countLocksFor_24 3 rfl (by rw [e_i_4]; rfl) (by decide) rfl ?_
  refine gw_goto (tgt := 4) F dX3_countLocksFor_27 (by decide) ?_
  refine gw_lv [1, 2, 3, 0] rfl ?_
  exact hK4 _ _ _ hw
def wp_X3_countLocksFor_4 (Q : Int32 → Prop) (K4 : Int32 → Int32 → Int32 → Prop) (vLg : OV) (x1 x2 x3 : Int32) : Prop :=
  (((vLg.2 9) ≤ x3 → (Q x2)) ∧ (¬ ((vLg.2 9) ≤ x3) → (wp_X3_isFit (fun (r_2 : Int32) => ((r_2 = 0 → (wp_X3_countLocksFor_24 Q K4 vLg x1 x2 x3)) ∧ (¬ (r_2 = 0) → (∀ i_5 : Int32, i_5 = x2 + (1 : Int32) → (wp_X3_countLocksFor_24 Q K4 vLg x1 i_5 x3))))) x1 x3 vLg)))
set_option maxRecDepth 20000 in
theorem lb_X3_countLocksFor_4 {X : List Cond} {l : Launch} {D : va_G} {G : Nat → ClassId} {C : Cx} {bs0 : List va_W} {hLg : Nat} {qLg : Nat → Nat} {Q : Int32 → Prop} {K4 : Int32 → Int32 → Int32 → Prop} {vLg : OV} (F : GF C X cX3_countLocksFor wsX3_countLocksFor RX3 rm_X3_countLocksFor 4 (some .int) D G l) (E : GE C bs0 0 0 (po_X3_countLocksFor G hLg qLg vLg Q)) (hK4 : ∀ (x1 x2 x3 : Int32), K4 x1 x2 x3 → GW C 0 0 [bLg G hLg qLg vLg] 4 [(0, .ref hLg), (1, .int x1), (2, .int x2), (3, .int x3)] []) {x1 x2 x3 : Int32} (hw : wp_X3_countLocksFor_4 Q K4 vLg x1 x2 x3) : GW C 0 0 [bLg G hLg qLg vLg] 4 [(0, .ref hLg), (1, .int x1), (2, .int x2), (3, .int x3)] [] := by
  unfold wp_X3_countLocksFor_4 at hw
  refine gw_iload_n F dX3_countLocksFor_4 3 rfl ?_
  refine gw_aload_n F dX3_countLocksFor_5 0 rfl ?_
  refine gw_get F in_X3_countLocksFor_RX3 0 rfl rfl 9 (by decide) lk_X3_countLocksFor_40 rfl dX3_countLocksFor_6 ?_
  refine gw_icmp_ge (tgt := 30) F dX3_countLocksFor_9 (by decide) (fun c_1 => ?_) (fun c_1 => ?_)
  · have hw := hw.1 c_1
    refine gw_iload_n F dX3_countLocksFor_30 2 rfl ?_
    exact gw_iret F E rfl rfl (Nat.le_of_ble_eq_true rfl) (Nat.le_of_ble_eq_true rfl) dX3_countLocksFor_31 ⟨_, rfl, rfl, hw⟩
  · have hw := hw.2 c_1
    refine gw_aload_n F dX3_countLocksFor_12 0 rfl ?_
    refine gw_iload_n F dX3_countLocksFor_13 1 rfl ?_
    refine gw_iload_n F dX3_countLocksFor_14 3 rfl ?_
    refine gw_callV F (ct_X3_isFit hw) 2 gX3_countLocksFor_X3_isFit rfl rfl rfl hd_X3_isFit ⟨(Nat.le_of_ble_eq_true rfl), (Nat.le_of_ble_eq_true rfl)⟩ rfl rfl (Nat.le_of_ble_eq_true rfl) ⟨Nat.zero_le _, Nat.zero_le _⟩ [0] (bsr := []) rfl rfl (q0 := 0) rfl rfl dX3_countLocksFor_15 ?_
    rintro _ _ ⟨r_2, rfl, rfl, hw⟩
    refine gw_sel [0] (bs' := [bLg G hLg qLg vLg]) rfl rfl ?_
    change GW C 0 0 _ 18 _ [.int r_2]
    refine gw_if_eq (tgt := 24) F dX3_countLocksFor_18 (by decide) (fun c_3 => ?_) (fun c_3 => ?_)
    · have hw := hw.1 c_3
      exact lb_X3_countLocksFor_24 F E hK4 hw
    · have hw := hw.2 c_3
      obtain ⟨i_5, e_i_5⟩ : ∃ z : Int32, z = x2 + (1 : Int32) := ⟨_, rfl⟩
      have hw := hw i_5 e_i_5
      refine gw_iinc (v := i_5) (lv' := [(2, .int i_5), (0, .ref hLg), (1, .int x1), (3, .int x3)]) F dX3_countLocksFor_21 2 rfl (by rw [e_i_5]; rfl) (by decide) rfl ?_
      refine gw_lv [1, 2, 0, 3] rfl ?_
      exact lb_X3_countLocksFor_24 F E hK4 hw
def wp_X3_countLocksFor_4_loop (Q : Int32 → Prop) (vLg : OV) : Nat → Int32 → Int32 → Int32 → Prop
  | 0, _, _, _ => False
  | n + 1, x1, x2, x3 => wp_X3_countLocksFor_4 Q (wp_X3_countLocksFor_4_loop Q vLg n) vLg x1 x2 x3
theorem lp_X3_countLocksFor_4 {X : List Cond} {l : Launch} {D : va_G} {G : Nat → ClassId} {C : Cx} {bs0 : List va_W} {hLg : Nat} {qLg : Nat → Nat} {Q : Int32 → Prop} {vLg : OV} (F : GF C X cX3_countLocksFor wsX3_countLocksFor RX3 rm_X3_countLocksFor 4 (some .int) D G l) (E : GE C bs0 0 0 (po_X3_countLocksFor G hLg qLg vLg Q)) : ∀ (n : Nat) (x1 x2 x3 : Int32), wp_X3_countLocksFor_4_loop Q vLg n x1 x2 x3 → GW C 0 0 [bLg G hLg qLg vLg] 4 [(0, .ref hLg), (1, .int x1), (2, .int x2), (3, .int x3)] [] := by
  intro n
  induction n with
  | zero => intro x1 x2 x3 hw; exact False.elim hw
  | succ n ih => intro x1 x2 x3 hw; exact lb_X3_countLocksFor_4 (K4 := wp_X3_countLocksFor_4_loop Q vLg n) F E ih hw
def wp_X3_countLocksFor_0 (Q : Int32 → Prop) (vLg : OV) (x1 : Int32) : Prop :=
  (∃ n_6 : Nat, wp_X3_countLocksFor_4_loop Q vLg n_6 x1 (0 : Int32) (0 : Int32))
set_option maxRecDepth 20000 in
theorem lb_X3_countLocksFor_0 {X : List Cond} {l : Launch} {D : va_G} {G : Nat → ClassId} {C : Cx} {bs0 : List va_W} {hLg : Nat} {qLg : Nat → Nat} {Q : Int32 → Prop} {vLg : OV} (F : GF C X cX3_countLocksFor wsX3_countLocksFor RX3 rm_X3_countLocksFor 4 (some .int) D G l) (E : GE C bs0 0 0 (po_X3_countLocksFor G hLg qLg vLg Q)) {x1 : Int32} (hw : wp_X3_countLocksFor_0 Q vLg x1) : GW C 0 0 [bLg G hLg qLg vLg] 0 [(0, .ref hLg), (1, .int x1)] [] := by
  unfold wp_X3_countLocksFor_0 at hw
  refine gw_iconst (v := (0 : Int32)) F dX3_countLocksFor_0 ic_iconst_0 ?_
  refine gw_istore_n (lv' := [(2, .int (0 : Int32)), (0, .ref hLg), (1, .int x1)]) F dX3_countLocksFor_1 (by decide) rfl ?_
  refine gw_iconst (v := (0 : Int32)) F dX3_countLocksFor_2 ic_iconst_0 ?_
  refine gw_istore_n (lv' := [(3, .int (0 : Int32)), (2, .int (0 : Int32)), (0, .ref hLg), (1, .int x1)]) F dX3_countLocksFor_3 (by decide) rfl ?_
  refine gw_lv [2, 3, 1, 0] rfl ?_
  obtain ⟨n_6, hw⟩ := hw
  exact lp_X3_countLocksFor_4 F E n_6 _ _ _ hw
def wp_X3_countLocksFor (Q : Int32 → Prop) (x1 : Int32) (vLg : OV) : Prop := wp_X3_countLocksFor_0 Q vLg x1
theorem ct_X3_countLocksFor {X : List Cond} {l : Launch} {D : va_G} {G : Nat → ClassId} {hLg : Nat} {qLg : Nat → Nat} {Q : Int32 → Prop} {x1 : Int32} {vLg : OV} (hw : wp_X3_countLocksFor Q x1 vLg) : CM X l yX3_countLocksFor wsX3_countLocksFor rm_X3_countLocksFor D G [.ref hLg, .int x1] [bLg G hLg qLg vLg] 0 0 (po_X3_countLocksFor G hLg qLg vLg Q) :=
  CM.of pn_RX3 rfl rfl (Nat.le_of_ble_eq_true rfl) rfl (fun C F E => lb_X3_countLocksFor_0 F E hw)
-- X3_countKeysFor
abbrev rm_X3_countKeysFor : Room := { frames := 3, cells := 0, slots := 0, locals := 105 }
def po_X3_countKeysFor (G : Nat → ClassId) (hLg : Nat) (qLg : Nat → Nat) (vLg : OV) (Q : Int32 → Prop) : Option Value → List va_W → Prop := fun o bs => ∃ (r : Int32), o = some (.int r) ∧ bs = [bLg G hLg qLg vLg] ∧ Q r
theorem hd_X3_countKeysFor : yX3_countKeysFor.cls = RX3 ∧ yX3_countKeysFor.cls ≠ "java/lang/invoke/MethodHandle" ∧ yX3_countKeysFor.cls ≠ "java/lang/invoke/VarHandle" ∧ (parseMethodDescriptor yX3_countKeysFor.desc).map (fun d => d.parameters.length) = some 1 := by decide +kernel
theorem in_X3_countKeysFor_RX3 : ∀ w ∈ wsX30, w ∈ wsX3_countKeysFor := fun w h => List.mem_cons_of_mem _ (List.mem_append_left _ (List.mem_append_right _ h))
theorem lk_X3_countKeysFor_36 : Cond.fieldLink RX3 36 "KeyWaves$Lodge" "keys" "I" ∈ wsX3_countKeysFor := List.mem_cons_of_mem _ (List.mem_append_left _ (List.mem_append_left _ (List.mem_append_left _ (List.mem_of_getElem? (i := 0) rfl))))
def wp_X3_countKeysFor_24 (Q : Int32 → Prop) (K4 : Int32 → Int32 → Int32 → Prop) (vLg : OV) (x1 x2 x3 : Int32) : Prop :=
  (∀ i_4 : Int32, i_4 = x3 + (1 : Int32) → (K4 x1 x2 i_4))
set_option maxRecDepth 20000 in
theorem lb_X3_countKeysFor_24 {X : List Cond} {l : Launch} {D : va_G} {G : Nat → ClassId} {C : Cx} {bs0 : List va_W} {hLg : Nat} {qLg : Nat → Nat} {Q : Int32 → Prop} {K4 : Int32 → Int32 → Int32 → Prop} {vLg : OV} (F : GF C X cX3_countKeysFor wsX3_countKeysFor RX3 rm_X3_countKeysFor 4 (some .int) D G l) (E : GE C bs0 0 0 (po_X3_countKeysFor G hLg qLg vLg Q)) (hK4 : ∀ (x1 x2 x3 : Int32), K4 x1 x2 x3 → GW C 0 0 [bLg G hLg qLg vLg] 4 [(0, .ref hLg), (1, .int x1), (2, .int x2), (3, .int x3)] []) {x1 x2 x3 : Int32} (hw : wp_X3_countKeysFor_24 Q K4 vLg x1 x2 x3) : GW C 0 0 [bLg G hLg qLg vLg] 24 [(0, .ref hLg), (1, .int x1), (2, .int x2), (3, .int x3)] [] := by
  unfold wp_X3_countKeysFor_24 at hw
  obtain ⟨i_4, e_i_4⟩ : ∃ z : Int32, z = x3 + (1 : Int32) := ⟨_, rfl⟩
  have hw := hw i_4 e_i_4
  refine gw_iinc (v := i_4) (lv' := [(3, .int i_4), (0, .ref hLg), (1, .int x1), (2, .int x2)]) F dX3_countKeysFor_24 3 rfl (by rw [e_i_4]; rfl) (by decide) rfl ?_
  refine gw_goto (tgt := 4) F dX3_countKeysFor_27 (by decide) ?_
  refine gw_lv [1, 2, 3, 0] rfl ?_
  exact hK4 _ _ _ hw
def wp_X3_countKeysFor_4 (Q : Int32 → Prop) (K4 : Int32 → Int32 → Int32 → Prop) (vLg : OV) (x1 x2 x3 : Int32) : Prop :=
  (((vLg.2 8) ≤ x3 → (Q x2)) ∧ (¬ ((vLg.2 8) ≤ x3) → (wp_X3_isFit (fun (r_2 : Int32) => ((r_2 = 0 → (wp_X3_countKeysFor_24 Q K4 vLg x1 x2 x3)) ∧ (¬ (r_2 = 0) → (∀ i_5 : Int32, i_5 = x2 + (1 : Int32) → (wp_X3_countKeysFor_24 Q K4 vLg x1 i_5 x3))))) x3 x1 vLg)))
set_option maxRecDepth 20000 in
theorem lb_X3_countKeysFor_4 {X : List Cond} {l : Launch} {D : va_G} {G : Nat → ClassId} {C : Cx} {bs0 : List va_W} {hLg : Nat} {qLg : Nat → Nat} {Q : Int32 → Prop} {K4 : Int32 → Int32 → Int32 → Prop} {vLg : OV} (F : GF C X cX3_countKeysFor wsX3_countKeysFor RX3 rm_X3_countKeysFor 4 (some .int) D G l) (E : GE C bs0 0 0 (po_X3_countKeysFor G hLg qLg vLg Q)) (hK4 : ∀ (x1 x2 x3 : Int32), K4 x1 x2 x3 → GW C 0 0 [bLg G hLg qLg vLg] 4 [(0, .ref hLg), (1, .int x1), (2, .int x2), (3, .int x3)] []) {x1 x2 x3 : Int32} (hw : wp_X3_countKeysFor_4 Q K4 vLg x1 x2 x3) : GW C 0 0 [bLg G hLg qLg vLg] 4 [(0, .ref hLg), (1, .int x1), (2, .int x2), (3, .int x3)] [] := by
  unfold wp_X3_countKeysFor_4 at hw
  refine gw_iload_n F dX3_countKeysFor_4 3 rfl ?_
  refine gw_aload_n F dX3_countKeysFor_5 0 rfl ?_
  refine gw_get F in_X3_countKeysFor_RX3 0 rfl rfl 8 (by decide) lk_X3_countKeysFor_36 rfl dX3_countKeysFor_6 ?_
  refine gw_icmp_ge (tgt := 30) F dX3_countKeysFor_9 (by decide) (fun c_1 => ?_) (fun c_1 => ?_)
  · have hw := hw.1 c_1
    refine gw_iload_n F dX3_countKeysFor_30 2 rfl ?_
    exact gw_iret F E rfl rfl (Nat.le_of_ble_eq_true rfl) (Nat.le_of_ble_eq_true rfl) dX3_countKeysFor_31 ⟨_, rfl, rfl, hw⟩
  · have hw := hw.2 c_1
    refine gw_aload_n F dX3_countKeysFor_12 0 rfl ?_
    refine gw_iload_n F dX3_countKeysFor_13 3 rfl ?_
    refine gw_iload_n F dX3_countKeysFor_14 1 rfl ?_
    refine gw_callV F (ct_X3_isFit hw) 2 gX3_countKeysFor_X3_isFit rfl rfl rfl hd_X3_isFit ⟨(Nat.le_of_ble_eq_true rfl), (Nat.le_of_ble_eq_true rfl)⟩ rfl rfl (Nat.le_of_ble_eq_true rfl) ⟨Nat.zero_le _, Nat.zero_le _⟩ [0] (bsr := []) rfl rfl (q0 := 0) rfl rfl dX3_countKeysFor_15 ?_
    rintro _ _ ⟨r_2, rfl, rfl, hw⟩
    refine gw_sel [0] (bs' := [bLg G hLg qLg vLg]) rfl rfl ?_
    change GW C 0 0 _ 18 _ [.int r_2]
    refine gw_if_eq (tgt := 24) F dX3_countKeysFor_18 (by decide) (fun c_3 => ?_) (fun c_3 => ?_)
    · have hw := hw.1 c_3
      exact lb_X3_countKeysFor_24 F E hK4 hw
    · have hw := hw.2 c_3
      obtain ⟨i_5, e_i_5⟩ : ∃ z : Int32, z = x2 + (1 : Int32) := ⟨_, rfl⟩
      have hw := hw i_5 e_i_5
      refine gw_iinc (v := i_5) (lv' := [(2, .int i_5), (0, .ref hLg), (1, .int x1), (3, .int x3)]) F dX3_countKeysFor_21 2 rfl (by rw [e_i_5]; rfl) (by decide) rfl ?_
      refine gw_lv [1, 2, 0, 3] rfl ?_
      exact lb_X3_countKeysFor_24 F E hK4 hw
def wp_X3_countKeysFor_4_loop (Q : Int32 → Prop) (vLg : OV) : Nat → Int32 → Int32 → Int32 → Prop
  | 0, _, _, _ => False
  | n + 1, x1, x2, x3 => wp_X3_countKeysFor_4 Q (wp_X3_countKeysFor_4_loop Q vLg n) vLg x1 x2 x3
theorem lp_X3_countKeysFor_4 {X : List Cond} {l : Launch} {D : va_G} {G : Nat → ClassId} {C : Cx} {bs0 : List va_W} {hLg : Nat} {qLg : Nat → Nat} {Q : Int32 → Prop} {vLg : OV} (F : GF C X cX3_countKeysFor wsX3_countKeysFor RX3 rm_X3_countKeysFor 4 (some .int) D G l) (E : GE C bs0 0 0 (po_X3_countKeysFor G hLg qLg vLg Q)) : ∀ (n : Nat) (x1 x2 x3 : Int32), wp_X3_countKeysFor_4_loop Q vLg n x1 x2 x3 → GW C 0 0 [bLg G hLg qLg vLg] 4 [(0, .ref hLg), (1, .int x1), (2, .int x2), (3, .int x3)] [] := by
  intro n
  induction n with
  | zero => intro x1 x2 x3 hw; exact False.elim hw
  | succ n ih => intro x1 x2 x3 hw; exact lb_X3_countKeysFor_4 (K4 := wp_X3_countKeysFor_4_loop Q vLg n) F E ih hw
def wp_X3_countKeysFor_0 (Q : Int32 → Prop) (vLg : OV) (x1 : Int32) : Prop :=
  (∃ n_6 : Nat, wp_X3_countKeysFor_4_loop Q vLg n_6 x1 (0 : Int32) (0 : Int32))
set_option maxRecDepth 20000 in
theorem lb_X3_countKeysFor_0 {X : List Cond} {l : Launch} {D : va_G} {G : Nat → ClassId} {C : Cx} {bs0 : List va_W} {hLg : Nat} {qLg : Nat → Nat} {Q : Int32 → Prop} {vLg : OV} (F : GF C X cX3_countKeysFor wsX3_countKeysFor RX3 rm_X3_countKeysFor 4 (some .int) D G l) (E : GE C bs0 0 0 (po_X3_countKeysFor G hLg qLg vLg Q)) {x1 : Int32} (hw : wp_X3_countKeysFor_0 Q vLg x1) : GW C 0 0 [bLg G hLg qLg vLg] 0 [(0, .ref hLg), (1, .int x1)] [] := by
  unfold wp_X3_countKeysFor_0 at hw
  refine gw_iconst (v := (0 : Int32)) F dX3_countKeysFor_0 ic_iconst_0 ?_
  refine gw_istore_n (lv' := [(2, .int (0 : Int32)), (0, .ref hLg), (1, .int x1)]) F dX3_countKeysFor_1 (by decide) rfl ?_
  refine gw_iconst (v := (0 : Int32)) F dX3_countKeysFor_2 ic_iconst_0 ?_
  refine gw_istore_n (lv' := [(3, .int (0 : Int32)), (2, .int (0 : Int32)), (0, .ref hLg), (1, .int x1)]) F dX3_countKeysFor_3 (by decide) rfl ?_
  refine gw_lv [2, 3, 1, 0] rfl ?_
  obtain ⟨n_6, hw⟩ := hw
  exact lp_X3_countKeysFor_4 F E n_6 _ _ _ hw
def wp_X3_countKeysFor (Q : Int32 → Prop) (x1 : Int32) (vLg : OV) : Prop := wp_X3_countKeysFor_0 Q vLg x1
theorem ct_X3_countKeysFor {X : List Cond} {l : Launch} {D : va_G} {G : Nat → ClassId} {hLg : Nat} {qLg : Nat → Nat} {Q : Int32 → Prop} {x1 : Int32} {vLg : OV} (hw : wp_X3_countKeysFor Q x1 vLg) : CM X l yX3_countKeysFor wsX3_countKeysFor rm_X3_countKeysFor D G [.ref hLg, .int x1] [bLg G hLg qLg vLg] 0 0 (po_X3_countKeysFor G hLg qLg vLg Q) :=
  CM.of pn_RX3 rfl rfl (Nat.le_of_ble_eq_true rfl) rfl (fun C F E => lb_X3_countKeysFor_0 F E hw)
-- X3_countFits
abbrev rm_X3_countFits : Room := { frames := 4, cells := 0, slots := 0, locals := 128 }
def po_X3_countFits (G : Nat → ClassId) (hLg : Nat) (qLg : Nat → Nat) (vLg : OV) (Q : Int32 → Prop) : Option Value → List va_W → Prop := fun o bs => ∃ (r : Int32), o = some (.int r) ∧ bs = [bLg G hLg qLg vLg] ∧ Q r
theorem hd_X3_countFits : yX3_countFits.cls = RX3 ∧ yX3_countFits.cls ≠ "java/lang/invoke/MethodHandle" ∧ yX3_countFits.cls ≠ "java/lang/invoke/VarHandle" ∧ (parseMethodDescriptor yX3_countFits.desc).map (fun d => d.parameters.length) = some 0 := by decide +kernel
theorem in_X3_countFits_RX3 : ∀ w ∈ wsX30, w ∈ wsX3_countFits := fun w h => List.mem_cons_of_mem _ (List.mem_append_left _ (List.mem_append_right _ h))
theorem lk_X3_countFits_36 : Cond.fieldLink RX3 36 "KeyWaves$Lodge" "keys" "I" ∈ wsX3_countFits := List.mem_cons_of_mem _ (List.mem_append_left _ (List.mem_append_left _ (List.mem_append_left _ (List.mem_of_getElem? (i := 0) rfl))))
def wp_X3_countFits_4 (Q : Int32 → Prop) (K4 : Int32 → Int32 → Prop) (vLg : OV) (x1 x2 : Int32) : Prop :=
  (((vLg.2 8) ≤ x2 → (Q x1)) ∧ (¬ ((vLg.2 8) ≤ x2) → (wp_X3_countLocksFor (fun (r_2 : Int32) => (∀ i_3 : Int32, i_3 = (x1 + r_2) → (∀ i_4 : Int32, i_4 = x2 + (1 : Int32) → (K4 i_3 i_4)))) x2 vLg)))
set_option maxRecDepth 20000 in
theorem lb_X3_countFits_4 {X : List Cond} {l : Launch} {D : va_G} {G : Nat → ClassId} {C : Cx} {bs0 : List va_W} {hLg : Nat} {qLg : Nat → Nat} {Q : Int32 → Prop} {K4 : Int32 → Int32 → Prop} {vLg : OV} (F : GF C X cX3_countFits wsX3_countFits RX3 rm_X3_countFits 3 (some .int) D G l) (E : GE C bs0 0 0 (po_X3_countFits G hLg qLg vLg Q)) (hK4 : ∀ (x1 x2 : Int32), K4 x1 x2 → GW C 0 0 [bLg G hLg qLg vLg] 4 [(0, .ref hLg), (1, .int x1), (2, .int x2)] []) {x1 x2 : Int32} (hw : wp_X3_countFits_4 Q K4 vLg x1 x2) : GW C 0 0 [bLg G hLg qLg vLg] 4 [(0, .ref hLg), (1, .int x1), (2, .int x2)] [] := by
  unfold wp_X3_countFits_4 at hw
  refine gw_iload_n F dX3_countFits_4 2 rfl ?_
  refine gw_aload_n F dX3_countFits_5 0 rfl ?_
  refine gw_get F in_X3_countFits_RX3 0 rfl rfl 8 (by decide) lk_X3_countFits_36 rfl dX3_countFits_6 ?_
  refine gw_icmp_ge (tgt := 26) F dX3_countFits_9 (by decide) (fun c_1 => ?_) (fun c_1 => ?_)
  · have hw := hw.1 c_1
    refine gw_iload_n F dX3_countFits_26 1 rfl ?_
    exact gw_iret F E rfl rfl (Nat.le_of_ble_eq_true rfl) (Nat.le_of_ble_eq_true rfl) dX3_countFits_27 ⟨_, rfl, rfl, hw⟩
  · have hw := hw.2 c_1
    refine gw_iload_n F dX3_countFits_12 1 rfl ?_
    refine gw_aload_n F dX3_countFits_13 0 rfl ?_
    refine gw_iload_n F dX3_countFits_14 2 rfl ?_
    refine gw_callV F (ct_X3_countLocksFor hw) 1 gX3_countFits_X3_countLocksFor rfl rfl rfl hd_X3_countLocksFor ⟨(Nat.le_of_ble_eq_true rfl), (Nat.le_of_ble_eq_true rfl)⟩ rfl rfl (Nat.le_of_ble_eq_true rfl) ⟨Nat.zero_le _, Nat.zero_le _⟩ [0] (bsr := []) rfl rfl (q0 := 0) rfl rfl dX3_countFits_15 ?_
    rintro _ _ ⟨r_2, rfl, rfl, hw⟩
    refine gw_sel [0] (bs' := [bLg G hLg qLg vLg]) rfl rfl ?_
    change GW C 0 0 _ 18 _ [.int r_2, .int x1]
    refine gw_iadd F dX3_countFits_18 ?_
    refine gw_topi (fun i_3 e_i_3 => ?_)
    have hw := hw i_3 e_i_3
    refine gw_istore_n (lv' := [(1, .int i_3), (0, .ref hLg), (2, .int x2)]) F dX3_countFits_19 (by decide) rfl ?_
    obtain ⟨i_4, e_i_4⟩ : ∃ z : Int32, z = x2 + (1 : Int32) := ⟨_, rfl⟩
    have hw := hw i_4 e_i_4
    refine gw_iinc (v := i_4) (lv' := [(2, .int i_4), (1, .int i_3), (0, .ref hLg)]) F dX3_countFits_20 2 rfl (by rw [e_i_4]; rfl) (by decide) rfl ?_
    refine gw_goto (tgt := 4) F dX3_countFits_23 (by decide) ?_
    refine gw_lv [2, 1, 0] rfl ?_
    exact hK4 _ _ hw
def wp_X3_countFits_4_loop (Q : Int32 → Prop) (vLg : OV) : Nat → Int32 → Int32 → Prop
  | 0, _, _ => False
  | n + 1, x1, x2 => wp_X3_countFits_4 Q (wp_X3_countFits_4_loop Q vLg n) vLg x1 x2
theorem lp_X3_countFits_4 {X : List Cond} {l : Launch} {D : va_G} {G : Nat → ClassId} {C : Cx} {bs0 : List va_W} {hLg : Nat} {qLg : Nat → Nat} {Q : Int32 → Prop} {vLg : OV} (F : GF C X cX3_countFits wsX3_countFits RX3 rm_X3_countFits 3 (some .int) D G l) (E : GE C bs0 0 0 (po_X3_countFits G hLg qLg vLg Q)) : ∀ (n : Nat) (x1 x2 : Int32), wp_X3_countFits_4_loop Q vLg n x1 x2 → GW C 0 0 [bLg G hLg qLg vLg] 4 [(0, .ref hLg), (1, .int x1), (2, .int x2)] [] := by
  intro n
  induction n with
  | zero => intro x1 x2 hw; exact False.elim hw
  | succ n ih => intro x1 x2 hw; exact lb_X3_countFits_4 (K4 := wp_X3_countFits_4_loop Q vLg n) F E ih hw
def wp_X3_countFits_0 (Q : Int32 → Prop) (vLg : OV) : Prop :=
  (∃ n_5 : Nat, wp_X3_countFits_4_loop Q vLg n_5 (0 : Int32) (0 : Int32))
set_option maxRecDepth 20000 in
theorem lb_X3_countFits_0 {X : List Cond} {l : Launch} {D : va_G} {G : Nat → ClassId} {C : Cx} {bs0 : List va_W} {hLg : Nat} {qLg : Nat → Nat} {Q : Int32 → Prop} {vLg : OV} (F : GF C X cX3_countFits wsX3_countFits RX3 rm_X3_countFits 3 (some .int) D G l) (E : GE C bs0 0 0 (po_X3_countFits G hLg qLg vLg Q)) (hw : wp_X3_countFits_0 Q vLg ) : GW C 0 0 [bLg G hLg qLg vLg] 0 [(0, .ref hLg)] [] := by
  unfold wp_X3_countFits_0 at hw
  refine gw_iconst (v := (0 : Int32)) F dX3_countFits_0 ic_iconst_0 ?_
  refine gw_istore_n (lv' := [(1, .int (0 : Int32)), (0, .ref hLg)]) F dX3_countFits_1 (by decide) rfl ?_
  refine gw_iconst (v := (0 : Int32)) F dX3_countFits_2 ic_iconst_0 ?_
  refine gw_istore_n (lv' := [(2, .int (0 : Int32)), (1, .int (0 : Int32)), (0, .ref hLg)]) F dX3_countFits_3 (by decide) rfl ?_
  refine gw_lv [2, 1, 0] rfl ?_
  obtain ⟨n_5, hw⟩ := hw
  exact lp_X3_countFits_4 F E n_5 _ _ hw
def wp_X3_countFits (Q : Int32 → Prop) (vLg : OV) : Prop := wp_X3_countFits_0 Q vLg
theorem ct_X3_countFits {X : List Cond} {l : Launch} {D : va_G} {G : Nat → ClassId} {hLg : Nat} {qLg : Nat → Nat} {Q : Int32 → Prop} {vLg : OV} (hw : wp_X3_countFits Q vLg) : CM X l yX3_countFits wsX3_countFits rm_X3_countFits D G [.ref hLg] [bLg G hLg qLg vLg] 0 0 (po_X3_countFits G hLg qLg vLg Q) :=
  CM.of pn_RX3 rfl rfl (Nat.le_of_ble_eq_true rfl) rfl (fun C F E => lb_X3_countFits_0 F E hw)
-- X3_sumCosts
abbrev rm_X3_sumCosts : Room := { frames := 3, cells := 0, slots := 0, locals := 102 }
def po_X3_sumCosts (G : Nat → ClassId) (hLg : Nat) (qLg : Nat → Nat) (vLg : OV) (Q : Int32 → Prop) : Option Value → List va_W → Prop := fun o bs => ∃ (r : Int32), o = some (.int r) ∧ bs = [bLg G hLg qLg vLg] ∧ Q r
theorem hd_X3_sumCosts : yX3_sumCosts.cls = RX3 ∧ yX3_sumCosts.cls ≠ "java/lang/invoke/MethodHandle" ∧ yX3_sumCosts.cls ≠ "java/lang/invoke/VarHandle" ∧ (parseMethodDescriptor yX3_sumCosts.desc).map (fun d => d.parameters.length) = some 0 := by decide +kernel
theorem in_X3_sumCosts_RX3 : ∀ w ∈ wsX30, w ∈ wsX3_sumCosts := fun w h => List.mem_cons_of_mem _ (List.mem_append_left _ (List.mem_append_right _ h))
theorem lk_X3_sumCosts_36 : Cond.fieldLink RX3 36 "KeyWaves$Lodge" "keys" "I" ∈ wsX3_sumCosts := List.mem_cons_of_mem _ (List.mem_append_left _ (List.mem_append_left _ (List.mem_of_getElem? (i := 0) rfl)))
def wp_X3_sumCosts_4 (Q : Int32 → Prop) (K4 : Int32 → Int32 → Prop) (vLg : OV) (x1 x2 : Int32) : Prop :=
  (((vLg.2 8) ≤ x2 → (Q x1)) ∧ (¬ ((vLg.2 8) ≤ x2) → (wp_X3_cutCostOf (fun (r_2 : Int32) => (∀ i_3 : Int32, i_3 = (x1 + r_2) → (∀ i_4 : Int32, i_4 = x2 + (1 : Int32) → (K4 i_3 i_4)))) x2 vLg)))
set_option maxRecDepth 20000 in
theorem lb_X3_sumCosts_4 {X : List Cond} {l : Launch} {D : va_G} {G : Nat → ClassId} {C : Cx} {bs0 : List va_W} {hLg : Nat} {qLg : Nat → Nat} {Q : Int32 → Prop} {K4 : Int32 → Int32 → Prop} {vLg : OV} (F : GF C X cX3_sumCosts wsX3_sumCosts RX3 rm_X3_sumCosts 3 (some .int) D G l) (E : GE C bs0 0 0 (po_X3_sumCosts G hLg qLg vLg Q)) (hK4 : ∀ (x1 x2 : Int32), K4 x1 x2 → GW C 0 0 [bLg G hLg qLg vLg] 4 [(0, .ref hLg), (1, .int x1), (2, .int x2)] []) {x1 x2 : Int32} (hw : wp_X3_sumCosts_4 Q K4 vLg x1 x2) : GW C 0 0 [bLg G hLg qLg vLg] 4 [(0, .ref hLg), (1, .int x1), (2, .int x2)] [] := by
  unfold wp_X3_sumCosts_4 at hw
  refine gw_iload_n F dX3_sumCosts_4 2 rfl ?_
  refine gw_aload_n F dX3_sumCosts_5 0 rfl ?_
  refine gw_get F in_X3_sumCosts_RX3 0 rfl rfl 8 (by decide) lk_X3_sumCosts_36 rfl dX3_sumCosts_6 ?_
  refine gw_icmp_ge (tgt := 26) F dX3_sumCosts_9 (by decide) (fun c_1 => ?_) (fun c_1 => ?_)
  · have hw := hw.1 c_1
    refine gw_iload_n F dX3_sumCosts_26 1 rfl ?_
    exact gw_iret F E rfl rfl (Nat.le_of_ble_eq_true rfl) (Nat.le_of_ble_eq_true rfl) dX3_sumCosts_27 ⟨_, rfl, rfl, hw⟩
  · have hw := hw.2 c_1
    refine gw_iload_n F dX3_sumCosts_12 1 rfl ?_
    refine gw_aload_n F dX3_sumCosts_13 0 rfl ?_
    refine gw_iload_n F dX3_sumCosts_14 2 rfl ?_
    refine gw_callV F (ct_X3_cutCostOf hw) 1 gX3_sumCosts_X3_cutCostOf rfl rfl rfl hd_X3_cutCostOf ⟨(Nat.le_of_ble_eq_true rfl), (Nat.le_of_ble_eq_true rfl)⟩ rfl rfl (Nat.le_of_ble_eq_true rfl) ⟨Nat.zero_le _, Nat.zero_le _⟩ [0] (bsr := []) rfl rfl (q0 := 0) rfl rfl dX3_sumCosts_15 ?_
    rintro _ _ ⟨r_2, rfl, rfl, hw⟩
    refine gw_sel [0] (bs' := [bLg G hLg qLg vLg]) rfl rfl ?_
    change GW C 0 0 _ 18 _ [.int r_2, .int x1]
    refine gw_iadd F dX3_sumCosts_18 ?_
    refine gw_topi (fun i_3 e_i_3 => ?_)
    have hw := hw i_3 e_i_3
    refine gw_istore_n (lv' := [(1, .int i_3), (0, .ref hLg), (2, .int x2)]) F dX3_sumCosts_19 (by decide) rfl ?_
    obtain ⟨i_4, e_i_4⟩ : ∃ z : Int32, z = x2 + (1 : Int32) := ⟨_, rfl⟩
    have hw := hw i_4 e_i_4
    refine gw_iinc (v := i_4) (lv' := [(2, .int i_4), (1, .int i_3), (0, .ref hLg)]) F dX3_sumCosts_20 2 rfl (by rw [e_i_4]; rfl) (by decide) rfl ?_
    refine gw_goto (tgt := 4) F dX3_sumCosts_23 (by decide) ?_
    refine gw_lv [2, 1, 0] rfl ?_
    exact hK4 _ _ hw
def wp_X3_sumCosts_4_loop (Q : Int32 → Prop) (vLg : OV) : Nat → Int32 → Int32 → Prop
  | 0, _, _ => False
  | n + 1, x1, x2 => wp_X3_sumCosts_4 Q (wp_X3_sumCosts_4_loop Q vLg n) vLg x1 x2
theorem lp_X3_sumCosts_4 {X : List Cond} {l : Launch} {D : va_G} {G : Nat → ClassId} {C : Cx} {bs0 : List va_W} {hLg : Nat} {qLg : Nat → Nat} {Q : Int32 → Prop} {vLg : OV} (F : GF C X cX3_sumCosts wsX3_sumCosts RX3 rm_X3_sumCosts 3 (some .int) D G l) (E : GE C bs0 0 0 (po_X3_sumCosts G hLg qLg vLg Q)) : ∀ (n : Nat) (x1 x2 : Int32), wp_X3_sumCosts_4_loop Q vLg n x1 x2 → GW C 0 0 [bLg G hLg qLg vLg] 4 [(0, .ref hLg), (1, .int x1), (2, .int x2)] [] := by
  intro n
  induction n with
  | zero => intro x1 x2 hw; exact False.elim hw
  | succ n ih => intro x1 x2 hw; exact lb_X3_sumCosts_4 (K4 := wp_X3_sumCosts_4_loop Q vLg n) F E ih hw
def wp_X3_sumCosts_0 (Q : Int32 → Prop) (vLg : OV) : Prop :=
  (∃ n_5 : Nat, wp_X3_sumCosts_4_loop Q vLg n_5 (0 : Int32) (0 : Int32))
set_option maxRecDepth 20000 in
theorem lb_X3_sumCosts_0 {X : List Cond} {l : Launch} {D : va_G} {G : Nat → ClassId} {C : Cx} {bs0 : List va_W} {hLg : Nat} {qLg : Nat → Nat} {Q : Int32 → Prop} {vLg : OV} (F : GF C X cX3_sumCosts wsX3_sumCosts RX3 rm_X3_sumCosts 3 (some .int) D G l) (E : GE C bs0 0 0 (po_X3_sumCosts G hLg qLg vLg Q)) (hw : wp_X3_sumCosts_0 Q vLg ) : GW C 0 0 [bLg G hLg qLg vLg] 0 [(0, .ref hLg)] [] := by
  unfold wp_X3_sumCosts_0 at hw
  refine gw_iconst (v := (0 : Int32)) F dX3_sumCosts_0 ic_iconst_0 ?_
  refine gw_istore_n (lv' := [(1, .int (0 : Int32)), (0, .ref hLg)]) F dX3_sumCosts_1 (by decide) rfl ?_
  refine gw_iconst (v := (0 : Int32)) F dX3_sumCosts_2 ic_iconst_0 ?_
  refine gw_istore_n (lv' := [(2, .int (0 : Int32)), (1, .int (0 : Int32)), (0, .ref hLg)]) F dX3_sumCosts_3 (by decide) rfl ?_
  refine gw_lv [2, 1, 0] rfl ?_
  obtain ⟨n_5, hw⟩ := hw
  exact lp_X3_sumCosts_4 F E n_5 _ _ hw
def wp_X3_sumCosts (Q : Int32 → Prop) (vLg : OV) : Prop := wp_X3_sumCosts_0 Q vLg
theorem ct_X3_sumCosts {X : List Cond} {l : Launch} {D : va_G} {G : Nat → ClassId} {hLg : Nat} {qLg : Nat → Nat} {Q : Int32 → Prop} {vLg : OV} (hw : wp_X3_sumCosts Q vLg) : CM X l yX3_sumCosts wsX3_sumCosts rm_X3_sumCosts D G [.ref hLg] [bLg G hLg qLg vLg] 0 0 (po_X3_sumCosts G hLg qLg vLg Q) :=
  CM.of pn_RX3 rfl rfl (Nat.le_of_ble_eq_true rfl) rfl (fun C F E => lb_X3_sumCosts_0 F E hw)
-- X3_countKeysOn
abbrev rm_X3_countKeysOn : Room := { frames := 3, cells := 0, slots := 0, locals := 102 }
def po_X3_countKeysOn (G : Nat → ClassId) (hLg : Nat) (qLg : Nat → Nat) (vLg : OV) (Q : Int32 → Prop) : Option Value → List va_W → Prop := fun o bs => ∃ (r : Int32), o = some (.int r) ∧ bs = [bLg G hLg qLg vLg] ∧ Q r
theorem hd_X3_countKeysOn : yX3_countKeysOn.cls = RX3 ∧ yX3_countKeysOn.cls ≠ "java/lang/invoke/MethodHandle" ∧ yX3_countKeysOn.cls ≠ "java/lang/invoke/VarHandle" ∧ (parseMethodDescriptor yX3_countKeysOn.desc).map (fun d => d.parameters.length) = some 1 := by decide +kernel
theorem in_X3_countKeysOn_RX3 : ∀ w ∈ wsX30, w ∈ wsX3_countKeysOn := fun w h => List.mem_cons_of_mem _ (List.mem_append_left _ (List.mem_append_right _ h))
theorem lk_X3_countKeysOn_36 : Cond.fieldLink RX3 36 "KeyWaves$Lodge" "keys" "I" ∈ wsX3_countKeysOn := List.mem_cons_of_mem _ (List.mem_append_left _ (List.mem_append_left _ (List.mem_of_getElem? (i := 0) rfl)))
def wp_X3_countKeysOn_24 (Q : Int32 → Prop) (K4 : Int32 → Int32 → Int32 → Prop) (vLg : OV) (x1 x2 x3 : Int32) : Prop :=
  (∀ i_4 : Int32, i_4 = x3 + (1 : Int32) → (K4 x1 x2 i_4))
set_option maxRecDepth 20000 in
theorem lb_X3_countKeysOn_24 {X : List Cond} {l : Launch} {D : va_G} {G : Nat → ClassId} {C : Cx} {bs0 : List va_W} {hLg : Nat} {qLg : Nat → Nat} {Q : Int32 → Prop} {K4 : Int32 → Int32 → Int32 → Prop} {vLg : OV} (F : GF C X cX3_countKeysOn wsX3_countKeysOn RX3 rm_X3_countKeysOn 4 (some .int) D G l) (E : GE C bs0 0 0 (po_X3_countKeysOn G hLg qLg vLg Q)) (hK4 : ∀ (x1 x2 x3 : Int32), K4 x1 x2 x3 → GW C 0 0 [bLg G hLg qLg vLg] 4 [(0, .ref hLg), (1, .int x1), (2, .int x2), (3, .int x3)] []) {x1 x2 x3 : Int32} (hw : wp_X3_countKeysOn_24 Q K4 vLg x1 x2 x3) : GW C 0 0 [bLg G hLg qLg vLg] 24 [(0, .ref hLg), (1, .int x1), (2, .int x2), (3, .int x3)] [] := by
  unfold wp_X3_countKeysOn_24 at hw
  obtain ⟨i_4, e_i_4⟩ : ∃ z : Int32, z = x3 + (1 : Int32) := ⟨_, rfl⟩
  have hw := hw i_4 e_i_4
  refine gw_iinc (v := i_4) (lv' := [(3, .int i_4), (0, .ref hLg), (1, .int x1), (2, .int x2)]) F dX3_countKeysOn_24 3 rfl (by rw [e_i_4]; rfl) (by decide) rfl ?_
  refine gw_goto (tgt := 4) F dX3_countKeysOn_27 (by decide) ?_
  refine gw_lv [1, 2, 3, 0] rfl ?_
  exact hK4 _ _ _ hw
def wp_X3_countKeysOn_4 (Q : Int32 → Prop) (K4 : Int32 → Int32 → Int32 → Prop) (vLg : OV) (x1 x2 x3 : Int32) : Prop :=
  (((vLg.2 8) ≤ x3 → (Q x2)) ∧ (¬ ((vLg.2 8) ≤ x3) → (wp_X3_porterWith (fun (r_2 : Int32) => ((¬ r_2 = x1 → (wp_X3_countKeysOn_24 Q K4 vLg x1 x2 x3)) ∧ (r_2 = x1 → (∀ i_5 : Int32, i_5 = x2 + (1 : Int32) → (wp_X3_countKeysOn_24 Q K4 vLg x1 i_5 x3))))) x3 vLg)))
set_option maxRecDepth 20000 in
theorem lb_X3_countKeysOn_4 {X : List Cond} {l : Launch} {D : va_G} {G : Nat → ClassId} {C : Cx} {bs0 : List va_W} {hLg : Nat} {qLg : Nat → Nat} {Q : Int32 → Prop} {K4 : Int32 → Int32 → Int32 → Prop} {vLg : OV} (F : GF C X cX3_countKeysOn wsX3_countKeysOn RX3 rm_X3_countKeysOn 4 (some .int) D G l) (E : GE C bs0 0 0 (po_X3_countKeysOn G hLg qLg vLg Q)) (hK4 : ∀ (x1 x2 x3 : Int32), K4 x1 x2 x3 → GW C 0 0 [bLg G hLg qLg vLg] 4 [(0, .ref hLg), (1, .int x1), (2, .int x2), (3, .int x3)] []) {x1 x2 x3 : Int32} (hw : wp_X3_countKeysOn_4 Q K4 vLg x1 x2 x3) : GW C 0 0 [bLg G hLg qLg vLg] 4 [(0, .ref hLg), (1, .int x1), (2, .int x2), (3, .int x3)] [] := by
  unfold wp_X3_countKeysOn_4 at hw
  refine gw_iload_n F dX3_countKeysOn_4 3 rfl ?_
  refine gw_aload_n F dX3_countKeysOn_5 0 rfl ?_
  refine gw_get F in_X3_countKeysOn_RX3 0 rfl rfl 8 (by decide) lk_X3_countKeysOn_36 rfl dX3_countKeysOn_6 ?_
  refine gw_icmp_ge (tgt := 30) F dX3_countKeysOn_9 (by decide) (fun c_1 => ?_) (fun c_1 => ?_)
  · have hw := hw.1 c_1
    refine gw_iload_n F dX3_countKeysOn_30 2 rfl ?_
    exact gw_iret F E rfl rfl (Nat.le_of_ble_eq_true rfl) (Nat.le_of_ble_eq_true rfl) dX3_countKeysOn_31 ⟨_, rfl, rfl, hw⟩
  · have hw := hw.2 c_1
    refine gw_aload_n F dX3_countKeysOn_12 0 rfl ?_
    refine gw_iload_n F dX3_countKeysOn_13 3 rfl ?_
    refine gw_callV F (ct_X3_porterWith hw) 1 gX3_countKeysOn_X3_porterWith rfl rfl rfl hd_X3_porterWith ⟨(Nat.le_of_ble_eq_true rfl), (Nat.le_of_ble_eq_true rfl)⟩ rfl rfl (Nat.le_of_ble_eq_true rfl) ⟨Nat.zero_le _, Nat.zero_le _⟩ [0] (bsr := []) rfl rfl (q0 := 0) rfl rfl dX3_countKeysOn_14 ?_
    rintro _ _ ⟨r_2, rfl, rfl, hw⟩
    refine gw_sel [0] (bs' := [bLg G hLg qLg vLg]) rfl rfl ?_
    change GW C 0 0 _ 17 _ [.int r_2]
    refine gw_iload_n F dX3_countKeysOn_17 1 rfl ?_
    refine gw_icmp_ne (tgt := 24) F dX3_countKeysOn_18 (by decide) (fun c_3 => ?_) (fun c_3 => ?_)
    · have hw := hw.1 c_3
      exact lb_X3_countKeysOn_24 F E hK4 hw
    · have hw := hw.2 c_3
      obtain ⟨i_5, e_i_5⟩ : ∃ z : Int32, z = x2 + (1 : Int32) := ⟨_, rfl⟩
      have hw := hw i_5 e_i_5
      refine gw_iinc (v := i_5) (lv' := [(2, .int i_5), (0, .ref hLg), (1, .int x1), (3, .int x3)]) F dX3_countKeysOn_21 2 rfl (by rw [e_i_5]; rfl) (by decide) rfl ?_
      refine gw_lv [1, 2, 0, 3] rfl ?_
      exact lb_X3_countKeysOn_24 F E hK4 hw
def wp_X3_countKeysOn_4_loop (Q : Int32 → Prop) (vLg : OV) : Nat → Int32 → Int32 → Int32 → Prop
  | 0, _, _, _ => False
  | n + 1, x1, x2, x3 => wp_X3_countKeysOn_4 Q (wp_X3_countKeysOn_4_loop Q vLg n) vLg x1 x2 x3
theorem lp_X3_countKeysOn_4 {X : List Cond} {l : Launch} {D : va_G} {G : Nat → ClassId} {C : Cx} {bs0 : List va_W} {hLg : Nat} {qLg : Nat → Nat} {Q : Int32 → Prop} {vLg : OV} (F : GF C X cX3_countKeysOn wsX3_countKeysOn RX3 rm_X3_countKeysOn 4 (some .int) D G l) (E : GE C bs0 0 0 (po_X3_countKeysOn G hLg qLg vLg Q)) : ∀ (n : Nat) (x1 x2 x3 : Int32), wp_X3_countKeysOn_4_loop Q vLg n x1 x2 x3 → GW C 0 0 [bLg G hLg qLg vLg] 4 [(0, .ref hLg), (1, .int x1), (2, .int x2), (3, .int x3)] [] := by
  intro n
  induction n with
  | zero => intro x1 x2 x3 hw; exact False.elim hw
  | succ n ih => intro x1 x2 x3 hw; exact lb_X3_countKeysOn_4 (K4 := wp_X3_countKeysOn_4_loop Q vLg n) F E ih hw
def wp_X3_countKeysOn_0 (Q : Int32 → Prop) (vLg : OV) (x1 : Int32) : Prop :=
  (∃ n_6 : Nat, wp_X3_countKeysOn_4_loop Q vLg n_6 x1 (0 : Int32) (0 : Int32))
set_option maxRecDepth 20000 in
theorem lb_X3_countKeysOn_0 {X : List Cond} {l : Launch} {D : va_G} {G : Nat → ClassId} {C : Cx} {bs0 : List va_W} {hLg : Nat} {qLg : Nat → Nat} {Q : Int32 → Prop} {vLg : OV} (F : GF C X cX3_countKeysOn wsX3_countKeysOn RX3 rm_X3_countKeysOn 4 (some .int) D G l) (E : GE C bs0 0 0 (po_X3_countKeysOn G hLg qLg vLg Q)) {x1 : Int32} (hw : wp_X3_countKeysOn_0 Q vLg x1) : GW C 0 0 [bLg G hLg qLg vLg] 0 [(0, .ref hLg), (1, .int x1)] [] := by
  unfold wp_X3_countKeysOn_0 at hw
  refine gw_iconst (v := (0 : Int32)) F dX3_countKeysOn_0 ic_iconst_0 ?_
  refine gw_istore_n (lv' := [(2, .int (0 : Int32)), (0, .ref hLg), (1, .int x1)]) F dX3_countKeysOn_1 (by decide) rfl ?_
  refine gw_iconst (v := (0 : Int32)) F dX3_countKeysOn_2 ic_iconst_0 ?_
  refine gw_istore_n (lv' := [(3, .int (0 : Int32)), (2, .int (0 : Int32)), (0, .ref hLg), (1, .int x1)]) F dX3_countKeysOn_3 (by decide) rfl ?_
  refine gw_lv [2, 3, 1, 0] rfl ?_
  obtain ⟨n_6, hw⟩ := hw
  exact lp_X3_countKeysOn_4 F E n_6 _ _ _ hw
def wp_X3_countKeysOn (Q : Int32 → Prop) (x1 : Int32) (vLg : OV) : Prop := wp_X3_countKeysOn_0 Q vLg x1
theorem ct_X3_countKeysOn {X : List Cond} {l : Launch} {D : va_G} {G : Nat → ClassId} {hLg : Nat} {qLg : Nat → Nat} {Q : Int32 → Prop} {x1 : Int32} {vLg : OV} (hw : wp_X3_countKeysOn Q x1 vLg) : CM X l yX3_countKeysOn wsX3_countKeysOn rm_X3_countKeysOn D G [.ref hLg, .int x1] [bLg G hLg qLg vLg] 0 0 (po_X3_countKeysOn G hLg qLg vLg Q) :=
  CM.of pn_RX3 rfl rfl (Nat.le_of_ble_eq_true rfl) rfl (fun C F E => lb_X3_countKeysOn_0 F E hw)
-- X3_countKeysInLocks
abbrev rm_X3_countKeysInLocks : Room := { frames := 3, cells := 0, slots := 0, locals := 102 }
def po_X3_countKeysInLocks (G : Nat → ClassId) (hLg : Nat) (qLg : Nat → Nat) (vLg : OV) (Q : Int32 → Prop) : Option Value → List va_W → Prop := fun o bs => ∃ (r : Int32), o = some (.int r) ∧ bs = [bLg G hLg qLg vLg] ∧ Q r
theorem hd_X3_countKeysInLocks : yX3_countKeysInLocks.cls = RX3 ∧ yX3_countKeysInLocks.cls ≠ "java/lang/invoke/MethodHandle" ∧ yX3_countKeysInLocks.cls ≠ "java/lang/invoke/VarHandle" ∧ (parseMethodDescriptor yX3_countKeysInLocks.desc).map (fun d => d.parameters.length) = some 1 := by decide +kernel
theorem in_X3_countKeysInLocks_RX3 : ∀ w ∈ wsX30, w ∈ wsX3_countKeysInLocks := fun w h => List.mem_cons_of_mem _ (List.mem_append_left _ (List.mem_append_right _ h))
theorem lk_X3_countKeysInLocks_36 : Cond.fieldLink RX3 36 "KeyWaves$Lodge" "keys" "I" ∈ wsX3_countKeysInLocks := List.mem_cons_of_mem _ (List.mem_append_left _ (List.mem_append_left _ (List.mem_of_getElem? (i := 0) rfl)))
def wp_X3_countKeysInLocks_33 (Q : Int32 → Prop) (K4 : Int32 → Int32 → Int32 → Prop) (vLg : OV) (x1 x2 x3 : Int32) : Prop :=
  (∀ i_4 : Int32, i_4 = x3 + (1 : Int32) → (K4 x1 x2 i_4))
set_option maxRecDepth 20000 in
theorem lb_X3_countKeysInLocks_33 {X : List Cond} {l : Launch} {D : va_G} {G : Nat → ClassId} {C : Cx} {bs0 : List va_W} {hLg : Nat} {qLg : Nat → Nat} {Q : Int32 → Prop} {K4 : Int32 → Int32 → Int32 → Prop} {vLg : OV} (F : GF C X cX3_countKeysInLocks wsX3_countKeysInLocks RX3 rm_X3_countKeysInLocks 4 (some .int) D G l) (E : GE C bs0 0 0 (po_X3_countKeysInLocks G hLg qLg vLg Q)) (hK4 : ∀ (x1 x2 x3 : Int32), K4 x1 x2 x3 → GW C 0 0 [bLg G hLg qLg vLg] 4 [(0, .ref hLg), (1, .int x1), (2, .int x2), (3, .int x3)] []) {x1 x2 x3 : Int32} (hw : wp_X3_countKeysInLocks_33 Q K4 vLg x1 x2 x3) : GW C 0 0 [bLg G hLg qLg vLg] 33 [(0, .ref hLg), (1, .int x1), (2, .int x2), (3, .int x3)] [] := by
  unfold wp_X3_countKeysInLocks_33 at hw
  obtain ⟨i_4, e_i_4⟩ : ∃ z : Int32, z = x3 + (1 : Int32) := ⟨_, rfl⟩
  have hw := hw i_4 e_i_4
  refine gw_iinc (v := i_4) (lv' := [(3, .int i_4), (0, .ref hLg), (1, .int x1), (2, .int x2)]) F dX3_countKeysInLocks_33 3 rfl (by rw [e_i_4]; rfl) (by decide) rfl ?_
  refine gw_goto (tgt := 4) F dX3_countKeysInLocks_36 (by decide) ?_
  refine gw_lv [1, 2, 3, 0] rfl ?_
  exact hK4 _ _ _ hw
def wp_X3_countKeysInLocks_4 (Q : Int32 → Prop) (K4 : Int32 → Int32 → Int32 → Prop) (vLg : OV) (x1 x2 x3 : Int32) : Prop :=
  (((vLg.2 8) ≤ x3 → (Q x2)) ∧ (¬ ((vLg.2 8) ≤ x3) → (wp_X3_porterWith (fun (r_2 : Int32) => ((¬ r_2 = x1 → (wp_X3_countKeysInLocks_33 Q K4 vLg x1 x2 x3)) ∧ (r_2 = x1 → (wp_X3_lockWith (fun (r_5 : Int32) => ((r_5 = (-1 : Int32) → (wp_X3_countKeysInLocks_33 Q K4 vLg x1 x2 x3)) ∧ (¬ (r_5 = (-1 : Int32)) → (∀ i_7 : Int32, i_7 = x2 + (1 : Int32) → (wp_X3_countKeysInLocks_33 Q K4 vLg x1 i_7 x3))))) x3 vLg)))) x3 vLg)))
set_option maxRecDepth 20000 in
theorem lb_X3_countKeysInLocks_4 {X : List Cond} {l : Launch} {D : va_G} {G : Nat → ClassId} {C : Cx} {bs0 : List va_W} {hLg : Nat} {qLg : Nat → Nat} {Q : Int32 → Prop} {K4 : Int32 → Int32 → Int32 → Prop} {vLg : OV} (F : GF C X cX3_countKeysInLocks wsX3_countKeysInLocks RX3 rm_X3_countKeysInLocks 4 (some .int) D G l) (E : GE C bs0 0 0 (po_X3_countKeysInLocks G hLg qLg vLg Q)) (hK4 : ∀ (x1 x2 x3 : Int32), K4 x1 x2 x3 → GW C 0 0 [bLg G hLg qLg vLg] 4 [(0, .ref hLg), (1, .int x1), (2, .int x2), (3, .int x3)] []) {x1 x2 x3 : Int32} (hw : wp_X3_countKeysInLocks_4 Q K4 vLg x1 x2 x3) : GW C 0 0 [bLg G hLg qLg vLg] 4 [(0, .ref hLg), (1, .int x1), (2, .int x2), (3, .int x3)] [] := by
  unfold wp_X3_countKeysInLocks_4 at hw
  refine gw_iload_n F dX3_countKeysInLocks_4 3 rfl ?_
  refine gw_aload_n F dX3_countKeysInLocks_5 0 rfl ?_
  refine gw_get F in_X3_countKeysInLocks_RX3 0 rfl rfl 8 (by decide) lk_X3_countKeysInLocks_36 rfl dX3_countKeysInLocks_6 ?_
  refine gw_icmp_ge (tgt := 39) F dX3_countKeysInLocks_9 (by decide) (fun c_1 => ?_) (fun c_1 => ?_)
  · have hw := hw.1 c_1
    refine gw_iload_n F dX3_countKeysInLocks_39 2 rfl ?_
    exact gw_iret F E rfl rfl (Nat.le_of_ble_eq_true rfl) (Nat.le_of_ble_eq_true rfl) dX3_countKeysInLocks_40 ⟨_, rfl, rfl, hw⟩
  · have hw := hw.2 c_1
    refine gw_aload_n F dX3_countKeysInLocks_12 0 rfl ?_
    refine gw_iload_n F dX3_countKeysInLocks_13 3 rfl ?_
    refine gw_callV F (ct_X3_porterWith hw) 1 gX3_countKeysInLocks_X3_porterWith rfl rfl rfl hd_X3_porterWith ⟨(Nat.le_of_ble_eq_true rfl), (Nat.le_of_ble_eq_true rfl)⟩ rfl rfl (Nat.le_of_ble_eq_true rfl) ⟨Nat.zero_le _, Nat.zero_le _⟩ [0] (bsr := []) rfl rfl (q0 := 0) rfl rfl dX3_countKeysInLocks_14 ?_
    rintro _ _ ⟨r_2, rfl, rfl, hw⟩
    refine gw_sel [0] (bs' := [bLg G hLg qLg vLg]) rfl rfl ?_
    change GW C 0 0 _ 17 _ [.int r_2]
    refine gw_iload_n F dX3_countKeysInLocks_17 1 rfl ?_
    refine gw_icmp_ne (tgt := 33) F dX3_countKeysInLocks_18 (by decide) (fun c_3 => ?_) (fun c_3 => ?_)
    · have hw := hw.1 c_3
      exact lb_X3_countKeysInLocks_33 F E hK4 hw
    · have hw := hw.2 c_3
      refine gw_aload_n F dX3_countKeysInLocks_21 0 rfl ?_
      refine gw_iload_n F dX3_countKeysInLocks_22 3 rfl ?_
      refine gw_callV F (ct_X3_lockWith hw) 1 gX3_countKeysInLocks_X3_lockWith rfl rfl rfl hd_X3_lockWith ⟨(Nat.le_of_ble_eq_true rfl), (Nat.le_of_ble_eq_true rfl)⟩ rfl rfl (Nat.le_of_ble_eq_true rfl) ⟨Nat.zero_le _, Nat.zero_le _⟩ [0] (bsr := []) rfl rfl (q0 := 0) rfl rfl dX3_countKeysInLocks_23 ?_
      rintro _ _ ⟨r_5, rfl, rfl, hw⟩
      refine gw_sel [0] (bs' := [bLg G hLg qLg vLg]) rfl rfl ?_
      change GW C 0 0 _ 26 _ [.int r_5]
      refine gw_iconst (v := (-1 : Int32)) F dX3_countKeysInLocks_26 ic_iconst_m1 ?_
      refine gw_icmp_eq (tgt := 33) F dX3_countKeysInLocks_27 (by decide) (fun c_6 => ?_) (fun c_6 => ?_)
      · have hw := hw.1 c_6
        exact lb_X3_countKeysInLocks_33 F E hK4 hw
      · have hw := hw.2 c_6
        obtain ⟨i_7, e_i_7⟩ : ∃ z : Int32, z = x2 + (1 : Int32) := ⟨_, rfl⟩
        have hw := hw i_7 e_i_7
        refine gw_iinc (v := i_7) (lv' := [(2, .int i_7), (0, .ref hLg), (1, .int x1), (3, .int x3)]) F dX3_countKeysInLocks_30 2 rfl (by rw [e_i_7]; rfl) (by decide) rfl ?_
        refine gw_lv [1, 2, 0, 3] rfl ?_
        exact lb_X3_countKeysInLocks_33 F E hK4 hw
def wp_X3_countKeysInLocks_4_loop (Q : Int32 → Prop) (vLg : OV) : Nat → Int32 → Int32 → Int32 → Prop
  | 0, _, _, _ => False
  | n + 1, x1, x2, x3 => wp_X3_countKeysInLocks_4 Q (wp_X3_countKeysInLocks_4_loop Q vLg n) vLg x1 x2 x3
theorem lp_X3_countKeysInLocks_4 {X : List Cond} {l : Launch} {D : va_G} {G : Nat → ClassId} {C : Cx} {bs0 : List va_W} {hLg : Nat} {qLg : Nat → Nat} {Q : Int32 → Prop} {vLg : OV} (F : GF C X cX3_countKeysInLocks wsX3_countKeysInLocks RX3 rm_X3_countKeysInLocks 4 (some .int) D G l) (E : GE C bs0 0 0 (po_X3_countKeysInLocks G hLg qLg vLg Q)) : ∀ (n : Nat) (x1 x2 x3 : Int32), wp_X3_countKeysInLocks_4_loop Q vLg n x1 x2 x3 → GW C 0 0 [bLg G hLg qLg vLg] 4 [(0, .ref hLg), (1, .int x1), (2, .int x2), (3, .int x3)] [] := by
  intro n
  induction n with
  | zero => intro x1 x2 x3 hw; exact False.elim hw
  | succ n ih => intro x1 x2 x3 hw; exact lb_X3_countKeysInLocks_4 (K4 := wp_X3_countKeysInLocks_4_loop Q vLg n) F E ih hw
def wp_X3_countKeysInLocks_0 (Q : Int32 → Prop) (vLg : OV) (x1 : Int32) : Prop :=
  (∃ n_8 : Nat, wp_X3_countKeysInLocks_4_loop Q vLg n_8 x1 (0 : Int32) (0 : Int32))
set_option maxRecDepth 20000 in
theorem lb_X3_countKeysInLocks_0 {X : List Cond} {l : Launch} {D : va_G} {G : Nat → ClassId} {C : Cx} {bs0 : List va_W} {hLg : Nat} {qLg : Nat → Nat} {Q : Int32 → Prop} {vLg : OV} (F : GF C X cX3_countKeysInLocks wsX3_countKeysInLocks RX3 rm_X3_countKeysInLocks 4 (some .int) D G l) (E : GE C bs0 0 0 (po_X3_countKeysInLocks G hLg qLg vLg Q)) {x1 : Int32} (hw : wp_X3_countKeysInLocks_0 Q vLg x1) : GW C 0 0 [bLg G hLg qLg vLg] 0 [(0, .ref hLg), (1, .int x1)] [] := by
  unfold wp_X3_countKeysInLocks_0 at hw
  refine gw_iconst (v := (0 : Int32)) F dX3_countKeysInLocks_0 ic_iconst_0 ?_
  refine gw_istore_n (lv' := [(2, .int (0 : Int32)), (0, .ref hLg), (1, .int x1)]) F dX3_countKeysInLocks_1 (by decide) rfl ?_
  refine gw_iconst (v := (0 : Int32)) F dX3_countKeysInLocks_2 ic_iconst_0 ?_
  refine gw_istore_n (lv' := [(3, .int (0 : Int32)), (2, .int (0 : Int32)), (0, .ref hLg), (1, .int x1)]) F dX3_countKeysInLocks_3 (by decide) rfl ?_
  refine gw_lv [2, 3, 1, 0] rfl ?_
  obtain ⟨n_8, hw⟩ := hw
  exact lp_X3_countKeysInLocks_4 F E n_8 _ _ _ hw
def wp_X3_countKeysInLocks (Q : Int32 → Prop) (x1 : Int32) (vLg : OV) : Prop := wp_X3_countKeysInLocks_0 Q vLg x1
theorem ct_X3_countKeysInLocks {X : List Cond} {l : Launch} {D : va_G} {G : Nat → ClassId} {hLg : Nat} {qLg : Nat → Nat} {Q : Int32 → Prop} {x1 : Int32} {vLg : OV} (hw : wp_X3_countKeysInLocks Q x1 vLg) : CM X l yX3_countKeysInLocks wsX3_countKeysInLocks rm_X3_countKeysInLocks D G [.ref hLg, .int x1] [bLg G hLg qLg vLg] 0 0 (po_X3_countKeysInLocks G hLg qLg vLg Q) :=
  CM.of pn_RX3 rfl rfl (Nat.le_of_ble_eq_true rfl) rfl (fun C F E => lb_X3_countKeysInLocks_0 F E hw)
-- X3_sumCostsOn
abbrev rm_X3_sumCostsOn : Room := { frames := 3, cells := 0, slots := 0, locals := 102 }
def po_X3_sumCostsOn (G : Nat → ClassId) (hLg : Nat) (qLg : Nat → Nat) (vLg : OV) (Q : Int32 → Prop) : Option Value → List va_W → Prop := fun o bs => ∃ (r : Int32), o = some (.int r) ∧ bs = [bLg G hLg qLg vLg] ∧ Q r
theorem hd_X3_sumCostsOn : yX3_sumCostsOn.cls = RX3 ∧ yX3_sumCostsOn.cls ≠ "java/lang/invoke/MethodHandle" ∧ yX3_sumCostsOn.cls ≠ "java/lang/invoke/VarHandle" ∧ (parseMethodDescriptor yX3_sumCostsOn.desc).map (fun d => d.parameters.length) = some 1 := by decide +kernel
theorem in_X3_sumCostsOn_RX3 : ∀ w ∈ wsX30, w ∈ wsX3_sumCostsOn := fun w h => List.mem_cons_of_mem _ (List.mem_append_left _ (List.mem_append_right _ h))
theorem lk_X3_sumCostsOn_36 : Cond.fieldLink RX3 36 "KeyWaves$Lodge" "keys" "I" ∈ wsX3_sumCostsOn := List.mem_cons_of_mem _ (List.mem_append_left _ (List.mem_append_left _ (List.mem_of_getElem? (i := 0) rfl)))
def wp_X3_sumCostsOn_29 (Q : Int32 → Prop) (K4 : Int32 → Int32 → Int32 → Prop) (vLg : OV) (x1 x2 x3 : Int32) : Prop :=
  (∀ i_4 : Int32, i_4 = x3 + (1 : Int32) → (K4 x1 x2 i_4))
set_option maxRecDepth 20000 in
theorem lb_X3_sumCostsOn_29 {X : List Cond} {l : Launch} {D : va_G} {G : Nat → ClassId} {C : Cx} {bs0 : List va_W} {hLg : Nat} {qLg : Nat → Nat} {Q : Int32 → Prop} {K4 : Int32 → Int32 → Int32 → Prop} {vLg : OV} (F : GF C X cX3_sumCostsOn wsX3_sumCostsOn RX3 rm_X3_sumCostsOn 4 (some .int) D G l) (E : GE C bs0 0 0 (po_X3_sumCostsOn G hLg qLg vLg Q)) (hK4 : ∀ (x1 x2 x3 : Int32), K4 x1 x2 x3 → GW C 0 0 [bLg G hLg qLg vLg] 4 [(0, .ref hLg), (1, .int x1), (2, .int x2), (3, .int x3)] []) {x1 x2 x3 : Int32} (hw : wp_X3_sumCostsOn_29 Q K4 vLg x1 x2 x3) : GW C 0 0 [bLg G hLg qLg vLg] 29 [(0, .ref hLg), (1, .int x1), (2, .int x2), (3, .int x3)] [] := by
  unfold wp_X3_sumCostsOn_29 at hw
  obtain ⟨i_4, e_i_4⟩ : ∃ z : Int32, z = x3 + (1 : Int32) := ⟨_, rfl⟩
  have hw := hw i_4 e_i_4
  refine gw_iinc (v := i_4) (lv' := [(3, .int i_4), (0, .ref hLg), (1, .int x1), (2, .int x2)]) F dX3_sumCostsOn_29 3 rfl (by rw [e_i_4]; rfl) (by decide) rfl ?_
  refine gw_goto (tgt := 4) F dX3_sumCostsOn_32 (by decide) ?_
  refine gw_lv [1, 2, 3, 0] rfl ?_
  exact hK4 _ _ _ hw
def wp_X3_sumCostsOn_4 (Q : Int32 → Prop) (K4 : Int32 → Int32 → Int32 → Prop) (vLg : OV) (x1 x2 x3 : Int32) : Prop :=
  (((vLg.2 8) ≤ x3 → (Q x2)) ∧ (¬ ((vLg.2 8) ≤ x3) → (wp_X3_porterWith (fun (r_2 : Int32) => ((¬ r_2 = x1 → (wp_X3_sumCostsOn_29 Q K4 vLg x1 x2 x3)) ∧ (r_2 = x1 → (wp_X3_cutCostOf (fun (r_5 : Int32) => (∀ i_6 : Int32, i_6 = (x2 + r_5) → (wp_X3_sumCostsOn_29 Q K4 vLg x1 i_6 x3))) x3 vLg)))) x3 vLg)))
set_option maxRecDepth 20000 in
theorem lb_X3_sumCostsOn_4 {X : List Cond} {l : Launch} {D : va_G} {G : Nat → ClassId} {C : Cx} {bs0 : List va_W} {hLg : Nat} {qLg : Nat → Nat} {Q : Int32 → Prop} {K4 : Int32 → Int32 → Int32 → Prop} {vLg : OV} (F : GF C X cX3_sumCostsOn wsX3_sumCostsOn RX3 rm_X3_sumCostsOn 4 (some .int) D G l) (E : GE C bs0 0 0 (po_X3_sumCostsOn G hLg qLg vLg Q)) (hK4 : ∀ (x1 x2 x3 : Int32), K4 x1 x2 x3 → GW C 0 0 [bLg G hLg qLg vLg] 4 [(0, .ref hLg), (1, .int x1), (2, .int x2), (3, .int x3)] []) {x1 x2 x3 : Int32} (hw : wp_X3_sumCostsOn_4 Q K4 vLg x1 x2 x3) : GW C 0 0 [bLg G hLg qLg vLg] 4 [(0, .ref hLg), (1, .int x1), (2, .int x2), (3, .int x3)] [] := by
  unfold wp_X3_sumCostsOn_4 at hw
  refine gw_iload_n F dX3_sumCostsOn_4 3 rfl ?_
  refine gw_aload_n F dX3_sumCostsOn_5 0 rfl ?_
  refine gw_get F in_X3_sumCostsOn_RX3 0 rfl rfl 8 (by decide) lk_X3_sumCostsOn_36 rfl dX3_sumCostsOn_6 ?_
  refine gw_icmp_ge (tgt := 35) F dX3_sumCostsOn_9 (by decide) (fun c_1 => ?_) (fun c_1 => ?_)
  · have hw := hw.1 c_1
    refine gw_iload_n F dX3_sumCostsOn_35 2 rfl ?_
    exact gw_iret F E rfl rfl (Nat.le_of_ble_eq_true rfl) (Nat.le_of_ble_eq_true rfl) dX3_sumCostsOn_36 ⟨_, rfl, rfl, hw⟩
  · have hw := hw.2 c_1
    refine gw_aload_n F dX3_sumCostsOn_12 0 rfl ?_
    refine gw_iload_n F dX3_sumCostsOn_13 3 rfl ?_
    refine gw_callV F (ct_X3_porterWith hw) 1 gX3_sumCostsOn_X3_porterWith rfl rfl rfl hd_X3_porterWith ⟨(Nat.le_of_ble_eq_true rfl), (Nat.le_of_ble_eq_true rfl)⟩ rfl rfl (Nat.le_of_ble_eq_true rfl) ⟨Nat.zero_le _, Nat.zero_le _⟩ [0] (bsr := []) rfl rfl (q0 := 0) rfl rfl dX3_sumCostsOn_14 ?_
    rintro _ _ ⟨r_2, rfl, rfl, hw⟩
    refine gw_sel [0] (bs' := [bLg G hLg qLg vLg]) rfl rfl ?_
    change GW C 0 0 _ 17 _ [.int r_2]
    refine gw_iload_n F dX3_sumCostsOn_17 1 rfl ?_
    refine gw_icmp_ne (tgt := 29) F dX3_sumCostsOn_18 (by decide) (fun c_3 => ?_) (fun c_3 => ?_)
    · have hw := hw.1 c_3
      exact lb_X3_sumCostsOn_29 F E hK4 hw
    · have hw := hw.2 c_3
      refine gw_iload_n F dX3_sumCostsOn_21 2 rfl ?_
      refine gw_aload_n F dX3_sumCostsOn_22 0 rfl ?_
      refine gw_iload_n F dX3_sumCostsOn_23 3 rfl ?_
      refine gw_callV F (ct_X3_cutCostOf hw) 1 gX3_sumCostsOn_X3_cutCostOf rfl rfl rfl hd_X3_cutCostOf ⟨(Nat.le_of_ble_eq_true rfl), (Nat.le_of_ble_eq_true rfl)⟩ rfl rfl (Nat.le_of_ble_eq_true rfl) ⟨Nat.zero_le _, Nat.zero_le _⟩ [0] (bsr := []) rfl rfl (q0 := 0) rfl rfl dX3_sumCostsOn_24 ?_
      rintro _ _ ⟨r_5, rfl, rfl, hw⟩
      refine gw_sel [0] (bs' := [bLg G hLg qLg vLg]) rfl rfl ?_
      change GW C 0 0 _ 27 _ [.int r_5, .int x2]
      refine gw_iadd F dX3_sumCostsOn_27 ?_
      refine gw_topi (fun i_6 e_i_6 => ?_)
      have hw := hw i_6 e_i_6
      refine gw_istore_n (lv' := [(2, .int i_6), (0, .ref hLg), (1, .int x1), (3, .int x3)]) F dX3_sumCostsOn_28 (by decide) rfl ?_
      refine gw_lv [1, 2, 0, 3] rfl ?_
      exact lb_X3_sumCostsOn_29 F E hK4 hw
def wp_X3_sumCostsOn_4_loop (Q : Int32 → Prop) (vLg : OV) : Nat → Int32 → Int32 → Int32 → Prop
  | 0, _, _, _ => False
  | n + 1, x1, x2, x3 => wp_X3_sumCostsOn_4 Q (wp_X3_sumCostsOn_4_loop Q vLg n) vLg x1 x2 x3
theorem lp_X3_sumCostsOn_4 {X : List Cond} {l : Launch} {D : va_G} {G : Nat → ClassId} {C : Cx} {bs0 : List va_W} {hLg : Nat} {qLg : Nat → Nat} {Q : Int32 → Prop} {vLg : OV} (F : GF C X cX3_sumCostsOn wsX3_sumCostsOn RX3 rm_X3_sumCostsOn 4 (some .int) D G l) (E : GE C bs0 0 0 (po_X3_sumCostsOn G hLg qLg vLg Q)) : ∀ (n : Nat) (x1 x2 x3 : Int32), wp_X3_sumCostsOn_4_loop Q vLg n x1 x2 x3 → GW C 0 0 [bLg G hLg qLg vLg] 4 [(0, .ref hLg), (1, .int x1), (2, .int x2), (3, .int x3)] [] := by
  intro n
  induction n with
  | zero => intro x1 x2 x3 hw; exact False.elim hw
  | succ n ih => intro x1 x2 x3 hw; exact lb_X3_sumCostsOn_4 (K4 := wp_X3_sumCostsOn_4_loop Q vLg n) F E ih hw
def wp_X3_sumCostsOn_0 (Q : Int32 → Prop) (vLg : OV) (x1 : Int32) : Prop :=
  (∃ n_7 : Nat, wp_X3_sumCostsOn_4_loop Q vLg n_7 x1 (0 : Int32) (0 : Int32))
set_option maxRecDepth 20000 in
theorem lb_X3_sumCostsOn_0 {X : List Cond} {l : Launch} {D : va_G} {G : Nat → ClassId} {C : Cx} {bs0 : List va_W} {hLg : Nat} {qLg : Nat → Nat} {Q : Int32 → Prop} {vLg : OV} (F : GF C X cX3_sumCostsOn wsX3_sumCostsOn RX3 rm_X3_sumCostsOn 4 (some .int) D G l) (E : GE C bs0 0 0 (po_X3_sumCostsOn G hLg qLg vLg Q)) {x1 : Int32} (hw : wp_X3_sumCostsOn_0 Q vLg x1) : GW C 0 0 [bLg G hLg qLg vLg] 0 [(0, .ref hLg), (1, .int x1)] [] := by
  unfold wp_X3_sumCostsOn_0 at hw
  refine gw_iconst (v := (0 : Int32)) F dX3_sumCostsOn_0 ic_iconst_0 ?_
  refine gw_istore_n (lv' := [(2, .int (0 : Int32)), (0, .ref hLg), (1, .int x1)]) F dX3_sumCostsOn_1 (by decide) rfl ?_
  refine gw_iconst (v := (0 : Int32)) F dX3_sumCostsOn_2 ic_iconst_0 ?_
  refine gw_istore_n (lv' := [(3, .int (0 : Int32)), (2, .int (0 : Int32)), (0, .ref hLg), (1, .int x1)]) F dX3_sumCostsOn_3 (by decide) rfl ?_
  refine gw_lv [2, 3, 1, 0] rfl ?_
  obtain ⟨n_7, hw⟩ := hw
  exact lp_X3_sumCostsOn_4 F E n_7 _ _ _ hw
def wp_X3_sumCostsOn (Q : Int32 → Prop) (x1 : Int32) (vLg : OV) : Prop := wp_X3_sumCostsOn_0 Q vLg x1
theorem ct_X3_sumCostsOn {X : List Cond} {l : Launch} {D : va_G} {G : Nat → ClassId} {hLg : Nat} {qLg : Nat → Nat} {Q : Int32 → Prop} {x1 : Int32} {vLg : OV} (hw : wp_X3_sumCostsOn Q x1 vLg) : CM X l yX3_sumCostsOn wsX3_sumCostsOn rm_X3_sumCostsOn D G [.ref hLg, .int x1] [bLg G hLg qLg vLg] 0 0 (po_X3_sumCostsOn G hLg qLg vLg Q) :=
  CM.of pn_RX3 rfl rfl (Nat.le_of_ble_eq_true rfl) rfl (fun C F E => lb_X3_sumCostsOn_0 F E hw)
-- X3_countCheaper
abbrev rm_X3_countCheaper : Room := { frames := 5, cells := 0, slots := 0, locals := 149 }
def po_X3_countCheaper (G : Nat → ClassId) (hLg : Nat) (qLg : Nat → Nat) (vLg : OV) (Q : Int32 → Prop) : Option Value → List va_W → Prop := fun o bs => ∃ (r : Int32), o = some (.int r) ∧ bs = [bLg G hLg qLg vLg] ∧ Q r
theorem hd_X3_countCheaper : yX3_countCheaper.cls = RX3 ∧ yX3_countCheaper.cls ≠ "java/lang/invoke/MethodHandle" ∧ yX3_countCheaper.cls ≠ "java/lang/invoke/VarHandle" ∧ (parseMethodDescriptor yX3_countCheaper.desc).map (fun d => d.parameters.length) = some 2 := by decide +kernel
theorem in_X3_countCheaper_RX3 : ∀ w ∈ wsX30, w ∈ wsX3_countCheaper := fun w h => List.mem_cons_of_mem _ (List.mem_append_left _ (List.mem_append_right _ h))
theorem lk_X3_countCheaper_36 : Cond.fieldLink RX3 36 "KeyWaves$Lodge" "keys" "I" ∈ wsX3_countCheaper := List.mem_cons_of_mem _ (List.mem_append_left _ (List.mem_append_left _ (List.mem_append_left _ (List.mem_of_getElem? (i := 0) rfl))))
def wp_X3_countCheaper_74 (Q : Int32 → Prop) (K13 : Int32 → Int32 → Int32 → Int32 → Int32 → Prop) (vLg : OV) (x1 x2 x3 x4 x5 : Int32) : Prop :=
  (∀ i_7 : Int32, i_7 = x5 + (1 : Int32) → (K13 x1 x2 x3 x4 i_7))
set_option maxRecDepth 20000 in
theorem lb_X3_countCheaper_74 {X : List Cond} {l : Launch} {D : va_G} {G : Nat → ClassId} {C : Cx} {bs0 : List va_W} {hLg : Nat} {qLg : Nat → Nat} {Q : Int32 → Prop} {K13 : Int32 → Int32 → Int32 → Int32 → Int32 → Prop} {vLg : OV} (F : GF C X cX3_countCheaper wsX3_countCheaper RX3 rm_X3_countCheaper 8 (some .int) D G l) (E : GE C bs0 0 0 (po_X3_countCheaper G hLg qLg vLg Q)) (hK13 : ∀ (x1 x2 x3 x4 x5 : Int32), K13 x1 x2 x3 x4 x5 → GW C 0 0 [bLg G hLg qLg vLg] 13 [(0, .ref hLg), (1, .int x1), (2, .int x2), (3, .int x3), (4, .int x4), (5, .int x5)] []) {x1 x2 x3 x4 x5 : Int32} (hw : wp_X3_countCheaper_74 Q K13 vLg x1 x2 x3 x4 x5) : GW C 0 0 [bLg G hLg qLg vLg] 74 [(0, .ref hLg), (1, .int x1), (2, .int x2), (3, .int x3), (4, .int x4), (5, .int x5)] [] := by
  unfold wp_X3_countCheaper_74 at hw
  obtain ⟨i_7, e_i_7⟩ : ∃ z : Int32, z = x5 + (1 : Int32) := ⟨_, rfl⟩
  have hw := hw i_7 e_i_7
  refine gw_iinc (v := i_7) (lv' := [(5, .int i_7), (0, .ref hLg), (1, .int x1), (2, .int x2), (3, .int x3), (4, .int x4)]) F dX3_countCheaper_74 5 rfl (by rw [e_i_7]; rfl) (by decide) rfl ?_
  refine gw_goto (tgt := 13) F dX3_countCheaper_77 (by decide) ?_
  refine gw_lv [1, 2, 3, 4, 5, 0] rfl ?_
  exact hK13 _ _ _ _ _ hw
def wp_X3_countCheaper_54 (Q : Int32 → Prop) (K13 : Int32 → Int32 → Int32 → Int32 → Int32 → Prop) (vLg : OV) (x1 x2 x3 x4 x5 s0 : Int32) : Prop :=
  (wp_X3_hasBar (fun (r_5 : Int32) => ((¬ r_5 = 0 → (wp_X3_countCheaper_74 Q K13 vLg x1 x2 x3 x4 x5)) ∧ (r_5 = 0 → ((s0 = 0 → (wp_X3_countCheaper_74 Q K13 vLg x1 x2 x3 x4 x5)) ∧ (¬ (s0 = 0) → (∀ i_9 : Int32, i_9 = x4 + (1 : Int32) → (wp_X3_countCheaper_74 Q K13 vLg x1 x2 x3 i_9 x5))))))) x5 x2 vLg)
set_option maxRecDepth 20000 in
theorem lb_X3_countCheaper_54 {X : List Cond} {l : Launch} {D : va_G} {G : Nat → ClassId} {C : Cx} {bs0 : List va_W} {hLg : Nat} {qLg : Nat → Nat} {Q : Int32 → Prop} {K13 : Int32 → Int32 → Int32 → Int32 → Int32 → Prop} {vLg : OV} (F : GF C X cX3_countCheaper wsX3_countCheaper RX3 rm_X3_countCheaper 8 (some .int) D G l) (E : GE C bs0 0 0 (po_X3_countCheaper G hLg qLg vLg Q)) (hK13 : ∀ (x1 x2 x3 x4 x5 : Int32), K13 x1 x2 x3 x4 x5 → GW C 0 0 [bLg G hLg qLg vLg] 13 [(0, .ref hLg), (1, .int x1), (2, .int x2), (3, .int x3), (4, .int x4), (5, .int x5)] []) {x1 x2 x3 x4 x5 s0 : Int32} (hw : wp_X3_countCheaper_54 Q K13 vLg x1 x2 x3 x4 x5 s0) : GW C 0 0 [bLg G hLg qLg vLg] 54 [(0, .ref hLg), (1, .int x1), (2, .int x2), (3, .int x3), (4, .int x4), (5, .int x5)] [.int s0] := by
  unfold wp_X3_countCheaper_54 at hw
  refine gw_istore (lv' := [(7, .int s0), (0, .ref hLg), (1, .int x1), (2, .int x2), (3, .int x3), (4, .int x4), (5, .int x5)]) F dX3_countCheaper_54 (by decide) rfl ?_
  refine gw_aload_n F dX3_countCheaper_56 1 rfl ?_
  refine gw_iload F dX3_countCheaper_57 6 rfl ?_
  refine gw_iload_n F dX3_countCheaper_59 3 rfl ?_
  refine gw_callV F (ct_X3_hasBar hw) 2 gX3_countCheaper_X3_hasBar rfl rfl rfl hd_X3_hasBar ⟨(Nat.le_of_ble_eq_true rfl), (Nat.le_of_ble_eq_true rfl)⟩ rfl rfl (Nat.le_of_ble_eq_true rfl) ⟨Nat.zero_le _, Nat.zero_le _⟩ [0] (bsr := []) rfl rfl (q0 := 0) rfl rfl dX3_countCheaper_60 ?_
  rintro _ _ ⟨r_5, rfl, rfl, hw⟩
  refine gw_sel [0] (bs' := [bLg G hLg qLg vLg]) rfl rfl ?_
  change GW C 0 0 _ 63 _ [.int r_5]
  refine gw_if_ne (tgt := 74) F dX3_countCheaper_63 (by decide) (fun c_6 => ?_) (fun c_6 => ?_)
  · have hw := hw.1 c_6
    refine gw_lv [1, 2, 3, 4, 5, 6] rfl ?_
    exact lb_X3_countCheaper_74 F E hK13 hw
  · have hw := hw.2 c_6
    refine gw_iload F dX3_countCheaper_66 0 rfl ?_
    refine gw_if_eq (tgt := 74) F dX3_countCheaper_68 (by decide) (fun c_8 => ?_) (fun c_8 => ?_)
    · have hw := hw.1 c_8
      refine gw_lv [1, 2, 3, 4, 5, 6] rfl ?_
      exact lb_X3_countCheaper_74 F E hK13 hw
    · have hw := hw.2 c_8
      obtain ⟨i_9, e_i_9⟩ : ∃ z : Int32, z = x4 + (1 : Int32) := ⟨_, rfl⟩
      have hw := hw i_9 e_i_9
      refine gw_iinc (v := i_9) (lv' := [(4, .int i_9), (7, .int s0), (0, .ref hLg), (1, .int x1), (2, .int x2), (3, .int x3), (5, .int x5)]) F dX3_countCheaper_71 5 rfl (by rw [e_i_9]; rfl) (by decide) rfl ?_
      refine gw_lv [2, 3, 4, 5, 0, 6] rfl ?_
      exact lb_X3_countCheaper_74 F E hK13 hw
def wp_X3_countCheaper_49 (Q : Int32 → Prop) (K13 : Int32 → Int32 → Int32 → Int32 → Int32 → Prop) (vLg : OV) (x1 x2 x3 x4 x5 : Int32) : Prop :=
  (wp_X3_countCheaper_54 Q K13 vLg x1 x2 x3 x4 x5 (1 : Int32))
set_option maxRecDepth 20000 in
theorem lb_X3_countCheaper_49 {X : List Cond} {l : Launch} {D : va_G} {G : Nat → ClassId} {C : Cx} {bs0 : List va_W} {hLg : Nat} {qLg : Nat → Nat} {Q : Int32 → Prop} {K13 : Int32 → Int32 → Int32 → Int32 → Int32 → Prop} {vLg : OV} (F : GF C X cX3_countCheaper wsX3_countCheaper RX3 rm_X3_countCheaper 8 (some .int) D G l) (E : GE C bs0 0 0 (po_X3_countCheaper G hLg qLg vLg Q)) (hK13 : ∀ (x1 x2 x3 x4 x5 : Int32), K13 x1 x2 x3 x4 x5 → GW C 0 0 [bLg G hLg qLg vLg] 13 [(0, .ref hLg), (1, .int x1), (2, .int x2), (3, .int x3), (4, .int x4), (5, .int x5)] []) {x1 x2 x3 x4 x5 : Int32} (hw : wp_X3_countCheaper_49 Q K13 vLg x1 x2 x3 x4 x5) : GW C 0 0 [bLg G hLg qLg vLg] 49 [(0, .ref hLg), (1, .int x1), (2, .int x2), (3, .int x3), (4, .int x4), (5, .int x5)] [] := by
  unfold wp_X3_countCheaper_49 at hw
  refine gw_iconst (v := (1 : Int32)) F dX3_countCheaper_49 ic_iconst_1 ?_
  refine gw_goto (tgt := 54) F dX3_countCheaper_50 (by decide) ?_
  exact lb_X3_countCheaper_54 F E hK13 hw
def wp_X3_countCheaper_53 (Q : Int32 → Prop) (K13 : Int32 → Int32 → Int32 → Int32 → Int32 → Prop) (vLg : OV) (x1 x2 x3 x4 x5 : Int32) : Prop :=
  (wp_X3_countCheaper_54 Q K13 vLg x1 x2 x3 x4 x5 (0 : Int32))
set_option maxRecDepth 20000 in
theorem lb_X3_countCheaper_53 {X : List Cond} {l : Launch} {D : va_G} {G : Nat → ClassId} {C : Cx} {bs0 : List va_W} {hLg : Nat} {qLg : Nat → Nat} {Q : Int32 → Prop} {K13 : Int32 → Int32 → Int32 → Int32 → Int32 → Prop} {vLg : OV} (F : GF C X cX3_countCheaper wsX3_countCheaper RX3 rm_X3_countCheaper 8 (some .int) D G l) (E : GE C bs0 0 0 (po_X3_countCheaper G hLg qLg vLg Q)) (hK13 : ∀ (x1 x2 x3 x4 x5 : Int32), K13 x1 x2 x3 x4 x5 → GW C 0 0 [bLg G hLg qLg vLg] 13 [(0, .ref hLg), (1, .int x1), (2, .int x2), (3, .int x3), (4, .int x4), (5, .int x5)] []) {x1 x2 x3 x4 x5 : Int32} (hw : wp_X3_countCheaper_53 Q K13 vLg x1 x2 x3 x4 x5) : GW C 0 0 [bLg G hLg qLg vLg] 53 [(0, .ref hLg), (1, .int x1), (2, .int x2), (3, .int x3), (4, .int x4), (5, .int x5)] [] := by
  unfold wp_X3_countCheaper_53 at hw
  refine gw_iconst (v := (0 : Int32)) F dX3_countCheaper_53 ic_iconst_0 ?_
  exact lb_X3_countCheaper_54 F E hK13 hw
def wp_X3_countCheaper_13 (Q : Int32 → Prop) (K13 : Int32 → Int32 → Int32 → Int32 → Int32 → Prop) (vLg : OV) (x1 x2 x3 x4 x5 : Int32) : Prop :=
  (((vLg.2 8) ≤ x5 → (Q x4)) ∧ (¬ ((vLg.2 8) ≤ x5) → (wp_X3_costToFit (fun (r_3 : Int32) => ((r_3 < x3 → (wp_X3_countCheaper_49 Q K13 vLg x1 x2 x3 x4 x5)) ∧ (¬ (r_3 < x3) → ((¬ r_3 = x3 → (wp_X3_countCheaper_53 Q K13 vLg x1 x2 x3 x4 x5)) ∧ (r_3 = x3 → ((x1 ≤ x5 → (wp_X3_countCheaper_53 Q K13 vLg x1 x2 x3 x4 x5)) ∧ (¬ (x1 ≤ x5) → (wp_X3_countCheaper_49 Q K13 vLg x1 x2 x3 x4 x5)))))))) x5 x2 vLg)))
set_option maxRecDepth 20000 in
theorem lb_X3_countCheaper_13 {X : List Cond} {l : Launch} {D : va_G} {G : Nat → ClassId} {C : Cx} {bs0 : List va_W} {hLg : Nat} {qLg : Nat → Nat} {Q : Int32 → Prop} {K13 : Int32 → Int32 → Int32 → Int32 → Int32 → Prop} {vLg : OV} (F : GF C X cX3_countCheaper wsX3_countCheaper RX3 rm_X3_countCheaper 8 (some .int) D G l) (E : GE C bs0 0 0 (po_X3_countCheaper G hLg qLg vLg Q)) (hK13 : ∀ (x1 x2 x3 x4 x5 : Int32), K13 x1 x2 x3 x4 x5 → GW C 0 0 [bLg G hLg qLg vLg] 13 [(0, .ref hLg), (1, .int x1), (2, .int x2), (3, .int x3), (4, .int x4), (5, .int x5)] []) {x1 x2 x3 x4 x5 : Int32} (hw : wp_X3_countCheaper_13 Q K13 vLg x1 x2 x3 x4 x5) : GW C 0 0 [bLg G hLg qLg vLg] 13 [(0, .ref hLg), (1, .int x1), (2, .int x2), (3, .int x3), (4, .int x4), (5, .int x5)] [] := by
  unfold wp_X3_countCheaper_13 at hw
  refine gw_iload F dX3_countCheaper_13 5 rfl ?_
  refine gw_aload_n F dX3_countCheaper_15 0 rfl ?_
  refine gw_get F in_X3_countCheaper_RX3 0 rfl rfl 8 (by decide) lk_X3_countCheaper_36 rfl dX3_countCheaper_16 ?_
  refine gw_icmp_ge (tgt := 80) F dX3_countCheaper_19 (by decide) (fun c_2 => ?_) (fun c_2 => ?_)
  · have hw := hw.1 c_2
    refine gw_iload F dX3_countCheaper_80 4 rfl ?_
    exact gw_iret F E rfl rfl (Nat.le_of_ble_eq_true rfl) (Nat.le_of_ble_eq_true rfl) dX3_countCheaper_82 ⟨_, rfl, rfl, hw⟩
  · have hw := hw.2 c_2
    refine gw_aload_n F dX3_countCheaper_22 0 rfl ?_
    refine gw_iload F dX3_countCheaper_23 5 rfl ?_
    refine gw_iload_n F dX3_countCheaper_25 2 rfl ?_
    refine gw_callV F (ct_X3_costToFit hw) 2 gX3_countCheaper_X3_costToFit rfl rfl rfl hd_X3_costToFit ⟨(Nat.le_of_ble_eq_true rfl), (Nat.le_of_ble_eq_true rfl)⟩ rfl rfl (Nat.le_of_ble_eq_true rfl) ⟨Nat.zero_le _, Nat.zero_le _⟩ [0] (bsr := []) rfl rfl (q0 := 0) rfl rfl dX3_countCheaper_26 ?_
    rintro _ _ ⟨r_3, rfl, rfl, hw⟩
    refine gw_sel [0] (bs' := [bLg G hLg qLg vLg]) rfl rfl ?_
    change GW C 0 0 _ 29 _ [.int r_3]
    refine gw_istore (lv' := [(6, .int r_3), (0, .ref hLg), (1, .int x1), (2, .int x2), (3, .int x3), (4, .int x4), (5, .int x5)]) F dX3_countCheaper_29 (by decide) rfl ?_
    refine gw_iload F dX3_countCheaper_31 0 rfl ?_
    refine gw_iload_n F dX3_countCheaper_33 4 rfl ?_
    refine gw_icmp_lt (tgt := 49) F dX3_countCheaper_34 (by decide) (fun c_4 => ?_) (fun c_4 => ?_)
    · have hw := hw.1 c_4
      refine gw_lv [1, 2, 3, 4, 5, 6] rfl ?_
      exact lb_X3_countCheaper_49 F E hK13 hw
    · have hw := hw.2 c_4
      refine gw_iload F dX3_countCheaper_37 0 rfl ?_
      refine gw_iload_n F dX3_countCheaper_39 4 rfl ?_
      refine gw_icmp_ne (tgt := 53) F dX3_countCheaper_40 (by decide) (fun c_10 => ?_) (fun c_10 => ?_)
      · have hw := hw.1 c_10
        refine gw_lv [1, 2, 3, 4, 5, 6] rfl ?_
        exact lb_X3_countCheaper_53 F E hK13 hw
      · have hw := hw.2 c_10
        refine gw_iload F dX3_countCheaper_43 6 rfl ?_
        refine gw_iload_n F dX3_countCheaper_45 2 rfl ?_
        refine gw_icmp_ge (tgt := 53) F dX3_countCheaper_46 (by decide) (fun c_11 => ?_) (fun c_11 => ?_)
        · have hw := hw.1 c_11
          refine gw_lv [1, 2, 3, 4, 5, 6] rfl ?_
          exact lb_X3_countCheaper_53 F E hK13 hw
        · have hw := hw.2 c_11
          refine gw_lv [1, 2, 3, 4, 5, 6] rfl ?_
          exact lb_X3_countCheaper_49 F E hK13 hw
def wp_X3_countCheaper_13_loop (Q : Int32 → Prop) (vLg : OV) : Nat → Int32 → Int32 → Int32 → Int32 → Int32 → Prop
  | 0, _, _, _, _, _ => False
  | n + 1, x1, x2, x3, x4, x5 => wp_X3_countCheaper_13 Q (wp_X3_countCheaper_13_loop Q vLg n) vLg x1 x2 x3 x4 x5
theorem lp_X3_countCheaper_13 {X : List Cond} {l : Launch} {D : va_G} {G : Nat → ClassId} {C : Cx} {bs0 : List va_W} {hLg : Nat} {qLg : Nat → Nat} {Q : Int32 → Prop} {vLg : OV} (F : GF C X cX3_countCheaper wsX3_countCheaper RX3 rm_X3_countCheaper 8 (some .int) D G l) (E : GE C bs0 0 0 (po_X3_countCheaper G hLg qLg vLg Q)) : ∀ (n : Nat) (x1 x2 x3 x4 x5 : Int32), wp_X3_countCheaper_13_loop Q vLg n x1 x2 x3 x4 x5 → GW C 0 0 [bLg G hLg qLg vLg] 13 [(0, .ref hLg), (1, .int x1), (2, .int x2), (3, .int x3), (4, .int x4), (5, .int x5)] [] := by
  intro n
  induction n with
  | zero => intro x1 x2 x3 x4 x5 hw; exact False.elim hw
  | succ n ih => intro x1 x2 x3 x4 x5 hw; exact lb_X3_countCheaper_13 (K13 := wp_X3_countCheaper_13_loop Q vLg n) F E ih hw
def wp_X3_countCheaper_0 (Q : Int32 → Prop) (vLg : OV) (x1 : Int32) (x2 : Int32) : Prop :=
  (wp_X3_costToFit (fun (r_1 : Int32) => (∃ n_12 : Nat, wp_X3_countCheaper_13_loop Q vLg n_12 x1 x2 r_1 (0 : Int32) (0 : Int32))) x1 x2 vLg)
set_option maxRecDepth 20000 in
theorem lb_X3_countCheaper_0 {X : List Cond} {l : Launch} {D : va_G} {G : Nat → ClassId} {C : Cx} {bs0 : List va_W} {hLg : Nat} {qLg : Nat → Nat} {Q : Int32 → Prop} {vLg : OV} (F : GF C X cX3_countCheaper wsX3_countCheaper RX3 rm_X3_countCheaper 8 (some .int) D G l) (E : GE C bs0 0 0 (po_X3_countCheaper G hLg qLg vLg Q)) {x1 : Int32} {x2 : Int32} (hw : wp_X3_countCheaper_0 Q vLg x1 x2) : GW C 0 0 [bLg G hLg qLg vLg] 0 [(0, .ref hLg), (1, .int x1), (2, .int x2)] [] := by
  unfold wp_X3_countCheaper_0 at hw
  refine gw_aload_n F dX3_countCheaper_0 0 rfl ?_
  refine gw_iload_n F dX3_countCheaper_1 1 rfl ?_
  refine gw_iload_n F dX3_countCheaper_2 2 rfl ?_
  refine gw_callV F (ct_X3_costToFit hw) 2 gX3_countCheaper_X3_costToFit rfl rfl rfl hd_X3_costToFit ⟨(Nat.le_of_ble_eq_true rfl), (Nat.le_of_ble_eq_true rfl)⟩ rfl rfl (Nat.le_of_ble_eq_true rfl) ⟨Nat.zero_le _, Nat.zero_le _⟩ [0] (bsr := []) rfl rfl (q0 := 0) rfl rfl dX3_countCheaper_3 ?_
  rintro _ _ ⟨r_1, rfl, rfl, hw⟩
  refine gw_sel [0] (bs' := [bLg G hLg qLg vLg]) rfl rfl ?_
  change GW C 0 0 _ 6 _ [.int r_1]
  refine gw_istore_n (lv' := [(3, .int r_1), (0, .ref hLg), (1, .int x1), (2, .int x2)]) F dX3_countCheaper_6 (by decide) rfl ?_
  refine gw_iconst (v := (0 : Int32)) F dX3_countCheaper_7 ic_iconst_0 ?_
  refine gw_istore (lv' := [(4, .int (0 : Int32)), (3, .int r_1), (0, .ref hLg), (1, .int x1), (2, .int x2)]) F dX3_countCheaper_8 (by decide) rfl ?_
  refine gw_iconst (v := (0 : Int32)) F dX3_countCheaper_10 ic_iconst_0 ?_
  refine gw_istore (lv' := [(5, .int (0 : Int32)), (4, .int (0 : Int32)), (3, .int r_1), (0, .ref hLg), (1, .int x1), (2, .int x2)]) F dX3_countCheaper_11 (by decide) rfl ?_
  refine gw_lv [3, 4, 5, 2, 1, 0] rfl ?_
  obtain ⟨n_12, hw⟩ := hw
  exact lp_X3_countCheaper_13 F E n_12 _ _ _ _ _ hw
def wp_X3_countCheaper (Q : Int32 → Prop) (x1 : Int32) (x2 : Int32) (vLg : OV) : Prop := wp_X3_countCheaper_0 Q vLg x1 x2
theorem ct_X3_countCheaper {X : List Cond} {l : Launch} {D : va_G} {G : Nat → ClassId} {hLg : Nat} {qLg : Nat → Nat} {Q : Int32 → Prop} {x1 : Int32} {x2 : Int32} {vLg : OV} (hw : wp_X3_countCheaper Q x1 x2 vLg) : CM X l yX3_countCheaper wsX3_countCheaper rm_X3_countCheaper D G [.ref hLg, .int x1, .int x2] [bLg G hLg qLg vLg] 0 0 (po_X3_countCheaper G hLg qLg vLg Q) :=
  CM.of pn_RX3 rfl rfl (Nat.le_of_ble_eq_true rfl) rfl (fun C F E => lb_X3_countCheaper_0 F E hw)
-- X3_keyByCost
abbrev rm_X3_keyByCost : Room := { frames := 6, cells := 0, slots := 0, locals := 176 }
def po_X3_keyByCost (G : Nat → ClassId) (hLg : Nat) (qLg : Nat → Nat) (vLg : OV) (Q : Int32 → Prop) : Option Value → List va_W → Prop := fun o bs => ∃ (r : Int32), o = some (.int r) ∧ bs = [bLg G hLg qLg vLg] ∧ Q r
theorem hd_X3_keyByCost : yX3_keyByCost.cls = RX3 ∧ yX3_keyByCost.cls ≠ "java/lang/invoke/MethodHandle" ∧ yX3_keyByCost.cls ≠ "java/lang/invoke/VarHandle" ∧ (parseMethodDescriptor yX3_keyByCost.desc).map (fun d => d.parameters.length) = some 2 := by decide +kernel
theorem in_X3_keyByCost_RX3 : ∀ w ∈ wsX30, w ∈ wsX3_keyByCost := fun w h => List.mem_cons_of_mem _ (List.mem_append_left _ (List.mem_append_right _ h))
theorem lk_X3_keyByCost_36 : Cond.fieldLink RX3 36 "KeyWaves$Lodge" "keys" "I" ∈ wsX3_keyByCost := List.mem_cons_of_mem _ (List.mem_append_left _ (List.mem_append_left _ (List.mem_append_left _ (List.mem_of_getElem? (i := 0) rfl))))
def wp_X3_keyByCost_31 (Q : Int32 → Prop) (K2 : Int32 → Int32 → Int32 → Prop) (vLg : OV) (x1 x2 x3 : Int32) : Prop :=
  (∀ i_4 : Int32, i_4 = x3 + (1 : Int32) → (K2 x1 x2 i_4))
set_option maxRecDepth 20000 in
theorem lb_X3_keyByCost_31 {X : List Cond} {l : Launch} {D : va_G} {G : Nat → ClassId} {C : Cx} {bs0 : List va_W} {hLg : Nat} {qLg : Nat → Nat} {Q : Int32 → Prop} {K2 : Int32 → Int32 → Int32 → Prop} {vLg : OV} (F : GF C X cX3_keyByCost wsX3_keyByCost RX3 rm_X3_keyByCost 4 (some .int) D G l) (E : GE C bs0 0 0 (po_X3_keyByCost G hLg qLg vLg Q)) (hK2 : ∀ (x1 x2 x3 : Int32), K2 x1 x2 x3 → GW C 0 0 [bLg G hLg qLg vLg] 2 [(0, .ref hLg), (1, .int x1), (2, .int x2), (3, .int x3)] []) {x1 x2 x3 : Int32} (hw : wp_X3_keyByCost_31 Q K2 vLg x1 x2 x3) : GW C 0 0 [bLg G hLg qLg vLg] 31 [(0, .ref hLg), (1, .int x1), (2, .int x2), (3, .int x3)] [] := by
  unfold wp_X3_keyByCost_31 at hw
  obtain ⟨i_4, e_i_4⟩ : ∃ z : Int32, z = x3 + (1 : Int32) := ⟨_, rfl⟩
  have hw := hw i_4 e_i_4
  refine gw_iinc (v := i_4) (lv' := [(3, .int i_4), (0, .ref hLg), (1, .int x1), (2, .int x2)]) F dX3_keyByCost_31 3 rfl (by rw [e_i_4]; rfl) (by decide) rfl ?_
  refine gw_goto (tgt := 2) F dX3_keyByCost_34 (by decide) ?_
  refine gw_lv [1, 2, 3, 0] rfl ?_
  exact hK2 _ _ _ hw
def wp_X3_keyByCost_2 (Q : Int32 → Prop) (K2 : Int32 → Int32 → Int32 → Prop) (vLg : OV) (x1 x2 x3 : Int32) : Prop :=
  (((vLg.2 8) ≤ x3 → (Q (-1 : Int32))) ∧ (¬ ((vLg.2 8) ≤ x3) → (wp_X3_hasBar (fun (r_2 : Int32) => ((¬ r_2 = 0 → (wp_X3_keyByCost_31 Q K2 vLg x1 x2 x3)) ∧ (r_2 = 0 → (wp_X3_countCheaper (fun (r_5 : Int32) => ((¬ r_5 = x2 → (wp_X3_keyByCost_31 Q K2 vLg x1 x2 x3)) ∧ (r_5 = x2 → (Q x3)))) x3 x1 vLg)))) x3 x1 vLg)))
set_option maxRecDepth 20000 in
theorem lb_X3_keyByCost_2 {X : List Cond} {l : Launch} {D : va_G} {G : Nat → ClassId} {C : Cx} {bs0 : List va_W} {hLg : Nat} {qLg : Nat → Nat} {Q : Int32 → Prop} {K2 : Int32 → Int32 → Int32 → Prop} {vLg : OV} (F : GF C X cX3_keyByCost wsX3_keyByCost RX3 rm_X3_keyByCost 4 (some .int) D G l) (E : GE C bs0 0 0 (po_X3_keyByCost G hLg qLg vLg Q)) (hK2 : ∀ (x1 x2 x3 : Int32), K2 x1 x2 x3 → GW C 0 0 [bLg G hLg qLg vLg] 2 [(0, .ref hLg), (1, .int x1), (2, .int x2), (3, .int x3)] []) {x1 x2 x3 : Int32} (hw : wp_X3_keyByCost_2 Q K2 vLg x1 x2 x3) : GW C 0 0 [bLg G hLg qLg vLg] 2 [(0, .ref hLg), (1, .int x1), (2, .int x2), (3, .int x3)] [] := by
  unfold wp_X3_keyByCost_2 at hw
  refine gw_iload_n F dX3_keyByCost_2 3 rfl ?_
  refine gw_aload_n F dX3_keyByCost_3 0 rfl ?_
  refine gw_get F in_X3_keyByCost_RX3 0 rfl rfl 8 (by decide) lk_X3_keyByCost_36 rfl dX3_keyByCost_4 ?_
  refine gw_icmp_ge (tgt := 37) F dX3_keyByCost_7 (by decide) (fun c_1 => ?_) (fun c_1 => ?_)
  · have hw := hw.1 c_1
    refine gw_iconst (v := (-1 : Int32)) F dX3_keyByCost_37 ic_iconst_m1 ?_
    exact gw_iret F E rfl rfl (Nat.le_of_ble_eq_true rfl) (Nat.le_of_ble_eq_true rfl) dX3_keyByCost_38 ⟨_, rfl, rfl, hw⟩
  · have hw := hw.2 c_1
    refine gw_aload_n F dX3_keyByCost_10 0 rfl ?_
    refine gw_iload_n F dX3_keyByCost_11 3 rfl ?_
    refine gw_iload_n F dX3_keyByCost_12 1 rfl ?_
    refine gw_callV F (ct_X3_hasBar hw) 2 gX3_keyByCost_X3_hasBar rfl rfl rfl hd_X3_hasBar ⟨(Nat.le_of_ble_eq_true rfl), (Nat.le_of_ble_eq_true rfl)⟩ rfl rfl (Nat.le_of_ble_eq_true rfl) ⟨Nat.zero_le _, Nat.zero_le _⟩ [0] (bsr := []) rfl rfl (q0 := 0) rfl rfl dX3_keyByCost_13 ?_
    rintro _ _ ⟨r_2, rfl, rfl, hw⟩
    refine gw_sel [0] (bs' := [bLg G hLg qLg vLg]) rfl rfl ?_
    change GW C 0 0 _ 16 _ [.int r_2]
    refine gw_if_ne (tgt := 31) F dX3_keyByCost_16 (by decide) (fun c_3 => ?_) (fun c_3 => ?_)
    · have hw := hw.1 c_3
      exact lb_X3_keyByCost_31 F E hK2 hw
    · have hw := hw.2 c_3
      refine gw_aload_n F dX3_keyByCost_19 0 rfl ?_
      refine gw_iload_n F dX3_keyByCost_20 3 rfl ?_
      refine gw_iload_n F dX3_keyByCost_21 1 rfl ?_
      refine gw_callV F (ct_X3_countCheaper hw) 2 gX3_keyByCost_X3_countCheaper rfl rfl rfl hd_X3_countCheaper ⟨(Nat.le_of_ble_eq_true rfl), (Nat.le_of_ble_eq_true rfl)⟩ rfl rfl (Nat.le_of_ble_eq_true rfl) ⟨Nat.zero_le _, Nat.zero_le _⟩ [0] (bsr := []) rfl rfl (q0 := 0) rfl rfl dX3_keyByCost_22 ?_
      rintro _ _ ⟨r_5, rfl, rfl, hw⟩
      refine gw_sel [0] (bs' := [bLg G hLg qLg vLg]) rfl rfl ?_
      change GW C 0 0 _ 25 _ [.int r_5]
      refine gw_iload_n F dX3_keyByCost_25 2 rfl ?_
      refine gw_icmp_ne (tgt := 31) F dX3_keyByCost_26 (by decide) (fun c_6 => ?_) (fun c_6 => ?_)
      · have hw := hw.1 c_6
        exact lb_X3_keyByCost_31 F E hK2 hw
      · have hw := hw.2 c_6
        refine gw_iload_n F dX3_keyByCost_29 3 rfl ?_
        exact gw_iret F E rfl rfl (Nat.le_of_ble_eq_true rfl) (Nat.le_of_ble_eq_true rfl) dX3_keyByCost_30 ⟨_, rfl, rfl, hw⟩
def wp_X3_keyByCost_2_loop (Q : Int32 → Prop) (vLg : OV) : Nat → Int32 → Int32 → Int32 → Prop
  | 0, _, _, _ => False
  | n + 1, x1, x2, x3 => wp_X3_keyByCost_2 Q (wp_X3_keyByCost_2_loop Q vLg n) vLg x1 x2 x3
theorem lp_X3_keyByCost_2 {X : List Cond} {l : Launch} {D : va_G} {G : Nat → ClassId} {C : Cx} {bs0 : List va_W} {hLg : Nat} {qLg : Nat → Nat} {Q : Int32 → Prop} {vLg : OV} (F : GF C X cX3_keyByCost wsX3_keyByCost RX3 rm_X3_keyByCost 4 (some .int) D G l) (E : GE C bs0 0 0 (po_X3_keyByCost G hLg qLg vLg Q)) : ∀ (n : Nat) (x1 x2 x3 : Int32), wp_X3_keyByCost_2_loop Q vLg n x1 x2 x3 → GW C 0 0 [bLg G hLg qLg vLg] 2 [(0, .ref hLg), (1, .int x1), (2, .int x2), (3, .int x3)] [] := by
  intro n
  induction n with
  | zero => intro x1 x2 x3 hw; exact False.elim hw
  | succ n ih => intro x1 x2 x3 hw; exact lb_X3_keyByCost_2 (K2 := wp_X3_keyByCost_2_loop Q vLg n) F E ih hw
def wp_X3_keyByCost_0 (Q : Int32 → Prop) (vLg : OV) (x1 : Int32) (x2 : Int32) : Prop :=
  (∃ n_7 : Nat, wp_X3_keyByCost_2_loop Q vLg n_7 x1 x2 (0 : Int32))
set_option maxRecDepth 20000 in
theorem lb_X3_keyByCost_0 {X : List Cond} {l : Launch} {D : va_G} {G : Nat → ClassId} {C : Cx} {bs0 : List va_W} {hLg : Nat} {qLg : Nat → Nat} {Q : Int32 → Prop} {vLg : OV} (F : GF C X cX3_keyByCost wsX3_keyByCost RX3 rm_X3_keyByCost 4 (some .int) D G l) (E : GE C bs0 0 0 (po_X3_keyByCost G hLg qLg vLg Q)) {x1 : Int32} {x2 : Int32} (hw : wp_X3_keyByCost_0 Q vLg x1 x2) : GW C 0 0 [bLg G hLg qLg vLg] 0 [(0, .ref hLg), (1, .int x1), (2, .int x2)] [] := by
  unfold wp_X3_keyByCost_0 at hw
  refine gw_iconst (v := (0 : Int32)) F dX3_keyByCost_0 ic_iconst_0 ?_
  refine gw_istore_n (lv' := [(3, .int (0 : Int32)), (0, .ref hLg), (1, .int x1), (2, .int x2)]) F dX3_keyByCost_1 (by decide) rfl ?_
  refine gw_lv [1, 2, 3, 0] rfl ?_
  obtain ⟨n_7, hw⟩ := hw
  exact lp_X3_keyByCost_2 F E n_7 _ _ _ hw
def wp_X3_keyByCost (Q : Int32 → Prop) (x1 : Int32) (x2 : Int32) (vLg : OV) : Prop := wp_X3_keyByCost_0 Q vLg x1 x2
theorem ct_X3_keyByCost {X : List Cond} {l : Launch} {D : va_G} {G : Nat → ClassId} {hLg : Nat} {qLg : Nat → Nat} {Q : Int32 → Prop} {x1 : Int32} {x2 : Int32} {vLg : OV} (hw : wp_X3_keyByCost Q x1 x2 vLg) : CM X l yX3_keyByCost wsX3_keyByCost rm_X3_keyByCost D G [.ref hLg, .int x1, .int x2] [bLg G hLg qLg vLg] 0 0 (po_X3_keyByCost G hLg qLg vLg Q) :=
  CM.of pn_RX3 rfl rfl (Nat.le_of_ble_eq_true rfl) rfl (fun C F E => lb_X3_keyByCost_0 F E hw)
-- X3_isRankedBefore
abbrev rm_X3_isRankedBefore : Room := { frames := 4, cells := 0, slots := 0, locals := 128 }
def po_X3_isRankedBefore (G : Nat → ClassId) (hLg : Nat) (qLg : Nat → Nat) (vLg : OV) (Q : Int32 → Prop) : Option Value → List va_W → Prop := fun o bs => ∃ (r : Int32), o = some (.int r) ∧ bs = [bLg G hLg qLg vLg] ∧ Q r
theorem hd_X3_isRankedBefore : yX3_isRankedBefore.cls = RX3 ∧ yX3_isRankedBefore.cls ≠ "java/lang/invoke/MethodHandle" ∧ yX3_isRankedBefore.cls ≠ "java/lang/invoke/VarHandle" ∧ (parseMethodDescriptor yX3_isRankedBefore.desc).map (fun d => d.parameters.length) = some 2 := by decide +kernel
def wp_X3_isRankedBefore_83 (Q : Int32 → Prop) (vLg : OV) (s0 : Int32) : Prop :=
  (narrow .boolean (.int s0) = .int s0 ∧ Q s0)
set_option maxRecDepth 20000 in
theorem lb_X3_isRankedBefore_83 {X : List Cond} {l : Launch} {D : va_G} {G : Nat → ClassId} {C : Cx} {bs0 : List va_W} {hLg : Nat} {qLg : Nat → Nat} {Q : Int32 → Prop} {vLg : OV} (F : GF C X cX3_isRankedBefore wsX3_isRankedBefore RX3 rm_X3_isRankedBefore 7 (some .boolean) D G l) (E : GE C bs0 0 0 (po_X3_isRankedBefore G hLg qLg vLg Q)) {s0 : Int32} (hw : wp_X3_isRankedBefore_83 Q vLg s0) : GW C 0 0 [bLg G hLg qLg vLg] 83 [] [.int s0] := by
  unfold wp_X3_isRankedBefore_83 at hw
  obtain ⟨hn, hw⟩ := hw
  exact gw_iret F E rfl hn (Nat.le_of_ble_eq_true rfl) (Nat.le_of_ble_eq_true rfl) dX3_isRankedBefore_83 ⟨_, rfl, rfl, hw⟩
def wp_X3_isRankedBefore_30 (Q : Int32 → Prop) (vLg : OV) (s0 : Int32) : Prop :=
  (narrow .boolean (.int s0) = .int s0 ∧ Q s0)
set_option maxRecDepth 20000 in
theorem lb_X3_isRankedBefore_30 {X : List Cond} {l : Launch} {D : va_G} {G : Nat → ClassId} {C : Cx} {bs0 : List va_W} {hLg : Nat} {qLg : Nat → Nat} {Q : Int32 → Prop} {vLg : OV} (F : GF C X cX3_isRankedBefore wsX3_isRankedBefore RX3 rm_X3_isRankedBefore 7 (some .boolean) D G l) (E : GE C bs0 0 0 (po_X3_isRankedBefore G hLg qLg vLg Q)) {s0 : Int32} (hw : wp_X3_isRankedBefore_30 Q vLg s0) : GW C 0 0 [bLg G hLg qLg vLg] 30 [] [.int s0] := by
  unfold wp_X3_isRankedBefore_30 at hw
  obtain ⟨hn, hw⟩ := hw
  exact gw_iret F E rfl hn (Nat.le_of_ble_eq_true rfl) (Nat.le_of_ble_eq_true rfl) dX3_isRankedBefore_30 ⟨_, rfl, rfl, hw⟩
def wp_X3_isRankedBefore_0 (Q : Int32 → Prop) (vLg : OV) (x1 : Int32) (x2 : Int32) : Prop :=
  (wp_X3_countLocksFor (fun (r_1 : Int32) => (wp_X3_countLocksFor (fun (r_2 : Int32) => ((r_1 = r_2 → (wp_X3_wardsOf (fun (r_4 : Int32) => (wp_J6_bitCount_0f7a4 (fun (r_5 : Int32) => (wp_X3_wardsOf (fun (r_6 : Int32) => (wp_J6_bitCount_0f7a4 (fun (r_7 : Int32) => ((r_5 = r_7 → ((x2 ≤ x1 → (wp_X3_isRankedBefore_83 Q vLg (0 : Int32))) ∧ (¬ (x2 ≤ x1) → (wp_X3_isRankedBefore_83 Q vLg (1 : Int32))))) ∧ (¬ (r_5 = r_7) → ((r_5 ≤ r_7 → (wp_X3_isRankedBefore_83 Q vLg (0 : Int32))) ∧ (¬ (r_5 ≤ r_7) → (wp_X3_isRankedBefore_83 Q vLg (1 : Int32))))))) r_6)) x2 vLg)) r_4)) x1 vLg)) ∧ (¬ (r_1 = r_2) → ((r_2 ≤ r_1 → (wp_X3_isRankedBefore_30 Q vLg (0 : Int32))) ∧ (¬ (r_2 ≤ r_1) → (wp_X3_isRankedBefore_30 Q vLg (1 : Int32))))))) x2 vLg)) x1 vLg)
set_option maxRecDepth 20000 in
theorem lb_X3_isRankedBefore_0 {X : List Cond} {l : Launch} {D : va_G} {G : Nat → ClassId} {C : Cx} {bs0 : List va_W} {hLg : Nat} {qLg : Nat → Nat} {Q : Int32 → Prop} {vLg : OV} (F : GF C X cX3_isRankedBefore wsX3_isRankedBefore RX3 rm_X3_isRankedBefore 7 (some .boolean) D G l) (E : GE C bs0 0 0 (po_X3_isRankedBefore G hLg qLg vLg Q)) {x1 : Int32} {x2 : Int32} (hw : wp_X3_isRankedBefore_0 Q vLg x1 x2) : GW C 0 0 [bLg G hLg qLg vLg] 0 [(0, .ref hLg), (1, .int x1), (2, .int x2)] [] := by
  unfold wp_X3_isRankedBefore_0 at hw
  refine gw_aload_n F dX3_isRankedBefore_0 0 rfl ?_
  refine gw_iload_n F dX3_isRankedBefore_1 1 rfl ?_
  refine gw_callV F (ct_X3_countLocksFor hw) 1 gX3_isRankedBefore_X3_countLocksFor rfl rfl rfl hd_X3_countLocksFor ⟨(Nat.le_of_ble_eq_true rfl), (Nat.le_of_ble_eq_true rfl)⟩ rfl rfl (Nat.le_of_ble_eq_true rfl) ⟨Nat.zero_le _, Nat.zero_le _⟩ [0] (bsr := []) rfl rfl (q0 := 0) rfl rfl dX3_isRankedBefore_2 ?_
  rintro _ _ ⟨r_1, rfl, rfl, hw⟩
  refine gw_sel [0] (bs' := [bLg G hLg qLg vLg]) rfl rfl ?_
  change GW C 0 0 _ 5 _ [.int r_1]
  refine gw_istore_n (lv' := [(3, .int r_1), (0, .ref hLg), (1, .int x1), (2, .int x2)]) F dX3_isRankedBefore_5 (by decide) rfl ?_
  refine gw_aload_n F dX3_isRankedBefore_6 1 rfl ?_
  refine gw_iload_n F dX3_isRankedBefore_7 3 rfl ?_
  refine gw_callV F (ct_X3_countLocksFor hw) 1 gX3_isRankedBefore_X3_countLocksFor rfl rfl rfl hd_X3_countLocksFor ⟨(Nat.le_of_ble_eq_true rfl), (Nat.le_of_ble_eq_true rfl)⟩ rfl rfl (Nat.le_of_ble_eq_true rfl) ⟨Nat.zero_le _, Nat.zero_le _⟩ [0] (bsr := []) rfl rfl (q0 := 0) rfl rfl dX3_isRankedBefore_8 ?_
  rintro _ _ ⟨r_2, rfl, rfl, hw⟩
  refine gw_sel [0] (bs' := [bLg G hLg qLg vLg]) rfl rfl ?_
  change GW C 0 0 _ 11 _ [.int r_2]
  refine gw_istore (lv' := [(4, .int r_2), (3, .int r_1), (0, .ref hLg), (1, .int x1), (2, .int x2)]) F dX3_isRankedBefore_11 (by decide) rfl ?_
  refine gw_iload_n F dX3_isRankedBefore_13 1 rfl ?_
  refine gw_iload F dX3_isRankedBefore_14 0 rfl ?_
  refine gw_icmp_eq (tgt := 31) F dX3_isRankedBefore_16 (by decide) (fun c_3 => ?_) (fun c_3 => ?_)
  · have hw := hw.1 c_3
    refine gw_aload_n F dX3_isRankedBefore_31 2 rfl ?_
    refine gw_iload_n F dX3_isRankedBefore_32 3 rfl ?_
    refine gw_callV F (ct_X3_wardsOf hw) 1 gX3_isRankedBefore_X3_wardsOf rfl rfl rfl hd_X3_wardsOf ⟨(Nat.le_of_ble_eq_true rfl), (Nat.le_of_ble_eq_true rfl)⟩ rfl rfl (Nat.le_of_ble_eq_true rfl) ⟨Nat.zero_le _, Nat.zero_le _⟩ [0] (bsr := []) rfl rfl (q0 := 0) rfl rfl dX3_isRankedBefore_33 ?_
    rintro _ _ ⟨r_4, rfl, rfl, hw⟩
    refine gw_sel [0] (bs' := [bLg G hLg qLg vLg]) rfl rfl ?_
    change GW C 0 0 _ 36 _ [.int r_4]
    refine gw_callS F (ct_J6_bitCount_0f7a4 hw) 1 gX3_isRankedBefore_J6_bitCount_0f7a4 rfl rfl rfl hd_J6_bitCount_0f7a4 ⟨(Nat.le_of_ble_eq_true rfl), (Nat.le_of_ble_eq_true rfl)⟩ rfl rfl (Nat.le_of_ble_eq_true rfl) ⟨Nat.zero_le _, Nat.zero_le _⟩ [0] (bsr := [bLg G hLg qLg vLg]) rfl rfl dX3_isRankedBefore_36 ?_
    rintro _ _ ⟨r_5, rfl, rfl, hw⟩
    refine gw_sel [0] (bs' := [bLg G hLg qLg vLg]) rfl rfl ?_
    change GW C 0 0 _ 39 _ [.int r_5]
    refine gw_istore (lv' := [(5, .int r_5), (4, .int r_2), (3, .int r_1), (0, .ref hLg), (1, .int x1), (2, .int x2)]) F dX3_isRankedBefore_39 (by decide) rfl ?_
    refine gw_aload_n F dX3_isRankedBefore_41 3 rfl ?_
    refine gw_iload_n F dX3_isRankedBefore_42 5 rfl ?_
    refine gw_callV F (ct_X3_wardsOf hw) 1 gX3_isRankedBefore_X3_wardsOf rfl rfl rfl hd_X3_wardsOf ⟨(Nat.le_of_ble_eq_true rfl), (Nat.le_of_ble_eq_true rfl)⟩ rfl rfl (Nat.le_of_ble_eq_true rfl) ⟨Nat.zero_le _, Nat.zero_le _⟩ [0] (bsr := []) rfl rfl (q0 := 0) rfl rfl dX3_isRankedBefore_43 ?_
    rintro _ _ ⟨r_6, rfl, rfl, hw⟩
    refine gw_sel [0] (bs' := [bLg G hLg qLg vLg]) rfl rfl ?_
    change GW C 0 0 _ 46 _ [.int r_6]
    refine gw_callS F (ct_J6_bitCount_0f7a4 hw) 1 gX3_isRankedBefore_J6_bitCount_0f7a4 rfl rfl rfl hd_J6_bitCount_0f7a4 ⟨(Nat.le_of_ble_eq_true rfl), (Nat.le_of_ble_eq_true rfl)⟩ rfl rfl (Nat.le_of_ble_eq_true rfl) ⟨Nat.zero_le _, Nat.zero_le _⟩ [0] (bsr := [bLg G hLg qLg vLg]) rfl rfl dX3_isRankedBefore_46 ?_
    rintro _ _ ⟨r_7, rfl, rfl, hw⟩
    refine gw_sel [0] (bs' := [bLg G hLg qLg vLg]) rfl rfl ?_
    change GW C 0 0 _ 49 _ [.int r_7]
    refine gw_istore (lv' := [(6, .int r_7), (5, .int r_5), (4, .int r_2), (3, .int r_1), (0, .ref hLg), (1, .int x1), (2, .int x2)]) F dX3_isRankedBefore_49 (by decide) rfl ?_
    refine gw_iload F dX3_isRankedBefore_51 1 rfl ?_
    refine gw_iload F dX3_isRankedBefore_53 0 rfl ?_
    refine gw_icmp_eq (tgt := 73) F dX3_isRankedBefore_55 (by decide) (fun c_8 => ?_) (fun c_8 => ?_)
    · have hw := hw.1 c_8
      refine gw_iload_n F dX3_isRankedBefore_73 5 rfl ?_
      refine gw_iload_n F dX3_isRankedBefore_74 6 rfl ?_
      refine gw_icmp_ge (tgt := 82) F dX3_isRankedBefore_75 (by decide) (fun c_9 => ?_) (fun c_9 => ?_)
      · have hw := hw.1 c_9
        refine gw_iconst (v := (0 : Int32)) F dX3_isRankedBefore_82 ic_iconst_0 ?_
        refine gw_lv [] rfl ?_
        exact lb_X3_isRankedBefore_83 F E hw
      · have hw := hw.2 c_9
        refine gw_iconst (v := (1 : Int32)) F dX3_isRankedBefore_78 ic_iconst_1 ?_
        refine gw_goto (tgt := 83) F dX3_isRankedBefore_79 (by decide) ?_
        refine gw_lv [] rfl ?_
        exact lb_X3_isRankedBefore_83 F E hw
    · have hw := hw.2 c_8
      refine gw_iload F dX3_isRankedBefore_58 1 rfl ?_
      refine gw_iload F dX3_isRankedBefore_60 0 rfl ?_
      refine gw_icmp_le (tgt := 69) F dX3_isRankedBefore_62 (by decide) (fun c_10 => ?_) (fun c_10 => ?_)
      · have hw := hw.1 c_10
        refine gw_iconst (v := (0 : Int32)) F dX3_isRankedBefore_69 ic_iconst_0 ?_
        refine gw_goto (tgt := 83) F dX3_isRankedBefore_70 (by decide) ?_
        refine gw_lv [] rfl ?_
        exact lb_X3_isRankedBefore_83 F E hw
      · have hw := hw.2 c_10
        refine gw_iconst (v := (1 : Int32)) F dX3_isRankedBefore_65 ic_iconst_1 ?_
        refine gw_goto (tgt := 83) F dX3_isRankedBefore_66 (by decide) ?_
        refine gw_lv [] rfl ?_
        exact lb_X3_isRankedBefore_83 F E hw
  · have hw := hw.2 c_3
    refine gw_iload_n F dX3_isRankedBefore_19 1 rfl ?_
    refine gw_iload F dX3_isRankedBefore_20 0 rfl ?_
    refine gw_icmp_ge (tgt := 29) F dX3_isRankedBefore_22 (by decide) (fun c_11 => ?_) (fun c_11 => ?_)
    · have hw := hw.1 c_11
      refine gw_iconst (v := (0 : Int32)) F dX3_isRankedBefore_29 ic_iconst_0 ?_
      refine gw_lv [] rfl ?_
      exact lb_X3_isRankedBefore_30 F E hw
    · have hw := hw.2 c_11
      refine gw_iconst (v := (1 : Int32)) F dX3_isRankedBefore_25 ic_iconst_1 ?_
      refine gw_goto (tgt := 30) F dX3_isRankedBefore_26 (by decide) ?_
      refine gw_lv [] rfl ?_
      exact lb_X3_isRankedBefore_30 F E hw
def wp_X3_isRankedBefore (Q : Int32 → Prop) (x1 : Int32) (x2 : Int32) (vLg : OV) : Prop := wp_X3_isRankedBefore_0 Q vLg x1 x2
theorem ct_X3_isRankedBefore {X : List Cond} {l : Launch} {D : va_G} {G : Nat → ClassId} {hLg : Nat} {qLg : Nat → Nat} {Q : Int32 → Prop} {x1 : Int32} {x2 : Int32} {vLg : OV} (hw : wp_X3_isRankedBefore Q x1 x2 vLg) : CM X l yX3_isRankedBefore wsX3_isRankedBefore rm_X3_isRankedBefore D G [.ref hLg, .int x1, .int x2] [bLg G hLg qLg vLg] 0 0 (po_X3_isRankedBefore G hLg qLg vLg Q) :=
  CM.of pn_RX3 rfl rfl (Nat.le_of_ble_eq_true rfl) rfl (fun C F E => lb_X3_isRankedBefore_0 F E hw)
-- X3_countRankedBefore
abbrev rm_X3_countRankedBefore : Room := { frames := 5, cells := 0, slots := 0, locals := 154 }
def po_X3_countRankedBefore (G : Nat → ClassId) (hLg : Nat) (qLg : Nat → Nat) (vLg : OV) (Q : Int32 → Prop) : Option Value → List va_W → Prop := fun o bs => ∃ (r : Int32), o = some (.int r) ∧ bs = [bLg G hLg qLg vLg] ∧ Q r
theorem hd_X3_countRankedBefore : yX3_countRankedBefore.cls = RX3 ∧ yX3_countRankedBefore.cls ≠ "java/lang/invoke/MethodHandle" ∧ yX3_countRankedBefore.cls ≠ "java/lang/invoke/VarHandle" ∧ (parseMethodDescriptor yX3_countRankedBefore.desc).map (fun d => d.parameters.length) = some 1 := by decide +kernel
theorem in_X3_countRankedBefore_RX3 : ∀ w ∈ wsX30, w ∈ wsX3_countRankedBefore := fun w h => List.mem_cons_of_mem _ (List.mem_append_left _ (List.mem_append_right _ h))
theorem lk_X3_countRankedBefore_36 : Cond.fieldLink RX3 36 "KeyWaves$Lodge" "keys" "I" ∈ wsX3_countRankedBefore := List.mem_cons_of_mem _ (List.mem_append_left _ (List.mem_append_left _ (List.mem_append_left _ (List.mem_of_getElem? (i := 0) rfl))))
def wp_X3_countRankedBefore_24 (Q : Int32 → Prop) (K4 : Int32 → Int32 → Int32 → Prop) (vLg : OV) (x1 x2 x3 : Int32) : Prop :=
  (∀ i_4 : Int32, i_4 = x3 + (1 : Int32) → (K4 x1 x2 i_4))
set_option maxRecDepth 20000 in
theorem lb_X3_countRankedBefore_24 {X : List Cond} {l : Launch} {D : va_G} {G : Nat → ClassId} {C : Cx} {bs0 : List va_W} {hLg : Nat} {qLg : Nat → Nat} {Q : Int32 → Prop} {K4 : Int32 → Int32 → Int32 → Prop} {vLg : OV} (F : GF C X cX3_countRankedBefore wsX3_countRankedBefore RX3 rm_X3_countRankedBefore 4 (some .int) D G l) (E : GE C bs0 0 0 (po_X3_countRankedBefore G hLg qLg vLg Q)) (hK4 : ∀ (x1 x2 x3 : Int32), K4 x1 x2 x3 → GW C 0 0 [bLg G hLg qLg vLg] 4 [(0, .ref hLg), (1, .int x1), (2, .int x2), (3, .int x3)] []) {x1 x2 x3 : Int32} (hw : wp_X3_countRankedBefore_24 Q K4 vLg x1 x2 x3) : GW C 0 0 [bLg G hLg qLg vLg] 24 [(0, .ref hLg), (1, .int x1), (2, .int x2), (3, .int x3)] [] := by
  unfold wp_X3_countRankedBefore_24 at hw
  obtain ⟨i_4, e_i_4⟩ : ∃ z : Int32, z = x3 + (1 : Int32) := ⟨_, rfl⟩
  have hw := hw i_4 e_i_4
  refine gw_iinc (v := i_4) (lv' := [(3, .int i_4), (0, .ref hLg), (1, .int x1), (2, .int x2)]) F dX3_countRankedBefore_24 3 rfl (by rw [e_i_4]; rfl) (by decide) rfl ?_
  refine gw_goto (tgt := 4) F dX3_countRankedBefore_27 (by decide) ?_
  refine gw_lv [1, 2, 3, 0] rfl ?_
  exact hK4 _ _ _ hw
def wp_X3_countRankedBefore_4 (Q : Int32 → Prop) (K4 : Int32 → Int32 → Int32 → Prop) (vLg : OV) (x1 x2 x3 : Int32) : Prop :=
  (((vLg.2 8) ≤ x3 → (Q x2)) ∧ (¬ ((vLg.2 8) ≤ x3) → (wp_X3_isRankedBefore (fun (r_2 : Int32) => ((r_2 = 0 → (wp_X3_countRankedBefore_24 Q K4 vLg x1 x2 x3)) ∧ (¬ (r_2 = 0) → (∀ i_5 : Int32, i_5 = x2 + (1 : Int32) → (wp_X3_countRankedBefore_24 Q K4 vLg x1 i_5 x3))))) x3 x1 vLg)))
set_option maxRecDepth 20000 in
theorem lb_X3_countRankedBefore_4 {X : List Cond} {l : Launch} {D : va_G} {G : Nat → ClassId} {C : Cx} {bs0 : List va_W} {hLg : Nat} {qLg : Nat → Nat} {Q : Int32 → Prop} {K4 : Int32 → Int32 → Int32 → Prop} {vLg : OV} (F : GF C X cX3_countRankedBefore wsX3_countRankedBefore RX3 rm_X3_countRankedBefore 4 (some .int) D G l) (E : GE C bs0 0 0 (po_X3_countRankedBefore G hLg qLg vLg Q)) (hK4 : ∀ (x1 x2 x3 : Int32), K4 x1 x2 x3 → GW C 0 0 [bLg G hLg qLg vLg] 4 [(0, .ref hLg), (1, .int x1), (2, .int x2), (3, .int x3)] []) {x1 x2 x3 : Int32} (hw : wp_X3_countRankedBefore_4 Q K4 vLg x1 x2 x3) : GW C 0 0 [bLg G hLg qLg vLg] 4 [(0, .ref hLg), (1, .int x1), (2, .int x2), (3, .int x3)] [] := by
  unfold wp_X3_countRankedBefore_4 at hw
  refine gw_iload_n F dX3_countRankedBefore_4 3 rfl ?_
  refine gw_aload_n F dX3_countRankedBefore_5 0 rfl ?_
  refine gw_get F in_X3_countRankedBefore_RX3 0 rfl rfl 8 (by decide) lk_X3_countRankedBefore_36 rfl dX3_countRankedBefore_6 ?_
  refine gw_icmp_ge (tgt := 30) F dX3_countRankedBefore_9 (by decide) (fun c_1 => ?_) (fun c_1 => ?_)
  · have hw := hw.1 c_1
    refine gw_iload_n F dX3_countRankedBefore_30 2 rfl ?_
    exact gw_iret F E rfl rfl (Nat.le_of_ble_eq_true rfl) (Nat.le_of_ble_eq_true rfl) dX3_countRankedBefore_31 ⟨_, rfl, rfl, hw⟩
  · have hw := hw.2 c_1
    refine gw_aload_n F dX3_countRankedBefore_12 0 rfl ?_
    refine gw_iload_n F dX3_countRankedBefore_13 3 rfl ?_
    refine gw_iload_n F dX3_countRankedBefore_14 1 rfl ?_
    refine gw_callV F (ct_X3_isRankedBefore hw) 2 gX3_countRankedBefore_X3_isRankedBefore rfl rfl rfl hd_X3_isRankedBefore ⟨(Nat.le_of_ble_eq_true rfl), (Nat.le_of_ble_eq_true rfl)⟩ rfl rfl (Nat.le_of_ble_eq_true rfl) ⟨Nat.zero_le _, Nat.zero_le _⟩ [0] (bsr := []) rfl rfl (q0 := 0) rfl rfl dX3_countRankedBefore_15 ?_
    rintro _ _ ⟨r_2, rfl, rfl, hw⟩
    refine gw_sel [0] (bs' := [bLg G hLg qLg vLg]) rfl rfl ?_
    change GW C 0 0 _ 18 _ [.int r_2]
    refine gw_if_eq (tgt := 24) F dX3_countRankedBefore_18 (by decide) (fun c_3 => ?_) (fun c_3 => ?_)
    · have hw := hw.1 c_3
      exact lb_X3_countRankedBefore_24 F E hK4 hw
    · have hw := hw.2 c_3
      obtain ⟨i_5, e_i_5⟩ : ∃ z : Int32, z = x2 + (1 : Int32) := ⟨_, rfl⟩
      have hw := hw i_5 e_i_5
      refine gw_iinc (v := i_5) (lv' := [(2, .int i_5), (0, .ref hLg), (1, .int x1), (3, .int x3)]) F dX3_countRankedBefore_21 2 rfl (by rw [e_i_5]; rfl) (by decide) rfl ?_
      refine gw_lv [1, 2, 0, 3] rfl ?_
      exact lb_X3_countRankedBefore_24 F E hK4 hw
def wp_X3_countRankedBefore_4_loop (Q : Int32 → Prop) (vLg : OV) : Nat → Int32 → Int32 → Int32 → Prop
  | 0, _, _, _ => False
  | n + 1, x1, x2, x3 => wp_X3_countRankedBefore_4 Q (wp_X3_countRankedBefore_4_loop Q vLg n) vLg x1 x2 x3
theorem lp_X3_countRankedBefore_4 {X : List Cond} {l : Launch} {D : va_G} {G : Nat → ClassId} {C : Cx} {bs0 : List va_W} {hLg : Nat} {qLg : Nat → Nat} {Q : Int32 → Prop} {vLg : OV} (F : GF C X cX3_countRankedBefore wsX3_countRankedBefore RX3 rm_X3_countRankedBefore 4 (some .int) D G l) (E : GE C bs0 0 0 (po_X3_countRankedBefore G hLg qLg vLg Q)) : ∀ (n : Nat) (x1 x2 x3 : Int32), wp_X3_countRankedBefore_4_loop Q vLg n x1 x2 x3 → GW C 0 0 [bLg G hLg qLg vLg] 4 [(0, .ref hLg), (1, .int x1), (2, .int x2), (3, .int x3)] [] := by
  intro n
  induction n with
  | zero => intro x1 x2 x3 hw; exact False.elim hw
  | succ n ih => intro x1 x2 x3 hw; exact lb_X3_countRankedBefore_4 (K4 := wp_X3_countRankedBefore_4_loop Q vLg n) F E ih hw
def wp_X3_countRankedBefore_0 (Q : Int32 → Prop) (vLg : OV) (x1 : Int32) : Prop :=
  (∃ n_6 : Nat, wp_X3_countRankedBefore_4_loop Q vLg n_6 x1 (0 : Int32) (0 : Int32))
set_option maxRecDepth 20000 in
theorem lb_X3_countRankedBefore_0 {X : List Cond} {l : Launch} {D : va_G} {G : Nat → ClassId} {C : Cx} {bs0 : List va_W} {hLg : Nat} {qLg : Nat → Nat} {Q : Int32 → Prop} {vLg : OV} (F : GF C X cX3_countRankedBefore wsX3_countRankedBefore RX3 rm_X3_countRankedBefore 4 (some .int) D G l) (E : GE C bs0 0 0 (po_X3_countRankedBefore G hLg qLg vLg Q)) {x1 : Int32} (hw : wp_X3_countRankedBefore_0 Q vLg x1) : GW C 0 0 [bLg G hLg qLg vLg] 0 [(0, .ref hLg), (1, .int x1)] [] := by
  unfold wp_X3_countRankedBefore_0 at hw
  refine gw_iconst (v := (0 : Int32)) F dX3_countRankedBefore_0 ic_iconst_0 ?_
  refine gw_istore_n (lv' := [(2, .int (0 : Int32)), (0, .ref hLg), (1, .int x1)]) F dX3_countRankedBefore_1 (by decide) rfl ?_
  refine gw_iconst (v := (0 : Int32)) F dX3_countRankedBefore_2 ic_iconst_0 ?_
  refine gw_istore_n (lv' := [(3, .int (0 : Int32)), (2, .int (0 : Int32)), (0, .ref hLg), (1, .int x1)]) F dX3_countRankedBefore_3 (by decide) rfl ?_
  refine gw_lv [2, 3, 1, 0] rfl ?_
  obtain ⟨n_6, hw⟩ := hw
  exact lp_X3_countRankedBefore_4 F E n_6 _ _ _ hw
def wp_X3_countRankedBefore (Q : Int32 → Prop) (x1 : Int32) (vLg : OV) : Prop := wp_X3_countRankedBefore_0 Q vLg x1
theorem ct_X3_countRankedBefore {X : List Cond} {l : Launch} {D : va_G} {G : Nat → ClassId} {hLg : Nat} {qLg : Nat → Nat} {Q : Int32 → Prop} {x1 : Int32} {vLg : OV} (hw : wp_X3_countRankedBefore Q x1 vLg) : CM X l yX3_countRankedBefore wsX3_countRankedBefore rm_X3_countRankedBefore D G [.ref hLg, .int x1] [bLg G hLg qLg vLg] 0 0 (po_X3_countRankedBefore G hLg qLg vLg Q) :=
  CM.of pn_RX3 rfl rfl (Nat.le_of_ble_eq_true rfl) rfl (fun C F E => lb_X3_countRankedBefore_0 F E hw)
-- X3_keyByRank
abbrev rm_X3_keyByRank : Room := { frames := 6, cells := 0, slots := 0, locals := 177 }
def po_X3_keyByRank (G : Nat → ClassId) (hLg : Nat) (qLg : Nat → Nat) (vLg : OV) (Q : Int32 → Prop) : Option Value → List va_W → Prop := fun o bs => ∃ (r : Int32), o = some (.int r) ∧ bs = [bLg G hLg qLg vLg] ∧ Q r
theorem hd_X3_keyByRank : yX3_keyByRank.cls = RX3 ∧ yX3_keyByRank.cls ≠ "java/lang/invoke/MethodHandle" ∧ yX3_keyByRank.cls ≠ "java/lang/invoke/VarHandle" ∧ (parseMethodDescriptor yX3_keyByRank.desc).map (fun d => d.parameters.length) = some 1 := by decide +kernel
theorem in_X3_keyByRank_RX3 : ∀ w ∈ wsX30, w ∈ wsX3_keyByRank := fun w h => List.mem_cons_of_mem _ (List.mem_append_left _ (List.mem_append_right _ h))
theorem lk_X3_keyByRank_36 : Cond.fieldLink RX3 36 "KeyWaves$Lodge" "keys" "I" ∈ wsX3_keyByRank := List.mem_cons_of_mem _ (List.mem_append_left _ (List.mem_append_left _ (List.mem_append_left _ (List.mem_of_getElem? (i := 0) rfl))))
def wp_X3_keyByRank_2 (Q : Int32 → Prop) (K2 : Int32 → Int32 → Prop) (vLg : OV) (x1 x2 : Int32) : Prop :=
  (((vLg.2 8) ≤ x2 → (Q (-1 : Int32))) ∧ (¬ ((vLg.2 8) ≤ x2) → (wp_X3_countRankedBefore (fun (r_2 : Int32) => ((¬ r_2 = x1 → (∀ i_4 : Int32, i_4 = x2 + (1 : Int32) → (K2 x1 i_4))) ∧ (r_2 = x1 → (Q x2)))) x2 vLg)))
set_option maxRecDepth 20000 in
theorem lb_X3_keyByRank_2 {X : List Cond} {l : Launch} {D : va_G} {G : Nat → ClassId} {C : Cx} {bs0 : List va_W} {hLg : Nat} {qLg : Nat → Nat} {Q : Int32 → Prop} {K2 : Int32 → Int32 → Prop} {vLg : OV} (F : GF C X cX3_keyByRank wsX3_keyByRank RX3 rm_X3_keyByRank 3 (some .int) D G l) (E : GE C bs0 0 0 (po_X3_keyByRank G hLg qLg vLg Q)) (hK2 : ∀ (x1 x2 : Int32), K2 x1 x2 → GW C 0 0 [bLg G hLg qLg vLg] 2 [(0, .ref hLg), (1, .int x1), (2, .int x2)] []) {x1 x2 : Int32} (hw : wp_X3_keyByRank_2 Q K2 vLg x1 x2) : GW C 0 0 [bLg G hLg qLg vLg] 2 [(0, .ref hLg), (1, .int x1), (2, .int x2)] [] := by
  unfold wp_X3_keyByRank_2 at hw
  refine gw_iload_n F dX3_keyByRank_2 2 rfl ?_
  refine gw_aload_n F dX3_keyByRank_3 0 rfl ?_
  refine gw_get F in_X3_keyByRank_RX3 0 rfl rfl 8 (by decide) lk_X3_keyByRank_36 rfl dX3_keyByRank_4 ?_
  refine gw_icmp_ge (tgt := 27) F dX3_keyByRank_7 (by decide) (fun c_1 => ?_) (fun c_1 => ?_)
  · have hw := hw.1 c_1
    refine gw_iconst (v := (-1 : Int32)) F dX3_keyByRank_27 ic_iconst_m1 ?_
    exact gw_iret F E rfl rfl (Nat.le_of_ble_eq_true rfl) (Nat.le_of_ble_eq_true rfl) dX3_keyByRank_28 ⟨_, rfl, rfl, hw⟩
  · have hw := hw.2 c_1
    refine gw_aload_n F dX3_keyByRank_10 0 rfl ?_
    refine gw_iload_n F dX3_keyByRank_11 2 rfl ?_
    refine gw_callV F (ct_X3_countRankedBefore hw) 1 gX3_keyByRank_X3_countRankedBefore rfl rfl rfl hd_X3_countRankedBefore ⟨(Nat.le_of_ble_eq_true rfl), (Nat.le_of_ble_eq_true rfl)⟩ rfl rfl (Nat.le_of_ble_eq_true rfl) ⟨Nat.zero_le _, Nat.zero_le _⟩ [0] (bsr := []) rfl rfl (q0 := 0) rfl rfl dX3_keyByRank_12 ?_
    rintro _ _ ⟨r_2, rfl, rfl, hw⟩
    refine gw_sel [0] (bs' := [bLg G hLg qLg vLg]) rfl rfl ?_
    change GW C 0 0 _ 15 _ [.int r_2]
    refine gw_iload_n F dX3_keyByRank_15 1 rfl ?_
    refine gw_icmp_ne (tgt := 21) F dX3_keyByRank_16 (by decide) (fun c_3 => ?_) (fun c_3 => ?_)
    · have hw := hw.1 c_3
      obtain ⟨i_4, e_i_4⟩ : ∃ z : Int32, z = x2 + (1 : Int32) := ⟨_, rfl⟩
      have hw := hw i_4 e_i_4
      refine gw_iinc (v := i_4) (lv' := [(2, .int i_4), (0, .ref hLg), (1, .int x1)]) F dX3_keyByRank_21 2 rfl (by rw [e_i_4]; rfl) (by decide) rfl ?_
      refine gw_goto (tgt := 2) F dX3_keyByRank_24 (by decide) ?_
      refine gw_lv [1, 2, 0] rfl ?_
      exact hK2 _ _ hw
    · have hw := hw.2 c_3
      refine gw_iload_n F dX3_keyByRank_19 2 rfl ?_
      exact gw_iret F E rfl rfl (Nat.le_of_ble_eq_true rfl) (Nat.le_of_ble_eq_true rfl) dX3_keyByRank_20 ⟨_, rfl, rfl, hw⟩
def wp_X3_keyByRank_2_loop (Q : Int32 → Prop) (vLg : OV) : Nat → Int32 → Int32 → Prop
  | 0, _, _ => False
  | n + 1, x1, x2 => wp_X3_keyByRank_2 Q (wp_X3_keyByRank_2_loop Q vLg n) vLg x1 x2
theorem lp_X3_keyByRank_2 {X : List Cond} {l : Launch} {D : va_G} {G : Nat → ClassId} {C : Cx} {bs0 : List va_W} {hLg : Nat} {qLg : Nat → Nat} {Q : Int32 → Prop} {vLg : OV} (F : GF C X cX3_keyByRank wsX3_keyByRank RX3 rm_X3_keyByRank 3 (some .int) D G l) (E : GE C bs0 0 0 (po_X3_keyByRank G hLg qLg vLg Q)) : ∀ (n : Nat) (x1 x2 : Int32), wp_X3_keyByRank_2_loop Q vLg n x1 x2 → GW C 0 0 [bLg G hLg qLg vLg] 2 [(0, .ref hLg), (1, .int x1), (2, .int x2)] [] := by
  intro n
  induction n with
  | zero => intro x1 x2 hw; exact False.elim hw
  | succ n ih => intro x1 x2 hw; exact lb_X3_keyByRank_2 (K2 := wp_X3_keyByRank_2_loop Q vLg n) F E ih hw
def wp_X3_keyByRank_0 (Q : Int32 → Prop) (vLg : OV) (x1 : Int32) : Prop :=
  (∃ n_5 : Nat, wp_X3_keyByRank_2_loop Q vLg n_5 x1 (0 : Int32))
set_option maxRecDepth 20000 in
theorem lb_X3_keyByRank_0 {X : List Cond} {l : Launch} {D : va_G} {G : Nat → ClassId} {C : Cx} {bs0 : List va_W} {hLg : Nat} {qLg : Nat → Nat} {Q : Int32 → Prop} {vLg : OV} (F : GF C X cX3_keyByRank wsX3_keyByRank RX3 rm_X3_keyByRank 3 (some .int) D G l) (E : GE C bs0 0 0 (po_X3_keyByRank G hLg qLg vLg Q)) {x1 : Int32} (hw : wp_X3_keyByRank_0 Q vLg x1) : GW C 0 0 [bLg G hLg qLg vLg] 0 [(0, .ref hLg), (1, .int x1)] [] := by
  unfold wp_X3_keyByRank_0 at hw
  refine gw_iconst (v := (0 : Int32)) F dX3_keyByRank_0 ic_iconst_0 ?_
  refine gw_istore_n (lv' := [(2, .int (0 : Int32)), (0, .ref hLg), (1, .int x1)]) F dX3_keyByRank_1 (by decide) rfl ?_
  refine gw_lv [1, 2, 0] rfl ?_
  obtain ⟨n_5, hw⟩ := hw
  exact lp_X3_keyByRank_2 F E n_5 _ _ hw
def wp_X3_keyByRank (Q : Int32 → Prop) (x1 : Int32) (vLg : OV) : Prop := wp_X3_keyByRank_0 Q vLg x1
theorem ct_X3_keyByRank {X : List Cond} {l : Launch} {D : va_G} {G : Nat → ClassId} {hLg : Nat} {qLg : Nat → Nat} {Q : Int32 → Prop} {x1 : Int32} {vLg : OV} (hw : wp_X3_keyByRank Q x1 vLg) : CM X l yX3_keyByRank wsX3_keyByRank rm_X3_keyByRank D G [.ref hLg, .int x1] [bLg G hLg qLg vLg] 0 0 (po_X3_keyByRank G hLg qLg vLg Q) :=
  CM.of pn_RX3 rfl rfl (Nat.le_of_ble_eq_true rfl) rfl (fun C F E => lb_X3_keyByRank_0 F E hw)
