-- X2_clear
abbrev rm_X2_clear : Room := { frames := 1, cells := 0, slots := 0, locals := 60 }
def po_X2_clear (G : Nat → ClassId) (hLn : Nat) (qLn : Nat → Nat) (Q : OV → Prop) : Option Value → List va_W → Prop := fun o bs => ∃ (vLn : OV), o = none ∧ bs = [bLn G hLn qLn vLn] ∧ Q vLn
theorem hd_X2_clear : yX2_clear.cls = RX2 ∧ yX2_clear.cls ≠ "java/lang/invoke/MethodHandle" ∧ yX2_clear.cls ≠ "java/lang/invoke/VarHandle" ∧ (parseMethodDescriptor yX2_clear.desc).map (fun d => d.parameters.length) = some 0 := by decide +kernel
theorem in_X2_clear_RX2 : ∀ w ∈ wsX20, w ∈ wsX2_clear := fun w h => List.mem_cons_of_mem _ (List.mem_append_right _ h)
theorem lk_X2_clear_15 : Cond.fieldLink RX2 15 "KeyWaves$Line" "length" "I" ∈ wsX2_clear := List.mem_cons_of_mem _ (List.mem_append_left _ (List.mem_of_getElem? (i := 0) rfl))
def wp_X2_clear_0 (Q : OV → Prop) (vLn : OV) : Prop :=
  (∀ v_1 : OV, v_1 = sI vLn 1 (0 : Int32) → (Q v_1))
set_option maxRecDepth 20000 in
theorem lb_X2_clear_0 {X : List Cond} {l : Launch} {D : va_G} {G : Nat → ClassId} {C : Cx} {bs0 : List va_W} {hLn : Nat} {qLn : Nat → Nat} {Q : OV → Prop} (F : GF C X cX2_clear wsX2_clear RX2 rm_X2_clear 1 none D G l) (E : GE C bs0 0 0 (po_X2_clear G hLn qLn Q)) {vLn : OV} (hw : wp_X2_clear_0 Q vLn) : GW C 0 0 [bLn G hLn qLn vLn] 0 [(0, .ref hLn)] [] := by
  unfold wp_X2_clear_0 at hw
  refine gw_aload_n F dX2_clear_0 0 rfl ?_
  refine gw_iconst (v := (0 : Int32)) F dX2_clear_1 ic_iconst_0 ?_
  obtain ⟨v_1, e_v_1⟩ : ∃ z : OV, z = sI vLn 1 (0 : Int32) := ⟨_, rfl⟩
  have hw := hw v_1 e_v_1
  refine gw_put (bs' := [bLn G hLn qLn v_1]) F in_X2_clear_RX2 tyX2 tyX2_ok nmX2 0 rfl rfl 1 (by decide) lk_X2_clear_15 rfl rfl rfl (Nat.le_of_ble_eq_true rfl) dX2_clear_2 (by rw [e_v_1]; rfl) ?_
  exact gw_vret F E rfl (Nat.le_of_ble_eq_true rfl) (Nat.le_of_ble_eq_true rfl) dX2_clear_5 ⟨_, rfl, rfl, hw⟩
def wp_X2_clear (Q : OV → Prop) (vLn : OV) : Prop := wp_X2_clear_0 Q vLn
theorem ct_X2_clear {X : List Cond} {l : Launch} {D : va_G} {G : Nat → ClassId} {hLn : Nat} {qLn : Nat → Nat} {Q : OV → Prop} {vLn : OV} (hw : wp_X2_clear Q vLn) : CM X l yX2_clear wsX2_clear rm_X2_clear D G [.ref hLn] [bLn G hLn qLn vLn] 0 0 (po_X2_clear G hLn qLn Q) :=
  CM.of pn_RX2 rfl rfl (Nat.le_of_ble_eq_true rfl) rfl (fun C F E => lb_X2_clear_0 F E hw)
-- X2_has
abbrev rm_X2_has : Room := { frames := 1, cells := 0, slots := 0, locals := 60 }
def po_X2_has (G : Nat → ClassId) (hLn : Nat) (qLn : Nat → Nat) (vLn : OV) (Q : Int32 → Prop) : Option Value → List va_W → Prop := fun o bs => ∃ (r : Int32), o = some (.int r) ∧ bs = [bLn G hLn qLn vLn] ∧ Q r
theorem hd_X2_has : yX2_has.cls = RX2 ∧ yX2_has.cls ≠ "java/lang/invoke/MethodHandle" ∧ yX2_has.cls ≠ "java/lang/invoke/VarHandle" ∧ (parseMethodDescriptor yX2_has.desc).map (fun d => d.parameters.length) = some 1 := by decide +kernel
theorem in_X2_has_RX2 : ∀ w ∈ wsX20, w ∈ wsX2_has := fun w h => List.mem_cons_of_mem _ (List.mem_append_right _ h)
theorem lk_X2_has_15 : Cond.fieldLink RX2 15 "KeyWaves$Line" "length" "I" ∈ wsX2_has := List.mem_cons_of_mem _ (List.mem_append_left _ (List.mem_of_getElem? (i := 0) rfl))
def wp_X2_has_23 (Q : Int32 → Prop) (vLn : OV) (s0 : Int32) : Prop :=
  (narrow .boolean (.int s0) = .int s0 ∧ Q s0)
set_option maxRecDepth 20000 in
theorem lb_X2_has_23 {X : List Cond} {l : Launch} {D : va_G} {G : Nat → ClassId} {C : Cx} {bs0 : List va_W} {hLn : Nat} {qLn : Nat → Nat} {Q : Int32 → Prop} {vLn : OV} (F : GF C X cX2_has wsX2_has RX2 rm_X2_has 2 (some .boolean) D G l) (E : GE C bs0 0 0 (po_X2_has G hLn qLn vLn Q)) {s0 : Int32} (hw : wp_X2_has_23 Q vLn s0) : GW C 0 0 [bLn G hLn qLn vLn] 23 [] [.int s0] := by
  unfold wp_X2_has_23 at hw
  obtain ⟨hn, hw⟩ := hw
  exact gw_iret F E rfl hn (Nat.le_of_ble_eq_true rfl) (Nat.le_of_ble_eq_true rfl) dX2_has_23 ⟨_, rfl, rfl, hw⟩
def wp_X2_has_22 (Q : Int32 → Prop) (vLn : OV) : Prop :=
  (wp_X2_has_23 Q vLn (0 : Int32))
set_option maxRecDepth 20000 in
theorem lb_X2_has_22 {X : List Cond} {l : Launch} {D : va_G} {G : Nat → ClassId} {C : Cx} {bs0 : List va_W} {hLn : Nat} {qLn : Nat → Nat} {Q : Int32 → Prop} {vLn : OV} (F : GF C X cX2_has wsX2_has RX2 rm_X2_has 2 (some .boolean) D G l) (E : GE C bs0 0 0 (po_X2_has G hLn qLn vLn Q)) (hw : wp_X2_has_22 Q vLn ) : GW C 0 0 [bLn G hLn qLn vLn] 22 [] [] := by
  unfold wp_X2_has_22 at hw
  refine gw_iconst (v := (0 : Int32)) F dX2_has_22 ic_iconst_0 ?_
  exact lb_X2_has_23 F E hw
def wp_X2_has_0 (Q : Int32 → Prop) (vLn : OV) (x1 : Int32) : Prop :=
  ((x1 < 0 → (wp_X2_has_22 Q vLn)) ∧ (¬ (x1 < 0) → (((vLn.2 1) ≤ x1 → (wp_X2_has_22 Q vLn)) ∧ (¬ ((vLn.2 1) ≤ x1) → (((80 : Int32) ≤ x1 → (wp_X2_has_22 Q vLn)) ∧ (¬ ((80 : Int32) ≤ x1) → (wp_X2_has_23 Q vLn (1 : Int32))))))))
set_option maxRecDepth 20000 in
theorem lb_X2_has_0 {X : List Cond} {l : Launch} {D : va_G} {G : Nat → ClassId} {C : Cx} {bs0 : List va_W} {hLn : Nat} {qLn : Nat → Nat} {Q : Int32 → Prop} {vLn : OV} (F : GF C X cX2_has wsX2_has RX2 rm_X2_has 2 (some .boolean) D G l) (E : GE C bs0 0 0 (po_X2_has G hLn qLn vLn Q)) {x1 : Int32} (hw : wp_X2_has_0 Q vLn x1) : GW C 0 0 [bLn G hLn qLn vLn] 0 [(0, .ref hLn), (1, .int x1)] [] := by
  unfold wp_X2_has_0 at hw
  refine gw_iload_n F dX2_has_0 1 rfl ?_
  refine gw_if_lt (tgt := 22) F dX2_has_1 (by decide) (fun c_1 => ?_) (fun c_1 => ?_)
  · have hw := hw.1 c_1
    refine gw_lv [] rfl ?_
    exact lb_X2_has_22 F E hw
  · have hw := hw.2 c_1
    refine gw_iload_n F dX2_has_4 1 rfl ?_
    refine gw_aload_n F dX2_has_5 0 rfl ?_
    refine gw_get F in_X2_has_RX2 0 rfl rfl 1 (by decide) lk_X2_has_15 rfl dX2_has_6 ?_
    refine gw_icmp_ge (tgt := 22) F dX2_has_9 (by decide) (fun c_2 => ?_) (fun c_2 => ?_)
    · have hw := hw.1 c_2
      refine gw_lv [] rfl ?_
      exact lb_X2_has_22 F E hw
    · have hw := hw.2 c_2
      refine gw_iload_n F dX2_has_12 1 rfl ?_
      refine gw_bipush (v := (80 : Int32)) F dX2_has_13 ic_bipush_80 ?_
      refine gw_icmp_ge (tgt := 22) F dX2_has_15 (by decide) (fun c_3 => ?_) (fun c_3 => ?_)
      · have hw := hw.1 c_3
        refine gw_lv [] rfl ?_
        exact lb_X2_has_22 F E hw
      · have hw := hw.2 c_3
        refine gw_iconst (v := (1 : Int32)) F dX2_has_18 ic_iconst_1 ?_
        refine gw_goto (tgt := 23) F dX2_has_19 (by decide) ?_
        refine gw_lv [] rfl ?_
        exact lb_X2_has_23 F E hw
def wp_X2_has (Q : Int32 → Prop) (x1 : Int32) (vLn : OV) : Prop := wp_X2_has_0 Q vLn x1
theorem ct_X2_has {X : List Cond} {l : Launch} {D : va_G} {G : Nat → ClassId} {hLn : Nat} {qLn : Nat → Nat} {Q : Int32 → Prop} {x1 : Int32} {vLn : OV} (hw : wp_X2_has Q x1 vLn) : CM X l yX2_has wsX2_has rm_X2_has D G [.ref hLn, .int x1] [bLn G hLn qLn vLn] 0 0 (po_X2_has G hLn qLn vLn Q) :=
  CM.of pn_RX2 rfl rfl (Nat.le_of_ble_eq_true rfl) rfl (fun C F E => lb_X2_has_0 F E hw)
-- X2_signAt
abbrev rm_X2_signAt : Room := { frames := 2, cells := 0, slots := 0, locals := 81 }
def po_X2_signAt (G : Nat → ClassId) (hLn : Nat) (qLn : Nat → Nat) (vLn : OV) (Q : Int32 → Prop) : Option Value → List va_W → Prop := fun o bs => ∃ (r : Int32), o = some (.int r) ∧ bs = [bLn G hLn qLn vLn] ∧ Q r
theorem hd_X2_signAt : yX2_signAt.cls = RX2 ∧ yX2_signAt.cls ≠ "java/lang/invoke/MethodHandle" ∧ yX2_signAt.cls ≠ "java/lang/invoke/VarHandle" ∧ (parseMethodDescriptor yX2_signAt.desc).map (fun d => d.parameters.length) = some 1 := by decide +kernel
theorem in_X2_signAt_RX2 : ∀ w ∈ wsX20, w ∈ wsX2_signAt := fun w h => List.mem_cons_of_mem _ (List.mem_append_left _ (List.mem_append_right _ h))
theorem lk_X2_signAt_9 : Cond.fieldLink RX2 9 "KeyWaves$Line" "signs" "[C" ∈ wsX2_signAt := List.mem_cons_of_mem _ (List.mem_append_left _ (List.mem_append_left _ (List.mem_of_getElem? (i := 0) rfl)))
def wp_X2_signAt_18 (Q : Int32 → Prop) (vLn : OV) (s0 : Int32) : Prop :=
  (narrow .char (.int s0) = .int s0 ∧ Q s0)
set_option maxRecDepth 20000 in
theorem lb_X2_signAt_18 {X : List Cond} {l : Launch} {D : va_G} {G : Nat → ClassId} {C : Cx} {bs0 : List va_W} {hLn : Nat} {qLn : Nat → Nat} {Q : Int32 → Prop} {vLn : OV} (F : GF C X cX2_signAt wsX2_signAt RX2 rm_X2_signAt 2 (some .char) D G l) (E : GE C bs0 0 0 (po_X2_signAt G hLn qLn vLn Q)) {s0 : Int32} (hw : wp_X2_signAt_18 Q vLn s0) : GW C 0 0 [bLn G hLn qLn vLn] 18 [] [.int s0] := by
  unfold wp_X2_signAt_18 at hw
  obtain ⟨hn, hw⟩ := hw
  exact gw_iret F E rfl hn (Nat.le_of_ble_eq_true rfl) (Nat.le_of_ble_eq_true rfl) dX2_signAt_18 ⟨_, rfl, rfl, hw⟩
def wp_X2_signAt_0 (Q : Int32 → Prop) (vLn : OV) (x1 : Int32) : Prop :=
  (wp_X2_has (fun (r_1 : Int32) => ((r_1 = 0 → (wp_X2_signAt_18 Q vLn (0 : Int32))) ∧ (¬ (r_1 = 0) → (vp_in x1 80 ∧ (wp_X2_signAt_18 Q vLn (vLn.1 0 x1.toNatClampNeg)))))) x1 vLn)
set_option maxRecDepth 20000 in
theorem lb_X2_signAt_0 {X : List Cond} {l : Launch} {D : va_G} {G : Nat → ClassId} {C : Cx} {bs0 : List va_W} {hLn : Nat} {qLn : Nat → Nat} {Q : Int32 → Prop} {vLn : OV} (F : GF C X cX2_signAt wsX2_signAt RX2 rm_X2_signAt 2 (some .char) D G l) (E : GE C bs0 0 0 (po_X2_signAt G hLn qLn vLn Q)) {x1 : Int32} (hw : wp_X2_signAt_0 Q vLn x1) : GW C 0 0 [bLn G hLn qLn vLn] 0 [(0, .ref hLn), (1, .int x1)] [] := by
  unfold wp_X2_signAt_0 at hw
  refine gw_aload_n F dX2_signAt_0 0 rfl ?_
  refine gw_iload_n F dX2_signAt_1 1 rfl ?_
  refine gw_callV F (ct_X2_has hw) 1 gX2_signAt_X2_has rfl rfl rfl hd_X2_has ⟨(Nat.le_of_ble_eq_true rfl), (Nat.le_of_ble_eq_true rfl)⟩ rfl rfl (Nat.le_of_ble_eq_true rfl) ⟨Nat.zero_le _, Nat.zero_le _⟩ [0] (bsr := []) rfl rfl (q0 := 0) rfl rfl dX2_signAt_2 ?_
  rintro _ _ ⟨r_1, rfl, rfl, hw⟩
  refine gw_sel [0] (bs' := [bLn G hLn qLn vLn]) rfl rfl ?_
  change GW C 0 0 _ 5 _ [.int r_1]
  refine gw_if_eq (tgt := 17) F dX2_signAt_5 (by decide) (fun c_2 => ?_) (fun c_2 => ?_)
  · have hw := hw.1 c_2
    refine gw_iconst (v := (0 : Int32)) F dX2_signAt_17 ic_iconst_0 ?_
    refine gw_lv [] rfl ?_
    exact lb_X2_signAt_18 F E hw
  · have hw := hw.2 c_2
    refine gw_aload_n F dX2_signAt_8 0 rfl ?_
    refine gw_get F in_X2_signAt_RX2 0 rfl rfl 0 (by decide) lk_X2_signAt_9 rfl dX2_signAt_9 ?_
    refine gw_iload_n F dX2_signAt_12 1 rfl ?_
    obtain ⟨h_3, hw⟩ := hw
    refine gw_cald F 1 rfl h_3 dX2_signAt_13 ?_
    refine gw_goto (tgt := 18) F dX2_signAt_14 (by decide) ?_
    refine gw_lv [] rfl ?_
    exact lb_X2_signAt_18 F E hw
def wp_X2_signAt (Q : Int32 → Prop) (x1 : Int32) (vLn : OV) : Prop := wp_X2_signAt_0 Q vLn x1
theorem ct_X2_signAt {X : List Cond} {l : Launch} {D : va_G} {G : Nat → ClassId} {hLn : Nat} {qLn : Nat → Nat} {Q : Int32 → Prop} {x1 : Int32} {vLn : OV} (hw : wp_X2_signAt Q x1 vLn) : CM X l yX2_signAt wsX2_signAt rm_X2_signAt D G [.ref hLn, .int x1] [bLn G hLn qLn vLn] 0 0 (po_X2_signAt G hLn qLn vLn Q) :=
  CM.of pn_RX2 rfl rfl (Nat.le_of_ble_eq_true rfl) rfl (fun C F E => lb_X2_signAt_0 F E hw)
-- X2_add
abbrev rm_X2_add : Room := { frames := 1, cells := 0, slots := 0, locals := 60 }
def po_X2_add (G : Nat → ClassId) (hLn : Nat) (qLn : Nat → Nat) (Q : OV → Prop) : Option Value → List va_W → Prop := fun o bs => ∃ (vLn : OV), o = none ∧ bs = [bLn G hLn qLn vLn] ∧ Q vLn
theorem hd_X2_add : yX2_add.cls = RX2 ∧ yX2_add.cls ≠ "java/lang/invoke/MethodHandle" ∧ yX2_add.cls ≠ "java/lang/invoke/VarHandle" ∧ (parseMethodDescriptor yX2_add.desc).map (fun d => d.parameters.length) = some 1 := by decide +kernel
theorem in_X2_add_RX2 : ∀ w ∈ wsX20, w ∈ wsX2_add := fun w h => List.mem_cons_of_mem _ (List.mem_append_left _ (List.mem_append_right _ h))
theorem lk_X2_add_15 : Cond.fieldLink RX2 15 "KeyWaves$Line" "length" "I" ∈ wsX2_add := List.mem_cons_of_mem _ (List.mem_append_left _ (List.mem_append_left _ (List.mem_of_getElem? (i := 0) rfl)))
theorem lk_X2_add_9 : Cond.fieldLink RX2 9 "KeyWaves$Line" "signs" "[C" ∈ wsX2_add := List.mem_cons_of_mem _ (List.mem_append_left _ (List.mem_append_left _ (List.mem_of_getElem? (i := 1) rfl)))
def wp_X2_add_36 (Q : OV → Prop) (vLn : OV) : Prop :=
  (Q vLn)
set_option maxRecDepth 20000 in
theorem lb_X2_add_36 {X : List Cond} {l : Launch} {D : va_G} {G : Nat → ClassId} {C : Cx} {bs0 : List va_W} {hLn : Nat} {qLn : Nat → Nat} {Q : OV → Prop} (F : GF C X cX2_add wsX2_add RX2 rm_X2_add 2 none D G l) (E : GE C bs0 0 0 (po_X2_add G hLn qLn Q)) {vLn : OV} (hw : wp_X2_add_36 Q vLn) : GW C 0 0 [bLn G hLn qLn vLn] 36 [] [] := by
  unfold wp_X2_add_36 at hw
  exact gw_vret F E rfl (Nat.le_of_ble_eq_true rfl) (Nat.le_of_ble_eq_true rfl) dX2_add_36 ⟨_, rfl, rfl, hw⟩
def wp_X2_add_0 (Q : OV → Prop) (x1 : Int32) (vLn : OV) : Prop :=
  (((vLn.2 1) < 0 → (wp_X2_add_36 Q vLn)) ∧ (¬ ((vLn.2 1) < 0) → (((80 : Int32) ≤ (vLn.2 1) → (wp_X2_add_36 Q vLn)) ∧ (¬ ((80 : Int32) ≤ (vLn.2 1)) → (vp_in (vLn.2 1) 80 ∧ ∀ v_3 : OV, v_3 = sA vLn 0 (vLn.2 1).toNatClampNeg (vp_nar .char x1) → (∀ v_5 : OV, v_5 = sI v_3 1 ((v_3.2 1) + (1 : Int32)) → (wp_X2_add_36 Q v_5)))))))
set_option maxRecDepth 20000 in
theorem lb_X2_add_0 {X : List Cond} {l : Launch} {D : va_G} {G : Nat → ClassId} {C : Cx} {bs0 : List va_W} {hLn : Nat} {qLn : Nat → Nat} {Q : OV → Prop} (F : GF C X cX2_add wsX2_add RX2 rm_X2_add 2 none D G l) (E : GE C bs0 0 0 (po_X2_add G hLn qLn Q)) {x1 : Int32} {vLn : OV} (hw : wp_X2_add_0 Q x1 vLn) : GW C 0 0 [bLn G hLn qLn vLn] 0 [(0, .ref hLn), (1, .int x1)] [] := by
  unfold wp_X2_add_0 at hw
  refine gw_aload_n F dX2_add_0 0 rfl ?_
  refine gw_get F in_X2_add_RX2 0 rfl rfl 1 (by decide) lk_X2_add_15 rfl dX2_add_1 ?_
  refine gw_if_lt (tgt := 36) F dX2_add_4 (by decide) (fun c_1 => ?_) (fun c_1 => ?_)
  · have hw := hw.1 c_1
    refine gw_lv [] rfl ?_
    exact lb_X2_add_36 F E hw
  · have hw := hw.2 c_1
    refine gw_aload_n F dX2_add_7 0 rfl ?_
    refine gw_get F in_X2_add_RX2 0 rfl rfl 1 (by decide) lk_X2_add_15 rfl dX2_add_8 ?_
    refine gw_bipush (v := (80 : Int32)) F dX2_add_11 ic_bipush_80 ?_
    refine gw_icmp_ge (tgt := 36) F dX2_add_13 (by decide) (fun c_2 => ?_) (fun c_2 => ?_)
    · have hw := hw.1 c_2
      refine gw_lv [] rfl ?_
      exact lb_X2_add_36 F E hw
    · have hw := hw.2 c_2
      refine gw_aload_n F dX2_add_16 0 rfl ?_
      refine gw_get F in_X2_add_RX2 0 rfl rfl 0 (by decide) lk_X2_add_9 rfl dX2_add_17 ?_
      refine gw_aload_n F dX2_add_20 0 rfl ?_
      refine gw_get F in_X2_add_RX2 0 rfl rfl 1 (by decide) lk_X2_add_15 rfl dX2_add_21 ?_
      refine gw_iload_n F dX2_add_24 1 rfl ?_
      obtain ⟨h_4, hw⟩ := hw
      obtain ⟨v_3, e_v_3⟩ : ∃ z : OV, z = sA vLn 0 (vLn.2 1).toNatClampNeg (vp_nar .char x1) := ⟨_, rfl⟩
      have hw := hw v_3 e_v_3
      refine gw_cast (bs' := [bLn G hLn qLn v_3]) F 1 rfl h_4 dX2_add_25 (by rw [e_v_3]; rfl) ?_
      refine gw_aload_n F dX2_add_26 0 rfl ?_
      refine gw_dup F dX2_add_27 rfl ?_
      refine gw_get F in_X2_add_RX2 0 rfl rfl 1 (by decide) lk_X2_add_15 rfl dX2_add_28 ?_
      refine gw_iconst (v := (1 : Int32)) F dX2_add_31 ic_iconst_1 ?_
      refine gw_iadd F dX2_add_32 ?_
      obtain ⟨v_5, e_v_5⟩ : ∃ z : OV, z = sI v_3 1 ((v_3.2 1) + (1 : Int32)) := ⟨_, rfl⟩
      have hw := hw v_5 e_v_5
      refine gw_put (bs' := [bLn G hLn qLn v_5]) F in_X2_add_RX2 tyX2 tyX2_ok nmX2 0 rfl rfl 1 (by decide) lk_X2_add_15 rfl rfl rfl (Nat.le_of_ble_eq_true rfl) dX2_add_33 (by rw [e_v_5]; rfl) ?_
      refine gw_lv [] rfl ?_
      exact lb_X2_add_36 F E hw
def wp_X2_add (Q : OV → Prop) (x1 : Int32) (vLn : OV) : Prop := wp_X2_add_0 Q x1 vLn
theorem ct_X2_add {X : List Cond} {l : Launch} {D : va_G} {G : Nat → ClassId} {hLn : Nat} {qLn : Nat → Nat} {Q : OV → Prop} {x1 : Int32} {vLn : OV} (hw : wp_X2_add Q x1 vLn) : CM X l yX2_add wsX2_add rm_X2_add D G [.ref hLn, .int x1] [bLn G hLn qLn vLn] 0 0 (po_X2_add G hLn qLn Q) :=
  CM.of pn_RX2 rfl rfl (Nat.le_of_ble_eq_true rfl) rfl (fun C F E => lb_X2_add_0 F E hw)
-- X2_addNumber
abbrev rm_X2_addNumber : Room := { frames := 2, cells := 0, slots := 0, locals := 81 }
def po_X2_addNumber (G : Nat → ClassId) (hLn : Nat) (qLn : Nat → Nat) (Q : OV → Prop) : Option Value → List va_W → Prop := fun o bs => ∃ (vLn : OV), o = none ∧ bs = [bLn G hLn qLn vLn] ∧ Q vLn
theorem hd_X2_addNumber : yX2_addNumber.cls = RX2 ∧ yX2_addNumber.cls ≠ "java/lang/invoke/MethodHandle" ∧ yX2_addNumber.cls ≠ "java/lang/invoke/VarHandle" ∧ (parseMethodDescriptor yX2_addNumber.desc).map (fun d => d.parameters.length) = some 1 := by decide +kernel
def wp_X2_addNumber_18 (Q : OV → Prop) (x1 : Int32) (vLn : OV) : Prop :=
  (wp_X2_add (fun (v_2 : OV) => (Q v_2)) ((((48 : Int32) + (x1 - x1 / (10 : Int32) * (10 : Int32)))).toUInt32 % 65536).toInt32 vLn)
set_option maxRecDepth 20000 in
theorem lb_X2_addNumber_18 {X : List Cond} {l : Launch} {D : va_G} {G : Nat → ClassId} {C : Cx} {bs0 : List va_W} {hLn : Nat} {qLn : Nat → Nat} {Q : OV → Prop} (F : GF C X cX2_addNumber wsX2_addNumber RX2 rm_X2_addNumber 2 none D G l) (E : GE C bs0 0 0 (po_X2_addNumber G hLn qLn Q)) {x1 : Int32} {vLn : OV} (hw : wp_X2_addNumber_18 Q x1 vLn) : GW C 0 0 [bLn G hLn qLn vLn] 18 [(0, .ref hLn), (1, .int x1)] [] := by
  unfold wp_X2_addNumber_18 at hw
  refine gw_aload_n F dX2_addNumber_18 0 rfl ?_
  refine gw_bipush (v := (48 : Int32)) F dX2_addNumber_19 ic_bipush_48 ?_
  refine gw_iload_n F dX2_addNumber_21 1 rfl ?_
  refine gw_bipush (v := (10 : Int32)) F dX2_addNumber_22 ic_bipush_10 ?_
  refine gw_irem F dX2_addNumber_24 (by decide) ?_
  refine gw_iadd F dX2_addNumber_25 ?_
  refine gw_i2c F dX2_addNumber_26 ?_
  refine gw_callV F (ct_X2_add hw) 1 gX2_addNumber_X2_add rfl rfl rfl hd_X2_add ⟨(Nat.le_of_ble_eq_true rfl), (Nat.le_of_ble_eq_true rfl)⟩ rfl rfl (Nat.le_of_ble_eq_true rfl) ⟨Nat.zero_le _, Nat.zero_le _⟩ [0] (bsr := []) rfl rfl (q0 := 0) rfl rfl dX2_addNumber_27 ?_
  rintro _ _ ⟨v_2, rfl, rfl, hw⟩
  refine gw_sel [0] (bs' := [bLn G hLn qLn v_2]) rfl rfl ?_
  change GW C 0 0 _ 30 _ []
  exact gw_vret F E rfl (Nat.le_of_ble_eq_true rfl) (Nat.le_of_ble_eq_true rfl) dX2_addNumber_30 ⟨_, rfl, rfl, hw⟩
def wp_X2_addNumber_0 (Q : OV → Prop) (x1 : Int32) (vLn : OV) : Prop :=
  ((x1 < (10 : Int32) → (wp_X2_addNumber_18 Q x1 vLn)) ∧ (¬ (x1 < (10 : Int32)) → (wp_X2_add (fun (v_3 : OV) => (wp_X2_addNumber_18 Q x1 v_3)) ((((48 : Int32) + (x1 / (10 : Int32)))).toUInt32 % 65536).toInt32 vLn)))
set_option maxRecDepth 20000 in
theorem lb_X2_addNumber_0 {X : List Cond} {l : Launch} {D : va_G} {G : Nat → ClassId} {C : Cx} {bs0 : List va_W} {hLn : Nat} {qLn : Nat → Nat} {Q : OV → Prop} (F : GF C X cX2_addNumber wsX2_addNumber RX2 rm_X2_addNumber 2 none D G l) (E : GE C bs0 0 0 (po_X2_addNumber G hLn qLn Q)) {x1 : Int32} {vLn : OV} (hw : wp_X2_addNumber_0 Q x1 vLn) : GW C 0 0 [bLn G hLn qLn vLn] 0 [(0, .ref hLn), (1, .int x1)] [] := by
  unfold wp_X2_addNumber_0 at hw
  refine gw_iload_n F dX2_addNumber_0 1 rfl ?_
  refine gw_bipush (v := (10 : Int32)) F dX2_addNumber_1 ic_bipush_10 ?_
  refine gw_icmp_lt (tgt := 18) F dX2_addNumber_3 (by decide) (fun c_1 => ?_) (fun c_1 => ?_)
  · have hw := hw.1 c_1
    exact lb_X2_addNumber_18 F E hw
  · have hw := hw.2 c_1
    refine gw_aload_n F dX2_addNumber_6 0 rfl ?_
    refine gw_bipush (v := (48 : Int32)) F dX2_addNumber_7 ic_bipush_48 ?_
    refine gw_iload_n F dX2_addNumber_9 1 rfl ?_
    refine gw_bipush (v := (10 : Int32)) F dX2_addNumber_10 ic_bipush_10 ?_
    refine gw_idiv F dX2_addNumber_12 (by decide) ?_
    refine gw_iadd F dX2_addNumber_13 ?_
    refine gw_i2c F dX2_addNumber_14 ?_
    refine gw_callV F (ct_X2_add hw) 1 gX2_addNumber_X2_add rfl rfl rfl hd_X2_add ⟨(Nat.le_of_ble_eq_true rfl), (Nat.le_of_ble_eq_true rfl)⟩ rfl rfl (Nat.le_of_ble_eq_true rfl) ⟨Nat.zero_le _, Nat.zero_le _⟩ [0] (bsr := []) rfl rfl (q0 := 0) rfl rfl dX2_addNumber_15 ?_
    rintro _ _ ⟨v_3, rfl, rfl, hw⟩
    refine gw_sel [0] (bs' := [bLn G hLn qLn v_3]) rfl rfl ?_
    change GW C 0 0 _ 18 _ []
    exact lb_X2_addNumber_18 F E hw
def wp_X2_addNumber (Q : OV → Prop) (x1 : Int32) (vLn : OV) : Prop := wp_X2_addNumber_0 Q x1 vLn
theorem ct_X2_addNumber {X : List Cond} {l : Launch} {D : va_G} {G : Nat → ClassId} {hLn : Nat} {qLn : Nat → Nat} {Q : OV → Prop} {x1 : Int32} {vLn : OV} (hw : wp_X2_addNumber Q x1 vLn) : CM X l yX2_addNumber wsX2_addNumber rm_X2_addNumber D G [.ref hLn, .int x1] [bLn G hLn qLn vLn] 0 0 (po_X2_addNumber G hLn qLn Q) :=
  CM.of pn_RX2 rfl rfl (Nat.le_of_ble_eq_true rfl) rfl (fun C F E => lb_X2_addNumber_0 F E hw)
-- X2_writeOne
abbrev rm_X2_writeOne : Room := { frames := 3, cells := 0, slots := 0, locals := 102 }
def po_X2_writeOne (G : Nat → ClassId) (hLn : Nat) (qLn : Nat → Nat) (Q : OV → Prop) : Option Value → List va_W → Prop := fun o bs => ∃ (vLn : OV), o = none ∧ bs = [bLn G hLn qLn vLn] ∧ Q vLn
theorem hd_X2_writeOne : yX2_writeOne.cls = RX2 ∧ yX2_writeOne.cls ≠ "java/lang/invoke/MethodHandle" ∧ yX2_writeOne.cls ≠ "java/lang/invoke/VarHandle" ∧ (parseMethodDescriptor yX2_writeOne.desc).map (fun d => d.parameters.length) = some 3 := by decide +kernel
theorem in_X2_writeOne_RX2 : ∀ w ∈ wsX20, w ∈ wsX2_writeOne := fun w h => List.mem_cons_of_mem _ (List.mem_append_left _ (List.mem_append_right _ h))
theorem lk_X2_writeOne_15 : Cond.fieldLink RX2 15 "KeyWaves$Line" "length" "I" ∈ wsX2_writeOne := List.mem_cons_of_mem _ (List.mem_append_left _ (List.mem_append_left _ (List.mem_of_getElem? (i := 0) rfl)))
def wp_X2_writeOne_45 (Q : OV → Prop) (vLn : OV) : Prop :=
  (Q vLn)
set_option maxRecDepth 20000 in
theorem lb_X2_writeOne_45 {X : List Cond} {l : Launch} {D : va_G} {G : Nat → ClassId} {C : Cx} {bs0 : List va_W} {hLn : Nat} {qLn : Nat → Nat} {Q : OV → Prop} (F : GF C X cX2_writeOne wsX2_writeOne RX2 rm_X2_writeOne 4 none D G l) (E : GE C bs0 0 0 (po_X2_writeOne G hLn qLn Q)) {vLn : OV} (hw : wp_X2_writeOne_45 Q vLn) : GW C 0 0 [bLn G hLn qLn vLn] 45 [] [] := by
  unfold wp_X2_writeOne_45 at hw
  exact gw_vret F E rfl (Nat.le_of_ble_eq_true rfl) (Nat.le_of_ble_eq_true rfl) dX2_writeOne_45 ⟨_, rfl, rfl, hw⟩
def wp_X2_writeOne_13 (Q : OV → Prop) (x1 x2 x3 : Int32) (vLn : OV) : Prop :=
  (wp_X2_addNumber (fun (v_2 : OV) => (wp_X2_add (fun (v_3 : OV) => (wp_X2_addNumber (fun (v_4 : OV) => ((x3 = (-1 : Int32) → (wp_X2_writeOne_45 Q v_4)) ∧ (¬ (x3 = (-1 : Int32)) → (wp_X2_add (fun (v_6 : OV) => (wp_X2_addNumber (fun (v_7 : OV) => (wp_X2_writeOne_45 Q v_7)) x3 v_6)) (45 : Int32) v_4)))) x2 v_3)) (35 : Int32) v_2)) x1 vLn)
set_option maxRecDepth 20000 in
theorem lb_X2_writeOne_13 {X : List Cond} {l : Launch} {D : va_G} {G : Nat → ClassId} {C : Cx} {bs0 : List va_W} {hLn : Nat} {qLn : Nat → Nat} {Q : OV → Prop} (F : GF C X cX2_writeOne wsX2_writeOne RX2 rm_X2_writeOne 4 none D G l) (E : GE C bs0 0 0 (po_X2_writeOne G hLn qLn Q)) {x1 x2 x3 : Int32} {vLn : OV} (hw : wp_X2_writeOne_13 Q x1 x2 x3 vLn) : GW C 0 0 [bLn G hLn qLn vLn] 13 [(0, .ref hLn), (1, .int x1), (2, .int x2), (3, .int x3)] [] := by
  unfold wp_X2_writeOne_13 at hw
  refine gw_aload_n F dX2_writeOne_13 0 rfl ?_
  refine gw_iload_n F dX2_writeOne_14 1 rfl ?_
  refine gw_callV F (ct_X2_addNumber hw) 1 gX2_writeOne_X2_addNumber rfl rfl rfl hd_X2_addNumber ⟨(Nat.le_of_ble_eq_true rfl), (Nat.le_of_ble_eq_true rfl)⟩ rfl rfl (Nat.le_of_ble_eq_true rfl) ⟨Nat.zero_le _, Nat.zero_le _⟩ [0] (bsr := []) rfl rfl (q0 := 0) rfl rfl dX2_writeOne_15 ?_
  rintro _ _ ⟨v_2, rfl, rfl, hw⟩
  refine gw_sel [0] (bs' := [bLn G hLn qLn v_2]) rfl rfl ?_
  change GW C 0 0 _ 18 _ []
  refine gw_aload_n F dX2_writeOne_18 0 rfl ?_
  refine gw_bipush (v := (35 : Int32)) F dX2_writeOne_19 ic_bipush_35 ?_
  refine gw_callV F (ct_X2_add hw) 1 gX2_writeOne_X2_add rfl rfl rfl hd_X2_add ⟨(Nat.le_of_ble_eq_true rfl), (Nat.le_of_ble_eq_true rfl)⟩ rfl rfl (Nat.le_of_ble_eq_true rfl) ⟨Nat.zero_le _, Nat.zero_le _⟩ [0] (bsr := []) rfl rfl (q0 := 0) rfl rfl dX2_writeOne_21 ?_
  rintro _ _ ⟨v_3, rfl, rfl, hw⟩
  refine gw_sel [0] (bs' := [bLn G hLn qLn v_3]) rfl rfl ?_
  change GW C 0 0 _ 24 _ []
  refine gw_aload_n F dX2_writeOne_24 0 rfl ?_
  refine gw_iload_n F dX2_writeOne_25 2 rfl ?_
  refine gw_callV F (ct_X2_addNumber hw) 1 gX2_writeOne_X2_addNumber rfl rfl rfl hd_X2_addNumber ⟨(Nat.le_of_ble_eq_true rfl), (Nat.le_of_ble_eq_true rfl)⟩ rfl rfl (Nat.le_of_ble_eq_true rfl) ⟨Nat.zero_le _, Nat.zero_le _⟩ [0] (bsr := []) rfl rfl (q0 := 0) rfl rfl dX2_writeOne_26 ?_
  rintro _ _ ⟨v_4, rfl, rfl, hw⟩
  refine gw_sel [0] (bs' := [bLn G hLn qLn v_4]) rfl rfl ?_
  change GW C 0 0 _ 29 _ []
  refine gw_iload_n F dX2_writeOne_29 3 rfl ?_
  refine gw_iconst (v := (-1 : Int32)) F dX2_writeOne_30 ic_iconst_m1 ?_
  refine gw_icmp_eq (tgt := 45) F dX2_writeOne_31 (by decide) (fun c_5 => ?_) (fun c_5 => ?_)
  · have hw := hw.1 c_5
    refine gw_lv [] rfl ?_
    exact lb_X2_writeOne_45 F E hw
  · have hw := hw.2 c_5
    refine gw_aload_n F dX2_writeOne_34 0 rfl ?_
    refine gw_bipush (v := (45 : Int32)) F dX2_writeOne_35 ic_bipush_45 ?_
    refine gw_callV F (ct_X2_add hw) 1 gX2_writeOne_X2_add rfl rfl rfl hd_X2_add ⟨(Nat.le_of_ble_eq_true rfl), (Nat.le_of_ble_eq_true rfl)⟩ rfl rfl (Nat.le_of_ble_eq_true rfl) ⟨Nat.zero_le _, Nat.zero_le _⟩ [0] (bsr := []) rfl rfl (q0 := 0) rfl rfl dX2_writeOne_37 ?_
    rintro _ _ ⟨v_6, rfl, rfl, hw⟩
    refine gw_sel [0] (bs' := [bLn G hLn qLn v_6]) rfl rfl ?_
    change GW C 0 0 _ 40 _ []
    refine gw_aload_n F dX2_writeOne_40 0 rfl ?_
    refine gw_iload_n F dX2_writeOne_41 3 rfl ?_
    refine gw_callV F (ct_X2_addNumber hw) 1 gX2_writeOne_X2_addNumber rfl rfl rfl hd_X2_addNumber ⟨(Nat.le_of_ble_eq_true rfl), (Nat.le_of_ble_eq_true rfl)⟩ rfl rfl (Nat.le_of_ble_eq_true rfl) ⟨Nat.zero_le _, Nat.zero_le _⟩ [0] (bsr := []) rfl rfl (q0 := 0) rfl rfl dX2_writeOne_42 ?_
    rintro _ _ ⟨v_7, rfl, rfl, hw⟩
    refine gw_sel [0] (bs' := [bLn G hLn qLn v_7]) rfl rfl ?_
    change GW C 0 0 _ 45 _ []
    refine gw_lv [] rfl ?_
    exact lb_X2_writeOne_45 F E hw
def wp_X2_writeOne_0 (Q : OV → Prop) (x1 : Int32) (x2 : Int32) (x3 : Int32) (vLn : OV) : Prop :=
  (((vLn.2 1) ≤ 0 → (wp_X2_writeOne_13 Q x1 x2 x3 vLn)) ∧ (¬ ((vLn.2 1) ≤ 0) → (wp_X2_add (fun (v_8 : OV) => (wp_X2_writeOne_13 Q x1 x2 x3 v_8)) (32 : Int32) vLn)))
set_option maxRecDepth 20000 in
theorem lb_X2_writeOne_0 {X : List Cond} {l : Launch} {D : va_G} {G : Nat → ClassId} {C : Cx} {bs0 : List va_W} {hLn : Nat} {qLn : Nat → Nat} {Q : OV → Prop} (F : GF C X cX2_writeOne wsX2_writeOne RX2 rm_X2_writeOne 4 none D G l) (E : GE C bs0 0 0 (po_X2_writeOne G hLn qLn Q)) {x1 : Int32} {x2 : Int32} {x3 : Int32} {vLn : OV} (hw : wp_X2_writeOne_0 Q x1 x2 x3 vLn) : GW C 0 0 [bLn G hLn qLn vLn] 0 [(0, .ref hLn), (1, .int x1), (2, .int x2), (3, .int x3)] [] := by
  unfold wp_X2_writeOne_0 at hw
  refine gw_aload_n F dX2_writeOne_0 0 rfl ?_
  refine gw_get F in_X2_writeOne_RX2 0 rfl rfl 1 (by decide) lk_X2_writeOne_15 rfl dX2_writeOne_1 ?_
  refine gw_if_le (tgt := 13) F dX2_writeOne_4 (by decide) (fun c_1 => ?_) (fun c_1 => ?_)
  · have hw := hw.1 c_1
    exact lb_X2_writeOne_13 F E hw
  · have hw := hw.2 c_1
    refine gw_aload_n F dX2_writeOne_7 0 rfl ?_
    refine gw_bipush (v := (32 : Int32)) F dX2_writeOne_8 ic_bipush_32 ?_
    refine gw_callV F (ct_X2_add hw) 1 gX2_writeOne_X2_add rfl rfl rfl hd_X2_add ⟨(Nat.le_of_ble_eq_true rfl), (Nat.le_of_ble_eq_true rfl)⟩ rfl rfl (Nat.le_of_ble_eq_true rfl) ⟨Nat.zero_le _, Nat.zero_le _⟩ [0] (bsr := []) rfl rfl (q0 := 0) rfl rfl dX2_writeOne_10 ?_
    rintro _ _ ⟨v_8, rfl, rfl, hw⟩
    refine gw_sel [0] (bs' := [bLn G hLn qLn v_8]) rfl rfl ?_
    change GW C 0 0 _ 13 _ []
    exact lb_X2_writeOne_13 F E hw
def wp_X2_writeOne (Q : OV → Prop) (x1 : Int32) (x2 : Int32) (x3 : Int32) (vLn : OV) : Prop := wp_X2_writeOne_0 Q x1 x2 x3 vLn
theorem ct_X2_writeOne {X : List Cond} {l : Launch} {D : va_G} {G : Nat → ClassId} {hLn : Nat} {qLn : Nat → Nat} {Q : OV → Prop} {x1 : Int32} {x2 : Int32} {x3 : Int32} {vLn : OV} (hw : wp_X2_writeOne Q x1 x2 x3 vLn) : CM X l yX2_writeOne wsX2_writeOne rm_X2_writeOne D G [.ref hLn, .int x1, .int x2, .int x3] [bLn G hLn qLn vLn] 0 0 (po_X2_writeOne G hLn qLn Q) :=
  CM.of pn_RX2 rfl rfl (Nat.le_of_ble_eq_true rfl) rfl (fun C F E => lb_X2_writeOne_0 F E hw)
-- X2_writeKeys
abbrev rm_X2_writeKeys : Room := { frames := 4, cells := 0, slots := 0, locals := 125 }
def po_X2_writeKeys (G : Nat → ClassId) (hLn : Nat) (qLn : Nat → Nat) (hLg : Nat) (qLg : Nat → Nat) (vLg : OV) (Q : OV → Prop) : Option Value → List va_W → Prop := fun o bs => ∃ (vLn : OV), o = none ∧ bs = [bLn G hLn qLn vLn, bLg G hLg qLg vLg] ∧ Q vLn
theorem hd_X2_writeKeys : yX2_writeKeys.cls = RX2 ∧ yX2_writeKeys.cls ≠ "java/lang/invoke/MethodHandle" ∧ yX2_writeKeys.cls ≠ "java/lang/invoke/VarHandle" ∧ (parseMethodDescriptor yX2_writeKeys.desc).map (fun d => d.parameters.length) = some 1 := by decide +kernel
theorem in_X2_writeKeys_RX3 : ∀ w ∈ wsX30, w ∈ wsX2_writeKeys := fun w h => List.mem_cons_of_mem _ (List.mem_append_left _ (List.mem_append_left _ (List.mem_append_right _ h)))
theorem lk_X2_writeKeys_23 : Cond.fieldLink RX2 23 "KeyWaves$Lodge" "keys" "I" ∈ wsX2_writeKeys := List.mem_cons_of_mem _ (List.mem_append_left _ (List.mem_append_left _ (List.mem_append_left _ (List.mem_append_left _ (List.mem_of_getElem? (i := 0) rfl)))))
def wp_X2_writeKeys_2 (Q : OV → Prop) (K2 : Int32 → OV → Prop) (vLg : OV) (x2 : Int32) (vLn : OV) : Prop :=
  (((vLg.2 8) ≤ x2 → (Q vLn)) ∧ (¬ ((vLg.2 8) ≤ x2) → (wp_X3_wardsOf (fun (r_2 : Int32) => (wp_X3_lockWith (fun (r_3 : Int32) => (wp_X2_writeOne (fun (v_4 : OV) => (∀ i_5 : Int32, i_5 = x2 + (1 : Int32) → (K2 i_5 v_4))) x2 r_2 r_3 vLn)) x2 vLg)) x2 vLg)))
set_option maxRecDepth 20000 in
theorem lb_X2_writeKeys_2 {X : List Cond} {l : Launch} {D : va_G} {G : Nat → ClassId} {C : Cx} {bs0 : List va_W} {hLn : Nat} {qLn : Nat → Nat} {hLg : Nat} {qLg : Nat → Nat} {Q : OV → Prop} {K2 : Int32 → OV → Prop} {vLg : OV} (F : GF C X cX2_writeKeys wsX2_writeKeys RX2 rm_X2_writeKeys 3 none D G l) (E : GE C bs0 0 0 (po_X2_writeKeys G hLn qLn hLg qLg vLg Q)) (hK2 : ∀ (x2 : Int32) (vLn : OV), K2 x2 vLn → GW C 0 0 [bLn G hLn qLn vLn, bLg G hLg qLg vLg] 2 [(0, .ref hLn), (1, .ref hLg), (2, .int x2)] []) {x2 : Int32} {vLn : OV} (hw : wp_X2_writeKeys_2 Q K2 vLg x2 vLn) : GW C 0 0 [bLn G hLn qLn vLn, bLg G hLg qLg vLg] 2 [(0, .ref hLn), (1, .ref hLg), (2, .int x2)] [] := by
  unfold wp_X2_writeKeys_2 at hw
  refine gw_iload_n F dX2_writeKeys_2 2 rfl ?_
  refine gw_aload_n F dX2_writeKeys_3 1 rfl ?_
  refine gw_get F in_X2_writeKeys_RX3 2 rfl rfl 8 (by decide) lk_X2_writeKeys_23 rfl dX2_writeKeys_4 ?_
  refine gw_icmp_ge (tgt := 31) F dX2_writeKeys_7 (by decide) (fun c_1 => ?_) (fun c_1 => ?_)
  · have hw := hw.1 c_1
    exact gw_vret F E rfl (Nat.le_of_ble_eq_true rfl) (Nat.le_of_ble_eq_true rfl) dX2_writeKeys_31 ⟨_, rfl, rfl, hw⟩
  · have hw := hw.2 c_1
    refine gw_aload_n F dX2_writeKeys_10 0 rfl ?_
    refine gw_iload_n F dX2_writeKeys_11 2 rfl ?_
    refine gw_aload_n F dX2_writeKeys_12 1 rfl ?_
    refine gw_iload_n F dX2_writeKeys_13 2 rfl ?_
    refine gw_callV F (ct_X3_wardsOf hw) 1 gX2_writeKeys_X3_wardsOf rfl rfl rfl hd_X3_wardsOf ⟨(Nat.le_of_ble_eq_true rfl), (Nat.le_of_ble_eq_true rfl)⟩ rfl rfl (Nat.le_of_ble_eq_true rfl) ⟨Nat.zero_le _, Nat.zero_le _⟩ [0, 1] (bsr := [bLn G hLn qLn vLn]) rfl rfl (q0 := 0) rfl rfl dX2_writeKeys_14 ?_
    rintro _ _ ⟨r_2, rfl, rfl, hw⟩
    refine gw_sel [0, 1] (bs' := [bLn G hLn qLn vLn, bLg G hLg qLg vLg]) rfl rfl ?_
    change GW C 0 0 _ 17 _ [.int r_2, .int x2, .ref hLn]
    refine gw_aload_n F dX2_writeKeys_17 1 rfl ?_
    refine gw_iload_n F dX2_writeKeys_18 2 rfl ?_
    refine gw_callV F (ct_X3_lockWith hw) 1 gX2_writeKeys_X3_lockWith rfl rfl rfl hd_X3_lockWith ⟨(Nat.le_of_ble_eq_true rfl), (Nat.le_of_ble_eq_true rfl)⟩ rfl rfl (Nat.le_of_ble_eq_true rfl) ⟨Nat.zero_le _, Nat.zero_le _⟩ [0, 1] (bsr := [bLn G hLn qLn vLn]) rfl rfl (q0 := 0) rfl rfl dX2_writeKeys_19 ?_
    rintro _ _ ⟨r_3, rfl, rfl, hw⟩
    refine gw_sel [0, 1] (bs' := [bLn G hLn qLn vLn, bLg G hLg qLg vLg]) rfl rfl ?_
    change GW C 0 0 _ 22 _ [.int r_3, .int r_2, .int x2, .ref hLn]
    refine gw_callV F (ct_X2_writeOne hw) 3 gX2_writeKeys_X2_writeOne rfl rfl rfl hd_X2_writeOne ⟨(Nat.le_of_ble_eq_true rfl), (Nat.le_of_ble_eq_true rfl)⟩ rfl rfl (Nat.le_of_ble_eq_true rfl) ⟨Nat.zero_le _, Nat.zero_le _⟩ [1, 0] (bsr := [bLg G hLg qLg vLg]) rfl rfl (q0 := 0) rfl rfl dX2_writeKeys_22 ?_
    rintro _ _ ⟨v_4, rfl, rfl, hw⟩
    refine gw_sel [1, 0] (bs' := [bLn G hLn qLn v_4, bLg G hLg qLg vLg]) rfl rfl ?_
    change GW C 0 0 _ 25 _ []
    obtain ⟨i_5, e_i_5⟩ : ∃ z : Int32, z = x2 + (1 : Int32) := ⟨_, rfl⟩
    have hw := hw i_5 e_i_5
    refine gw_iinc (v := i_5) (lv' := [(2, .int i_5), (0, .ref hLn), (1, .ref hLg)]) F dX2_writeKeys_25 2 rfl (by rw [e_i_5]; rfl) (by decide) rfl ?_
    refine gw_goto (tgt := 2) F dX2_writeKeys_28 (by decide) ?_
    refine gw_lv [1, 2, 0] rfl ?_
    exact hK2 _ _ hw
def wp_X2_writeKeys_2_loop (Q : OV → Prop) (vLg : OV) : Nat → Int32 → OV → Prop
  | 0, _, _ => False
  | n + 1, x2, vLn => wp_X2_writeKeys_2 Q (wp_X2_writeKeys_2_loop Q vLg n) vLg x2 vLn
theorem lp_X2_writeKeys_2 {X : List Cond} {l : Launch} {D : va_G} {G : Nat → ClassId} {C : Cx} {bs0 : List va_W} {hLn : Nat} {qLn : Nat → Nat} {hLg : Nat} {qLg : Nat → Nat} {Q : OV → Prop} {vLg : OV} (F : GF C X cX2_writeKeys wsX2_writeKeys RX2 rm_X2_writeKeys 3 none D G l) (E : GE C bs0 0 0 (po_X2_writeKeys G hLn qLn hLg qLg vLg Q)) : ∀ (n : Nat) (x2 : Int32) (vLn : OV), wp_X2_writeKeys_2_loop Q vLg n x2 vLn → GW C 0 0 [bLn G hLn qLn vLn, bLg G hLg qLg vLg] 2 [(0, .ref hLn), (1, .ref hLg), (2, .int x2)] [] := by
  intro n
  induction n with
  | zero => intro x2 vLn hw; exact False.elim hw
  | succ n ih => intro x2 vLn hw; exact lb_X2_writeKeys_2 (K2 := wp_X2_writeKeys_2_loop Q vLg n) F E ih hw
def wp_X2_writeKeys_0 (Q : OV → Prop) (vLg : OV) (vLn : OV) : Prop :=
  (∃ n_6 : Nat, wp_X2_writeKeys_2_loop Q vLg n_6 (0 : Int32) vLn)
set_option maxRecDepth 20000 in
theorem lb_X2_writeKeys_0 {X : List Cond} {l : Launch} {D : va_G} {G : Nat → ClassId} {C : Cx} {bs0 : List va_W} {hLn : Nat} {qLn : Nat → Nat} {hLg : Nat} {qLg : Nat → Nat} {Q : OV → Prop} {vLg : OV} (F : GF C X cX2_writeKeys wsX2_writeKeys RX2 rm_X2_writeKeys 3 none D G l) (E : GE C bs0 0 0 (po_X2_writeKeys G hLn qLn hLg qLg vLg Q)) {vLn : OV} (hw : wp_X2_writeKeys_0 Q vLg vLn) : GW C 0 0 [bLn G hLn qLn vLn, bLg G hLg qLg vLg] 0 [(0, .ref hLn), (1, .ref hLg)] [] := by
  unfold wp_X2_writeKeys_0 at hw
  refine gw_iconst (v := (0 : Int32)) F dX2_writeKeys_0 ic_iconst_0 ?_
  refine gw_istore_n (lv' := [(2, .int (0 : Int32)), (0, .ref hLn), (1, .ref hLg)]) F dX2_writeKeys_1 (by decide) rfl ?_
  refine gw_lv [1, 2, 0] rfl ?_
  obtain ⟨n_6, hw⟩ := hw
  exact lp_X2_writeKeys_2 F E n_6 _ _ hw
def wp_X2_writeKeys (Q : OV → Prop) (vLn : OV) (vLg : OV) : Prop := wp_X2_writeKeys_0 Q vLg vLn
theorem ct_X2_writeKeys {X : List Cond} {l : Launch} {D : va_G} {G : Nat → ClassId} {hLn : Nat} {qLn : Nat → Nat} {hLg : Nat} {qLg : Nat → Nat} {Q : OV → Prop} {vLn : OV} {vLg : OV} (hw : wp_X2_writeKeys Q vLn vLg) : CM X l yX2_writeKeys wsX2_writeKeys rm_X2_writeKeys D G [.ref hLn, .ref hLg] [bLn G hLn qLn vLn, bLg G hLg qLg vLg] 0 0 (po_X2_writeKeys G hLn qLn hLg qLg vLg Q) :=
  CM.of pn_RX2 rfl rfl (Nat.le_of_ble_eq_true rfl) rfl (fun C F E => lb_X2_writeKeys_0 F E hw)
-- X2_writeLocks
abbrev rm_X2_writeLocks : Room := { frames := 4, cells := 0, slots := 0, locals := 125 }
def po_X2_writeLocks (G : Nat → ClassId) (hLn : Nat) (qLn : Nat → Nat) (hLg : Nat) (qLg : Nat → Nat) (vLg : OV) (Q : OV → Prop) : Option Value → List va_W → Prop := fun o bs => ∃ (vLn : OV), o = none ∧ bs = [bLn G hLn qLn vLn, bLg G hLg qLg vLg] ∧ Q vLn
theorem hd_X2_writeLocks : yX2_writeLocks.cls = RX2 ∧ yX2_writeLocks.cls ≠ "java/lang/invoke/MethodHandle" ∧ yX2_writeLocks.cls ≠ "java/lang/invoke/VarHandle" ∧ (parseMethodDescriptor yX2_writeLocks.desc).map (fun d => d.parameters.length) = some 1 := by decide +kernel
theorem in_X2_writeLocks_RX3 : ∀ w ∈ wsX30, w ∈ wsX2_writeLocks := fun w h => List.mem_cons_of_mem _ (List.mem_append_left _ (List.mem_append_left _ (List.mem_append_right _ h)))
theorem lk_X2_writeLocks_39 : Cond.fieldLink RX2 39 "KeyWaves$Lodge" "locks" "I" ∈ wsX2_writeLocks := List.mem_cons_of_mem _ (List.mem_append_left _ (List.mem_append_left _ (List.mem_append_left _ (List.mem_append_left _ (List.mem_of_getElem? (i := 0) rfl)))))
def wp_X2_writeLocks_2 (Q : OV → Prop) (K2 : Int32 → OV → Prop) (vLg : OV) (x2 : Int32) (vLn : OV) : Prop :=
  (((vLg.2 9) ≤ x2 → (Q vLn)) ∧ (¬ ((vLg.2 9) ≤ x2) → (wp_X3_pinsOf (fun (r_2 : Int32) => (wp_X3_keyIn (fun (r_3 : Int32) => (wp_X2_writeOne (fun (v_4 : OV) => (∀ i_5 : Int32, i_5 = x2 + (1 : Int32) → (K2 i_5 v_4))) x2 r_2 r_3 vLn)) x2 vLg)) x2 vLg)))
set_option maxRecDepth 20000 in
theorem lb_X2_writeLocks_2 {X : List Cond} {l : Launch} {D : va_G} {G : Nat → ClassId} {C : Cx} {bs0 : List va_W} {hLn : Nat} {qLn : Nat → Nat} {hLg : Nat} {qLg : Nat → Nat} {Q : OV → Prop} {K2 : Int32 → OV → Prop} {vLg : OV} (F : GF C X cX2_writeLocks wsX2_writeLocks RX2 rm_X2_writeLocks 3 none D G l) (E : GE C bs0 0 0 (po_X2_writeLocks G hLn qLn hLg qLg vLg Q)) (hK2 : ∀ (x2 : Int32) (vLn : OV), K2 x2 vLn → GW C 0 0 [bLn G hLn qLn vLn, bLg G hLg qLg vLg] 2 [(0, .ref hLn), (1, .ref hLg), (2, .int x2)] []) {x2 : Int32} {vLn : OV} (hw : wp_X2_writeLocks_2 Q K2 vLg x2 vLn) : GW C 0 0 [bLn G hLn qLn vLn, bLg G hLg qLg vLg] 2 [(0, .ref hLn), (1, .ref hLg), (2, .int x2)] [] := by
  unfold wp_X2_writeLocks_2 at hw
  refine gw_iload_n F dX2_writeLocks_2 2 rfl ?_
  refine gw_aload_n F dX2_writeLocks_3 1 rfl ?_
  refine gw_get F in_X2_writeLocks_RX3 2 rfl rfl 9 (by decide) lk_X2_writeLocks_39 rfl dX2_writeLocks_4 ?_
  refine gw_icmp_ge (tgt := 31) F dX2_writeLocks_7 (by decide) (fun c_1 => ?_) (fun c_1 => ?_)
  · have hw := hw.1 c_1
    exact gw_vret F E rfl (Nat.le_of_ble_eq_true rfl) (Nat.le_of_ble_eq_true rfl) dX2_writeLocks_31 ⟨_, rfl, rfl, hw⟩
  · have hw := hw.2 c_1
    refine gw_aload_n F dX2_writeLocks_10 0 rfl ?_
    refine gw_iload_n F dX2_writeLocks_11 2 rfl ?_
    refine gw_aload_n F dX2_writeLocks_12 1 rfl ?_
    refine gw_iload_n F dX2_writeLocks_13 2 rfl ?_
    refine gw_callV F (ct_X3_pinsOf hw) 1 gX2_writeLocks_X3_pinsOf rfl rfl rfl hd_X3_pinsOf ⟨(Nat.le_of_ble_eq_true rfl), (Nat.le_of_ble_eq_true rfl)⟩ rfl rfl (Nat.le_of_ble_eq_true rfl) ⟨Nat.zero_le _, Nat.zero_le _⟩ [0, 1] (bsr := [bLn G hLn qLn vLn]) rfl rfl (q0 := 0) rfl rfl dX2_writeLocks_14 ?_
    rintro _ _ ⟨r_2, rfl, rfl, hw⟩
    refine gw_sel [0, 1] (bs' := [bLn G hLn qLn vLn, bLg G hLg qLg vLg]) rfl rfl ?_
    change GW C 0 0 _ 17 _ [.int r_2, .int x2, .ref hLn]
    refine gw_aload_n F dX2_writeLocks_17 1 rfl ?_
    refine gw_iload_n F dX2_writeLocks_18 2 rfl ?_
    refine gw_callV F (ct_X3_keyIn hw) 1 gX2_writeLocks_X3_keyIn rfl rfl rfl hd_X3_keyIn ⟨(Nat.le_of_ble_eq_true rfl), (Nat.le_of_ble_eq_true rfl)⟩ rfl rfl (Nat.le_of_ble_eq_true rfl) ⟨Nat.zero_le _, Nat.zero_le _⟩ [0, 1] (bsr := [bLn G hLn qLn vLn]) rfl rfl (q0 := 0) rfl rfl dX2_writeLocks_19 ?_
    rintro _ _ ⟨r_3, rfl, rfl, hw⟩
    refine gw_sel [0, 1] (bs' := [bLn G hLn qLn vLn, bLg G hLg qLg vLg]) rfl rfl ?_
    change GW C 0 0 _ 22 _ [.int r_3, .int r_2, .int x2, .ref hLn]
    refine gw_callV F (ct_X2_writeOne hw) 3 gX2_writeLocks_X2_writeOne rfl rfl rfl hd_X2_writeOne ⟨(Nat.le_of_ble_eq_true rfl), (Nat.le_of_ble_eq_true rfl)⟩ rfl rfl (Nat.le_of_ble_eq_true rfl) ⟨Nat.zero_le _, Nat.zero_le _⟩ [1, 0] (bsr := [bLg G hLg qLg vLg]) rfl rfl (q0 := 0) rfl rfl dX2_writeLocks_22 ?_
    rintro _ _ ⟨v_4, rfl, rfl, hw⟩
    refine gw_sel [1, 0] (bs' := [bLn G hLn qLn v_4, bLg G hLg qLg vLg]) rfl rfl ?_
    change GW C 0 0 _ 25 _ []
    obtain ⟨i_5, e_i_5⟩ : ∃ z : Int32, z = x2 + (1 : Int32) := ⟨_, rfl⟩
    have hw := hw i_5 e_i_5
    refine gw_iinc (v := i_5) (lv' := [(2, .int i_5), (0, .ref hLn), (1, .ref hLg)]) F dX2_writeLocks_25 2 rfl (by rw [e_i_5]; rfl) (by decide) rfl ?_
    refine gw_goto (tgt := 2) F dX2_writeLocks_28 (by decide) ?_
    refine gw_lv [1, 2, 0] rfl ?_
    exact hK2 _ _ hw
def wp_X2_writeLocks_2_loop (Q : OV → Prop) (vLg : OV) : Nat → Int32 → OV → Prop
  | 0, _, _ => False
  | n + 1, x2, vLn => wp_X2_writeLocks_2 Q (wp_X2_writeLocks_2_loop Q vLg n) vLg x2 vLn
theorem lp_X2_writeLocks_2 {X : List Cond} {l : Launch} {D : va_G} {G : Nat → ClassId} {C : Cx} {bs0 : List va_W} {hLn : Nat} {qLn : Nat → Nat} {hLg : Nat} {qLg : Nat → Nat} {Q : OV → Prop} {vLg : OV} (F : GF C X cX2_writeLocks wsX2_writeLocks RX2 rm_X2_writeLocks 3 none D G l) (E : GE C bs0 0 0 (po_X2_writeLocks G hLn qLn hLg qLg vLg Q)) : ∀ (n : Nat) (x2 : Int32) (vLn : OV), wp_X2_writeLocks_2_loop Q vLg n x2 vLn → GW C 0 0 [bLn G hLn qLn vLn, bLg G hLg qLg vLg] 2 [(0, .ref hLn), (1, .ref hLg), (2, .int x2)] [] := by
  intro n
  induction n with
  | zero => intro x2 vLn hw; exact False.elim hw
  | succ n ih => intro x2 vLn hw; exact lb_X2_writeLocks_2 (K2 := wp_X2_writeLocks_2_loop Q vLg n) F E ih hw
def wp_X2_writeLocks_0 (Q : OV → Prop) (vLg : OV) (vLn : OV) : Prop :=
  (∃ n_6 : Nat, wp_X2_writeLocks_2_loop Q vLg n_6 (0 : Int32) vLn)
set_option maxRecDepth 20000 in
theorem lb_X2_writeLocks_0 {X : List Cond} {l : Launch} {D : va_G} {G : Nat → ClassId} {C : Cx} {bs0 : List va_W} {hLn : Nat} {qLn : Nat → Nat} {hLg : Nat} {qLg : Nat → Nat} {Q : OV → Prop} {vLg : OV} (F : GF C X cX2_writeLocks wsX2_writeLocks RX2 rm_X2_writeLocks 3 none D G l) (E : GE C bs0 0 0 (po_X2_writeLocks G hLn qLn hLg qLg vLg Q)) {vLn : OV} (hw : wp_X2_writeLocks_0 Q vLg vLn) : GW C 0 0 [bLn G hLn qLn vLn, bLg G hLg qLg vLg] 0 [(0, .ref hLn), (1, .ref hLg)] [] := by
  unfold wp_X2_writeLocks_0 at hw
  refine gw_iconst (v := (0 : Int32)) F dX2_writeLocks_0 ic_iconst_0 ?_
  refine gw_istore_n (lv' := [(2, .int (0 : Int32)), (0, .ref hLn), (1, .ref hLg)]) F dX2_writeLocks_1 (by decide) rfl ?_
  refine gw_lv [1, 2, 0] rfl ?_
  obtain ⟨n_6, hw⟩ := hw
  exact lp_X2_writeLocks_2 F E n_6 _ _ hw
def wp_X2_writeLocks (Q : OV → Prop) (vLn : OV) (vLg : OV) : Prop := wp_X2_writeLocks_0 Q vLg vLn
theorem ct_X2_writeLocks {X : List Cond} {l : Launch} {D : va_G} {G : Nat → ClassId} {hLn : Nat} {qLn : Nat → Nat} {hLg : Nat} {qLg : Nat → Nat} {Q : OV → Prop} {vLn : OV} {vLg : OV} (hw : wp_X2_writeLocks Q vLn vLg) : CM X l yX2_writeLocks wsX2_writeLocks rm_X2_writeLocks D G [.ref hLn, .ref hLg] [bLn G hLn qLn vLn, bLg G hLg qLg vLg] 0 0 (po_X2_writeLocks G hLn qLn hLg qLg vLg Q) :=
  CM.of pn_RX2 rfl rfl (Nat.le_of_ble_eq_true rfl) rfl (fun C F E => lb_X2_writeLocks_0 F E hw)
-- X4_takeAnyWay
def rm_X4_takeAnyWay (n : Nat) : Room := { frames := 3 + n, cells := 0, slots := 0, locals := 105 + n * 25 }
def po_X4_takeAnyWay (G : Nat → ClassId) (hPr : Nat) (qPr : Nat → Nat) (hLg : Nat) (qLg : Nat → Nat) (vLg : OV) (Q : Int32 → OV → Prop) : Option Value → List va_W → Prop := fun o bs => ∃ (r : Int32) (vPr : OV), o = some (.int r) ∧ bs = [bPr G hPr qPr vPr, bLg G hLg qLg vLg] ∧ Q r vPr
theorem hd_X4_takeAnyWay : yX4_takeAnyWay.cls ≠ "java/lang/invoke/MethodHandle" ∧ yX4_takeAnyWay.cls ≠ "java/lang/invoke/VarHandle" ∧ (parseMethodDescriptor yX4_takeAnyWay.desc).map (fun d => d.parameters.length) = some 4 := by decide +kernel
theorem in_X4_takeAnyWay_RX3 : ∀ w ∈ wsX30, w ∈ wsX4_takeAnyWay := fun w h => List.mem_cons_of_mem _ (List.mem_append_left _ (List.mem_append_left _ (List.mem_append_right _ h)))
theorem lk_X4_takeAnyWay_33 : Cond.fieldLink RX4 33 "KeyWaves$Lodge" "locks" "I" ∈ wsX4_takeAnyWay := List.mem_cons_of_mem _ (List.mem_append_left _ (List.mem_append_left _ (List.mem_append_left _ (List.mem_append_left _ (List.mem_of_getElem? (i := 0) rfl)))))
theorem in_X4_takeAnyWay_RX4 : ∀ w ∈ wsX40, w ∈ wsX4_takeAnyWay := fun w h => List.mem_cons_of_mem _ (List.mem_append_left _ (List.mem_append_right _ h))
theorem lk_X4_takeAnyWay_15 : Cond.fieldLink RX4 15 "KeyWaves$Pairing" "isTried" "[Z" ∈ wsX4_takeAnyWay := List.mem_cons_of_mem _ (List.mem_append_left _ (List.mem_append_left _ (List.mem_append_left _ (List.mem_append_left _ (List.mem_of_getElem? (i := 1) rfl)))))
theorem lk_X4_takeAnyWay_9 : Cond.fieldLink RX4 9 "KeyWaves$Pairing" "keyOfLock" "[I" ∈ wsX4_takeAnyWay := List.mem_cons_of_mem _ (List.mem_append_left _ (List.mem_append_left _ (List.mem_append_left _ (List.mem_append_left _ (List.mem_of_getElem? (i := 2) rfl)))))
def wp_X4_takeAnyWay_102 (Q : Int32 → OV → Prop) (Rc : (Int32 → OV → Prop) → Int32 → Int32 → OV → OV → Prop) (vLg : OV) (vPr : OV) : Prop :=
  (Q (0 : Int32) vPr)
set_option maxRecDepth 20000 in
theorem lb_X4_takeAnyWay_102 {X : List Cond} {l : Launch} {D : va_G} {G : Nat → ClassId} {C : Cx} {bs0 : List va_W} {n9 : Nat} {hPr : Nat} {qPr : Nat → Nat} {hLg : Nat} {qLg : Nat → Nat} {Q : Int32 → OV → Prop} {Rc : (Int32 → OV → Prop) → Int32 → Int32 → OV → OV → Prop} {vLg : OV} (F : GF C X cX4_takeAnyWay wsX4_takeAnyWay RX4 (rm_X4_takeAnyWay (n9 + 1)) 6 (some .boolean) D G l) (E : GE C bs0 0 0 (po_X4_takeAnyWay G hPr qPr hLg qLg vLg Q)) (hRc : ∀ (Q0 : Int32 → OV → Prop) (y2 : Int32) (y3 : Int32) (vPr : OV) (vLg : OV), Rc Q0 y2 y3 vPr vLg → CM X l yX4_takeAnyWay wsX4_takeAnyWay (rm_X4_takeAnyWay n9) D G [.ref hPr, .ref hLg, .int y2, .int y3] [bPr G hPr qPr vPr, bLg G hLg qLg vLg] 0 0 (po_X4_takeAnyWay G hPr qPr hLg qLg vLg Q0)) {vPr : OV} (hw : wp_X4_takeAnyWay_102 Q Rc vLg vPr) : GW C 0 0 [bPr G hPr qPr vPr, bLg G hLg qLg vLg] 102 [] [] := by
  unfold wp_X4_takeAnyWay_102 at hw
  refine gw_iconst (v := (0 : Int32)) F dX4_takeAnyWay_102 ic_iconst_0 ?_
  exact gw_iret F E rfl rfl (Nat.le_of_ble_eq_true rfl) (Nat.le_of_ble_eq_true rfl) dX4_takeAnyWay_103 ⟨_, _, rfl, rfl, hw⟩
def wp_X4_takeAnyWay_96 (Q : Int32 → OV → Prop) (Rc : (Int32 → OV → Prop) → Int32 → Int32 → OV → OV → Prop) (K11 : Int32 → Int32 → Int32 → OV → Prop) (vLg : OV) (x2 x3 x4 : Int32) (vPr : OV) : Prop :=
  (∀ i_6 : Int32, i_6 = x4 + (1 : Int32) → (K11 x2 x3 i_6 vPr))
set_option maxRecDepth 20000 in
theorem lb_X4_takeAnyWay_96 {X : List Cond} {l : Launch} {D : va_G} {G : Nat → ClassId} {C : Cx} {bs0 : List va_W} {n9 : Nat} {hPr : Nat} {qPr : Nat → Nat} {hLg : Nat} {qLg : Nat → Nat} {Q : Int32 → OV → Prop} {Rc : (Int32 → OV → Prop) → Int32 → Int32 → OV → OV → Prop} {K11 : Int32 → Int32 → Int32 → OV → Prop} {vLg : OV} (F : GF C X cX4_takeAnyWay wsX4_takeAnyWay RX4 (rm_X4_takeAnyWay (n9 + 1)) 6 (some .boolean) D G l) (E : GE C bs0 0 0 (po_X4_takeAnyWay G hPr qPr hLg qLg vLg Q)) (hRc : ∀ (Q0 : Int32 → OV → Prop) (y2 : Int32) (y3 : Int32) (vPr : OV) (vLg : OV), Rc Q0 y2 y3 vPr vLg → CM X l yX4_takeAnyWay wsX4_takeAnyWay (rm_X4_takeAnyWay n9) D G [.ref hPr, .ref hLg, .int y2, .int y3] [bPr G hPr qPr vPr, bLg G hLg qLg vLg] 0 0 (po_X4_takeAnyWay G hPr qPr hLg qLg vLg Q0)) (hK11 : ∀ (x2 x3 x4 : Int32) (vPr : OV), K11 x2 x3 x4 vPr → GW C 0 0 [bPr G hPr qPr vPr, bLg G hLg qLg vLg] 11 [(0, .ref hPr), (1, .ref hLg), (2, .int x2), (3, .int x3), (4, .int x4)] []) {x2 x3 x4 : Int32} {vPr : OV} (hw : wp_X4_takeAnyWay_96 Q Rc K11 vLg x2 x3 x4 vPr) : GW C 0 0 [bPr G hPr qPr vPr, bLg G hLg qLg vLg] 96 [(0, .ref hPr), (1, .ref hLg), (2, .int x2), (3, .int x3), (4, .int x4)] [] := by
  unfold wp_X4_takeAnyWay_96 at hw
  obtain ⟨i_6, e_i_6⟩ : ∃ z : Int32, z = x4 + (1 : Int32) := ⟨_, rfl⟩
  have hw := hw i_6 e_i_6
  refine gw_iinc (v := i_6) (lv' := [(4, .int i_6), (0, .ref hPr), (1, .ref hLg), (2, .int x2), (3, .int x3)]) F dX4_takeAnyWay_96 4 rfl (by rw [e_i_6]; rfl) (by decide) rfl ?_
  refine gw_goto (tgt := 11) F dX4_takeAnyWay_99 (by decide) ?_
  refine gw_lv [1, 2, 3, 4, 0] rfl ?_
  exact hK11 _ _ _ _ hw
def wp_X4_takeAnyWay_86 (Q : Int32 → OV → Prop) (Rc : (Int32 → OV → Prop) → Int32 → Int32 → OV → OV → Prop) (vLg : OV) (x2 x4 : Int32) (vPr : OV) : Prop :=
  (vp_in x4 10 ∧ ∀ v_14 : OV, v_14 = sA vPr 0 x4.toNatClampNeg x2 → (Q (1 : Int32) v_14))
set_option maxRecDepth 20000 in
theorem lb_X4_takeAnyWay_86 {X : List Cond} {l : Launch} {D : va_G} {G : Nat → ClassId} {C : Cx} {bs0 : List va_W} {n9 : Nat} {hPr : Nat} {qPr : Nat → Nat} {hLg : Nat} {qLg : Nat → Nat} {Q : Int32 → OV → Prop} {Rc : (Int32 → OV → Prop) → Int32 → Int32 → OV → OV → Prop} {vLg : OV} (F : GF C X cX4_takeAnyWay wsX4_takeAnyWay RX4 (rm_X4_takeAnyWay (n9 + 1)) 6 (some .boolean) D G l) (E : GE C bs0 0 0 (po_X4_takeAnyWay G hPr qPr hLg qLg vLg Q)) (hRc : ∀ (Q0 : Int32 → OV → Prop) (y2 : Int32) (y3 : Int32) (vPr : OV) (vLg : OV), Rc Q0 y2 y3 vPr vLg → CM X l yX4_takeAnyWay wsX4_takeAnyWay (rm_X4_takeAnyWay n9) D G [.ref hPr, .ref hLg, .int y2, .int y3] [bPr G hPr qPr vPr, bLg G hLg qLg vLg] 0 0 (po_X4_takeAnyWay G hPr qPr hLg qLg vLg Q0)) {x2 x4 : Int32} {vPr : OV} (hw : wp_X4_takeAnyWay_86 Q Rc vLg x2 x4 vPr) : GW C 0 0 [bPr G hPr qPr vPr, bLg G hLg qLg vLg] 86 [(0, .ref hPr), (2, .int x2), (4, .int x4)] [] := by
  unfold wp_X4_takeAnyWay_86 at hw
  refine gw_aload_n F dX4_takeAnyWay_86 0 rfl ?_
  refine gw_get F in_X4_takeAnyWay_RX4 0 rfl rfl 0 (by decide) lk_X4_takeAnyWay_9 rfl dX4_takeAnyWay_87 ?_
  refine gw_iload F dX4_takeAnyWay_90 2 rfl ?_
  refine gw_iload_n F dX4_takeAnyWay_92 1 rfl ?_
  obtain ⟨h_15, hw⟩ := hw
  obtain ⟨v_14, e_v_14⟩ : ∃ z : OV, z = sA vPr 0 x4.toNatClampNeg x2 := ⟨_, rfl⟩
  have hw := hw v_14 e_v_14
  refine gw_iast (bs' := [bPr G hPr qPr v_14, bLg G hLg qLg vLg]) F 1 rfl h_15 dX4_takeAnyWay_93 (by rw [e_v_14]; rfl) ?_
  refine gw_iconst (v := (1 : Int32)) F dX4_takeAnyWay_94 ic_iconst_1 ?_
  exact gw_iret F E rfl rfl (Nat.le_of_ble_eq_true rfl) (Nat.le_of_ble_eq_true rfl) dX4_takeAnyWay_95 ⟨_, _, rfl, rfl, hw⟩
def wp_X4_takeAnyWay_11 (Q : Int32 → OV → Prop) (Rc : (Int32 → OV → Prop) → Int32 → Int32 → OV → OV → Prop) (K11 : Int32 → Int32 → Int32 → OV → Prop) (vLg : OV) (x2 x3 x4 : Int32) (vPr : OV) : Prop :=
  (((vLg.2 9) ≤ x4 → (wp_X4_takeAnyWay_102 Q Rc vLg vPr)) ∧ (¬ ((vLg.2 9) ≤ x4) → (((10 : Int32) ≤ x4 → (wp_X4_takeAnyWay_102 Q Rc vLg vPr)) ∧ (¬ ((10 : Int32) ≤ x4) → (vp_in x4 10 ∧ ((¬ (vPr.1 1 x4.toNatClampNeg) = 0 → (wp_X4_takeAnyWay_96 Q Rc K11 vLg x2 x3 x4 vPr)) ∧ ((vPr.1 1 x4.toNatClampNeg) = 0 → (wp_X3_isFit (fun (r_7 : Int32) => ((¬ r_7 = 0 → (vp_in x4 10 ∧ ∀ v_9 : OV, v_9 = sA vPr 1 x4.toNatClampNeg (vp_nar .boolean (1 : Int32)) → (vp_in x4 10 ∧ (∀ i_12 : Int32, i_12 = (v_9.1 0 x4.toNatClampNeg) → ((i_12 = (-1 : Int32) → (wp_X4_takeAnyWay_86 Q Rc vLg x2 x4 v_9)) ∧ (¬ (i_12 = (-1 : Int32)) → (Rc (fun (r_16 : Int32) (v_17 : OV) => ((r_16 = 0 → (wp_X4_takeAnyWay_96 Q Rc K11 vLg x2 x3 x4 v_17)) ∧ (¬ (r_16 = 0) → (wp_X4_takeAnyWay_86 Q Rc vLg x2 x4 v_17)))) i_12 (x3 + (1 : Int32)) v_9 vLg))))))) ∧ (r_7 = 0 → (wp_X4_takeAnyWay_96 Q Rc K11 vLg x2 x3 x4 vPr)))) x2 x4 vLg))))))))
set_option maxRecDepth 20000 in
theorem lb_X4_takeAnyWay_11 {X : List Cond} {l : Launch} {D : va_G} {G : Nat → ClassId} {C : Cx} {bs0 : List va_W} {n9 : Nat} {hPr : Nat} {qPr : Nat → Nat} {hLg : Nat} {qLg : Nat → Nat} {Q : Int32 → OV → Prop} {Rc : (Int32 → OV → Prop) → Int32 → Int32 → OV → OV → Prop} {K11 : Int32 → Int32 → Int32 → OV → Prop} {vLg : OV} (F : GF C X cX4_takeAnyWay wsX4_takeAnyWay RX4 (rm_X4_takeAnyWay (n9 + 1)) 6 (some .boolean) D G l) (E : GE C bs0 0 0 (po_X4_takeAnyWay G hPr qPr hLg qLg vLg Q)) (hRc : ∀ (Q0 : Int32 → OV → Prop) (y2 : Int32) (y3 : Int32) (vPr : OV) (vLg : OV), Rc Q0 y2 y3 vPr vLg → CM X l yX4_takeAnyWay wsX4_takeAnyWay (rm_X4_takeAnyWay n9) D G [.ref hPr, .ref hLg, .int y2, .int y3] [bPr G hPr qPr vPr, bLg G hLg qLg vLg] 0 0 (po_X4_takeAnyWay G hPr qPr hLg qLg vLg Q0)) (hK11 : ∀ (x2 x3 x4 : Int32) (vPr : OV), K11 x2 x3 x4 vPr → GW C 0 0 [bPr G hPr qPr vPr, bLg G hLg qLg vLg] 11 [(0, .ref hPr), (1, .ref hLg), (2, .int x2), (3, .int x3), (4, .int x4)] []) {x2 x3 x4 : Int32} {vPr : OV} (hw : wp_X4_takeAnyWay_11 Q Rc K11 vLg x2 x3 x4 vPr) : GW C 0 0 [bPr G hPr qPr vPr, bLg G hLg qLg vLg] 11 [(0, .ref hPr), (1, .ref hLg), (2, .int x2), (3, .int x3), (4, .int x4)] [] := by
  unfold wp_X4_takeAnyWay_11 at hw
  refine gw_iload F dX4_takeAnyWay_11 4 rfl ?_
  refine gw_aload_n F dX4_takeAnyWay_13 1 rfl ?_
  refine gw_get F in_X4_takeAnyWay_RX3 3 rfl rfl 9 (by decide) lk_X4_takeAnyWay_33 rfl dX4_takeAnyWay_14 ?_
  refine gw_icmp_ge (tgt := 102) F dX4_takeAnyWay_17 (by decide) (fun c_2 => ?_) (fun c_2 => ?_)
  · have hw := hw.1 c_2
    refine gw_lv [] rfl ?_
    exact lb_X4_takeAnyWay_102 F E hRc hw
  · have hw := hw.2 c_2
    refine gw_iload F dX4_takeAnyWay_20 4 rfl ?_
    refine gw_bipush (v := (10 : Int32)) F dX4_takeAnyWay_22 ic_bipush_10 ?_
    refine gw_icmp_ge (tgt := 102) F dX4_takeAnyWay_24 (by decide) (fun c_3 => ?_) (fun c_3 => ?_)
    · have hw := hw.1 c_3
      refine gw_lv [] rfl ?_
      exact lb_X4_takeAnyWay_102 F E hRc hw
    · have hw := hw.2 c_3
      refine gw_aload_n F dX4_takeAnyWay_27 0 rfl ?_
      refine gw_get F in_X4_takeAnyWay_RX4 0 rfl rfl 1 (by decide) lk_X4_takeAnyWay_15 rfl dX4_takeAnyWay_28 ?_
      refine gw_iload F dX4_takeAnyWay_31 4 rfl ?_
      obtain ⟨h_4, hw⟩ := hw
      refine gw_zald F 2 rfl h_4 dX4_takeAnyWay_33 ?_
      refine gw_if_ne (tgt := 96) F dX4_takeAnyWay_34 (by decide) (fun c_5 => ?_) (fun c_5 => ?_)
      · have hw := hw.1 c_5
        exact lb_X4_takeAnyWay_96 F E hRc hK11 hw
      · have hw := hw.2 c_5
        refine gw_aload_n F dX4_takeAnyWay_37 1 rfl ?_
        refine gw_iload_n F dX4_takeAnyWay_38 2 rfl ?_
        refine gw_iload F dX4_takeAnyWay_39 4 rfl ?_
        refine gw_callV F (ct_X3_isFit hw) 2 gX4_takeAnyWay_X3_isFit rfl rfl rfl hd_X3_isFit ⟨by simp only [rm_X4_takeAnyWay, rm_X3_isFit]; omega, by simp only [rm_X4_takeAnyWay, rm_X3_isFit]; omega⟩ rfl rfl (Nat.le_of_ble_eq_true rfl) ⟨Nat.zero_le _, Nat.zero_le _⟩ [0, 1] (bsr := [bPr G hPr qPr vPr]) rfl rfl (q0 := 0) rfl rfl dX4_takeAnyWay_41 ?_
        rintro _ _ ⟨r_7, rfl, rfl, hw⟩
        refine gw_sel [0, 1] (bs' := [bPr G hPr qPr vPr, bLg G hLg qLg vLg]) rfl rfl ?_
        change GW C 0 0 _ 44 _ [.int r_7]
        refine gw_if_ne (tgt := 50) F dX4_takeAnyWay_44 (by decide) (fun c_8 => ?_) (fun c_8 => ?_)
        · have hw := hw.1 c_8
          refine gw_aload_n F dX4_takeAnyWay_50 0 rfl ?_
          refine gw_get F in_X4_takeAnyWay_RX4 0 rfl rfl 1 (by decide) lk_X4_takeAnyWay_15 rfl dX4_takeAnyWay_51 ?_
          refine gw_iload F dX4_takeAnyWay_54 4 rfl ?_
          refine gw_iconst (v := (1 : Int32)) F dX4_takeAnyWay_56 ic_iconst_1 ?_
          obtain ⟨h_10, hw⟩ := hw
          obtain ⟨v_9, e_v_9⟩ : ∃ z : OV, z = sA vPr 1 x4.toNatClampNeg (vp_nar .boolean (1 : Int32)) := ⟨_, rfl⟩
          have hw := hw v_9 e_v_9
          refine gw_zast (bs' := [bPr G hPr qPr v_9, bLg G hLg qLg vLg]) F 2 rfl h_10 dX4_takeAnyWay_57 (by rw [e_v_9]; rfl) ?_
          refine gw_aload_n F dX4_takeAnyWay_58 0 rfl ?_
          refine gw_get F in_X4_takeAnyWay_RX4 0 rfl rfl 0 (by decide) lk_X4_takeAnyWay_9 rfl dX4_takeAnyWay_59 ?_
          refine gw_iload F dX4_takeAnyWay_62 4 rfl ?_
          obtain ⟨h_11, hw⟩ := hw
          refine gw_iald F 1 rfl h_11 dX4_takeAnyWay_64 ?_
          refine gw_topi (fun i_12 e_i_12 => ?_)
          have hw := hw i_12 e_i_12
          refine gw_istore (lv' := [(5, .int i_12), (0, .ref hPr), (1, .ref hLg), (2, .int x2), (3, .int x3), (4, .int x4)]) F dX4_takeAnyWay_65 (by decide) rfl ?_
          refine gw_iload F dX4_takeAnyWay_67 0 rfl ?_
          refine gw_iconst (v := (-1 : Int32)) F dX4_takeAnyWay_69 ic_iconst_m1 ?_
          refine gw_icmp_eq (tgt := 86) F dX4_takeAnyWay_70 (by decide) (fun c_13 => ?_) (fun c_13 => ?_)
          · have hw := hw.1 c_13
            refine gw_lv [1, 3, 5] rfl ?_
            exact lb_X4_takeAnyWay_86 F E hRc hw
          · have hw := hw.2 c_13
            refine gw_aload_n F dX4_takeAnyWay_73 1 rfl ?_
            refine gw_aload_n F dX4_takeAnyWay_74 2 rfl ?_
            refine gw_iload F dX4_takeAnyWay_75 0 rfl ?_
            refine gw_iload_n F dX4_takeAnyWay_77 4 rfl ?_
            refine gw_iconst (v := (1 : Int32)) F dX4_takeAnyWay_78 ic_iconst_1 ?_
            refine gw_iadd F dX4_takeAnyWay_79 ?_
            refine gw_callS F (hRc _ _ _ _ _ hw) 4 gX4_takeAnyWay_X4_takeAnyWay rfl rfl rfl hd_X4_takeAnyWay ⟨by simp only [rm_X4_takeAnyWay]; omega, by simp only [rm_X4_takeAnyWay]; omega⟩ rfl rfl (Nat.le_of_ble_eq_true rfl) ⟨Nat.zero_le _, Nat.zero_le _⟩ [0, 1] (bsr := []) rfl rfl dX4_takeAnyWay_80 ?_
            rintro _ _ ⟨r_16, v_17, rfl, rfl, hw⟩
            refine gw_sel [0, 1] (bs' := [bPr G hPr qPr v_17, bLg G hLg qLg vLg]) rfl rfl ?_
            change GW C 0 0 _ 83 _ [.int r_16]
            refine gw_if_eq (tgt := 96) F dX4_takeAnyWay_83 (by decide) (fun c_18 => ?_) (fun c_18 => ?_)
            · have hw := hw.1 c_18
              refine gw_lv [1, 2, 3, 4, 5] rfl ?_
              exact lb_X4_takeAnyWay_96 F E hRc hK11 hw
            · have hw := hw.2 c_18
              refine gw_lv [1, 3, 5] rfl ?_
              exact lb_X4_takeAnyWay_86 F E hRc hw
        · have hw := hw.2 c_8
          refine gw_goto (tgt := 96) F dX4_takeAnyWay_47 (by decide) ?_
          exact lb_X4_takeAnyWay_96 F E hRc hK11 hw
def wp_X4_takeAnyWay_11_loop (Q : Int32 → OV → Prop) (Rc : (Int32 → OV → Prop) → Int32 → Int32 → OV → OV → Prop) (vLg : OV) : Nat → Int32 → Int32 → Int32 → OV → Prop
  | 0, _, _, _, _ => False
  | n + 1, x2, x3, x4, vPr => wp_X4_takeAnyWay_11 Q Rc (wp_X4_takeAnyWay_11_loop Q Rc vLg n) vLg x2 x3 x4 vPr
theorem lp_X4_takeAnyWay_11 {X : List Cond} {l : Launch} {D : va_G} {G : Nat → ClassId} {C : Cx} {bs0 : List va_W} {n9 : Nat} {hPr : Nat} {qPr : Nat → Nat} {hLg : Nat} {qLg : Nat → Nat} {Q : Int32 → OV → Prop} {Rc : (Int32 → OV → Prop) → Int32 → Int32 → OV → OV → Prop} {vLg : OV} (F : GF C X cX4_takeAnyWay wsX4_takeAnyWay RX4 (rm_X4_takeAnyWay (n9 + 1)) 6 (some .boolean) D G l) (E : GE C bs0 0 0 (po_X4_takeAnyWay G hPr qPr hLg qLg vLg Q)) (hRc : ∀ (Q0 : Int32 → OV → Prop) (y2 : Int32) (y3 : Int32) (vPr : OV) (vLg : OV), Rc Q0 y2 y3 vPr vLg → CM X l yX4_takeAnyWay wsX4_takeAnyWay (rm_X4_takeAnyWay n9) D G [.ref hPr, .ref hLg, .int y2, .int y3] [bPr G hPr qPr vPr, bLg G hLg qLg vLg] 0 0 (po_X4_takeAnyWay G hPr qPr hLg qLg vLg Q0)) : ∀ (n : Nat) (x2 x3 x4 : Int32) (vPr : OV), wp_X4_takeAnyWay_11_loop Q Rc vLg n x2 x3 x4 vPr → GW C 0 0 [bPr G hPr qPr vPr, bLg G hLg qLg vLg] 11 [(0, .ref hPr), (1, .ref hLg), (2, .int x2), (3, .int x3), (4, .int x4)] [] := by
  intro n
  induction n with
  | zero => intro x2 x3 x4 vPr hw; exact False.elim hw
  | succ n ih => intro x2 x3 x4 vPr hw; exact lb_X4_takeAnyWay_11 (K11 := wp_X4_takeAnyWay_11_loop Q Rc vLg n) F E hRc ih hw
def wp_X4_takeAnyWay_0 (Q : Int32 → OV → Prop) (Rc : (Int32 → OV → Prop) → Int32 → Int32 → OV → OV → Prop) (vLg : OV) (x2 : Int32) (x3 : Int32) (vPr : OV) : Prop :=
  ((x3 ≤ (10 : Int32) → (∃ n_19 : Nat, wp_X4_takeAnyWay_11_loop Q Rc vLg n_19 x2 x3 (0 : Int32) vPr)) ∧ (¬ (x3 ≤ (10 : Int32)) → (Q (0 : Int32) vPr)))
set_option maxRecDepth 20000 in
theorem lb_X4_takeAnyWay_0 {X : List Cond} {l : Launch} {D : va_G} {G : Nat → ClassId} {C : Cx} {bs0 : List va_W} {n9 : Nat} {hPr : Nat} {qPr : Nat → Nat} {hLg : Nat} {qLg : Nat → Nat} {Q : Int32 → OV → Prop} {Rc : (Int32 → OV → Prop) → Int32 → Int32 → OV → OV → Prop} {vLg : OV} (F : GF C X cX4_takeAnyWay wsX4_takeAnyWay RX4 (rm_X4_takeAnyWay (n9 + 1)) 6 (some .boolean) D G l) (E : GE C bs0 0 0 (po_X4_takeAnyWay G hPr qPr hLg qLg vLg Q)) (hRc : ∀ (Q0 : Int32 → OV → Prop) (y2 : Int32) (y3 : Int32) (vPr : OV) (vLg : OV), Rc Q0 y2 y3 vPr vLg → CM X l yX4_takeAnyWay wsX4_takeAnyWay (rm_X4_takeAnyWay n9) D G [.ref hPr, .ref hLg, .int y2, .int y3] [bPr G hPr qPr vPr, bLg G hLg qLg vLg] 0 0 (po_X4_takeAnyWay G hPr qPr hLg qLg vLg Q0)) {x2 : Int32} {x3 : Int32} {vPr : OV} (hw : wp_X4_takeAnyWay_0 Q Rc vLg x2 x3 vPr) : GW C 0 0 [bPr G hPr qPr vPr, bLg G hLg qLg vLg] 0 [(0, .ref hPr), (1, .ref hLg), (2, .int x2), (3, .int x3)] [] := by
  unfold wp_X4_takeAnyWay_0 at hw
  refine gw_iload_n F dX4_takeAnyWay_0 3 rfl ?_
  refine gw_bipush (v := (10 : Int32)) F dX4_takeAnyWay_1 ic_bipush_10 ?_
  refine gw_icmp_le (tgt := 8) F dX4_takeAnyWay_3 (by decide) (fun c_1 => ?_) (fun c_1 => ?_)
  · have hw := hw.1 c_1
    refine gw_iconst (v := (0 : Int32)) F dX4_takeAnyWay_8 ic_iconst_0 ?_
    refine gw_istore (lv' := [(4, .int (0 : Int32)), (0, .ref hPr), (1, .ref hLg), (2, .int x2), (3, .int x3)]) F dX4_takeAnyWay_9 (by decide) rfl ?_
    refine gw_lv [1, 2, 3, 4, 0] rfl ?_
    obtain ⟨n_19, hw⟩ := hw
    exact lp_X4_takeAnyWay_11 F E hRc n_19 _ _ _ _ hw
  · have hw := hw.2 c_1
    refine gw_iconst (v := (0 : Int32)) F dX4_takeAnyWay_6 ic_iconst_0 ?_
    exact gw_iret F E rfl rfl (Nat.le_of_ble_eq_true rfl) (Nat.le_of_ble_eq_true rfl) dX4_takeAnyWay_7 ⟨_, _, rfl, rfl, hw⟩
def wp_X4_takeAnyWay : Nat → (Int32 → OV → Prop) → Int32 → Int32 → OV → OV → Prop
  | 0, _, _, _, _, _ => False
  | n + 1, Q, x2, x3, vPr, vLg => wp_X4_takeAnyWay_0 Q (wp_X4_takeAnyWay n) vLg x2 x3 vPr
theorem ct9_X4_takeAnyWay {X : List Cond} {l : Launch} {D : va_G} {G : Nat → ClassId} {hPr : Nat} {qPr : Nat → Nat} {hLg : Nat} {qLg : Nat → Nat} : ∀ (n : Nat) (Q : Int32 → OV → Prop) (x2 : Int32) (x3 : Int32) (vPr : OV) (vLg : OV) (hw : wp_X4_takeAnyWay n Q x2 x3 vPr vLg), CM X l yX4_takeAnyWay wsX4_takeAnyWay (rm_X4_takeAnyWay n) D G [.ref hPr, .ref hLg, .int x2, .int x3] [bPr G hPr qPr vPr, bLg G hLg qLg vLg] 0 0 (po_X4_takeAnyWay G hPr qPr hLg qLg vLg Q) := by
  intro n
  induction n with
  | zero => intro Q x2 x3 vPr vLg hw; exact False.elim hw
  | succ n ih => intro Q x2 x3 vPr vLg hw; exact CM.of pn_RX4 rfl rfl (Nat.le_of_ble_eq_true rfl) rfl (fun C F E => lb_X4_takeAnyWay_0 F E (fun Q0 x2 x3 vPr vLg h => ih Q0 x2 x3 vPr vLg h) hw)
theorem ct_X4_takeAnyWay {X : List Cond} {l : Launch} {D : va_G} {G : Nat → ClassId} {hPr : Nat} {qPr : Nat → Nat} {hLg : Nat} {qLg : Nat → Nat} {n : Nat} {Q : Int32 → OV → Prop} {x2 : Int32} {x3 : Int32} {vPr : OV} {vLg : OV} (hw : wp_X4_takeAnyWay n Q x2 x3 vPr vLg) : CM X l yX4_takeAnyWay wsX4_takeAnyWay (rm_X4_takeAnyWay n) D G [.ref hPr, .ref hLg, .int x2, .int x3] [bPr G hPr qPr vPr, bLg G hLg qLg vLg] 0 0 (po_X4_takeAnyWay G hPr qPr hLg qLg vLg Q) := ct9_X4_takeAnyWay n Q x2 x3 vPr vLg hw
-- X4_startFrom
abbrev rm_X4_startFrom : Room := { frames := 17, cells := 0, slots := 0, locals := 455 }
def po_X4_startFrom (G : Nat → ClassId) (hPr : Nat) (qPr : Nat → Nat) (hLg : Nat) (qLg : Nat → Nat) (vLg : OV) (Q : Int32 → OV → Prop) : Option Value → List va_W → Prop := fun o bs => ∃ (r : Int32) (vPr : OV), o = some (.int r) ∧ bs = [bPr G hPr qPr vPr, bLg G hLg qLg vLg] ∧ Q r vPr
theorem hd_X4_startFrom : yX4_startFrom.cls = RX4 ∧ yX4_startFrom.cls ≠ "java/lang/invoke/MethodHandle" ∧ yX4_startFrom.cls ≠ "java/lang/invoke/VarHandle" ∧ (parseMethodDescriptor yX4_startFrom.desc).map (fun d => d.parameters.length) = some 2 := by decide +kernel
theorem in_X4_startFrom_RX4 : ∀ w ∈ wsX40, w ∈ wsX4_startFrom := fun w h => List.mem_cons_of_mem _ (List.mem_append_left _ (List.mem_append_left _ (List.mem_append_right _ h)))
theorem lk_X4_startFrom_15 : Cond.fieldLink RX4 15 "KeyWaves$Pairing" "isTried" "[Z" ∈ wsX4_startFrom := List.mem_cons_of_mem _ (List.mem_append_left _ (List.mem_append_left _ (List.mem_append_left _ (List.mem_append_left _ (List.mem_of_getElem? (i := 0) rfl)))))
def wp_X4_startFrom_2 (Q : Int32 → OV → Prop) (K2 : Int32 → Int32 → OV → Prop) (vLg : OV) (x2 x3 : Int32) (vPr : OV) : Prop :=
  (((10 : Int32) ≤ x3 → (wp_X4_takeAnyWay 13 (fun (r_2 : Int32) (v_3 : OV) => (narrow .boolean (.int r_2) = .int r_2 ∧ Q r_2 v_3)) x2 (0 : Int32) vPr vLg)) ∧ (¬ ((10 : Int32) ≤ x3) → (vp_in x3 10 ∧ ∀ v_4 : OV, v_4 = sA vPr 1 x3.toNatClampNeg (vp_nar .boolean (0 : Int32)) → (∀ i_6 : Int32, i_6 = x3 + (1 : Int32) → (K2 x2 i_6 v_4)))))
set_option maxRecDepth 20000 in
theorem lb_X4_startFrom_2 {X : List Cond} {l : Launch} {D : va_G} {G : Nat → ClassId} {C : Cx} {bs0 : List va_W} {hPr : Nat} {qPr : Nat → Nat} {hLg : Nat} {qLg : Nat → Nat} {Q : Int32 → OV → Prop} {K2 : Int32 → Int32 → OV → Prop} {vLg : OV} (F : GF C X cX4_startFrom wsX4_startFrom RX4 rm_X4_startFrom 4 (some .boolean) D G l) (E : GE C bs0 0 0 (po_X4_startFrom G hPr qPr hLg qLg vLg Q)) (hK2 : ∀ (x2 x3 : Int32) (vPr : OV), K2 x2 x3 vPr → GW C 0 0 [bPr G hPr qPr vPr, bLg G hLg qLg vLg] 2 [(0, .ref hPr), (1, .ref hLg), (2, .int x2), (3, .int x3)] []) {x2 x3 : Int32} {vPr : OV} (hw : wp_X4_startFrom_2 Q K2 vLg x2 x3 vPr) : GW C 0 0 [bPr G hPr qPr vPr, bLg G hLg qLg vLg] 2 [(0, .ref hPr), (1, .ref hLg), (2, .int x2), (3, .int x3)] [] := by
  unfold wp_X4_startFrom_2 at hw
  refine gw_iload_n F dX4_startFrom_2 3 rfl ?_
  refine gw_bipush (v := (10 : Int32)) F dX4_startFrom_3 ic_bipush_10 ?_
  refine gw_icmp_ge (tgt := 21) F dX4_startFrom_5 (by decide) (fun c_1 => ?_) (fun c_1 => ?_)
  · have hw := hw.1 c_1
    refine gw_aload_n F dX4_startFrom_21 0 rfl ?_
    refine gw_aload_n F dX4_startFrom_22 1 rfl ?_
    refine gw_iload_n F dX4_startFrom_23 2 rfl ?_
    refine gw_iconst (v := (0 : Int32)) F dX4_startFrom_24 ic_iconst_0 ?_
    refine gw_callS F (ct_X4_takeAnyWay hw) 4 gX4_startFrom_X4_takeAnyWay rfl rfl rfl hd_X4_takeAnyWay ⟨(Nat.le_of_ble_eq_true rfl), (Nat.le_of_ble_eq_true rfl)⟩ rfl rfl (Nat.le_of_ble_eq_true rfl) ⟨Nat.zero_le _, Nat.zero_le _⟩ [0, 1] (bsr := []) rfl rfl dX4_startFrom_25 ?_
    rintro _ _ ⟨r_2, v_3, rfl, rfl, hw⟩
    refine gw_sel [0, 1] (bs' := [bPr G hPr qPr v_3, bLg G hLg qLg vLg]) rfl rfl ?_
    change GW C 0 0 _ 28 _ [.int r_2]
    obtain ⟨hn, hw⟩ := hw
    exact gw_iret F E rfl hn (Nat.le_of_ble_eq_true rfl) (Nat.le_of_ble_eq_true rfl) dX4_startFrom_28 ⟨_, _, rfl, rfl, hw⟩
  · have hw := hw.2 c_1
    refine gw_aload_n F dX4_startFrom_8 0 rfl ?_
    refine gw_get F in_X4_startFrom_RX4 0 rfl rfl 1 (by decide) lk_X4_startFrom_15 rfl dX4_startFrom_9 ?_
    refine gw_iload_n F dX4_startFrom_12 3 rfl ?_
    refine gw_iconst (v := (0 : Int32)) F dX4_startFrom_13 ic_iconst_0 ?_
    obtain ⟨h_5, hw⟩ := hw
    obtain ⟨v_4, e_v_4⟩ : ∃ z : OV, z = sA vPr 1 x3.toNatClampNeg (vp_nar .boolean (0 : Int32)) := ⟨_, rfl⟩
    have hw := hw v_4 e_v_4
    refine gw_zast (bs' := [bPr G hPr qPr v_4, bLg G hLg qLg vLg]) F 2 rfl h_5 dX4_startFrom_14 (by rw [e_v_4]; rfl) ?_
    obtain ⟨i_6, e_i_6⟩ : ∃ z : Int32, z = x3 + (1 : Int32) := ⟨_, rfl⟩
    have hw := hw i_6 e_i_6
    refine gw_iinc (v := i_6) (lv' := [(3, .int i_6), (0, .ref hPr), (1, .ref hLg), (2, .int x2)]) F dX4_startFrom_15 3 rfl (by rw [e_i_6]; rfl) (by decide) rfl ?_
    refine gw_goto (tgt := 2) F dX4_startFrom_18 (by decide) ?_
    refine gw_lv [1, 2, 3, 0] rfl ?_
    exact hK2 _ _ _ hw
def wp_X4_startFrom_2_loop (Q : Int32 → OV → Prop) (vLg : OV) : Nat → Int32 → Int32 → OV → Prop
  | 0, _, _, _ => False
  | n + 1, x2, x3, vPr => wp_X4_startFrom_2 Q (wp_X4_startFrom_2_loop Q vLg n) vLg x2 x3 vPr
theorem lp_X4_startFrom_2 {X : List Cond} {l : Launch} {D : va_G} {G : Nat → ClassId} {C : Cx} {bs0 : List va_W} {hPr : Nat} {qPr : Nat → Nat} {hLg : Nat} {qLg : Nat → Nat} {Q : Int32 → OV → Prop} {vLg : OV} (F : GF C X cX4_startFrom wsX4_startFrom RX4 rm_X4_startFrom 4 (some .boolean) D G l) (E : GE C bs0 0 0 (po_X4_startFrom G hPr qPr hLg qLg vLg Q)) : ∀ (n : Nat) (x2 x3 : Int32) (vPr : OV), wp_X4_startFrom_2_loop Q vLg n x2 x3 vPr → GW C 0 0 [bPr G hPr qPr vPr, bLg G hLg qLg vLg] 2 [(0, .ref hPr), (1, .ref hLg), (2, .int x2), (3, .int x3)] [] := by
  intro n
  induction n with
  | zero => intro x2 x3 vPr hw; exact False.elim hw
  | succ n ih => intro x2 x3 vPr hw; exact lb_X4_startFrom_2 (K2 := wp_X4_startFrom_2_loop Q vLg n) F E ih hw
def wp_X4_startFrom_0 (Q : Int32 → OV → Prop) (vLg : OV) (x2 : Int32) (vPr : OV) : Prop :=
  (∃ n_7 : Nat, wp_X4_startFrom_2_loop Q vLg n_7 x2 (0 : Int32) vPr)
set_option maxRecDepth 20000 in
theorem lb_X4_startFrom_0 {X : List Cond} {l : Launch} {D : va_G} {G : Nat → ClassId} {C : Cx} {bs0 : List va_W} {hPr : Nat} {qPr : Nat → Nat} {hLg : Nat} {qLg : Nat → Nat} {Q : Int32 → OV → Prop} {vLg : OV} (F : GF C X cX4_startFrom wsX4_startFrom RX4 rm_X4_startFrom 4 (some .boolean) D G l) (E : GE C bs0 0 0 (po_X4_startFrom G hPr qPr hLg qLg vLg Q)) {x2 : Int32} {vPr : OV} (hw : wp_X4_startFrom_0 Q vLg x2 vPr) : GW C 0 0 [bPr G hPr qPr vPr, bLg G hLg qLg vLg] 0 [(0, .ref hPr), (1, .ref hLg), (2, .int x2)] [] := by
  unfold wp_X4_startFrom_0 at hw
  refine gw_iconst (v := (0 : Int32)) F dX4_startFrom_0 ic_iconst_0 ?_
  refine gw_istore_n (lv' := [(3, .int (0 : Int32)), (0, .ref hPr), (1, .ref hLg), (2, .int x2)]) F dX4_startFrom_1 (by decide) rfl ?_
  refine gw_lv [1, 2, 3, 0] rfl ?_
  obtain ⟨n_7, hw⟩ := hw
  exact lp_X4_startFrom_2 F E n_7 _ _ _ hw
def wp_X4_startFrom (Q : Int32 → OV → Prop) (x2 : Int32) (vPr : OV) (vLg : OV) : Prop := wp_X4_startFrom_0 Q vLg x2 vPr
theorem ct_X4_startFrom {X : List Cond} {l : Launch} {D : va_G} {G : Nat → ClassId} {hPr : Nat} {qPr : Nat → Nat} {hLg : Nat} {qLg : Nat → Nat} {Q : Int32 → OV → Prop} {x2 : Int32} {vPr : OV} {vLg : OV} (hw : wp_X4_startFrom Q x2 vPr vLg) : CM X l yX4_startFrom wsX4_startFrom rm_X4_startFrom D G [.ref hPr, .ref hLg, .int x2] [bPr G hPr qPr vPr, bLg G hLg qLg vLg] 0 0 (po_X4_startFrom G hPr qPr hLg qLg vLg Q) :=
  CM.of pn_RX4 rfl rfl (Nat.le_of_ble_eq_true rfl) rfl (fun C F E => lb_X4_startFrom_0 F E hw)
-- X4_countMostWithout
abbrev rm_X4_countMostWithout : Room := { frames := 18, cells := 0, slots := 0, locals := 478 }
def po_X4_countMostWithout (G : Nat → ClassId) (hPr : Nat) (qPr : Nat → Nat) (hLg : Nat) (qLg : Nat → Nat) (vLg : OV) (Q : Int32 → OV → Prop) : Option Value → List va_W → Prop := fun o bs => ∃ (r : Int32) (vPr : OV), o = some (.int r) ∧ bs = [bPr G hPr qPr vPr, bLg G hLg qLg vLg] ∧ Q r vPr
theorem hd_X4_countMostWithout : yX4_countMostWithout.cls = RX4 ∧ yX4_countMostWithout.cls ≠ "java/lang/invoke/MethodHandle" ∧ yX4_countMostWithout.cls ≠ "java/lang/invoke/VarHandle" ∧ (parseMethodDescriptor yX4_countMostWithout.desc).map (fun d => d.parameters.length) = some 2 := by decide +kernel
theorem in_X4_countMostWithout_RX3 : ∀ w ∈ wsX30, w ∈ wsX4_countMostWithout := fun w h => List.mem_cons_of_mem _ (List.mem_append_left _ (List.mem_append_right _ h))
theorem lk_X4_countMostWithout_19 : Cond.fieldLink RX4 19 "KeyWaves$Lodge" "keys" "I" ∈ wsX4_countMostWithout := List.mem_cons_of_mem _ (List.mem_append_left _ (List.mem_append_left _ (List.mem_append_left _ (List.mem_append_left _ (List.mem_of_getElem? (i := 1) rfl)))))
theorem in_X4_countMostWithout_RX4 : ∀ w ∈ wsX40, w ∈ wsX4_countMostWithout := fun w h => List.mem_cons_of_mem _ (List.mem_append_left _ (List.mem_append_left _ (List.mem_append_right _ h)))
theorem lk_X4_countMostWithout_9 : Cond.fieldLink RX4 9 "KeyWaves$Pairing" "keyOfLock" "[I" ∈ wsX4_countMostWithout := List.mem_cons_of_mem _ (List.mem_append_left _ (List.mem_append_left _ (List.mem_append_left _ (List.mem_append_left _ (List.mem_of_getElem? (i := 0) rfl)))))
def wp_X4_countMostWithout_54 (Q : Int32 → OV → Prop) (K26 : Int32 → Int32 → Int32 → OV → Prop) (vLg : OV) (x2 x3 x4 : Int32) (vPr : OV) : Prop :=
  (∀ i_4 : Int32, i_4 = x4 + (1 : Int32) → (K26 x2 x3 i_4 vPr))
set_option maxRecDepth 20000 in
theorem lb_X4_countMostWithout_54 {X : List Cond} {l : Launch} {D : va_G} {G : Nat → ClassId} {C : Cx} {bs0 : List va_W} {hPr : Nat} {qPr : Nat → Nat} {hLg : Nat} {qLg : Nat → Nat} {Q : Int32 → OV → Prop} {K26 : Int32 → Int32 → Int32 → OV → Prop} {vLg : OV} (F : GF C X cX4_countMostWithout wsX4_countMostWithout RX4 rm_X4_countMostWithout 5 (some .int) D G l) (E : GE C bs0 0 0 (po_X4_countMostWithout G hPr qPr hLg qLg vLg Q)) (hK26 : ∀ (x2 x3 x4 : Int32) (vPr : OV), K26 x2 x3 x4 vPr → GW C 0 0 [bPr G hPr qPr vPr, bLg G hLg qLg vLg] 26 [(0, .ref hPr), (1, .ref hLg), (2, .int x2), (3, .int x3), (4, .int x4)] []) {x2 x3 x4 : Int32} {vPr : OV} (hw : wp_X4_countMostWithout_54 Q K26 vLg x2 x3 x4 vPr) : GW C 0 0 [bPr G hPr qPr vPr, bLg G hLg qLg vLg] 54 [(0, .ref hPr), (1, .ref hLg), (2, .int x2), (3, .int x3), (4, .int x4)] [] := by
  unfold wp_X4_countMostWithout_54 at hw
  obtain ⟨i_4, e_i_4⟩ : ∃ z : Int32, z = x4 + (1 : Int32) := ⟨_, rfl⟩
  have hw := hw i_4 e_i_4
  refine gw_iinc (v := i_4) (lv' := [(4, .int i_4), (0, .ref hPr), (1, .ref hLg), (2, .int x2), (3, .int x3)]) F dX4_countMostWithout_54 4 rfl (by rw [e_i_4]; rfl) (by decide) rfl ?_
  refine gw_goto (tgt := 26) F dX4_countMostWithout_57 (by decide) ?_
  refine gw_lv [1, 2, 3, 4, 0] rfl ?_
  exact hK26 _ _ _ _ hw
def wp_X4_countMostWithout_26 (Q : Int32 → OV → Prop) (K26 : Int32 → Int32 → Int32 → OV → Prop) (vLg : OV) (x2 x3 x4 : Int32) (vPr : OV) : Prop :=
  (((vLg.2 8) ≤ x4 → (Q x3 vPr)) ∧ (¬ ((vLg.2 8) ≤ x4) → ((x4 = x2 → (wp_X4_countMostWithout_54 Q K26 vLg x2 x3 x4 vPr)) ∧ (¬ (x4 = x2) → (wp_X4_startFrom (fun (r_5 : Int32) (v_6 : OV) => ((r_5 = 0 → (wp_X4_countMostWithout_54 Q K26 vLg x2 x3 x4 v_6)) ∧ (¬ (r_5 = 0) → (∀ i_8 : Int32, i_8 = x3 + (1 : Int32) → (wp_X4_countMostWithout_54 Q K26 vLg x2 i_8 x4 v_6))))) x4 vPr vLg)))))
set_option maxRecDepth 20000 in
theorem lb_X4_countMostWithout_26 {X : List Cond} {l : Launch} {D : va_G} {G : Nat → ClassId} {C : Cx} {bs0 : List va_W} {hPr : Nat} {qPr : Nat → Nat} {hLg : Nat} {qLg : Nat → Nat} {Q : Int32 → OV → Prop} {K26 : Int32 → Int32 → Int32 → OV → Prop} {vLg : OV} (F : GF C X cX4_countMostWithout wsX4_countMostWithout RX4 rm_X4_countMostWithout 5 (some .int) D G l) (E : GE C bs0 0 0 (po_X4_countMostWithout G hPr qPr hLg qLg vLg Q)) (hK26 : ∀ (x2 x3 x4 : Int32) (vPr : OV), K26 x2 x3 x4 vPr → GW C 0 0 [bPr G hPr qPr vPr, bLg G hLg qLg vLg] 26 [(0, .ref hPr), (1, .ref hLg), (2, .int x2), (3, .int x3), (4, .int x4)] []) {x2 x3 x4 : Int32} {vPr : OV} (hw : wp_X4_countMostWithout_26 Q K26 vLg x2 x3 x4 vPr) : GW C 0 0 [bPr G hPr qPr vPr, bLg G hLg qLg vLg] 26 [(0, .ref hPr), (1, .ref hLg), (2, .int x2), (3, .int x3), (4, .int x4)] [] := by
  unfold wp_X4_countMostWithout_26 at hw
  refine gw_iload F dX4_countMostWithout_26 4 rfl ?_
  refine gw_aload_n F dX4_countMostWithout_28 1 rfl ?_
  refine gw_get F in_X4_countMostWithout_RX3 3 rfl rfl 8 (by decide) lk_X4_countMostWithout_19 rfl dX4_countMostWithout_29 ?_
  refine gw_icmp_ge (tgt := 60) F dX4_countMostWithout_32 (by decide) (fun c_2 => ?_) (fun c_2 => ?_)
  · have hw := hw.1 c_2
    refine gw_iload_n F dX4_countMostWithout_60 3 rfl ?_
    exact gw_iret F E rfl rfl (Nat.le_of_ble_eq_true rfl) (Nat.le_of_ble_eq_true rfl) dX4_countMostWithout_61 ⟨_, _, rfl, rfl, hw⟩
  · have hw := hw.2 c_2
    refine gw_iload F dX4_countMostWithout_35 4 rfl ?_
    refine gw_iload_n F dX4_countMostWithout_37 2 rfl ?_
    refine gw_icmp_eq (tgt := 54) F dX4_countMostWithout_38 (by decide) (fun c_3 => ?_) (fun c_3 => ?_)
    · have hw := hw.1 c_3
      exact lb_X4_countMostWithout_54 F E hK26 hw
    · have hw := hw.2 c_3
      refine gw_aload_n F dX4_countMostWithout_41 0 rfl ?_
      refine gw_aload_n F dX4_countMostWithout_42 1 rfl ?_
      refine gw_iload F dX4_countMostWithout_43 4 rfl ?_
      refine gw_callV F (ct_X4_startFrom hw) 2 gX4_countMostWithout_X4_startFrom rfl rfl rfl hd_X4_startFrom ⟨(Nat.le_of_ble_eq_true rfl), (Nat.le_of_ble_eq_true rfl)⟩ rfl rfl (Nat.le_of_ble_eq_true rfl) ⟨Nat.zero_le _, Nat.zero_le _⟩ [0, 1] (bsr := []) rfl rfl (q0 := 0) rfl rfl dX4_countMostWithout_45 ?_
      rintro _ _ ⟨r_5, v_6, rfl, rfl, hw⟩
      refine gw_sel [0, 1] (bs' := [bPr G hPr qPr v_6, bLg G hLg qLg vLg]) rfl rfl ?_
      change GW C 0 0 _ 48 _ [.int r_5]
      refine gw_if_eq (tgt := 54) F dX4_countMostWithout_48 (by decide) (fun c_7 => ?_) (fun c_7 => ?_)
      · have hw := hw.1 c_7
        exact lb_X4_countMostWithout_54 F E hK26 hw
      · have hw := hw.2 c_7
        obtain ⟨i_8, e_i_8⟩ : ∃ z : Int32, z = x3 + (1 : Int32) := ⟨_, rfl⟩
        have hw := hw i_8 e_i_8
        refine gw_iinc (v := i_8) (lv' := [(3, .int i_8), (0, .ref hPr), (1, .ref hLg), (2, .int x2), (4, .int x4)]) F dX4_countMostWithout_51 3 rfl (by rw [e_i_8]; rfl) (by decide) rfl ?_
        refine gw_lv [1, 2, 3, 0, 4] rfl ?_
        exact lb_X4_countMostWithout_54 F E hK26 hw
def wp_X4_countMostWithout_26_loop (Q : Int32 → OV → Prop) (vLg : OV) : Nat → Int32 → Int32 → Int32 → OV → Prop
  | 0, _, _, _, _ => False
  | n + 1, x2, x3, x4, vPr => wp_X4_countMostWithout_26 Q (wp_X4_countMostWithout_26_loop Q vLg n) vLg x2 x3 x4 vPr
theorem lp_X4_countMostWithout_26 {X : List Cond} {l : Launch} {D : va_G} {G : Nat → ClassId} {C : Cx} {bs0 : List va_W} {hPr : Nat} {qPr : Nat → Nat} {hLg : Nat} {qLg : Nat → Nat} {Q : Int32 → OV → Prop} {vLg : OV} (F : GF C X cX4_countMostWithout wsX4_countMostWithout RX4 rm_X4_countMostWithout 5 (some .int) D G l) (E : GE C bs0 0 0 (po_X4_countMostWithout G hPr qPr hLg qLg vLg Q)) : ∀ (n : Nat) (x2 x3 x4 : Int32) (vPr : OV), wp_X4_countMostWithout_26_loop Q vLg n x2 x3 x4 vPr → GW C 0 0 [bPr G hPr qPr vPr, bLg G hLg qLg vLg] 26 [(0, .ref hPr), (1, .ref hLg), (2, .int x2), (3, .int x3), (4, .int x4)] [] := by
  intro n
  induction n with
  | zero => intro x2 x3 x4 vPr hw; exact False.elim hw
  | succ n ih => intro x2 x3 x4 vPr hw; exact lb_X4_countMostWithout_26 (K26 := wp_X4_countMostWithout_26_loop Q vLg n) F E ih hw
def wp_X4_countMostWithout_2 (Q : Int32 → OV → Prop) (K2 : Int32 → Int32 → OV → Prop) (vLg : OV) (x2 x3 : Int32) (vPr : OV) : Prop :=
  (((10 : Int32) ≤ x3 → (∃ n_9 : Nat, wp_X4_countMostWithout_26_loop Q vLg n_9 x2 (0 : Int32) (0 : Int32) vPr)) ∧ (¬ ((10 : Int32) ≤ x3) → (vp_in x3 10 ∧ ∀ v_10 : OV, v_10 = sA vPr 0 x3.toNatClampNeg (-1 : Int32) → (∀ i_12 : Int32, i_12 = x3 + (1 : Int32) → (K2 x2 i_12 v_10)))))
set_option maxRecDepth 20000 in
theorem lb_X4_countMostWithout_2 {X : List Cond} {l : Launch} {D : va_G} {G : Nat → ClassId} {C : Cx} {bs0 : List va_W} {hPr : Nat} {qPr : Nat → Nat} {hLg : Nat} {qLg : Nat → Nat} {Q : Int32 → OV → Prop} {K2 : Int32 → Int32 → OV → Prop} {vLg : OV} (F : GF C X cX4_countMostWithout wsX4_countMostWithout RX4 rm_X4_countMostWithout 5 (some .int) D G l) (E : GE C bs0 0 0 (po_X4_countMostWithout G hPr qPr hLg qLg vLg Q)) (hK2 : ∀ (x2 x3 : Int32) (vPr : OV), K2 x2 x3 vPr → GW C 0 0 [bPr G hPr qPr vPr, bLg G hLg qLg vLg] 2 [(0, .ref hPr), (1, .ref hLg), (2, .int x2), (3, .int x3)] []) {x2 x3 : Int32} {vPr : OV} (hw : wp_X4_countMostWithout_2 Q K2 vLg x2 x3 vPr) : GW C 0 0 [bPr G hPr qPr vPr, bLg G hLg qLg vLg] 2 [(0, .ref hPr), (1, .ref hLg), (2, .int x2), (3, .int x3)] [] := by
  unfold wp_X4_countMostWithout_2 at hw
  refine gw_iload_n F dX4_countMostWithout_2 3 rfl ?_
  refine gw_bipush (v := (10 : Int32)) F dX4_countMostWithout_3 ic_bipush_10 ?_
  refine gw_icmp_ge (tgt := 21) F dX4_countMostWithout_5 (by decide) (fun c_1 => ?_) (fun c_1 => ?_)
  · have hw := hw.1 c_1
    refine gw_iconst (v := (0 : Int32)) F dX4_countMostWithout_21 ic_iconst_0 ?_
    refine gw_istore_n (lv' := [(3, .int (0 : Int32)), (0, .ref hPr), (1, .ref hLg), (2, .int x2)]) F dX4_countMostWithout_22 (by decide) rfl ?_
    refine gw_iconst (v := (0 : Int32)) F dX4_countMostWithout_23 ic_iconst_0 ?_
    refine gw_istore (lv' := [(4, .int (0 : Int32)), (3, .int (0 : Int32)), (0, .ref hPr), (1, .ref hLg), (2, .int x2)]) F dX4_countMostWithout_24 (by decide) rfl ?_
    refine gw_lv [2, 3, 4, 1, 0] rfl ?_
    obtain ⟨n_9, hw⟩ := hw
    exact lp_X4_countMostWithout_26 F E n_9 _ _ _ _ hw
  · have hw := hw.2 c_1
    refine gw_aload_n F dX4_countMostWithout_8 0 rfl ?_
    refine gw_get F in_X4_countMostWithout_RX4 0 rfl rfl 0 (by decide) lk_X4_countMostWithout_9 rfl dX4_countMostWithout_9 ?_
    refine gw_iload_n F dX4_countMostWithout_12 3 rfl ?_
    refine gw_iconst (v := (-1 : Int32)) F dX4_countMostWithout_13 ic_iconst_m1 ?_
    obtain ⟨h_11, hw⟩ := hw
    obtain ⟨v_10, e_v_10⟩ : ∃ z : OV, z = sA vPr 0 x3.toNatClampNeg (-1 : Int32) := ⟨_, rfl⟩
    have hw := hw v_10 e_v_10
    refine gw_iast (bs' := [bPr G hPr qPr v_10, bLg G hLg qLg vLg]) F 1 rfl h_11 dX4_countMostWithout_14 (by rw [e_v_10]; rfl) ?_
    obtain ⟨i_12, e_i_12⟩ : ∃ z : Int32, z = x3 + (1 : Int32) := ⟨_, rfl⟩
    have hw := hw i_12 e_i_12
    refine gw_iinc (v := i_12) (lv' := [(3, .int i_12), (0, .ref hPr), (1, .ref hLg), (2, .int x2)]) F dX4_countMostWithout_15 3 rfl (by rw [e_i_12]; rfl) (by decide) rfl ?_
    refine gw_goto (tgt := 2) F dX4_countMostWithout_18 (by decide) ?_
    refine gw_lv [1, 2, 3, 0] rfl ?_
    exact hK2 _ _ _ hw
def wp_X4_countMostWithout_2_loop (Q : Int32 → OV → Prop) (vLg : OV) : Nat → Int32 → Int32 → OV → Prop
  | 0, _, _, _ => False
  | n + 1, x2, x3, vPr => wp_X4_countMostWithout_2 Q (wp_X4_countMostWithout_2_loop Q vLg n) vLg x2 x3 vPr
theorem lp_X4_countMostWithout_2 {X : List Cond} {l : Launch} {D : va_G} {G : Nat → ClassId} {C : Cx} {bs0 : List va_W} {hPr : Nat} {qPr : Nat → Nat} {hLg : Nat} {qLg : Nat → Nat} {Q : Int32 → OV → Prop} {vLg : OV} (F : GF C X cX4_countMostWithout wsX4_countMostWithout RX4 rm_X4_countMostWithout 5 (some .int) D G l) (E : GE C bs0 0 0 (po_X4_countMostWithout G hPr qPr hLg qLg vLg Q)) : ∀ (n : Nat) (x2 x3 : Int32) (vPr : OV), wp_X4_countMostWithout_2_loop Q vLg n x2 x3 vPr → GW C 0 0 [bPr G hPr qPr vPr, bLg G hLg qLg vLg] 2 [(0, .ref hPr), (1, .ref hLg), (2, .int x2), (3, .int x3)] [] := by
  intro n
  induction n with
  | zero => intro x2 x3 vPr hw; exact False.elim hw
  | succ n ih => intro x2 x3 vPr hw; exact lb_X4_countMostWithout_2 (K2 := wp_X4_countMostWithout_2_loop Q vLg n) F E ih hw
def wp_X4_countMostWithout_0 (Q : Int32 → OV → Prop) (vLg : OV) (x2 : Int32) (vPr : OV) : Prop :=
  (∃ n_13 : Nat, wp_X4_countMostWithout_2_loop Q vLg n_13 x2 (0 : Int32) vPr)
set_option maxRecDepth 20000 in
theorem lb_X4_countMostWithout_0 {X : List Cond} {l : Launch} {D : va_G} {G : Nat → ClassId} {C : Cx} {bs0 : List va_W} {hPr : Nat} {qPr : Nat → Nat} {hLg : Nat} {qLg : Nat → Nat} {Q : Int32 → OV → Prop} {vLg : OV} (F : GF C X cX4_countMostWithout wsX4_countMostWithout RX4 rm_X4_countMostWithout 5 (some .int) D G l) (E : GE C bs0 0 0 (po_X4_countMostWithout G hPr qPr hLg qLg vLg Q)) {x2 : Int32} {vPr : OV} (hw : wp_X4_countMostWithout_0 Q vLg x2 vPr) : GW C 0 0 [bPr G hPr qPr vPr, bLg G hLg qLg vLg] 0 [(0, .ref hPr), (1, .ref hLg), (2, .int x2)] [] := by
  unfold wp_X4_countMostWithout_0 at hw
  refine gw_iconst (v := (0 : Int32)) F dX4_countMostWithout_0 ic_iconst_0 ?_
  refine gw_istore_n (lv' := [(3, .int (0 : Int32)), (0, .ref hPr), (1, .ref hLg), (2, .int x2)]) F dX4_countMostWithout_1 (by decide) rfl ?_
  refine gw_lv [1, 2, 3, 0] rfl ?_
  obtain ⟨n_13, hw⟩ := hw
  exact lp_X4_countMostWithout_2 F E n_13 _ _ _ hw
def wp_X4_countMostWithout (Q : Int32 → OV → Prop) (x2 : Int32) (vPr : OV) (vLg : OV) : Prop := wp_X4_countMostWithout_0 Q vLg x2 vPr
theorem ct_X4_countMostWithout {X : List Cond} {l : Launch} {D : va_G} {G : Nat → ClassId} {hPr : Nat} {qPr : Nat → Nat} {hLg : Nat} {qLg : Nat → Nat} {Q : Int32 → OV → Prop} {x2 : Int32} {vPr : OV} {vLg : OV} (hw : wp_X4_countMostWithout Q x2 vPr vLg) : CM X l yX4_countMostWithout wsX4_countMostWithout rm_X4_countMostWithout D G [.ref hPr, .ref hLg, .int x2] [bPr G hPr qPr vPr, bLg G hLg qLg vLg] 0 0 (po_X4_countMostWithout G hPr qPr hLg qLg vLg Q) :=
  CM.of pn_RX4 rfl rfl (Nat.le_of_ble_eq_true rfl) rfl (fun C F E => lb_X4_countMostWithout_0 F E hw)
-- X6_levelAt
abbrev rm_X6_levelAt : Room := { frames := 1, cells := 0, slots := 0, locals := 60 }
def po_X6_levelAt (G : Nat → ClassId) (hWv : Nat) (qWv : Nat → Nat) (vWv : OV) (Q : Int32 → Prop) : Option Value → List va_W → Prop := fun o bs => ∃ (r : Int32), o = some (.int r) ∧ bs = [bWv G hWv qWv vWv] ∧ Q r
theorem hd_X6_levelAt : yX6_levelAt.cls = RX6 ∧ yX6_levelAt.cls ≠ "java/lang/invoke/MethodHandle" ∧ yX6_levelAt.cls ≠ "java/lang/invoke/VarHandle" ∧ (parseMethodDescriptor yX6_levelAt.desc).map (fun d => d.parameters.length) = some 1 := by decide +kernel
theorem in_X6_levelAt_RX6 : ∀ w ∈ wsX60, w ∈ wsX6_levelAt := fun w h => List.mem_cons_of_mem _ (List.mem_append_left _ (List.mem_append_right _ h))
theorem lk_X6_levelAt_9 : Cond.fieldLink RX6 9 "KeyWaves$Waves" "levels" "[I" ∈ wsX6_levelAt := List.mem_cons_of_mem _ (List.mem_append_left _ (List.mem_append_left _ (List.mem_of_getElem? (i := 0) rfl)))
def wp_X6_levelAt_20 (Q : Int32 → Prop) (vWv : OV) (s0 : Int32) : Prop :=
  (Q s0)
set_option maxRecDepth 20000 in
theorem lb_X6_levelAt_20 {X : List Cond} {l : Launch} {D : va_G} {G : Nat → ClassId} {C : Cx} {bs0 : List va_W} {hWv : Nat} {qWv : Nat → Nat} {Q : Int32 → Prop} {vWv : OV} (F : GF C X cX6_levelAt wsX6_levelAt RX6 rm_X6_levelAt 2 (some .int) D G l) (E : GE C bs0 0 0 (po_X6_levelAt G hWv qWv vWv Q)) {s0 : Int32} (hw : wp_X6_levelAt_20 Q vWv s0) : GW C 0 0 [bWv G hWv qWv vWv] 20 [] [.int s0] := by
  unfold wp_X6_levelAt_20 at hw
  exact gw_iret F E rfl rfl (Nat.le_of_ble_eq_true rfl) (Nat.le_of_ble_eq_true rfl) dX6_levelAt_20 ⟨_, rfl, rfl, hw⟩
def wp_X6_levelAt_19 (Q : Int32 → Prop) (vWv : OV) : Prop :=
  (wp_X6_levelAt_20 Q vWv (-1 : Int32))
set_option maxRecDepth 20000 in
theorem lb_X6_levelAt_19 {X : List Cond} {l : Launch} {D : va_G} {G : Nat → ClassId} {C : Cx} {bs0 : List va_W} {hWv : Nat} {qWv : Nat → Nat} {Q : Int32 → Prop} {vWv : OV} (F : GF C X cX6_levelAt wsX6_levelAt RX6 rm_X6_levelAt 2 (some .int) D G l) (E : GE C bs0 0 0 (po_X6_levelAt G hWv qWv vWv Q)) (hw : wp_X6_levelAt_19 Q vWv ) : GW C 0 0 [bWv G hWv qWv vWv] 19 [] [] := by
  unfold wp_X6_levelAt_19 at hw
  refine gw_iconst (v := (-1 : Int32)) F dX6_levelAt_19 ic_iconst_m1 ?_
  exact lb_X6_levelAt_20 F E hw
def wp_X6_levelAt_0 (Q : Int32 → Prop) (vWv : OV) (x1 : Int32) : Prop :=
  ((x1 < 0 → (wp_X6_levelAt_19 Q vWv)) ∧ (¬ (x1 < 0) → (((10 : Int32) ≤ x1 → (wp_X6_levelAt_19 Q vWv)) ∧ (¬ ((10 : Int32) ≤ x1) → (vp_in x1 10 ∧ (wp_X6_levelAt_20 Q vWv (vWv.1 0 x1.toNatClampNeg)))))))
set_option maxRecDepth 20000 in
theorem lb_X6_levelAt_0 {X : List Cond} {l : Launch} {D : va_G} {G : Nat → ClassId} {C : Cx} {bs0 : List va_W} {hWv : Nat} {qWv : Nat → Nat} {Q : Int32 → Prop} {vWv : OV} (F : GF C X cX6_levelAt wsX6_levelAt RX6 rm_X6_levelAt 2 (some .int) D G l) (E : GE C bs0 0 0 (po_X6_levelAt G hWv qWv vWv Q)) {x1 : Int32} (hw : wp_X6_levelAt_0 Q vWv x1) : GW C 0 0 [bWv G hWv qWv vWv] 0 [(0, .ref hWv), (1, .int x1)] [] := by
  unfold wp_X6_levelAt_0 at hw
  refine gw_iload_n F dX6_levelAt_0 1 rfl ?_
  refine gw_if_lt (tgt := 19) F dX6_levelAt_1 (by decide) (fun c_1 => ?_) (fun c_1 => ?_)
  · have hw := hw.1 c_1
    refine gw_lv [] rfl ?_
    exact lb_X6_levelAt_19 F E hw
  · have hw := hw.2 c_1
    refine gw_iload_n F dX6_levelAt_4 1 rfl ?_
    refine gw_bipush (v := (10 : Int32)) F dX6_levelAt_5 ic_bipush_10 ?_
    refine gw_icmp_ge (tgt := 19) F dX6_levelAt_7 (by decide) (fun c_2 => ?_) (fun c_2 => ?_)
    · have hw := hw.1 c_2
      refine gw_lv [] rfl ?_
      exact lb_X6_levelAt_19 F E hw
    · have hw := hw.2 c_2
      refine gw_aload_n F dX6_levelAt_10 0 rfl ?_
      refine gw_get F in_X6_levelAt_RX6 0 rfl rfl 0 (by decide) lk_X6_levelAt_9 rfl dX6_levelAt_11 ?_
      refine gw_iload_n F dX6_levelAt_14 1 rfl ?_
      obtain ⟨h_3, hw⟩ := hw
      refine gw_iald F 1 rfl h_3 dX6_levelAt_15 ?_
      refine gw_goto (tgt := 20) F dX6_levelAt_16 (by decide) ?_
      refine gw_lv [] rfl ?_
      exact lb_X6_levelAt_20 F E hw
def wp_X6_levelAt (Q : Int32 → Prop) (x1 : Int32) (vWv : OV) : Prop := wp_X6_levelAt_0 Q vWv x1
theorem ct_X6_levelAt {X : List Cond} {l : Launch} {D : va_G} {G : Nat → ClassId} {hWv : Nat} {qWv : Nat → Nat} {Q : Int32 → Prop} {x1 : Int32} {vWv : OV} (hw : wp_X6_levelAt Q x1 vWv) : CM X l yX6_levelAt wsX6_levelAt rm_X6_levelAt D G [.ref hWv, .int x1] [bWv G hWv qWv vWv] 0 0 (po_X6_levelAt G hWv qWv vWv Q) :=
  CM.of pn_RX6 rfl rfl (Nat.le_of_ble_eq_true rfl) rfl (fun C F E => lb_X6_levelAt_0 F E hw)
-- X6_spreadLevel
abbrev rm_X6_spreadLevel : Room := { frames := 3, cells := 0, slots := 0, locals := 105 }
def po_X6_spreadLevel (G : Nat → ClassId) (hWv : Nat) (qWv : Nat → Nat) (hLg : Nat) (qLg : Nat → Nat) (vLg : OV) (Q : OV → Prop) : Option Value → List va_W → Prop := fun o bs => ∃ (vWv : OV), o = none ∧ bs = [bWv G hWv qWv vWv, bLg G hLg qLg vLg] ∧ Q vWv
theorem hd_X6_spreadLevel : yX6_spreadLevel.cls = RX6 ∧ yX6_spreadLevel.cls ≠ "java/lang/invoke/MethodHandle" ∧ yX6_spreadLevel.cls ≠ "java/lang/invoke/VarHandle" ∧ (parseMethodDescriptor yX6_spreadLevel.desc).map (fun d => d.parameters.length) = some 3 := by decide +kernel
theorem in_X6_spreadLevel_RX3 : ∀ w ∈ wsX30, w ∈ wsX6_spreadLevel := fun w h => List.mem_cons_of_mem _ (List.mem_append_left _ (List.mem_append_left _ (List.mem_append_right _ h)))
theorem lk_X6_spreadLevel_50 : Cond.fieldLink RX6 50 "KeyWaves$Lodge" "locks" "I" ∈ wsX6_spreadLevel := List.mem_cons_of_mem _ (List.mem_append_left _ (List.mem_append_left _ (List.mem_append_left _ (List.mem_append_left _ (List.mem_of_getElem? (i := 0) rfl)))))
theorem in_X6_spreadLevel_RX6 : ∀ w ∈ wsX60, w ∈ wsX6_spreadLevel := fun w h => List.mem_cons_of_mem _ (List.mem_append_left _ (List.mem_append_right _ h))
theorem lk_X6_spreadLevel_9 : Cond.fieldLink RX6 9 "KeyWaves$Waves" "levels" "[I" ∈ wsX6_spreadLevel := List.mem_cons_of_mem _ (List.mem_append_left _ (List.mem_append_left _ (List.mem_append_left _ (List.mem_append_left _ (List.mem_of_getElem? (i := 2) rfl)))))
theorem lk_X6_spreadLevel_19 : Cond.fieldLink RX6 19 "KeyWaves$Waves" "lastLevel" "I" ∈ wsX6_spreadLevel := List.mem_cons_of_mem _ (List.mem_append_left _ (List.mem_append_left _ (List.mem_append_left _ (List.mem_append_left _ (List.mem_of_getElem? (i := 1) rfl)))))
def wp_X6_spreadLevel_86 (Q : OV → Prop) (K3 : Int32 → Int32 → Int32 → OV → Prop) (vLg : OV) (x2 x3 x4 : Int32) (vWv : OV) : Prop :=
  (∀ i_9 : Int32, i_9 = x4 + (1 : Int32) → (K3 x2 x3 i_9 vWv))
set_option maxRecDepth 20000 in
theorem lb_X6_spreadLevel_86 {X : List Cond} {l : Launch} {D : va_G} {G : Nat → ClassId} {C : Cx} {bs0 : List va_W} {hWv : Nat} {qWv : Nat → Nat} {hLg : Nat} {qLg : Nat → Nat} {Q : OV → Prop} {K3 : Int32 → Int32 → Int32 → OV → Prop} {vLg : OV} (F : GF C X cX6_spreadLevel wsX6_spreadLevel RX6 rm_X6_spreadLevel 6 none D G l) (E : GE C bs0 0 0 (po_X6_spreadLevel G hWv qWv hLg qLg vLg Q)) (hK3 : ∀ (x2 x3 x4 : Int32) (vWv : OV), K3 x2 x3 x4 vWv → GW C 0 0 [bWv G hWv qWv vWv, bLg G hLg qLg vLg] 3 [(0, .ref hWv), (1, .ref hLg), (2, .int x2), (3, .int x3), (4, .int x4)] []) {x2 x3 x4 : Int32} {vWv : OV} (hw : wp_X6_spreadLevel_86 Q K3 vLg x2 x3 x4 vWv) : GW C 0 0 [bWv G hWv qWv vWv, bLg G hLg qLg vLg] 86 [(0, .ref hWv), (1, .ref hLg), (2, .int x2), (3, .int x3), (4, .int x4)] [] := by
  unfold wp_X6_spreadLevel_86 at hw
  obtain ⟨i_9, e_i_9⟩ : ∃ z : Int32, z = x4 + (1 : Int32) := ⟨_, rfl⟩
  have hw := hw i_9 e_i_9
  refine gw_iinc (v := i_9) (lv' := [(4, .int i_9), (0, .ref hWv), (1, .ref hLg), (2, .int x2), (3, .int x3)]) F dX6_spreadLevel_86 4 rfl (by rw [e_i_9]; rfl) (by decide) rfl ?_
  refine gw_goto (tgt := 3) F dX6_spreadLevel_89 (by decide) ?_
  refine gw_lv [1, 2, 3, 4, 0] rfl ?_
  exact hK3 _ _ _ _ hw
def wp_X6_spreadLevel_59 (Q : OV → Prop) (K3 : Int32 → Int32 → Int32 → OV → Prop) (vLg : OV) (x2 x3 x4 s1 : Int32) (vWv : OV) : Prop :=
  (∀ v_13 : OV, v_13 = sI vWv 2 s1 → (wp_X6_spreadLevel_86 Q K3 vLg x2 x3 x4 v_13))
set_option maxRecDepth 20000 in
theorem lb_X6_spreadLevel_59 {X : List Cond} {l : Launch} {D : va_G} {G : Nat → ClassId} {C : Cx} {bs0 : List va_W} {hWv : Nat} {qWv : Nat → Nat} {hLg : Nat} {qLg : Nat → Nat} {Q : OV → Prop} {K3 : Int32 → Int32 → Int32 → OV → Prop} {vLg : OV} (F : GF C X cX6_spreadLevel wsX6_spreadLevel RX6 rm_X6_spreadLevel 6 none D G l) (E : GE C bs0 0 0 (po_X6_spreadLevel G hWv qWv hLg qLg vLg Q)) (hK3 : ∀ (x2 x3 x4 : Int32) (vWv : OV), K3 x2 x3 x4 vWv → GW C 0 0 [bWv G hWv qWv vWv, bLg G hLg qLg vLg] 3 [(0, .ref hWv), (1, .ref hLg), (2, .int x2), (3, .int x3), (4, .int x4)] []) {x2 x3 x4 s1 : Int32} {vWv : OV} (hw : wp_X6_spreadLevel_59 Q K3 vLg x2 x3 x4 s1 vWv) : GW C 0 0 [bWv G hWv qWv vWv, bLg G hLg qLg vLg] 59 [(0, .ref hWv), (1, .ref hLg), (2, .int x2), (3, .int x3), (4, .int x4)] [.int s1, .ref hWv] := by
  unfold wp_X6_spreadLevel_59 at hw
  obtain ⟨v_13, e_v_13⟩ : ∃ z : OV, z = sI vWv 2 s1 := ⟨_, rfl⟩
  have hw := hw v_13 e_v_13
  refine gw_put (bs' := [bWv G hWv qWv v_13, bLg G hLg qLg vLg]) F in_X6_spreadLevel_RX6 tyX6 tyX6_ok nmX6 0 rfl rfl 2 (by decide) lk_X6_spreadLevel_19 rfl rfl rfl (Nat.le_of_ble_eq_true rfl) dX6_spreadLevel_59 (by rw [e_v_13]; rfl) ?_
  refine gw_goto (tgt := 86) F dX6_spreadLevel_62 (by decide) ?_
  exact lb_X6_spreadLevel_86 F E hK3 hw
def wp_X6_spreadLevel_3 (Q : OV → Prop) (K3 : Int32 → Int32 → Int32 → OV → Prop) (vLg : OV) (x2 x3 x4 : Int32) (vWv : OV) : Prop :=
  (((vLg.2 9) ≤ x4 → (Q vWv)) ∧ (¬ ((vLg.2 9) ≤ x4) → (wp_X3_isFit (fun (r_2 : Int32) => ((¬ r_2 = 0 → (wp_X3_keyIn (fun (r_4 : Int32) => (wp_X3_hasKey (fun (r_5 : Int32) => ((¬ r_5 = 0 → (vp_in r_4 10 ∧ ((¬ (vWv.1 0 r_4.toNatClampNeg) = (-1 : Int32) → (wp_X6_spreadLevel_86 Q K3 vLg x2 x3 x4 vWv)) ∧ ((vWv.1 0 r_4.toNatClampNeg) = (-1 : Int32) → (vp_in r_4 10 ∧ ∀ v_10 : OV, v_10 = sA vWv 0 r_4.toNatClampNeg (x3 + (1 : Int32)) → (wp_X6_spreadLevel_86 Q K3 vLg x2 x3 x4 v_10)))))) ∧ (r_5 = 0 → ((¬ (vWv.2 2) = (-1 : Int32) → (wp_X6_spreadLevel_59 Q K3 vLg x2 x3 x4 (vWv.2 2) vWv)) ∧ ((vWv.2 2) = (-1 : Int32) → (wp_X6_spreadLevel_59 Q K3 vLg x2 x3 x4 x3 vWv)))))) r_4 vLg)) x4 vLg)) ∧ (r_2 = 0 → (wp_X6_spreadLevel_86 Q K3 vLg x2 x3 x4 vWv)))) x2 x4 vLg)))
set_option maxRecDepth 20000 in
theorem lb_X6_spreadLevel_3 {X : List Cond} {l : Launch} {D : va_G} {G : Nat → ClassId} {C : Cx} {bs0 : List va_W} {hWv : Nat} {qWv : Nat → Nat} {hLg : Nat} {qLg : Nat → Nat} {Q : OV → Prop} {K3 : Int32 → Int32 → Int32 → OV → Prop} {vLg : OV} (F : GF C X cX6_spreadLevel wsX6_spreadLevel RX6 rm_X6_spreadLevel 6 none D G l) (E : GE C bs0 0 0 (po_X6_spreadLevel G hWv qWv hLg qLg vLg Q)) (hK3 : ∀ (x2 x3 x4 : Int32) (vWv : OV), K3 x2 x3 x4 vWv → GW C 0 0 [bWv G hWv qWv vWv, bLg G hLg qLg vLg] 3 [(0, .ref hWv), (1, .ref hLg), (2, .int x2), (3, .int x3), (4, .int x4)] []) {x2 x3 x4 : Int32} {vWv : OV} (hw : wp_X6_spreadLevel_3 Q K3 vLg x2 x3 x4 vWv) : GW C 0 0 [bWv G hWv qWv vWv, bLg G hLg qLg vLg] 3 [(0, .ref hWv), (1, .ref hLg), (2, .int x2), (3, .int x3), (4, .int x4)] [] := by
  unfold wp_X6_spreadLevel_3 at hw
  refine gw_iload F dX6_spreadLevel_3 4 rfl ?_
  refine gw_aload_n F dX6_spreadLevel_5 1 rfl ?_
  refine gw_get F in_X6_spreadLevel_RX3 3 rfl rfl 9 (by decide) lk_X6_spreadLevel_50 rfl dX6_spreadLevel_6 ?_
  refine gw_icmp_ge (tgt := 92) F dX6_spreadLevel_9 (by decide) (fun c_1 => ?_) (fun c_1 => ?_)
  · have hw := hw.1 c_1
    exact gw_vret F E rfl (Nat.le_of_ble_eq_true rfl) (Nat.le_of_ble_eq_true rfl) dX6_spreadLevel_92 ⟨_, rfl, rfl, hw⟩
  · have hw := hw.2 c_1
    refine gw_aload_n F dX6_spreadLevel_12 1 rfl ?_
    refine gw_iload_n F dX6_spreadLevel_13 2 rfl ?_
    refine gw_iload F dX6_spreadLevel_14 4 rfl ?_
    refine gw_callV F (ct_X3_isFit hw) 2 gX6_spreadLevel_X3_isFit rfl rfl rfl hd_X3_isFit ⟨(Nat.le_of_ble_eq_true rfl), (Nat.le_of_ble_eq_true rfl)⟩ rfl rfl (Nat.le_of_ble_eq_true rfl) ⟨Nat.zero_le _, Nat.zero_le _⟩ [0, 1] (bsr := [bWv G hWv qWv vWv]) rfl rfl (q0 := 0) rfl rfl dX6_spreadLevel_16 ?_
    rintro _ _ ⟨r_2, rfl, rfl, hw⟩
    refine gw_sel [0, 1] (bs' := [bWv G hWv qWv vWv, bLg G hLg qLg vLg]) rfl rfl ?_
    change GW C 0 0 _ 19 _ [.int r_2]
    refine gw_if_ne (tgt := 25) F dX6_spreadLevel_19 (by decide) (fun c_3 => ?_) (fun c_3 => ?_)
    · have hw := hw.1 c_3
      refine gw_aload_n F dX6_spreadLevel_25 1 rfl ?_
      refine gw_iload F dX6_spreadLevel_26 4 rfl ?_
      refine gw_callV F (ct_X3_keyIn hw) 1 gX6_spreadLevel_X3_keyIn rfl rfl rfl hd_X3_keyIn ⟨(Nat.le_of_ble_eq_true rfl), (Nat.le_of_ble_eq_true rfl)⟩ rfl rfl (Nat.le_of_ble_eq_true rfl) ⟨Nat.zero_le _, Nat.zero_le _⟩ [0, 1] (bsr := [bWv G hWv qWv vWv]) rfl rfl (q0 := 0) rfl rfl dX6_spreadLevel_28 ?_
      rintro _ _ ⟨r_4, rfl, rfl, hw⟩
      refine gw_sel [0, 1] (bs' := [bWv G hWv qWv vWv, bLg G hLg qLg vLg]) rfl rfl ?_
      change GW C 0 0 _ 31 _ [.int r_4]
      refine gw_istore (lv' := [(5, .int r_4), (0, .ref hWv), (1, .ref hLg), (2, .int x2), (3, .int x3), (4, .int x4)]) F dX6_spreadLevel_31 (by decide) rfl ?_
      refine gw_aload_n F dX6_spreadLevel_33 2 rfl ?_
      refine gw_iload F dX6_spreadLevel_34 0 rfl ?_
      refine gw_callV F (ct_X3_hasKey hw) 1 gX6_spreadLevel_X3_hasKey rfl rfl rfl hd_X3_hasKey ⟨(Nat.le_of_ble_eq_true rfl), (Nat.le_of_ble_eq_true rfl)⟩ rfl rfl (Nat.le_of_ble_eq_true rfl) ⟨Nat.zero_le _, Nat.zero_le _⟩ [0, 1] (bsr := [bWv G hWv qWv vWv]) rfl rfl (q0 := 0) rfl rfl dX6_spreadLevel_36 ?_
      rintro _ _ ⟨r_5, rfl, rfl, hw⟩
      refine gw_sel [0, 1] (bs' := [bWv G hWv qWv vWv, bLg G hLg qLg vLg]) rfl rfl ?_
      change GW C 0 0 _ 39 _ [.int r_5]
      refine gw_if_ne (tgt := 65) F dX6_spreadLevel_39 (by decide) (fun c_6 => ?_) (fun c_6 => ?_)
      · have hw := hw.1 c_6
        refine gw_aload_n F dX6_spreadLevel_65 1 rfl ?_
        refine gw_get F in_X6_spreadLevel_RX6 0 rfl rfl 0 (by decide) lk_X6_spreadLevel_9 rfl dX6_spreadLevel_66 ?_
        refine gw_iload F dX6_spreadLevel_69 0 rfl ?_
        obtain ⟨h_7, hw⟩ := hw
        refine gw_iald F 1 rfl h_7 dX6_spreadLevel_71 ?_
        refine gw_iconst (v := (-1 : Int32)) F dX6_spreadLevel_72 ic_iconst_m1 ?_
        refine gw_icmp_ne (tgt := 86) F dX6_spreadLevel_73 (by decide) (fun c_8 => ?_) (fun c_8 => ?_)
        · have hw := hw.1 c_8
          refine gw_lv [1, 2, 3, 4, 5] rfl ?_
          exact lb_X6_spreadLevel_86 F E hK3 hw
        · have hw := hw.2 c_8
          refine gw_aload_n F dX6_spreadLevel_76 1 rfl ?_
          refine gw_get F in_X6_spreadLevel_RX6 0 rfl rfl 0 (by decide) lk_X6_spreadLevel_9 rfl dX6_spreadLevel_77 ?_
          refine gw_iload F dX6_spreadLevel_80 0 rfl ?_
          refine gw_iload_n F dX6_spreadLevel_82 4 rfl ?_
          refine gw_iconst (v := (1 : Int32)) F dX6_spreadLevel_83 ic_iconst_1 ?_
          refine gw_iadd F dX6_spreadLevel_84 ?_
          obtain ⟨h_11, hw⟩ := hw
          obtain ⟨v_10, e_v_10⟩ : ∃ z : OV, z = sA vWv 0 r_4.toNatClampNeg (x3 + (1 : Int32)) := ⟨_, rfl⟩
          have hw := hw v_10 e_v_10
          refine gw_iast (bs' := [bWv G hWv qWv v_10, bLg G hLg qLg vLg]) F 1 rfl h_11 dX6_spreadLevel_85 (by rw [e_v_10]; rfl) ?_
          refine gw_lv [1, 2, 3, 4, 5] rfl ?_
          exact lb_X6_spreadLevel_86 F E hK3 hw
      · have hw := hw.2 c_6
        refine gw_aload_n F dX6_spreadLevel_42 1 rfl ?_
        refine gw_aload_n F dX6_spreadLevel_43 1 rfl ?_
        refine gw_get F in_X6_spreadLevel_RX6 0 rfl rfl 2 (by decide) lk_X6_spreadLevel_19 rfl dX6_spreadLevel_44 ?_
        refine gw_iconst (v := (-1 : Int32)) F dX6_spreadLevel_47 ic_iconst_m1 ?_
        refine gw_icmp_ne (tgt := 55) F dX6_spreadLevel_48 (by decide) (fun c_12 => ?_) (fun c_12 => ?_)
        · have hw := hw.1 c_12
          refine gw_aload_n F dX6_spreadLevel_55 1 rfl ?_
          refine gw_get F in_X6_spreadLevel_RX6 0 rfl rfl 2 (by decide) lk_X6_spreadLevel_19 rfl dX6_spreadLevel_56 ?_
          refine gw_lv [1, 2, 3, 4, 5] rfl ?_
          exact lb_X6_spreadLevel_59 F E hK3 hw
        · have hw := hw.2 c_12
          refine gw_iload_n F dX6_spreadLevel_51 4 rfl ?_
          refine gw_goto (tgt := 59) F dX6_spreadLevel_52 (by decide) ?_
          refine gw_lv [1, 2, 3, 4, 5] rfl ?_
          exact lb_X6_spreadLevel_59 F E hK3 hw
    · have hw := hw.2 c_3
      refine gw_goto (tgt := 86) F dX6_spreadLevel_22 (by decide) ?_
      exact lb_X6_spreadLevel_86 F E hK3 hw
def wp_X6_spreadLevel_3_loop (Q : OV → Prop) (vLg : OV) : Nat → Int32 → Int32 → Int32 → OV → Prop
  | 0, _, _, _, _ => False
  | n + 1, x2, x3, x4, vWv => wp_X6_spreadLevel_3 Q (wp_X6_spreadLevel_3_loop Q vLg n) vLg x2 x3 x4 vWv
theorem lp_X6_spreadLevel_3 {X : List Cond} {l : Launch} {D : va_G} {G : Nat → ClassId} {C : Cx} {bs0 : List va_W} {hWv : Nat} {qWv : Nat → Nat} {hLg : Nat} {qLg : Nat → Nat} {Q : OV → Prop} {vLg : OV} (F : GF C X cX6_spreadLevel wsX6_spreadLevel RX6 rm_X6_spreadLevel 6 none D G l) (E : GE C bs0 0 0 (po_X6_spreadLevel G hWv qWv hLg qLg vLg Q)) : ∀ (n : Nat) (x2 x3 x4 : Int32) (vWv : OV), wp_X6_spreadLevel_3_loop Q vLg n x2 x3 x4 vWv → GW C 0 0 [bWv G hWv qWv vWv, bLg G hLg qLg vLg] 3 [(0, .ref hWv), (1, .ref hLg), (2, .int x2), (3, .int x3), (4, .int x4)] [] := by
  intro n
  induction n with
  | zero => intro x2 x3 x4 vWv hw; exact False.elim hw
  | succ n ih => intro x2 x3 x4 vWv hw; exact lb_X6_spreadLevel_3 (K3 := wp_X6_spreadLevel_3_loop Q vLg n) F E ih hw
def wp_X6_spreadLevel_0 (Q : OV → Prop) (vLg : OV) (x2 : Int32) (x3 : Int32) (vWv : OV) : Prop :=
  (∃ n_14 : Nat, wp_X6_spreadLevel_3_loop Q vLg n_14 x2 x3 (0 : Int32) vWv)
set_option maxRecDepth 20000 in
theorem lb_X6_spreadLevel_0 {X : List Cond} {l : Launch} {D : va_G} {G : Nat → ClassId} {C : Cx} {bs0 : List va_W} {hWv : Nat} {qWv : Nat → Nat} {hLg : Nat} {qLg : Nat → Nat} {Q : OV → Prop} {vLg : OV} (F : GF C X cX6_spreadLevel wsX6_spreadLevel RX6 rm_X6_spreadLevel 6 none D G l) (E : GE C bs0 0 0 (po_X6_spreadLevel G hWv qWv hLg qLg vLg Q)) {x2 : Int32} {x3 : Int32} {vWv : OV} (hw : wp_X6_spreadLevel_0 Q vLg x2 x3 vWv) : GW C 0 0 [bWv G hWv qWv vWv, bLg G hLg qLg vLg] 0 [(0, .ref hWv), (1, .ref hLg), (2, .int x2), (3, .int x3)] [] := by
  unfold wp_X6_spreadLevel_0 at hw
  refine gw_iconst (v := (0 : Int32)) F dX6_spreadLevel_0 ic_iconst_0 ?_
  refine gw_istore (lv' := [(4, .int (0 : Int32)), (0, .ref hWv), (1, .ref hLg), (2, .int x2), (3, .int x3)]) F dX6_spreadLevel_1 (by decide) rfl ?_
  refine gw_lv [1, 2, 3, 4, 0] rfl ?_
  obtain ⟨n_14, hw⟩ := hw
  exact lp_X6_spreadLevel_3 F E n_14 _ _ _ _ hw
def wp_X6_spreadLevel (Q : OV → Prop) (x2 : Int32) (x3 : Int32) (vWv : OV) (vLg : OV) : Prop := wp_X6_spreadLevel_0 Q vLg x2 x3 vWv
theorem ct_X6_spreadLevel {X : List Cond} {l : Launch} {D : va_G} {G : Nat → ClassId} {hWv : Nat} {qWv : Nat → Nat} {hLg : Nat} {qLg : Nat → Nat} {Q : OV → Prop} {x2 : Int32} {x3 : Int32} {vWv : OV} {vLg : OV} (hw : wp_X6_spreadLevel Q x2 x3 vWv vLg) : CM X l yX6_spreadLevel wsX6_spreadLevel rm_X6_spreadLevel D G [.ref hWv, .ref hLg, .int x2, .int x3] [bWv G hWv qWv vWv, bLg G hLg qLg vLg] 0 0 (po_X6_spreadLevel G hWv qWv hLg qLg vLg Q) :=
  CM.of pn_RX6 rfl rfl (Nat.le_of_ble_eq_true rfl) rfl (fun C F E => lb_X6_spreadLevel_0 F E hw)
-- X6_findLevels
abbrev rm_X6_findLevels : Room := { frames := 4, cells := 0, slots := 0, locals := 130 }
def po_X6_findLevels (G : Nat → ClassId) (hWv : Nat) (qWv : Nat → Nat) (hLg : Nat) (qLg : Nat → Nat) (vLg : OV) (Q : OV → Prop) : Option Value → List va_W → Prop := fun o bs => ∃ (vWv : OV), o = none ∧ bs = [bWv G hWv qWv vWv, bLg G hLg qLg vLg] ∧ Q vWv
theorem hd_X6_findLevels : yX6_findLevels.cls = RX6 ∧ yX6_findLevels.cls ≠ "java/lang/invoke/MethodHandle" ∧ yX6_findLevels.cls ≠ "java/lang/invoke/VarHandle" ∧ (parseMethodDescriptor yX6_findLevels.desc).map (fun d => d.parameters.length) = some 1 := by decide +kernel
theorem in_X6_findLevels_RX6 : ∀ w ∈ wsX60, w ∈ wsX6_findLevels := fun w h => List.mem_cons_of_mem _ (List.mem_append_left _ (List.mem_append_left _ (List.mem_append_right _ h)))
theorem lk_X6_findLevels_19 : Cond.fieldLink RX6 19 "KeyWaves$Waves" "lastLevel" "I" ∈ wsX6_findLevels := List.mem_cons_of_mem _ (List.mem_append_left _ (List.mem_append_left _ (List.mem_append_left _ (List.mem_append_left _ (List.mem_of_getElem? (i := 1) rfl)))))
theorem in_X6_findLevels_RX3 : ∀ w ∈ wsX30, w ∈ wsX6_findLevels := fun w h => List.mem_cons_of_mem _ (List.mem_append_left _ (List.mem_append_right _ h))
theorem lk_X6_findLevels_27 : Cond.fieldLink RX6 27 "KeyWaves$Lodge" "keys" "I" ∈ wsX6_findLevels := List.mem_cons_of_mem _ (List.mem_append_left _ (List.mem_append_left _ (List.mem_append_left _ (List.mem_append_left _ (List.mem_of_getElem? (i := 2) rfl)))))
theorem lk_X6_findLevels_9 : Cond.fieldLink RX6 9 "KeyWaves$Waves" "levels" "[I" ∈ wsX6_findLevels := List.mem_cons_of_mem _ (List.mem_append_left _ (List.mem_append_left _ (List.mem_append_left _ (List.mem_append_left _ (List.mem_of_getElem? (i := 0) rfl)))))
def wp_X6_findLevels_91 (Q : OV → Prop) (K59 : Int32 → OV → Prop) (K67 : Int32 → Int32 → OV → Prop) (vLg : OV) (x2 x3 : Int32) (vWv : OV) : Prop :=
  (∀ i_8 : Int32, i_8 = x3 + (1 : Int32) → (K67 x2 i_8 vWv))
set_option maxRecDepth 20000 in
theorem lb_X6_findLevels_91 {X : List Cond} {l : Launch} {D : va_G} {G : Nat → ClassId} {C : Cx} {bs0 : List va_W} {hWv : Nat} {qWv : Nat → Nat} {hLg : Nat} {qLg : Nat → Nat} {Q : OV → Prop} {K59 : Int32 → OV → Prop} {K67 : Int32 → Int32 → OV → Prop} {vLg : OV} (F : GF C X cX6_findLevels wsX6_findLevels RX6 rm_X6_findLevels 4 none D G l) (E : GE C bs0 0 0 (po_X6_findLevels G hWv qWv hLg qLg vLg Q)) (hK59 : ∀ (x2 : Int32) (vWv : OV), K59 x2 vWv → GW C 0 0 [bWv G hWv qWv vWv, bLg G hLg qLg vLg] 59 [(0, .ref hWv), (1, .ref hLg), (2, .int x2)] []) (hK67 : ∀ (x2 x3 : Int32) (vWv : OV), K67 x2 x3 vWv → GW C 0 0 [bWv G hWv qWv vWv, bLg G hLg qLg vLg] 67 [(0, .ref hWv), (1, .ref hLg), (2, .int x2), (3, .int x3)] []) {x2 x3 : Int32} {vWv : OV} (hw : wp_X6_findLevels_91 Q K59 K67 vLg x2 x3 vWv) : GW C 0 0 [bWv G hWv qWv vWv, bLg G hLg qLg vLg] 91 [(0, .ref hWv), (1, .ref hLg), (2, .int x2), (3, .int x3)] [] := by
  unfold wp_X6_findLevels_91 at hw
  obtain ⟨i_8, e_i_8⟩ : ∃ z : Int32, z = x3 + (1 : Int32) := ⟨_, rfl⟩
  have hw := hw i_8 e_i_8
  refine gw_iinc (v := i_8) (lv' := [(3, .int i_8), (0, .ref hWv), (1, .ref hLg), (2, .int x2)]) F dX6_findLevels_91 3 rfl (by rw [e_i_8]; rfl) (by decide) rfl ?_
  refine gw_goto (tgt := 67) F dX6_findLevels_94 (by decide) ?_
  refine gw_lv [1, 2, 3, 0] rfl ?_
  exact hK67 _ _ _ hw
def wp_X6_findLevels_67 (Q : OV → Prop) (K59 : Int32 → OV → Prop) (K67 : Int32 → Int32 → OV → Prop) (vLg : OV) (x2 x3 : Int32) (vWv : OV) : Prop :=
  (((vLg.2 8) ≤ x3 → (∀ i_5 : Int32, i_5 = x2 + (1 : Int32) → (K59 i_5 vWv))) ∧ (¬ ((vLg.2 8) ≤ x3) → (wp_X6_levelAt (fun (r_6 : Int32) => ((¬ r_6 = x2 → (wp_X6_findLevels_91 Q K59 K67 vLg x2 x3 vWv)) ∧ (r_6 = x2 → (wp_X6_spreadLevel (fun (v_9 : OV) => (wp_X6_findLevels_91 Q K59 K67 vLg x2 x3 v_9)) x3 x2 vWv vLg)))) x3 vWv)))
set_option maxRecDepth 20000 in
theorem lb_X6_findLevels_67 {X : List Cond} {l : Launch} {D : va_G} {G : Nat → ClassId} {C : Cx} {bs0 : List va_W} {hWv : Nat} {qWv : Nat → Nat} {hLg : Nat} {qLg : Nat → Nat} {Q : OV → Prop} {K59 : Int32 → OV → Prop} {K67 : Int32 → Int32 → OV → Prop} {vLg : OV} (F : GF C X cX6_findLevels wsX6_findLevels RX6 rm_X6_findLevels 4 none D G l) (E : GE C bs0 0 0 (po_X6_findLevels G hWv qWv hLg qLg vLg Q)) (hK59 : ∀ (x2 : Int32) (vWv : OV), K59 x2 vWv → GW C 0 0 [bWv G hWv qWv vWv, bLg G hLg qLg vLg] 59 [(0, .ref hWv), (1, .ref hLg), (2, .int x2)] []) (hK67 : ∀ (x2 x3 : Int32) (vWv : OV), K67 x2 x3 vWv → GW C 0 0 [bWv G hWv qWv vWv, bLg G hLg qLg vLg] 67 [(0, .ref hWv), (1, .ref hLg), (2, .int x2), (3, .int x3)] []) {x2 x3 : Int32} {vWv : OV} (hw : wp_X6_findLevels_67 Q K59 K67 vLg x2 x3 vWv) : GW C 0 0 [bWv G hWv qWv vWv, bLg G hLg qLg vLg] 67 [(0, .ref hWv), (1, .ref hLg), (2, .int x2), (3, .int x3)] [] := by
  unfold wp_X6_findLevels_67 at hw
  refine gw_iload_n F dX6_findLevels_67 3 rfl ?_
  refine gw_aload_n F dX6_findLevels_68 1 rfl ?_
  refine gw_get F in_X6_findLevels_RX3 3 rfl rfl 8 (by decide) lk_X6_findLevels_27 rfl dX6_findLevels_69 ?_
  refine gw_icmp_ge (tgt := 97) F dX6_findLevels_72 (by decide) (fun c_4 => ?_) (fun c_4 => ?_)
  · have hw := hw.1 c_4
    obtain ⟨i_5, e_i_5⟩ : ∃ z : Int32, z = x2 + (1 : Int32) := ⟨_, rfl⟩
    have hw := hw i_5 e_i_5
    refine gw_iinc (v := i_5) (lv' := [(2, .int i_5), (0, .ref hWv), (1, .ref hLg), (3, .int x3)]) F dX6_findLevels_97 2 rfl (by rw [e_i_5]; rfl) (by decide) rfl ?_
    refine gw_goto (tgt := 59) F dX6_findLevels_100 (by decide) ?_
    refine gw_lv [1, 2, 0] rfl ?_
    exact hK59 _ _ hw
  · have hw := hw.2 c_4
    refine gw_aload_n F dX6_findLevels_75 0 rfl ?_
    refine gw_iload_n F dX6_findLevels_76 3 rfl ?_
    refine gw_callV F (ct_X6_levelAt hw) 1 gX6_findLevels_X6_levelAt rfl rfl rfl hd_X6_levelAt ⟨(Nat.le_of_ble_eq_true rfl), (Nat.le_of_ble_eq_true rfl)⟩ rfl rfl (Nat.le_of_ble_eq_true rfl) ⟨Nat.zero_le _, Nat.zero_le _⟩ [1, 0] (bsr := [bLg G hLg qLg vLg]) rfl rfl (q0 := 0) rfl rfl dX6_findLevels_77 ?_
    rintro _ _ ⟨r_6, rfl, rfl, hw⟩
    refine gw_sel [1, 0] (bs' := [bWv G hWv qWv vWv, bLg G hLg qLg vLg]) rfl rfl ?_
    change GW C 0 0 _ 80 _ [.int r_6]
    refine gw_iload_n F dX6_findLevels_80 2 rfl ?_
    refine gw_icmp_ne (tgt := 91) F dX6_findLevels_81 (by decide) (fun c_7 => ?_) (fun c_7 => ?_)
    · have hw := hw.1 c_7
      exact lb_X6_findLevels_91 F E hK59 hK67 hw
    · have hw := hw.2 c_7
      refine gw_aload_n F dX6_findLevels_84 0 rfl ?_
      refine gw_aload_n F dX6_findLevels_85 1 rfl ?_
      refine gw_iload_n F dX6_findLevels_86 3 rfl ?_
      refine gw_iload_n F dX6_findLevels_87 2 rfl ?_
      refine gw_callV F (ct_X6_spreadLevel hw) 3 gX6_findLevels_X6_spreadLevel rfl rfl rfl hd_X6_spreadLevel ⟨(Nat.le_of_ble_eq_true rfl), (Nat.le_of_ble_eq_true rfl)⟩ rfl rfl (Nat.le_of_ble_eq_true rfl) ⟨Nat.zero_le _, Nat.zero_le _⟩ [0, 1] (bsr := []) rfl rfl (q0 := 0) rfl rfl dX6_findLevels_88 ?_
      rintro _ _ ⟨v_9, rfl, rfl, hw⟩
      refine gw_sel [0, 1] (bs' := [bWv G hWv qWv v_9, bLg G hLg qLg vLg]) rfl rfl ?_
      change GW C 0 0 _ 91 _ []
      exact lb_X6_findLevels_91 F E hK59 hK67 hw
def wp_X6_findLevels_67_loop (Q : OV → Prop) (K59 : Int32 → OV → Prop) (vLg : OV) : Nat → Int32 → Int32 → OV → Prop
  | 0, _, _, _ => False
  | n + 1, x2, x3, vWv => wp_X6_findLevels_67 Q K59 (wp_X6_findLevels_67_loop Q K59 vLg n) vLg x2 x3 vWv
theorem lp_X6_findLevels_67 {X : List Cond} {l : Launch} {D : va_G} {G : Nat → ClassId} {C : Cx} {bs0 : List va_W} {hWv : Nat} {qWv : Nat → Nat} {hLg : Nat} {qLg : Nat → Nat} {Q : OV → Prop} {K59 : Int32 → OV → Prop} {vLg : OV} (F : GF C X cX6_findLevels wsX6_findLevels RX6 rm_X6_findLevels 4 none D G l) (E : GE C bs0 0 0 (po_X6_findLevels G hWv qWv hLg qLg vLg Q)) (hK59 : ∀ (x2 : Int32) (vWv : OV), K59 x2 vWv → GW C 0 0 [bWv G hWv qWv vWv, bLg G hLg qLg vLg] 59 [(0, .ref hWv), (1, .ref hLg), (2, .int x2)] []) : ∀ (n : Nat) (x2 x3 : Int32) (vWv : OV), wp_X6_findLevels_67_loop Q K59 vLg n x2 x3 vWv → GW C 0 0 [bWv G hWv qWv vWv, bLg G hLg qLg vLg] 67 [(0, .ref hWv), (1, .ref hLg), (2, .int x2), (3, .int x3)] [] := by
  intro n
  induction n with
  | zero => intro x2 x3 vWv hw; exact False.elim hw
  | succ n ih => intro x2 x3 vWv hw; exact lb_X6_findLevels_67 (K67 := wp_X6_findLevels_67_loop Q K59 vLg n) F E hK59 ih hw
def wp_X6_findLevels_59 (Q : OV → Prop) (K59 : Int32 → OV → Prop) (vLg : OV) (x2 : Int32) (vWv : OV) : Prop :=
  (((10 : Int32) ≤ x2 → (Q vWv)) ∧ (¬ ((10 : Int32) ≤ x2) → (∃ n_10 : Nat, wp_X6_findLevels_67_loop Q K59 vLg n_10 x2 (0 : Int32) vWv)))
set_option maxRecDepth 20000 in
theorem lb_X6_findLevels_59 {X : List Cond} {l : Launch} {D : va_G} {G : Nat → ClassId} {C : Cx} {bs0 : List va_W} {hWv : Nat} {qWv : Nat → Nat} {hLg : Nat} {qLg : Nat → Nat} {Q : OV → Prop} {K59 : Int32 → OV → Prop} {vLg : OV} (F : GF C X cX6_findLevels wsX6_findLevels RX6 rm_X6_findLevels 4 none D G l) (E : GE C bs0 0 0 (po_X6_findLevels G hWv qWv hLg qLg vLg Q)) (hK59 : ∀ (x2 : Int32) (vWv : OV), K59 x2 vWv → GW C 0 0 [bWv G hWv qWv vWv, bLg G hLg qLg vLg] 59 [(0, .ref hWv), (1, .ref hLg), (2, .int x2)] []) {x2 : Int32} {vWv : OV} (hw : wp_X6_findLevels_59 Q K59 vLg x2 vWv) : GW C 0 0 [bWv G hWv qWv vWv, bLg G hLg qLg vLg] 59 [(0, .ref hWv), (1, .ref hLg), (2, .int x2)] [] := by
  unfold wp_X6_findLevels_59 at hw
  refine gw_iload_n F dX6_findLevels_59 2 rfl ?_
  refine gw_bipush (v := (10 : Int32)) F dX6_findLevels_60 ic_bipush_10 ?_
  refine gw_icmp_ge (tgt := 103) F dX6_findLevels_62 (by decide) (fun c_3 => ?_) (fun c_3 => ?_)
  · have hw := hw.1 c_3
    exact gw_vret F E rfl (Nat.le_of_ble_eq_true rfl) (Nat.le_of_ble_eq_true rfl) dX6_findLevels_103 ⟨_, rfl, rfl, hw⟩
  · have hw := hw.2 c_3
    refine gw_iconst (v := (0 : Int32)) F dX6_findLevels_65 ic_iconst_0 ?_
    refine gw_istore_n (lv' := [(3, .int (0 : Int32)), (0, .ref hWv), (1, .ref hLg), (2, .int x2)]) F dX6_findLevels_66 (by decide) rfl ?_
    refine gw_lv [1, 2, 3, 0] rfl ?_
    obtain ⟨n_10, hw⟩ := hw
    exact lp_X6_findLevels_67 F E hK59 n_10 _ _ _ hw
def wp_X6_findLevels_59_loop (Q : OV → Prop) (vLg : OV) : Nat → Int32 → OV → Prop
  | 0, _, _ => False
  | n + 1, x2, vWv => wp_X6_findLevels_59 Q (wp_X6_findLevels_59_loop Q vLg n) vLg x2 vWv
theorem lp_X6_findLevels_59 {X : List Cond} {l : Launch} {D : va_G} {G : Nat → ClassId} {C : Cx} {bs0 : List va_W} {hWv : Nat} {qWv : Nat → Nat} {hLg : Nat} {qLg : Nat → Nat} {Q : OV → Prop} {vLg : OV} (F : GF C X cX6_findLevels wsX6_findLevels RX6 rm_X6_findLevels 4 none D G l) (E : GE C bs0 0 0 (po_X6_findLevels G hWv qWv hLg qLg vLg Q)) : ∀ (n : Nat) (x2 : Int32) (vWv : OV), wp_X6_findLevels_59_loop Q vLg n x2 vWv → GW C 0 0 [bWv G hWv qWv vWv, bLg G hLg qLg vLg] 59 [(0, .ref hWv), (1, .ref hLg), (2, .int x2)] [] := by
  intro n
  induction n with
  | zero => intro x2 vWv hw; exact False.elim hw
  | succ n ih => intro x2 vWv hw; exact lb_X6_findLevels_59 (K59 := wp_X6_findLevels_59_loop Q vLg n) F E ih hw
def wp_X6_findLevels_45 (Q : OV → Prop) (K2 : Int32 → OV → Prop) (vLg : OV) (x2 s1 s2 : Int32) (vWv : OV) : Prop :=
  (vp_in s1 10 ∧ ∀ v_15 : OV, v_15 = sA vWv 0 s1.toNatClampNeg s2 → (∀ i_17 : Int32, i_17 = x2 + (1 : Int32) → (K2 i_17 v_15)))
set_option maxRecDepth 20000 in
theorem lb_X6_findLevels_45 {X : List Cond} {l : Launch} {D : va_G} {G : Nat → ClassId} {C : Cx} {bs0 : List va_W} {hWv : Nat} {qWv : Nat → Nat} {hLg : Nat} {qLg : Nat → Nat} {Q : OV → Prop} {K2 : Int32 → OV → Prop} {vLg : OV} (F : GF C X cX6_findLevels wsX6_findLevels RX6 rm_X6_findLevels 4 none D G l) (E : GE C bs0 0 0 (po_X6_findLevels G hWv qWv hLg qLg vLg Q)) (hK2 : ∀ (x2 : Int32) (vWv : OV), K2 x2 vWv → GW C 0 0 [bWv G hWv qWv vWv, bLg G hLg qLg vLg] 2 [(0, .ref hWv), (1, .ref hLg), (2, .int x2)] []) {x2 s1 s2 : Int32} {vWv : OV} (hw : wp_X6_findLevels_45 Q K2 vLg x2 s1 s2 vWv) : GW C 0 0 [bWv G hWv qWv vWv, bLg G hLg qLg vLg] 45 [(0, .ref hWv), (1, .ref hLg), (2, .int x2)] [.int s2, .int s1, .ref (qWv 0)] := by
  unfold wp_X6_findLevels_45 at hw
  obtain ⟨h_16, hw⟩ := hw
  obtain ⟨v_15, e_v_15⟩ : ∃ z : OV, z = sA vWv 0 s1.toNatClampNeg s2 := ⟨_, rfl⟩
  have hw := hw v_15 e_v_15
  refine gw_iast (bs' := [bWv G hWv qWv v_15, bLg G hLg qLg vLg]) F 1 rfl h_16 dX6_findLevels_45 (by rw [e_v_15]; rfl) ?_
  obtain ⟨i_17, e_i_17⟩ : ∃ z : Int32, z = x2 + (1 : Int32) := ⟨_, rfl⟩
  have hw := hw i_17 e_i_17
  refine gw_iinc (v := i_17) (lv' := [(2, .int i_17), (0, .ref hWv), (1, .ref hLg)]) F dX6_findLevels_46 2 rfl (by rw [e_i_17]; rfl) (by decide) rfl ?_
  refine gw_goto (tgt := 2) F dX6_findLevels_49 (by decide) ?_
  refine gw_lv [1, 2, 0] rfl ?_
  exact hK2 _ _ hw
def wp_X6_findLevels_30 (Q : OV → Prop) (K2 : Int32 → OV → Prop) (vLg : OV) (x2 s0 : Int32) (vWv : OV) : Prop :=
  ((s0 = 0 → (wp_X6_findLevels_45 Q K2 vLg x2 x2 (-1 : Int32) vWv)) ∧ (¬ (s0 = 0) → (wp_X6_findLevels_45 Q K2 vLg x2 x2 (0 : Int32) vWv)))
set_option maxRecDepth 20000 in
theorem lb_X6_findLevels_30 {X : List Cond} {l : Launch} {D : va_G} {G : Nat → ClassId} {C : Cx} {bs0 : List va_W} {hWv : Nat} {qWv : Nat → Nat} {hLg : Nat} {qLg : Nat → Nat} {Q : OV → Prop} {K2 : Int32 → OV → Prop} {vLg : OV} (F : GF C X cX6_findLevels wsX6_findLevels RX6 rm_X6_findLevels 4 none D G l) (E : GE C bs0 0 0 (po_X6_findLevels G hWv qWv hLg qLg vLg Q)) (hK2 : ∀ (x2 : Int32) (vWv : OV), K2 x2 vWv → GW C 0 0 [bWv G hWv qWv vWv, bLg G hLg qLg vLg] 2 [(0, .ref hWv), (1, .ref hLg), (2, .int x2)] []) {x2 s0 : Int32} {vWv : OV} (hw : wp_X6_findLevels_30 Q K2 vLg x2 s0 vWv) : GW C 0 0 [bWv G hWv qWv vWv, bLg G hLg qLg vLg] 30 [(0, .ref hWv), (1, .ref hLg), (2, .int x2)] [.int s0] := by
  unfold wp_X6_findLevels_30 at hw
  refine gw_istore_n (lv' := [(3, .int s0), (0, .ref hWv), (1, .ref hLg), (2, .int x2)]) F dX6_findLevels_30 (by decide) rfl ?_
  refine gw_aload_n F dX6_findLevels_31 1 rfl ?_
  refine gw_get F in_X6_findLevels_RX6 0 rfl rfl 0 (by decide) lk_X6_findLevels_9 rfl dX6_findLevels_32 ?_
  refine gw_iload_n F dX6_findLevels_35 3 rfl ?_
  refine gw_iload_n F dX6_findLevels_36 0 rfl ?_
  refine gw_if_eq (tgt := 44) F dX6_findLevels_37 (by decide) (fun c_14 => ?_) (fun c_14 => ?_)
  · have hw := hw.1 c_14
    refine gw_iconst (v := (-1 : Int32)) F dX6_findLevels_44 ic_iconst_m1 ?_
    refine gw_lv [1, 2, 3] rfl ?_
    exact lb_X6_findLevels_45 F E hK2 hw
  · have hw := hw.2 c_14
    refine gw_iconst (v := (0 : Int32)) F dX6_findLevels_40 ic_iconst_0 ?_
    refine gw_goto (tgt := 45) F dX6_findLevels_41 (by decide) ?_
    refine gw_lv [1, 2, 3] rfl ?_
    exact lb_X6_findLevels_45 F E hK2 hw
def wp_X6_findLevels_29 (Q : OV → Prop) (K2 : Int32 → OV → Prop) (vLg : OV) (x2 : Int32) (vWv : OV) : Prop :=
  (wp_X6_findLevels_30 Q K2 vLg x2 (0 : Int32) vWv)
set_option maxRecDepth 20000 in
theorem lb_X6_findLevels_29 {X : List Cond} {l : Launch} {D : va_G} {G : Nat → ClassId} {C : Cx} {bs0 : List va_W} {hWv : Nat} {qWv : Nat → Nat} {hLg : Nat} {qLg : Nat → Nat} {Q : OV → Prop} {K2 : Int32 → OV → Prop} {vLg : OV} (F : GF C X cX6_findLevels wsX6_findLevels RX6 rm_X6_findLevels 4 none D G l) (E : GE C bs0 0 0 (po_X6_findLevels G hWv qWv hLg qLg vLg Q)) (hK2 : ∀ (x2 : Int32) (vWv : OV), K2 x2 vWv → GW C 0 0 [bWv G hWv qWv vWv, bLg G hLg qLg vLg] 2 [(0, .ref hWv), (1, .ref hLg), (2, .int x2)] []) {x2 : Int32} {vWv : OV} (hw : wp_X6_findLevels_29 Q K2 vLg x2 vWv) : GW C 0 0 [bWv G hWv qWv vWv, bLg G hLg qLg vLg] 29 [(0, .ref hWv), (1, .ref hLg), (2, .int x2)] [] := by
  unfold wp_X6_findLevels_29 at hw
  refine gw_iconst (v := (0 : Int32)) F dX6_findLevels_29 ic_iconst_0 ?_
  exact lb_X6_findLevels_30 F E hK2 hw
def wp_X6_findLevels_2 (Q : OV → Prop) (K2 : Int32 → OV → Prop) (vLg : OV) (x2 : Int32) (vWv : OV) : Prop :=
  (((10 : Int32) ≤ x2 → (∀ v_2 : OV, v_2 = sI vWv 2 (-1 : Int32) → (∃ n_11 : Nat, wp_X6_findLevels_59_loop Q vLg n_11 (0 : Int32) v_2))) ∧ (¬ ((10 : Int32) ≤ x2) → (wp_X3_hasKey (fun (r_12 : Int32) => ((r_12 = 0 → (wp_X6_findLevels_29 Q K2 vLg x2 vWv)) ∧ (¬ (r_12 = 0) → (wp_X3_lockWith (fun (r_18 : Int32) => ((¬ r_18 = (-1 : Int32) → (wp_X6_findLevels_29 Q K2 vLg x2 vWv)) ∧ (r_18 = (-1 : Int32) → (wp_X6_findLevels_30 Q K2 vLg x2 (1 : Int32) vWv)))) x2 vLg)))) x2 vLg)))
set_option maxRecDepth 20000 in
theorem lb_X6_findLevels_2 {X : List Cond} {l : Launch} {D : va_G} {G : Nat → ClassId} {C : Cx} {bs0 : List va_W} {hWv : Nat} {qWv : Nat → Nat} {hLg : Nat} {qLg : Nat → Nat} {Q : OV → Prop} {K2 : Int32 → OV → Prop} {vLg : OV} (F : GF C X cX6_findLevels wsX6_findLevels RX6 rm_X6_findLevels 4 none D G l) (E : GE C bs0 0 0 (po_X6_findLevels G hWv qWv hLg qLg vLg Q)) (hK2 : ∀ (x2 : Int32) (vWv : OV), K2 x2 vWv → GW C 0 0 [bWv G hWv qWv vWv, bLg G hLg qLg vLg] 2 [(0, .ref hWv), (1, .ref hLg), (2, .int x2)] []) {x2 : Int32} {vWv : OV} (hw : wp_X6_findLevels_2 Q K2 vLg x2 vWv) : GW C 0 0 [bWv G hWv qWv vWv, bLg G hLg qLg vLg] 2 [(0, .ref hWv), (1, .ref hLg), (2, .int x2)] [] := by
  unfold wp_X6_findLevels_2 at hw
  refine gw_iload_n F dX6_findLevels_2 2 rfl ?_
  refine gw_bipush (v := (10 : Int32)) F dX6_findLevels_3 ic_bipush_10 ?_
  refine gw_icmp_ge (tgt := 52) F dX6_findLevels_5 (by decide) (fun c_1 => ?_) (fun c_1 => ?_)
  · have hw := hw.1 c_1
    refine gw_aload_n F dX6_findLevels_52 0 rfl ?_
    refine gw_iconst (v := (-1 : Int32)) F dX6_findLevels_53 ic_iconst_m1 ?_
    obtain ⟨v_2, e_v_2⟩ : ∃ z : OV, z = sI vWv 2 (-1 : Int32) := ⟨_, rfl⟩
    have hw := hw v_2 e_v_2
    refine gw_put (bs' := [bWv G hWv qWv v_2, bLg G hLg qLg vLg]) F in_X6_findLevels_RX6 tyX6 tyX6_ok nmX6 0 rfl rfl 2 (by decide) lk_X6_findLevels_19 rfl rfl rfl (Nat.le_of_ble_eq_true rfl) dX6_findLevels_54 (by rw [e_v_2]; rfl) ?_
    refine gw_iconst (v := (0 : Int32)) F dX6_findLevels_57 ic_iconst_0 ?_
    refine gw_istore_n (lv' := [(2, .int (0 : Int32)), (0, .ref hWv), (1, .ref hLg)]) F dX6_findLevels_58 (by decide) rfl ?_
    refine gw_lv [1, 2, 0] rfl ?_
    obtain ⟨n_11, hw⟩ := hw
    exact lp_X6_findLevels_59 F E n_11 _ _ hw
  · have hw := hw.2 c_1
    refine gw_aload_n F dX6_findLevels_8 1 rfl ?_
    refine gw_iload_n F dX6_findLevels_9 2 rfl ?_
    refine gw_callV F (ct_X3_hasKey hw) 1 gX6_findLevels_X3_hasKey rfl rfl rfl hd_X3_hasKey ⟨(Nat.le_of_ble_eq_true rfl), (Nat.le_of_ble_eq_true rfl)⟩ rfl rfl (Nat.le_of_ble_eq_true rfl) ⟨Nat.zero_le _, Nat.zero_le _⟩ [0, 1] (bsr := [bWv G hWv qWv vWv]) rfl rfl (q0 := 0) rfl rfl dX6_findLevels_10 ?_
    rintro _ _ ⟨r_12, rfl, rfl, hw⟩
    refine gw_sel [0, 1] (bs' := [bWv G hWv qWv vWv, bLg G hLg qLg vLg]) rfl rfl ?_
    change GW C 0 0 _ 13 _ [.int r_12]
    refine gw_if_eq (tgt := 29) F dX6_findLevels_13 (by decide) (fun c_13 => ?_) (fun c_13 => ?_)
    · have hw := hw.1 c_13
      exact lb_X6_findLevels_29 F E hK2 hw
    · have hw := hw.2 c_13
      refine gw_aload_n F dX6_findLevels_16 1 rfl ?_
      refine gw_iload_n F dX6_findLevels_17 2 rfl ?_
      refine gw_callV F (ct_X3_lockWith hw) 1 gX6_findLevels_X3_lockWith rfl rfl rfl hd_X3_lockWith ⟨(Nat.le_of_ble_eq_true rfl), (Nat.le_of_ble_eq_true rfl)⟩ rfl rfl (Nat.le_of_ble_eq_true rfl) ⟨Nat.zero_le _, Nat.zero_le _⟩ [0, 1] (bsr := [bWv G hWv qWv vWv]) rfl rfl (q0 := 0) rfl rfl dX6_findLevels_18 ?_
      rintro _ _ ⟨r_18, rfl, rfl, hw⟩
      refine gw_sel [0, 1] (bs' := [bWv G hWv qWv vWv, bLg G hLg qLg vLg]) rfl rfl ?_
      change GW C 0 0 _ 21 _ [.int r_18]
      refine gw_iconst (v := (-1 : Int32)) F dX6_findLevels_21 ic_iconst_m1 ?_
      refine gw_icmp_ne (tgt := 29) F dX6_findLevels_22 (by decide) (fun c_19 => ?_) (fun c_19 => ?_)
      · have hw := hw.1 c_19
        exact lb_X6_findLevels_29 F E hK2 hw
      · have hw := hw.2 c_19
        refine gw_iconst (v := (1 : Int32)) F dX6_findLevels_25 ic_iconst_1 ?_
        refine gw_goto (tgt := 30) F dX6_findLevels_26 (by decide) ?_
        exact lb_X6_findLevels_30 F E hK2 hw
def wp_X6_findLevels_2_loop (Q : OV → Prop) (vLg : OV) : Nat → Int32 → OV → Prop
  | 0, _, _ => False
  | n + 1, x2, vWv => wp_X6_findLevels_2 Q (wp_X6_findLevels_2_loop Q vLg n) vLg x2 vWv
theorem lp_X6_findLevels_2 {X : List Cond} {l : Launch} {D : va_G} {G : Nat → ClassId} {C : Cx} {bs0 : List va_W} {hWv : Nat} {qWv : Nat → Nat} {hLg : Nat} {qLg : Nat → Nat} {Q : OV → Prop} {vLg : OV} (F : GF C X cX6_findLevels wsX6_findLevels RX6 rm_X6_findLevels 4 none D G l) (E : GE C bs0 0 0 (po_X6_findLevels G hWv qWv hLg qLg vLg Q)) : ∀ (n : Nat) (x2 : Int32) (vWv : OV), wp_X6_findLevels_2_loop Q vLg n x2 vWv → GW C 0 0 [bWv G hWv qWv vWv, bLg G hLg qLg vLg] 2 [(0, .ref hWv), (1, .ref hLg), (2, .int x2)] [] := by
  intro n
  induction n with
  | zero => intro x2 vWv hw; exact False.elim hw
  | succ n ih => intro x2 vWv hw; exact lb_X6_findLevels_2 (K2 := wp_X6_findLevels_2_loop Q vLg n) F E ih hw
def wp_X6_findLevels_0 (Q : OV → Prop) (vLg : OV) (vWv : OV) : Prop :=
  (∃ n_20 : Nat, wp_X6_findLevels_2_loop Q vLg n_20 (0 : Int32) vWv)
set_option maxRecDepth 20000 in
theorem lb_X6_findLevels_0 {X : List Cond} {l : Launch} {D : va_G} {G : Nat → ClassId} {C : Cx} {bs0 : List va_W} {hWv : Nat} {qWv : Nat → Nat} {hLg : Nat} {qLg : Nat → Nat} {Q : OV → Prop} {vLg : OV} (F : GF C X cX6_findLevels wsX6_findLevels RX6 rm_X6_findLevels 4 none D G l) (E : GE C bs0 0 0 (po_X6_findLevels G hWv qWv hLg qLg vLg Q)) {vWv : OV} (hw : wp_X6_findLevels_0 Q vLg vWv) : GW C 0 0 [bWv G hWv qWv vWv, bLg G hLg qLg vLg] 0 [(0, .ref hWv), (1, .ref hLg)] [] := by
  unfold wp_X6_findLevels_0 at hw
  refine gw_iconst (v := (0 : Int32)) F dX6_findLevels_0 ic_iconst_0 ?_
  refine gw_istore_n (lv' := [(2, .int (0 : Int32)), (0, .ref hWv), (1, .ref hLg)]) F dX6_findLevels_1 (by decide) rfl ?_
  refine gw_lv [1, 2, 0] rfl ?_
  obtain ⟨n_20, hw⟩ := hw
  exact lp_X6_findLevels_2 F E n_20 _ _ hw
def wp_X6_findLevels (Q : OV → Prop) (vWv : OV) (vLg : OV) : Prop := wp_X6_findLevels_0 Q vLg vWv
theorem ct_X6_findLevels {X : List Cond} {l : Launch} {D : va_G} {G : Nat → ClassId} {hWv : Nat} {qWv : Nat → Nat} {hLg : Nat} {qLg : Nat → Nat} {Q : OV → Prop} {vWv : OV} {vLg : OV} (hw : wp_X6_findLevels Q vWv vLg) : CM X l yX6_findLevels wsX6_findLevels rm_X6_findLevels D G [.ref hWv, .ref hLg] [bWv G hWv qWv vWv, bLg G hLg qLg vLg] 0 0 (po_X6_findLevels G hWv qWv hLg qLg vLg Q) :=
  CM.of pn_RX6 rfl rfl (Nat.le_of_ble_eq_true rfl) rfl (fun C F E => lb_X6_findLevels_0 F E hw)
-- X6_canGoOn
abbrev rm_X6_canGoOn : Room := { frames := 2, cells := 0, slots := 0, locals := 81 }
def po_X6_canGoOn (G : Nat → ClassId) (hWv : Nat) (qWv : Nat → Nat) (vWv : OV) (Q : Int32 → Prop) : Option Value → List va_W → Prop := fun o bs => ∃ (r : Int32), o = some (.int r) ∧ bs = [bWv G hWv qWv vWv] ∧ Q r
theorem hd_X6_canGoOn : yX6_canGoOn.cls = RX6 ∧ yX6_canGoOn.cls ≠ "java/lang/invoke/MethodHandle" ∧ yX6_canGoOn.cls ≠ "java/lang/invoke/VarHandle" ∧ (parseMethodDescriptor yX6_canGoOn.desc).map (fun d => d.parameters.length) = some 2 := by decide +kernel
theorem in_X6_canGoOn_RX6 : ∀ w ∈ wsX60, w ∈ wsX6_canGoOn := fun w h => List.mem_cons_of_mem _ (List.mem_append_left _ (List.mem_append_right _ h))
theorem lk_X6_canGoOn_19 : Cond.fieldLink RX6 19 "KeyWaves$Waves" "lastLevel" "I" ∈ wsX6_canGoOn := List.mem_cons_of_mem _ (List.mem_append_left _ (List.mem_append_left _ (List.mem_of_getElem? (i := 0) rfl)))
theorem lk_X6_canGoOn_15 : Cond.fieldLink RX6 15 "KeyWaves$Waves" "isGivenUp" "[Z" ∈ wsX6_canGoOn := List.mem_cons_of_mem _ (List.mem_append_left _ (List.mem_append_left _ (List.mem_of_getElem? (i := 1) rfl)))
def wp_X6_canGoOn_31 (Q : Int32 → Prop) (vWv : OV) (s0 : Int32) : Prop :=
  (narrow .boolean (.int s0) = .int s0 ∧ Q s0)
set_option maxRecDepth 20000 in
theorem lb_X6_canGoOn_31 {X : List Cond} {l : Launch} {D : va_G} {G : Nat → ClassId} {C : Cx} {bs0 : List va_W} {hWv : Nat} {qWv : Nat → Nat} {Q : Int32 → Prop} {vWv : OV} (F : GF C X cX6_canGoOn wsX6_canGoOn RX6 rm_X6_canGoOn 3 (some .boolean) D G l) (E : GE C bs0 0 0 (po_X6_canGoOn G hWv qWv vWv Q)) {s0 : Int32} (hw : wp_X6_canGoOn_31 Q vWv s0) : GW C 0 0 [bWv G hWv qWv vWv] 31 [] [.int s0] := by
  unfold wp_X6_canGoOn_31 at hw
  obtain ⟨hn, hw⟩ := hw
  exact gw_iret F E rfl hn (Nat.le_of_ble_eq_true rfl) (Nat.le_of_ble_eq_true rfl) dX6_canGoOn_31 ⟨_, rfl, rfl, hw⟩
def wp_X6_canGoOn_30 (Q : Int32 → Prop) (vWv : OV) : Prop :=
  (wp_X6_canGoOn_31 Q vWv (0 : Int32))
set_option maxRecDepth 20000 in
theorem lb_X6_canGoOn_30 {X : List Cond} {l : Launch} {D : va_G} {G : Nat → ClassId} {C : Cx} {bs0 : List va_W} {hWv : Nat} {qWv : Nat → Nat} {Q : Int32 → Prop} {vWv : OV} (F : GF C X cX6_canGoOn wsX6_canGoOn RX6 rm_X6_canGoOn 3 (some .boolean) D G l) (E : GE C bs0 0 0 (po_X6_canGoOn G hWv qWv vWv Q)) (hw : wp_X6_canGoOn_30 Q vWv ) : GW C 0 0 [bWv G hWv qWv vWv] 30 [] [] := by
  unfold wp_X6_canGoOn_30 at hw
  refine gw_iconst (v := (0 : Int32)) F dX6_canGoOn_30 ic_iconst_0 ?_
  exact lb_X6_canGoOn_31 F E hw
def wp_X6_canGoOn_0 (Q : Int32 → Prop) (vWv : OV) (x1 : Int32) (x2 : Int32) : Prop :=
  (wp_X6_levelAt (fun (r_1 : Int32) => ((¬ r_1 = x2 → (wp_X6_canGoOn_30 Q vWv)) ∧ (r_1 = x2 → (((vWv.2 2) < x2 → (wp_X6_canGoOn_30 Q vWv)) ∧ (¬ ((vWv.2 2) < x2) → (vp_in x1 10 ∧ ((¬ (vWv.1 1 x1.toNatClampNeg) = 0 → (wp_X6_canGoOn_30 Q vWv)) ∧ ((vWv.1 1 x1.toNatClampNeg) = 0 → (wp_X6_canGoOn_31 Q vWv (1 : Int32)))))))))) x1 vWv)
set_option maxRecDepth 20000 in
theorem lb_X6_canGoOn_0 {X : List Cond} {l : Launch} {D : va_G} {G : Nat → ClassId} {C : Cx} {bs0 : List va_W} {hWv : Nat} {qWv : Nat → Nat} {Q : Int32 → Prop} {vWv : OV} (F : GF C X cX6_canGoOn wsX6_canGoOn RX6 rm_X6_canGoOn 3 (some .boolean) D G l) (E : GE C bs0 0 0 (po_X6_canGoOn G hWv qWv vWv Q)) {x1 : Int32} {x2 : Int32} (hw : wp_X6_canGoOn_0 Q vWv x1 x2) : GW C 0 0 [bWv G hWv qWv vWv] 0 [(0, .ref hWv), (1, .int x1), (2, .int x2)] [] := by
  unfold wp_X6_canGoOn_0 at hw
  refine gw_aload_n F dX6_canGoOn_0 0 rfl ?_
  refine gw_iload_n F dX6_canGoOn_1 1 rfl ?_
  refine gw_callV F (ct_X6_levelAt hw) 1 gX6_canGoOn_X6_levelAt rfl rfl rfl hd_X6_levelAt ⟨(Nat.le_of_ble_eq_true rfl), (Nat.le_of_ble_eq_true rfl)⟩ rfl rfl (Nat.le_of_ble_eq_true rfl) ⟨Nat.zero_le _, Nat.zero_le _⟩ [0] (bsr := []) rfl rfl (q0 := 0) rfl rfl dX6_canGoOn_2 ?_
  rintro _ _ ⟨r_1, rfl, rfl, hw⟩
  refine gw_sel [0] (bs' := [bWv G hWv qWv vWv]) rfl rfl ?_
  change GW C 0 0 _ 5 _ [.int r_1]
  refine gw_iload_n F dX6_canGoOn_5 2 rfl ?_
  refine gw_icmp_ne (tgt := 30) F dX6_canGoOn_6 (by decide) (fun c_2 => ?_) (fun c_2 => ?_)
  · have hw := hw.1 c_2
    refine gw_lv [] rfl ?_
    exact lb_X6_canGoOn_30 F E hw
  · have hw := hw.2 c_2
    refine gw_iload_n F dX6_canGoOn_9 2 rfl ?_
    refine gw_aload_n F dX6_canGoOn_10 0 rfl ?_
    refine gw_get F in_X6_canGoOn_RX6 0 rfl rfl 2 (by decide) lk_X6_canGoOn_19 rfl dX6_canGoOn_11 ?_
    refine gw_icmp_gt (tgt := 30) F dX6_canGoOn_14 (by decide) (fun c_3 => ?_) (fun c_3 => ?_)
    · have hw := hw.1 c_3
      refine gw_lv [] rfl ?_
      exact lb_X6_canGoOn_30 F E hw
    · have hw := hw.2 c_3
      refine gw_aload_n F dX6_canGoOn_17 0 rfl ?_
      refine gw_get F in_X6_canGoOn_RX6 0 rfl rfl 1 (by decide) lk_X6_canGoOn_15 rfl dX6_canGoOn_18 ?_
      refine gw_iload_n F dX6_canGoOn_21 1 rfl ?_
      obtain ⟨h_4, hw⟩ := hw
      refine gw_zald F 2 rfl h_4 dX6_canGoOn_22 ?_
      refine gw_if_ne (tgt := 30) F dX6_canGoOn_23 (by decide) (fun c_5 => ?_) (fun c_5 => ?_)
      · have hw := hw.1 c_5
        refine gw_lv [] rfl ?_
        exact lb_X6_canGoOn_30 F E hw
      · have hw := hw.2 c_5
        refine gw_iconst (v := (1 : Int32)) F dX6_canGoOn_26 ic_iconst_1 ?_
        refine gw_goto (tgt := 31) F dX6_canGoOn_27 (by decide) ?_
        refine gw_lv [] rfl ?_
        exact lb_X6_canGoOn_31 F E hw
def wp_X6_canGoOn (Q : Int32 → Prop) (x1 : Int32) (x2 : Int32) (vWv : OV) : Prop := wp_X6_canGoOn_0 Q vWv x1 x2
theorem ct_X6_canGoOn {X : List Cond} {l : Launch} {D : va_G} {G : Nat → ClassId} {hWv : Nat} {qWv : Nat → Nat} {Q : Int32 → Prop} {x1 : Int32} {x2 : Int32} {vWv : OV} (hw : wp_X6_canGoOn Q x1 x2 vWv) : CM X l yX6_canGoOn wsX6_canGoOn rm_X6_canGoOn D G [.ref hWv, .int x1, .int x2] [bWv G hWv qWv vWv] 0 0 (po_X6_canGoOn G hWv qWv vWv Q) :=
  CM.of pn_RX6 rfl rfl (Nat.le_of_ble_eq_true rfl) rfl (fun C F E => lb_X6_canGoOn_0 F E hw)
-- X6_takeWay
def rm_X6_takeWay (n : Nat) : Room := { frames := 3 + n, cells := 0, slots := 0, locals := 105 + n * 26 }
def po_X6_takeWay (G : Nat → ClassId) (hWv : Nat) (qWv : Nat → Nat) (hLg : Nat) (qLg : Nat → Nat) (Q : Int32 → OV → OV → Prop) : Option Value → List va_W → Prop := fun o bs => ∃ (r : Int32) (vWv : OV) (vLg : OV), o = some (.int r) ∧ bs = [bWv G hWv qWv vWv, bLg G hLg qLg vLg] ∧ Q r vWv vLg
theorem hd_X6_takeWay : yX6_takeWay.cls ≠ "java/lang/invoke/MethodHandle" ∧ yX6_takeWay.cls ≠ "java/lang/invoke/VarHandle" ∧ (parseMethodDescriptor yX6_takeWay.desc).map (fun d => d.parameters.length) = some 4 := by decide +kernel
theorem in_X6_takeWay_RX3 : ∀ w ∈ wsX30, w ∈ wsX6_takeWay := fun w h => List.mem_cons_of_mem _ (List.mem_append_left _ (List.mem_append_left _ (List.mem_append_right _ h)))
theorem lk_X6_takeWay_50 : Cond.fieldLink RX6 50 "KeyWaves$Lodge" "locks" "I" ∈ wsX6_takeWay := List.mem_cons_of_mem _ (List.mem_append_left _ (List.mem_append_left _ (List.mem_append_left _ (List.mem_append_left _ (List.mem_of_getElem? (i := 0) rfl)))))
theorem in_X6_takeWay_RX6 : ∀ w ∈ wsX60, w ∈ wsX6_takeWay := fun w h => List.mem_cons_of_mem _ (List.mem_append_left _ (List.mem_append_right _ h))
theorem lk_X6_takeWay_15 : Cond.fieldLink RX6 15 "KeyWaves$Waves" "isGivenUp" "[Z" ∈ wsX6_takeWay := List.mem_cons_of_mem _ (List.mem_append_left _ (List.mem_append_left _ (List.mem_append_left _ (List.mem_append_left _ (List.mem_of_getElem? (i := 1) rfl)))))
def wp_X6_takeWay_16 (Q : Int32 → OV → OV → Prop) (Rc : (Int32 → OV → OV → Prop) → Int32 → Int32 → OV → OV → Prop) (vWv : OV) (vLg : OV) : Prop :=
  (Q (0 : Int32) vWv vLg)
set_option maxRecDepth 20000 in
theorem lb_X6_takeWay_16 {X : List Cond} {l : Launch} {D : va_G} {G : Nat → ClassId} {C : Cx} {bs0 : List va_W} {n9 : Nat} {hWv : Nat} {qWv : Nat → Nat} {hLg : Nat} {qLg : Nat → Nat} {Q : Int32 → OV → OV → Prop} {Rc : (Int32 → OV → OV → Prop) → Int32 → Int32 → OV → OV → Prop} (F : GF C X cX6_takeWay wsX6_takeWay RX6 (rm_X6_takeWay (n9 + 1)) 7 (some .boolean) D G l) (E : GE C bs0 0 0 (po_X6_takeWay G hWv qWv hLg qLg Q)) (hRc : ∀ (Q0 : Int32 → OV → OV → Prop) (y2 : Int32) (y3 : Int32) (vWv : OV) (vLg : OV), Rc Q0 y2 y3 vWv vLg → CM X l yX6_takeWay wsX6_takeWay (rm_X6_takeWay n9) D G [.ref hWv, .ref hLg, .int y2, .int y3] [bWv G hWv qWv vWv, bLg G hLg qLg vLg] 0 0 (po_X6_takeWay G hWv qWv hLg qLg Q0)) {vWv : OV} {vLg : OV} (hw : wp_X6_takeWay_16 Q Rc vWv vLg) : GW C 0 0 [bWv G hWv qWv vWv, bLg G hLg qLg vLg] 16 [] [] := by
  unfold wp_X6_takeWay_16 at hw
  refine gw_iconst (v := (0 : Int32)) F dX6_takeWay_16 ic_iconst_0 ?_
  exact gw_iret F E rfl rfl (Nat.le_of_ble_eq_true rfl) (Nat.le_of_ble_eq_true rfl) dX6_takeWay_17 ⟨_, _, _, rfl, rfl, hw⟩
def wp_X6_takeWay_94 (Q : Int32 → OV → OV → Prop) (Rc : (Int32 → OV → OV → Prop) → Int32 → Int32 → OV → OV → Prop) (x2 x4 : Int32) (vWv : OV) (vLg : OV) : Prop :=
  (wp_X3_place (fun (v_12 : OV) => (Q (1 : Int32) vWv v_12)) x2 x4 vLg)
set_option maxRecDepth 20000 in
theorem lb_X6_takeWay_94 {X : List Cond} {l : Launch} {D : va_G} {G : Nat → ClassId} {C : Cx} {bs0 : List va_W} {n9 : Nat} {hWv : Nat} {qWv : Nat → Nat} {hLg : Nat} {qLg : Nat → Nat} {Q : Int32 → OV → OV → Prop} {Rc : (Int32 → OV → OV → Prop) → Int32 → Int32 → OV → OV → Prop} (F : GF C X cX6_takeWay wsX6_takeWay RX6 (rm_X6_takeWay (n9 + 1)) 7 (some .boolean) D G l) (E : GE C bs0 0 0 (po_X6_takeWay G hWv qWv hLg qLg Q)) (hRc : ∀ (Q0 : Int32 → OV → OV → Prop) (y2 : Int32) (y3 : Int32) (vWv : OV) (vLg : OV), Rc Q0 y2 y3 vWv vLg → CM X l yX6_takeWay wsX6_takeWay (rm_X6_takeWay n9) D G [.ref hWv, .ref hLg, .int y2, .int y3] [bWv G hWv qWv vWv, bLg G hLg qLg vLg] 0 0 (po_X6_takeWay G hWv qWv hLg qLg Q0)) {x2 x4 : Int32} {vWv : OV} {vLg : OV} (hw : wp_X6_takeWay_94 Q Rc x2 x4 vWv vLg) : GW C 0 0 [bWv G hWv qWv vWv, bLg G hLg qLg vLg] 94 [(1, .ref hLg), (2, .int x2), (4, .int x4)] [] := by
  unfold wp_X6_takeWay_94 at hw
  refine gw_aload_n F dX6_takeWay_94 0 rfl ?_
  refine gw_iload_n F dX6_takeWay_95 1 rfl ?_
  refine gw_iload F dX6_takeWay_96 2 rfl ?_
  refine gw_callV F (ct_X3_place hw) 2 gX6_takeWay_X3_place rfl rfl rfl hd_X3_place ⟨by simp only [rm_X6_takeWay, rm_X3_place]; omega, by simp only [rm_X6_takeWay, rm_X3_place]; omega⟩ rfl rfl (Nat.le_of_ble_eq_true rfl) ⟨Nat.zero_le _, Nat.zero_le _⟩ [0, 1] (bsr := [bWv G hWv qWv vWv]) rfl rfl (q0 := 0) rfl rfl dX6_takeWay_98 ?_
  rintro _ _ ⟨v_12, rfl, rfl, hw⟩
  refine gw_sel [0, 1] (bs' := [bWv G hWv qWv vWv, bLg G hLg qLg v_12]) rfl rfl ?_
  change GW C 0 0 _ 101 _ []
  refine gw_iconst (v := (1 : Int32)) F dX6_takeWay_101 ic_iconst_1 ?_
  exact gw_iret F E rfl rfl (Nat.le_of_ble_eq_true rfl) (Nat.le_of_ble_eq_true rfl) dX6_takeWay_102 ⟨_, _, _, rfl, rfl, hw⟩
def wp_X6_takeWay_103 (Q : Int32 → OV → OV → Prop) (Rc : (Int32 → OV → OV → Prop) → Int32 → Int32 → OV → OV → Prop) (K21 : Int32 → Int32 → Int32 → OV → OV → Prop) (x2 x3 x4 : Int32) (vWv : OV) (vLg : OV) : Prop :=
  (∀ i_15 : Int32, i_15 = x4 + (1 : Int32) → (K21 x2 x3 i_15 vWv vLg))
set_option maxRecDepth 20000 in
theorem lb_X6_takeWay_103 {X : List Cond} {l : Launch} {D : va_G} {G : Nat → ClassId} {C : Cx} {bs0 : List va_W} {n9 : Nat} {hWv : Nat} {qWv : Nat → Nat} {hLg : Nat} {qLg : Nat → Nat} {Q : Int32 → OV → OV → Prop} {Rc : (Int32 → OV → OV → Prop) → Int32 → Int32 → OV → OV → Prop} {K21 : Int32 → Int32 → Int32 → OV → OV → Prop} (F : GF C X cX6_takeWay wsX6_takeWay RX6 (rm_X6_takeWay (n9 + 1)) 7 (some .boolean) D G l) (E : GE C bs0 0 0 (po_X6_takeWay G hWv qWv hLg qLg Q)) (hRc : ∀ (Q0 : Int32 → OV → OV → Prop) (y2 : Int32) (y3 : Int32) (vWv : OV) (vLg : OV), Rc Q0 y2 y3 vWv vLg → CM X l yX6_takeWay wsX6_takeWay (rm_X6_takeWay n9) D G [.ref hWv, .ref hLg, .int y2, .int y3] [bWv G hWv qWv vWv, bLg G hLg qLg vLg] 0 0 (po_X6_takeWay G hWv qWv hLg qLg Q0)) (hK21 : ∀ (x2 x3 x4 : Int32) (vWv : OV) (vLg : OV), K21 x2 x3 x4 vWv vLg → GW C 0 0 [bWv G hWv qWv vWv, bLg G hLg qLg vLg] 21 [(0, .ref hWv), (1, .ref hLg), (2, .int x2), (3, .int x3), (4, .int x4)] []) {x2 x3 x4 : Int32} {vWv : OV} {vLg : OV} (hw : wp_X6_takeWay_103 Q Rc K21 x2 x3 x4 vWv vLg) : GW C 0 0 [bWv G hWv qWv vWv, bLg G hLg qLg vLg] 103 [(0, .ref hWv), (1, .ref hLg), (2, .int x2), (3, .int x3), (4, .int x4)] [] := by
  unfold wp_X6_takeWay_103 at hw
  obtain ⟨i_15, e_i_15⟩ : ∃ z : Int32, z = x4 + (1 : Int32) := ⟨_, rfl⟩
  have hw := hw i_15 e_i_15
  refine gw_iinc (v := i_15) (lv' := [(4, .int i_15), (0, .ref hWv), (1, .ref hLg), (2, .int x2), (3, .int x3)]) F dX6_takeWay_103 4 rfl (by rw [e_i_15]; rfl) (by decide) rfl ?_
  refine gw_goto (tgt := 21) F dX6_takeWay_106 (by decide) ?_
  refine gw_lv [1, 2, 3, 4, 0] rfl ?_
  exact hK21 _ _ _ _ _ hw
def wp_X6_takeWay_62 (Q : Int32 → OV → OV → Prop) (Rc : (Int32 → OV → OV → Prop) → Int32 → Int32 → OV → OV → Prop) (K21 : Int32 → Int32 → Int32 → OV → OV → Prop) (x2 x3 x4 x5 s0 : Int32) (vWv : OV) (vLg : OV) : Prop :=
  ((¬ s0 = 0 → (wp_X6_takeWay_94 Q Rc x2 x4 vWv vLg)) ∧ (s0 = 0 → (wp_X6_canGoOn (fun (r_13 : Int32) => ((r_13 = 0 → (wp_X6_takeWay_103 Q Rc K21 x2 x3 x4 vWv vLg)) ∧ (¬ (r_13 = 0) → (Rc (fun (r_16 : Int32) (v_17 : OV) (v_18 : OV) => ((r_16 = 0 → (wp_X6_takeWay_103 Q Rc K21 x2 x3 x4 v_17 v_18)) ∧ (¬ (r_16 = 0) → (wp_X6_takeWay_94 Q Rc x2 x4 v_17 v_18)))) x5 (x3 + (1 : Int32)) vWv vLg)))) x5 (x3 + (1 : Int32)) vWv)))
set_option maxRecDepth 20000 in
theorem lb_X6_takeWay_62 {X : List Cond} {l : Launch} {D : va_G} {G : Nat → ClassId} {C : Cx} {bs0 : List va_W} {n9 : Nat} {hWv : Nat} {qWv : Nat → Nat} {hLg : Nat} {qLg : Nat → Nat} {Q : Int32 → OV → OV → Prop} {Rc : (Int32 → OV → OV → Prop) → Int32 → Int32 → OV → OV → Prop} {K21 : Int32 → Int32 → Int32 → OV → OV → Prop} (F : GF C X cX6_takeWay wsX6_takeWay RX6 (rm_X6_takeWay (n9 + 1)) 7 (some .boolean) D G l) (E : GE C bs0 0 0 (po_X6_takeWay G hWv qWv hLg qLg Q)) (hRc : ∀ (Q0 : Int32 → OV → OV → Prop) (y2 : Int32) (y3 : Int32) (vWv : OV) (vLg : OV), Rc Q0 y2 y3 vWv vLg → CM X l yX6_takeWay wsX6_takeWay (rm_X6_takeWay n9) D G [.ref hWv, .ref hLg, .int y2, .int y3] [bWv G hWv qWv vWv, bLg G hLg qLg vLg] 0 0 (po_X6_takeWay G hWv qWv hLg qLg Q0)) (hK21 : ∀ (x2 x3 x4 : Int32) (vWv : OV) (vLg : OV), K21 x2 x3 x4 vWv vLg → GW C 0 0 [bWv G hWv qWv vWv, bLg G hLg qLg vLg] 21 [(0, .ref hWv), (1, .ref hLg), (2, .int x2), (3, .int x3), (4, .int x4)] []) {x2 x3 x4 x5 s0 : Int32} {vWv : OV} {vLg : OV} (hw : wp_X6_takeWay_62 Q Rc K21 x2 x3 x4 x5 s0 vWv vLg) : GW C 0 0 [bWv G hWv qWv vWv, bLg G hLg qLg vLg] 62 [(0, .ref hWv), (1, .ref hLg), (2, .int x2), (3, .int x3), (4, .int x4), (5, .int x5)] [.int s0] := by
  unfold wp_X6_takeWay_62 at hw
  refine gw_istore (lv' := [(6, .int s0), (0, .ref hWv), (1, .ref hLg), (2, .int x2), (3, .int x3), (4, .int x4), (5, .int x5)]) F dX6_takeWay_62 (by decide) rfl ?_
  refine gw_iload F dX6_takeWay_64 0 rfl ?_
  refine gw_if_ne (tgt := 94) F dX6_takeWay_66 (by decide) (fun c_11 => ?_) (fun c_11 => ?_)
  · have hw := hw.1 c_11
    refine gw_lv [2, 3, 5] rfl ?_
    exact lb_X6_takeWay_94 F E hRc hw
  · have hw := hw.2 c_11
    refine gw_aload_n F dX6_takeWay_69 1 rfl ?_
    refine gw_iload F dX6_takeWay_70 6 rfl ?_
    refine gw_iload_n F dX6_takeWay_72 4 rfl ?_
    refine gw_iconst (v := (1 : Int32)) F dX6_takeWay_73 ic_iconst_1 ?_
    refine gw_iadd F dX6_takeWay_74 ?_
    refine gw_callV F (ct_X6_canGoOn hw) 2 gX6_takeWay_X6_canGoOn rfl rfl rfl hd_X6_canGoOn ⟨by simp only [rm_X6_takeWay, rm_X6_canGoOn]; omega, by simp only [rm_X6_takeWay, rm_X6_canGoOn]; omega⟩ rfl rfl (Nat.le_of_ble_eq_true rfl) ⟨Nat.zero_le _, Nat.zero_le _⟩ [1, 0] (bsr := [bLg G hLg qLg vLg]) rfl rfl (q0 := 0) rfl rfl dX6_takeWay_75 ?_
    rintro _ _ ⟨r_13, rfl, rfl, hw⟩
    refine gw_sel [1, 0] (bs' := [bWv G hWv qWv vWv, bLg G hLg qLg vLg]) rfl rfl ?_
    change GW C 0 0 _ 78 _ [.int r_13]
    refine gw_if_eq (tgt := 103) F dX6_takeWay_78 (by decide) (fun c_14 => ?_) (fun c_14 => ?_)
    · have hw := hw.1 c_14
      refine gw_lv [1, 2, 3, 4, 5] rfl ?_
      exact lb_X6_takeWay_103 F E hRc hK21 hw
    · have hw := hw.2 c_14
      refine gw_aload_n F dX6_takeWay_81 1 rfl ?_
      refine gw_aload_n F dX6_takeWay_82 2 rfl ?_
      refine gw_iload F dX6_takeWay_83 6 rfl ?_
      refine gw_iload_n F dX6_takeWay_85 4 rfl ?_
      refine gw_iconst (v := (1 : Int32)) F dX6_takeWay_86 ic_iconst_1 ?_
      refine gw_iadd F dX6_takeWay_87 ?_
      refine gw_callS F (hRc _ _ _ _ _ hw) 4 gX6_takeWay_X6_takeWay rfl rfl rfl hd_X6_takeWay ⟨by simp only [rm_X6_takeWay]; omega, by simp only [rm_X6_takeWay]; omega⟩ rfl rfl (Nat.le_of_ble_eq_true rfl) ⟨Nat.zero_le _, Nat.zero_le _⟩ [0, 1] (bsr := []) rfl rfl dX6_takeWay_88 ?_
      rintro _ _ ⟨r_16, v_17, v_18, rfl, rfl, hw⟩
      refine gw_sel [0, 1] (bs' := [bWv G hWv qWv v_17, bLg G hLg qLg v_18]) rfl rfl ?_
      change GW C 0 0 _ 91 _ [.int r_16]
      refine gw_if_eq (tgt := 103) F dX6_takeWay_91 (by decide) (fun c_19 => ?_) (fun c_19 => ?_)
      · have hw := hw.1 c_19
        refine gw_lv [1, 2, 3, 4, 5] rfl ?_
        exact lb_X6_takeWay_103 F E hRc hK21 hw
      · have hw := hw.2 c_19
        refine gw_lv [2, 3, 5] rfl ?_
        exact lb_X6_takeWay_94 F E hRc hw
def wp_X6_takeWay_21 (Q : Int32 → OV → OV → Prop) (Rc : (Int32 → OV → OV → Prop) → Int32 → Int32 → OV → OV → Prop) (K21 : Int32 → Int32 → Int32 → OV → OV → Prop) (x2 x3 x4 : Int32) (vWv : OV) (vLg : OV) : Prop :=
  (((vLg.2 9) ≤ x4 → (vp_in x2 10 ∧ ∀ v_5 : OV, v_5 = sA vWv 1 x2.toNatClampNeg (vp_nar .boolean (1 : Int32)) → (Q (0 : Int32) v_5 vLg))) ∧ (¬ ((vLg.2 9) ≤ x4) → (wp_X3_isFit (fun (r_7 : Int32) => ((¬ r_7 = 0 → (wp_X3_keyIn (fun (r_9 : Int32) => ((¬ r_9 = (-1 : Int32) → (wp_X6_takeWay_62 Q Rc K21 x2 x3 x4 r_9 (0 : Int32) vWv vLg)) ∧ (r_9 = (-1 : Int32) → (wp_X6_takeWay_62 Q Rc K21 x2 x3 x4 r_9 (1 : Int32) vWv vLg)))) x4 vLg)) ∧ (r_7 = 0 → (wp_X6_takeWay_103 Q Rc K21 x2 x3 x4 vWv vLg)))) x2 x4 vLg)))
set_option maxRecDepth 20000 in
theorem lb_X6_takeWay_21 {X : List Cond} {l : Launch} {D : va_G} {G : Nat → ClassId} {C : Cx} {bs0 : List va_W} {n9 : Nat} {hWv : Nat} {qWv : Nat → Nat} {hLg : Nat} {qLg : Nat → Nat} {Q : Int32 → OV → OV → Prop} {Rc : (Int32 → OV → OV → Prop) → Int32 → Int32 → OV → OV → Prop} {K21 : Int32 → Int32 → Int32 → OV → OV → Prop} (F : GF C X cX6_takeWay wsX6_takeWay RX6 (rm_X6_takeWay (n9 + 1)) 7 (some .boolean) D G l) (E : GE C bs0 0 0 (po_X6_takeWay G hWv qWv hLg qLg Q)) (hRc : ∀ (Q0 : Int32 → OV → OV → Prop) (y2 : Int32) (y3 : Int32) (vWv : OV) (vLg : OV), Rc Q0 y2 y3 vWv vLg → CM X l yX6_takeWay wsX6_takeWay (rm_X6_takeWay n9) D G [.ref hWv, .ref hLg, .int y2, .int y3] [bWv G hWv qWv vWv, bLg G hLg qLg vLg] 0 0 (po_X6_takeWay G hWv qWv hLg qLg Q0)) (hK21 : ∀ (x2 x3 x4 : Int32) (vWv : OV) (vLg : OV), K21 x2 x3 x4 vWv vLg → GW C 0 0 [bWv G hWv qWv vWv, bLg G hLg qLg vLg] 21 [(0, .ref hWv), (1, .ref hLg), (2, .int x2), (3, .int x3), (4, .int x4)] []) {x2 x3 x4 : Int32} {vWv : OV} {vLg : OV} (hw : wp_X6_takeWay_21 Q Rc K21 x2 x3 x4 vWv vLg) : GW C 0 0 [bWv G hWv qWv vWv, bLg G hLg qLg vLg] 21 [(0, .ref hWv), (1, .ref hLg), (2, .int x2), (3, .int x3), (4, .int x4)] [] := by
  unfold wp_X6_takeWay_21 at hw
  refine gw_iload F dX6_takeWay_21 4 rfl ?_
  refine gw_aload_n F dX6_takeWay_23 1 rfl ?_
  refine gw_get F in_X6_takeWay_RX3 3 rfl rfl 9 (by decide) lk_X6_takeWay_50 rfl dX6_takeWay_24 ?_
  refine gw_icmp_ge (tgt := 109) F dX6_takeWay_27 (by decide) (fun c_4 => ?_) (fun c_4 => ?_)
  · have hw := hw.1 c_4
    refine gw_aload_n F dX6_takeWay_109 0 rfl ?_
    refine gw_get F in_X6_takeWay_RX6 0 rfl rfl 1 (by decide) lk_X6_takeWay_15 rfl dX6_takeWay_110 ?_
    refine gw_iload_n F dX6_takeWay_113 2 rfl ?_
    refine gw_iconst (v := (1 : Int32)) F dX6_takeWay_114 ic_iconst_1 ?_
    obtain ⟨h_6, hw⟩ := hw
    obtain ⟨v_5, e_v_5⟩ : ∃ z : OV, z = sA vWv 1 x2.toNatClampNeg (vp_nar .boolean (1 : Int32)) := ⟨_, rfl⟩
    have hw := hw v_5 e_v_5
    refine gw_zast (bs' := [bWv G hWv qWv v_5, bLg G hLg qLg vLg]) F 2 rfl h_6 dX6_takeWay_115 (by rw [e_v_5]; rfl) ?_
    refine gw_iconst (v := (0 : Int32)) F dX6_takeWay_116 ic_iconst_0 ?_
    exact gw_iret F E rfl rfl (Nat.le_of_ble_eq_true rfl) (Nat.le_of_ble_eq_true rfl) dX6_takeWay_117 ⟨_, _, _, rfl, rfl, hw⟩
  · have hw := hw.2 c_4
    refine gw_aload_n F dX6_takeWay_30 1 rfl ?_
    refine gw_iload_n F dX6_takeWay_31 2 rfl ?_
    refine gw_iload F dX6_takeWay_32 4 rfl ?_
    refine gw_callV F (ct_X3_isFit hw) 2 gX6_takeWay_X3_isFit rfl rfl rfl hd_X3_isFit ⟨by simp only [rm_X6_takeWay, rm_X3_isFit]; omega, by simp only [rm_X6_takeWay, rm_X3_isFit]; omega⟩ rfl rfl (Nat.le_of_ble_eq_true rfl) ⟨Nat.zero_le _, Nat.zero_le _⟩ [0, 1] (bsr := [bWv G hWv qWv vWv]) rfl rfl (q0 := 0) rfl rfl dX6_takeWay_34 ?_
    rintro _ _ ⟨r_7, rfl, rfl, hw⟩
    refine gw_sel [0, 1] (bs' := [bWv G hWv qWv vWv, bLg G hLg qLg vLg]) rfl rfl ?_
    change GW C 0 0 _ 37 _ [.int r_7]
    refine gw_if_ne (tgt := 43) F dX6_takeWay_37 (by decide) (fun c_8 => ?_) (fun c_8 => ?_)
    · have hw := hw.1 c_8
      refine gw_aload_n F dX6_takeWay_43 1 rfl ?_
      refine gw_iload F dX6_takeWay_44 4 rfl ?_
      refine gw_callV F (ct_X3_keyIn hw) 1 gX6_takeWay_X3_keyIn rfl rfl rfl hd_X3_keyIn ⟨by simp only [rm_X6_takeWay, rm_X3_keyIn]; omega, by simp only [rm_X6_takeWay, rm_X3_keyIn]; omega⟩ rfl rfl (Nat.le_of_ble_eq_true rfl) ⟨Nat.zero_le _, Nat.zero_le _⟩ [0, 1] (bsr := [bWv G hWv qWv vWv]) rfl rfl (q0 := 0) rfl rfl dX6_takeWay_46 ?_
      rintro _ _ ⟨r_9, rfl, rfl, hw⟩
      refine gw_sel [0, 1] (bs' := [bWv G hWv qWv vWv, bLg G hLg qLg vLg]) rfl rfl ?_
      change GW C 0 0 _ 49 _ [.int r_9]
      refine gw_istore (lv' := [(5, .int r_9), (0, .ref hWv), (1, .ref hLg), (2, .int x2), (3, .int x3), (4, .int x4)]) F dX6_takeWay_49 (by decide) rfl ?_
      refine gw_iload F dX6_takeWay_51 0 rfl ?_
      refine gw_iconst (v := (-1 : Int32)) F dX6_takeWay_53 ic_iconst_m1 ?_
      refine gw_icmp_ne (tgt := 61) F dX6_takeWay_54 (by decide) (fun c_10 => ?_) (fun c_10 => ?_)
      · have hw := hw.1 c_10
        refine gw_iconst (v := (0 : Int32)) F dX6_takeWay_61 ic_iconst_0 ?_
        refine gw_lv [1, 2, 3, 4, 5, 0] rfl ?_
        exact lb_X6_takeWay_62 F E hRc hK21 hw
      · have hw := hw.2 c_10
        refine gw_iconst (v := (1 : Int32)) F dX6_takeWay_57 ic_iconst_1 ?_
        refine gw_goto (tgt := 62) F dX6_takeWay_58 (by decide) ?_
        refine gw_lv [1, 2, 3, 4, 5, 0] rfl ?_
        exact lb_X6_takeWay_62 F E hRc hK21 hw
    · have hw := hw.2 c_8
      refine gw_goto (tgt := 103) F dX6_takeWay_40 (by decide) ?_
      exact lb_X6_takeWay_103 F E hRc hK21 hw
def wp_X6_takeWay_21_loop (Q : Int32 → OV → OV → Prop) (Rc : (Int32 → OV → OV → Prop) → Int32 → Int32 → OV → OV → Prop) : Nat → Int32 → Int32 → Int32 → OV → OV → Prop
  | 0, _, _, _, _, _ => False
  | n + 1, x2, x3, x4, vWv, vLg => wp_X6_takeWay_21 Q Rc (wp_X6_takeWay_21_loop Q Rc n) x2 x3 x4 vWv vLg
theorem lp_X6_takeWay_21 {X : List Cond} {l : Launch} {D : va_G} {G : Nat → ClassId} {C : Cx} {bs0 : List va_W} {n9 : Nat} {hWv : Nat} {qWv : Nat → Nat} {hLg : Nat} {qLg : Nat → Nat} {Q : Int32 → OV → OV → Prop} {Rc : (Int32 → OV → OV → Prop) → Int32 → Int32 → OV → OV → Prop} (F : GF C X cX6_takeWay wsX6_takeWay RX6 (rm_X6_takeWay (n9 + 1)) 7 (some .boolean) D G l) (E : GE C bs0 0 0 (po_X6_takeWay G hWv qWv hLg qLg Q)) (hRc : ∀ (Q0 : Int32 → OV → OV → Prop) (y2 : Int32) (y3 : Int32) (vWv : OV) (vLg : OV), Rc Q0 y2 y3 vWv vLg → CM X l yX6_takeWay wsX6_takeWay (rm_X6_takeWay n9) D G [.ref hWv, .ref hLg, .int y2, .int y3] [bWv G hWv qWv vWv, bLg G hLg qLg vLg] 0 0 (po_X6_takeWay G hWv qWv hLg qLg Q0)) : ∀ (n : Nat) (x2 x3 x4 : Int32) (vWv : OV) (vLg : OV), wp_X6_takeWay_21_loop Q Rc n x2 x3 x4 vWv vLg → GW C 0 0 [bWv G hWv qWv vWv, bLg G hLg qLg vLg] 21 [(0, .ref hWv), (1, .ref hLg), (2, .int x2), (3, .int x3), (4, .int x4)] [] := by
  intro n
  induction n with
  | zero => intro x2 x3 x4 vWv vLg hw; exact False.elim hw
  | succ n ih => intro x2 x3 x4 vWv vLg hw; exact lb_X6_takeWay_21 (K21 := wp_X6_takeWay_21_loop Q Rc n) F E hRc ih hw
def wp_X6_takeWay_0 (Q : Int32 → OV → OV → Prop) (Rc : (Int32 → OV → OV → Prop) → Int32 → Int32 → OV → OV → Prop) (x2 : Int32) (x3 : Int32) (vWv : OV) (vLg : OV) : Prop :=
  ((x2 < 0 → (wp_X6_takeWay_16 Q Rc vWv vLg)) ∧ (¬ (x2 < 0) → (((10 : Int32) ≤ x2 → (wp_X6_takeWay_16 Q Rc vWv vLg)) ∧ (¬ ((10 : Int32) ≤ x2) → ((x3 < (10 : Int32) → (∃ n_20 : Nat, wp_X6_takeWay_21_loop Q Rc n_20 x2 x3 (0 : Int32) vWv vLg)) ∧ (¬ (x3 < (10 : Int32)) → (wp_X6_takeWay_16 Q Rc vWv vLg)))))))
set_option maxRecDepth 20000 in
theorem lb_X6_takeWay_0 {X : List Cond} {l : Launch} {D : va_G} {G : Nat → ClassId} {C : Cx} {bs0 : List va_W} {n9 : Nat} {hWv : Nat} {qWv : Nat → Nat} {hLg : Nat} {qLg : Nat → Nat} {Q : Int32 → OV → OV → Prop} {Rc : (Int32 → OV → OV → Prop) → Int32 → Int32 → OV → OV → Prop} (F : GF C X cX6_takeWay wsX6_takeWay RX6 (rm_X6_takeWay (n9 + 1)) 7 (some .boolean) D G l) (E : GE C bs0 0 0 (po_X6_takeWay G hWv qWv hLg qLg Q)) (hRc : ∀ (Q0 : Int32 → OV → OV → Prop) (y2 : Int32) (y3 : Int32) (vWv : OV) (vLg : OV), Rc Q0 y2 y3 vWv vLg → CM X l yX6_takeWay wsX6_takeWay (rm_X6_takeWay n9) D G [.ref hWv, .ref hLg, .int y2, .int y3] [bWv G hWv qWv vWv, bLg G hLg qLg vLg] 0 0 (po_X6_takeWay G hWv qWv hLg qLg Q0)) {x2 : Int32} {x3 : Int32} {vWv : OV} {vLg : OV} (hw : wp_X6_takeWay_0 Q Rc x2 x3 vWv vLg) : GW C 0 0 [bWv G hWv qWv vWv, bLg G hLg qLg vLg] 0 [(0, .ref hWv), (1, .ref hLg), (2, .int x2), (3, .int x3)] [] := by
  unfold wp_X6_takeWay_0 at hw
  refine gw_iload_n F dX6_takeWay_0 2 rfl ?_
  refine gw_if_lt (tgt := 16) F dX6_takeWay_1 (by decide) (fun c_1 => ?_) (fun c_1 => ?_)
  · have hw := hw.1 c_1
    refine gw_lv [] rfl ?_
    exact lb_X6_takeWay_16 F E hRc hw
  · have hw := hw.2 c_1
    refine gw_iload_n F dX6_takeWay_4 2 rfl ?_
    refine gw_bipush (v := (10 : Int32)) F dX6_takeWay_5 ic_bipush_10 ?_
    refine gw_icmp_ge (tgt := 16) F dX6_takeWay_7 (by decide) (fun c_2 => ?_) (fun c_2 => ?_)
    · have hw := hw.1 c_2
      refine gw_lv [] rfl ?_
      exact lb_X6_takeWay_16 F E hRc hw
    · have hw := hw.2 c_2
      refine gw_iload_n F dX6_takeWay_10 3 rfl ?_
      refine gw_bipush (v := (10 : Int32)) F dX6_takeWay_11 ic_bipush_10 ?_
      refine gw_icmp_lt (tgt := 18) F dX6_takeWay_13 (by decide) (fun c_3 => ?_) (fun c_3 => ?_)
      · have hw := hw.1 c_3
        refine gw_iconst (v := (0 : Int32)) F dX6_takeWay_18 ic_iconst_0 ?_
        refine gw_istore (lv' := [(4, .int (0 : Int32)), (0, .ref hWv), (1, .ref hLg), (2, .int x2), (3, .int x3)]) F dX6_takeWay_19 (by decide) rfl ?_
        refine gw_lv [1, 2, 3, 4, 0] rfl ?_
        obtain ⟨n_20, hw⟩ := hw
        exact lp_X6_takeWay_21 F E hRc n_20 _ _ _ _ _ hw
      · have hw := hw.2 c_3
        refine gw_lv [] rfl ?_
        exact lb_X6_takeWay_16 F E hRc hw
def wp_X6_takeWay : Nat → (Int32 → OV → OV → Prop) → Int32 → Int32 → OV → OV → Prop
  | 0, _, _, _, _, _ => False
  | n + 1, Q, x2, x3, vWv, vLg => wp_X6_takeWay_0 Q (wp_X6_takeWay n) x2 x3 vWv vLg
theorem ct9_X6_takeWay {X : List Cond} {l : Launch} {D : va_G} {G : Nat → ClassId} {hWv : Nat} {qWv : Nat → Nat} {hLg : Nat} {qLg : Nat → Nat} : ∀ (n : Nat) (Q : Int32 → OV → OV → Prop) (x2 : Int32) (x3 : Int32) (vWv : OV) (vLg : OV) (hw : wp_X6_takeWay n Q x2 x3 vWv vLg), CM X l yX6_takeWay wsX6_takeWay (rm_X6_takeWay n) D G [.ref hWv, .ref hLg, .int x2, .int x3] [bWv G hWv qWv vWv, bLg G hLg qLg vLg] 0 0 (po_X6_takeWay G hWv qWv hLg qLg Q) := by
  intro n
  induction n with
  | zero => intro Q x2 x3 vWv vLg hw; exact False.elim hw
  | succ n ih => intro Q x2 x3 vWv vLg hw; exact CM.of pn_RX6 rfl rfl (Nat.le_of_ble_eq_true rfl) rfl (fun C F E => lb_X6_takeWay_0 F E (fun Q0 x2 x3 vWv vLg h => ih Q0 x2 x3 vWv vLg h) hw)
theorem ct_X6_takeWay {X : List Cond} {l : Launch} {D : va_G} {G : Nat → ClassId} {hWv : Nat} {qWv : Nat → Nat} {hLg : Nat} {qLg : Nat → Nat} {n : Nat} {Q : Int32 → OV → OV → Prop} {x2 : Int32} {x3 : Int32} {vWv : OV} {vLg : OV} (hw : wp_X6_takeWay n Q x2 x3 vWv vLg) : CM X l yX6_takeWay wsX6_takeWay (rm_X6_takeWay n) D G [.ref hWv, .ref hLg, .int x2, .int x3] [bWv G hWv qWv vWv, bLg G hLg qLg vLg] 0 0 (po_X6_takeWay G hWv qWv hLg qLg Q) := ct9_X6_takeWay n Q x2 x3 vWv vLg hw
-- X6_run
abbrev rm_X6_run : Room := { frames := 16, cells := 0, slots := 0, locals := 443 }
def po_X6_run (G : Nat → ClassId) (hWv : Nat) (qWv : Nat → Nat) (hLg : Nat) (qLg : Nat → Nat) (Q : Int32 → OV → OV → Prop) : Option Value → List va_W → Prop := fun o bs => ∃ (r : Int32) (vWv : OV) (vLg : OV), o = some (.int r) ∧ bs = [bWv G hWv qWv vWv, bLg G hLg qLg vLg] ∧ Q r vWv vLg
theorem hd_X6_run : yX6_run.cls = RX6 ∧ yX6_run.cls ≠ "java/lang/invoke/MethodHandle" ∧ yX6_run.cls ≠ "java/lang/invoke/VarHandle" ∧ (parseMethodDescriptor yX6_run.desc).map (fun d => d.parameters.length) = some 1 := by decide +kernel
theorem in_X6_run_RX6 : ∀ w ∈ wsX60, w ∈ wsX6_run := fun w h => List.mem_cons_of_mem _ (List.mem_append_left _ (List.mem_append_left _ (List.mem_append_right _ h)))
theorem lk_X6_run_19 : Cond.fieldLink RX6 19 "KeyWaves$Waves" "lastLevel" "I" ∈ wsX6_run := List.mem_cons_of_mem _ (List.mem_append_left _ (List.mem_append_left _ (List.mem_append_left _ (List.mem_append_left _ (List.mem_of_getElem? (i := 0) rfl)))))
theorem in_X6_run_RX3 : ∀ w ∈ wsX30, w ∈ wsX6_run := fun w h => List.mem_cons_of_mem _ (List.mem_append_left _ (List.mem_append_right _ h))
theorem lk_X6_run_27 : Cond.fieldLink RX6 27 "KeyWaves$Lodge" "keys" "I" ∈ wsX6_run := List.mem_cons_of_mem _ (List.mem_append_left _ (List.mem_append_left _ (List.mem_append_left _ (List.mem_append_left _ (List.mem_of_getElem? (i := 2) rfl)))))
theorem lk_X6_run_40 : Cond.fieldLink RX6 40 "KeyWaves$Lodge" "wavesSoFar" "I" ∈ wsX6_run := List.mem_cons_of_mem _ (List.mem_append_left _ (List.mem_append_left _ (List.mem_append_left _ (List.mem_append_left _ (List.mem_of_getElem? (i := 3) rfl)))))
theorem lk_X6_run_43 : Cond.fieldLink RX6 43 "KeyWaves$Lodge" "waysSoFar" "I" ∈ wsX6_run := List.mem_cons_of_mem _ (List.mem_append_left _ (List.mem_append_left _ (List.mem_append_left _ (List.mem_append_left _ (List.mem_of_getElem? (i := 4) rfl)))))
theorem lk_X6_run_15 : Cond.fieldLink RX6 15 "KeyWaves$Waves" "isGivenUp" "[Z" ∈ wsX6_run := List.mem_cons_of_mem _ (List.mem_append_left _ (List.mem_append_left _ (List.mem_append_left _ (List.mem_append_left _ (List.mem_of_getElem? (i := 1) rfl)))))
def wp_X6_run_69 (Q : Int32 → OV → OV → Prop) (K40 : Int32 → Int32 → OV → OV → Prop) (x2 x3 : Int32) (vWv : OV) (vLg : OV) : Prop :=
  (∀ i_9 : Int32, i_9 = x3 + (1 : Int32) → (K40 x2 i_9 vWv vLg))
set_option maxRecDepth 20000 in
theorem lb_X6_run_69 {X : List Cond} {l : Launch} {D : va_G} {G : Nat → ClassId} {C : Cx} {bs0 : List va_W} {hWv : Nat} {qWv : Nat → Nat} {hLg : Nat} {qLg : Nat → Nat} {Q : Int32 → OV → OV → Prop} {K40 : Int32 → Int32 → OV → OV → Prop} (F : GF C X cX6_run wsX6_run RX6 rm_X6_run 4 (some .int) D G l) (E : GE C bs0 0 0 (po_X6_run G hWv qWv hLg qLg Q)) (hK40 : ∀ (x2 x3 : Int32) (vWv : OV) (vLg : OV), K40 x2 x3 vWv vLg → GW C 0 0 [bWv G hWv qWv vWv, bLg G hLg qLg vLg] 40 [(0, .ref hWv), (1, .ref hLg), (2, .int x2), (3, .int x3)] []) {x2 x3 : Int32} {vWv : OV} {vLg : OV} (hw : wp_X6_run_69 Q K40 x2 x3 vWv vLg) : GW C 0 0 [bWv G hWv qWv vWv, bLg G hLg qLg vLg] 69 [(0, .ref hWv), (1, .ref hLg), (2, .int x2), (3, .int x3)] [] := by
  unfold wp_X6_run_69 at hw
  obtain ⟨i_9, e_i_9⟩ : ∃ z : Int32, z = x3 + (1 : Int32) := ⟨_, rfl⟩
  have hw := hw i_9 e_i_9
  refine gw_iinc (v := i_9) (lv' := [(3, .int i_9), (0, .ref hWv), (1, .ref hLg), (2, .int x2)]) F dX6_run_69 3 rfl (by rw [e_i_9]; rfl) (by decide) rfl ?_
  refine gw_goto (tgt := 40) F dX6_run_72 (by decide) ?_
  refine gw_lv [1, 2, 3, 0] rfl ?_
  exact hK40 _ _ _ _ hw
def wp_X6_run_40 (Q : Int32 → OV → OV → Prop) (K40 : Int32 → Int32 → OV → OV → Prop) (x2 x3 : Int32) (vWv : OV) (vLg : OV) : Prop :=
  (((vLg.2 8) ≤ x3 → (∀ v_5 : OV, v_5 = sI vLg 11 ((vLg.2 11) + (1 : Int32)) → (∀ v_6 : OV, v_6 = sI v_5 12 ((v_5.2 12) + x2) → (Q x2 vWv v_6)))) ∧ (¬ ((vLg.2 8) ≤ x3) → (wp_X6_levelAt (fun (r_7 : Int32) => ((¬ r_7 = 0 → (wp_X6_run_69 Q K40 x2 x3 vWv vLg)) ∧ (r_7 = 0 → (wp_X6_takeWay 12 (fun (r_10 : Int32) (v_11 : OV) (v_12 : OV) => ((r_10 = 0 → (wp_X6_run_69 Q K40 x2 x3 v_11 v_12)) ∧ (¬ (r_10 = 0) → (∀ i_14 : Int32, i_14 = x2 + (1 : Int32) → (wp_X6_run_69 Q K40 i_14 x3 v_11 v_12))))) x3 (0 : Int32) vWv vLg)))) x3 vWv)))
set_option maxRecDepth 20000 in
theorem lb_X6_run_40 {X : List Cond} {l : Launch} {D : va_G} {G : Nat → ClassId} {C : Cx} {bs0 : List va_W} {hWv : Nat} {qWv : Nat → Nat} {hLg : Nat} {qLg : Nat → Nat} {Q : Int32 → OV → OV → Prop} {K40 : Int32 → Int32 → OV → OV → Prop} (F : GF C X cX6_run wsX6_run RX6 rm_X6_run 4 (some .int) D G l) (E : GE C bs0 0 0 (po_X6_run G hWv qWv hLg qLg Q)) (hK40 : ∀ (x2 x3 : Int32) (vWv : OV) (vLg : OV), K40 x2 x3 vWv vLg → GW C 0 0 [bWv G hWv qWv vWv, bLg G hLg qLg vLg] 40 [(0, .ref hWv), (1, .ref hLg), (2, .int x2), (3, .int x3)] []) {x2 x3 : Int32} {vWv : OV} {vLg : OV} (hw : wp_X6_run_40 Q K40 x2 x3 vWv vLg) : GW C 0 0 [bWv G hWv qWv vWv, bLg G hLg qLg vLg] 40 [(0, .ref hWv), (1, .ref hLg), (2, .int x2), (3, .int x3)] [] := by
  unfold wp_X6_run_40 at hw
  refine gw_iload_n F dX6_run_40 3 rfl ?_
  refine gw_aload_n F dX6_run_41 1 rfl ?_
  refine gw_get F in_X6_run_RX3 3 rfl rfl 8 (by decide) lk_X6_run_27 rfl dX6_run_42 ?_
  refine gw_icmp_ge (tgt := 75) F dX6_run_45 (by decide) (fun c_4 => ?_) (fun c_4 => ?_)
  · have hw := hw.1 c_4
    refine gw_aload_n F dX6_run_75 1 rfl ?_
    refine gw_dup F dX6_run_76 rfl ?_
    refine gw_get F in_X6_run_RX3 3 rfl rfl 11 (by decide) lk_X6_run_40 rfl dX6_run_77 ?_
    refine gw_iconst (v := (1 : Int32)) F dX6_run_80 ic_iconst_1 ?_
    refine gw_iadd F dX6_run_81 ?_
    obtain ⟨v_5, e_v_5⟩ : ∃ z : OV, z = sI vLg 11 ((vLg.2 11) + (1 : Int32)) := ⟨_, rfl⟩
    have hw := hw v_5 e_v_5
    refine gw_put (bs' := [bWv G hWv qWv vWv, bLg G hLg qLg v_5]) F in_X6_run_RX3 tyX3 tyX3_ok nmX3 3 rfl rfl 11 (by decide) lk_X6_run_40 rfl rfl rfl (Nat.le_of_ble_eq_true rfl) dX6_run_82 (by rw [e_v_5]; rfl) ?_
    refine gw_aload_n F dX6_run_85 1 rfl ?_
    refine gw_dup F dX6_run_86 rfl ?_
    refine gw_get F in_X6_run_RX3 3 rfl rfl 12 (by decide) lk_X6_run_43 rfl dX6_run_87 ?_
    refine gw_iload_n F dX6_run_90 2 rfl ?_
    refine gw_iadd F dX6_run_91 ?_
    obtain ⟨v_6, e_v_6⟩ : ∃ z : OV, z = sI v_5 12 ((v_5.2 12) + x2) := ⟨_, rfl⟩
    have hw := hw v_6 e_v_6
    refine gw_put (bs' := [bWv G hWv qWv vWv, bLg G hLg qLg v_6]) F in_X6_run_RX3 tyX3 tyX3_ok nmX3 3 rfl rfl 12 (by decide) lk_X6_run_43 rfl rfl rfl (Nat.le_of_ble_eq_true rfl) dX6_run_92 (by rw [e_v_6]; rfl) ?_
    refine gw_iload_n F dX6_run_95 2 rfl ?_
    exact gw_iret F E rfl rfl (Nat.le_of_ble_eq_true rfl) (Nat.le_of_ble_eq_true rfl) dX6_run_96 ⟨_, _, _, rfl, rfl, hw⟩
  · have hw := hw.2 c_4
    refine gw_aload_n F dX6_run_48 0 rfl ?_
    refine gw_iload_n F dX6_run_49 3 rfl ?_
    refine gw_callV F (ct_X6_levelAt hw) 1 gX6_run_X6_levelAt rfl rfl rfl hd_X6_levelAt ⟨(Nat.le_of_ble_eq_true rfl), (Nat.le_of_ble_eq_true rfl)⟩ rfl rfl (Nat.le_of_ble_eq_true rfl) ⟨Nat.zero_le _, Nat.zero_le _⟩ [1, 0] (bsr := [bLg G hLg qLg vLg]) rfl rfl (q0 := 0) rfl rfl dX6_run_50 ?_
    rintro _ _ ⟨r_7, rfl, rfl, hw⟩
    refine gw_sel [1, 0] (bs' := [bWv G hWv qWv vWv, bLg G hLg qLg vLg]) rfl rfl ?_
    change GW C 0 0 _ 53 _ [.int r_7]
    refine gw_if_ne (tgt := 69) F dX6_run_53 (by decide) (fun c_8 => ?_) (fun c_8 => ?_)
    · have hw := hw.1 c_8
      exact lb_X6_run_69 F E hK40 hw
    · have hw := hw.2 c_8
      refine gw_aload_n F dX6_run_56 0 rfl ?_
      refine gw_aload_n F dX6_run_57 1 rfl ?_
      refine gw_iload_n F dX6_run_58 3 rfl ?_
      refine gw_iconst (v := (0 : Int32)) F dX6_run_59 ic_iconst_0 ?_
      refine gw_callS F (ct_X6_takeWay hw) 4 gX6_run_X6_takeWay rfl rfl rfl hd_X6_takeWay ⟨(Nat.le_of_ble_eq_true rfl), (Nat.le_of_ble_eq_true rfl)⟩ rfl rfl (Nat.le_of_ble_eq_true rfl) ⟨Nat.zero_le _, Nat.zero_le _⟩ [0, 1] (bsr := []) rfl rfl dX6_run_60 ?_
      rintro _ _ ⟨r_10, v_11, v_12, rfl, rfl, hw⟩
      refine gw_sel [0, 1] (bs' := [bWv G hWv qWv v_11, bLg G hLg qLg v_12]) rfl rfl ?_
      change GW C 0 0 _ 63 _ [.int r_10]
      refine gw_if_eq (tgt := 69) F dX6_run_63 (by decide) (fun c_13 => ?_) (fun c_13 => ?_)
      · have hw := hw.1 c_13
        exact lb_X6_run_69 F E hK40 hw
      · have hw := hw.2 c_13
        obtain ⟨i_14, e_i_14⟩ : ∃ z : Int32, z = x2 + (1 : Int32) := ⟨_, rfl⟩
        have hw := hw i_14 e_i_14
        refine gw_iinc (v := i_14) (lv' := [(2, .int i_14), (0, .ref hWv), (1, .ref hLg), (3, .int x3)]) F dX6_run_66 2 rfl (by rw [e_i_14]; rfl) (by decide) rfl ?_
        refine gw_lv [1, 2, 0, 3] rfl ?_
        exact lb_X6_run_69 F E hK40 hw
def wp_X6_run_40_loop (Q : Int32 → OV → OV → Prop) : Nat → Int32 → Int32 → OV → OV → Prop
  | 0, _, _, _, _ => False
  | n + 1, x2, x3, vWv, vLg => wp_X6_run_40 Q (wp_X6_run_40_loop Q n) x2 x3 vWv vLg
theorem lp_X6_run_40 {X : List Cond} {l : Launch} {D : va_G} {G : Nat → ClassId} {C : Cx} {bs0 : List va_W} {hWv : Nat} {qWv : Nat → Nat} {hLg : Nat} {qLg : Nat → Nat} {Q : Int32 → OV → OV → Prop} (F : GF C X cX6_run wsX6_run RX6 rm_X6_run 4 (some .int) D G l) (E : GE C bs0 0 0 (po_X6_run G hWv qWv hLg qLg Q)) : ∀ (n : Nat) (x2 x3 : Int32) (vWv : OV) (vLg : OV), wp_X6_run_40_loop Q n x2 x3 vWv vLg → GW C 0 0 [bWv G hWv qWv vWv, bLg G hLg qLg vLg] 40 [(0, .ref hWv), (1, .ref hLg), (2, .int x2), (3, .int x3)] [] := by
  intro n
  induction n with
  | zero => intro x2 x3 vWv vLg hw; exact False.elim hw
  | succ n ih => intro x2 x3 vWv vLg hw; exact lb_X6_run_40 (K40 := wp_X6_run_40_loop Q n) F E ih hw
def wp_X6_run_17 (Q : Int32 → OV → OV → Prop) (K17 : Int32 → OV → OV → Prop) (x2 : Int32) (vWv : OV) (vLg : OV) : Prop :=
  (((10 : Int32) ≤ x2 → (∃ n_15 : Nat, wp_X6_run_40_loop Q n_15 (0 : Int32) (0 : Int32) vWv vLg)) ∧ (¬ ((10 : Int32) ≤ x2) → (vp_in x2 10 ∧ ∀ v_16 : OV, v_16 = sA vWv 1 x2.toNatClampNeg (vp_nar .boolean (0 : Int32)) → (∀ i_18 : Int32, i_18 = x2 + (1 : Int32) → (K17 i_18 v_16 vLg)))))
set_option maxRecDepth 20000 in
theorem lb_X6_run_17 {X : List Cond} {l : Launch} {D : va_G} {G : Nat → ClassId} {C : Cx} {bs0 : List va_W} {hWv : Nat} {qWv : Nat → Nat} {hLg : Nat} {qLg : Nat → Nat} {Q : Int32 → OV → OV → Prop} {K17 : Int32 → OV → OV → Prop} (F : GF C X cX6_run wsX6_run RX6 rm_X6_run 4 (some .int) D G l) (E : GE C bs0 0 0 (po_X6_run G hWv qWv hLg qLg Q)) (hK17 : ∀ (x2 : Int32) (vWv : OV) (vLg : OV), K17 x2 vWv vLg → GW C 0 0 [bWv G hWv qWv vWv, bLg G hLg qLg vLg] 17 [(0, .ref hWv), (1, .ref hLg), (2, .int x2)] []) {x2 : Int32} {vWv : OV} {vLg : OV} (hw : wp_X6_run_17 Q K17 x2 vWv vLg) : GW C 0 0 [bWv G hWv qWv vWv, bLg G hLg qLg vLg] 17 [(0, .ref hWv), (1, .ref hLg), (2, .int x2)] [] := by
  unfold wp_X6_run_17 at hw
  refine gw_iload_n F dX6_run_17 2 rfl ?_
  refine gw_bipush (v := (10 : Int32)) F dX6_run_18 ic_bipush_10 ?_
  refine gw_icmp_ge (tgt := 36) F dX6_run_20 (by decide) (fun c_3 => ?_) (fun c_3 => ?_)
  · have hw := hw.1 c_3
    refine gw_iconst (v := (0 : Int32)) F dX6_run_36 ic_iconst_0 ?_
    refine gw_istore_n (lv' := [(2, .int (0 : Int32)), (0, .ref hWv), (1, .ref hLg)]) F dX6_run_37 (by decide) rfl ?_
    refine gw_iconst (v := (0 : Int32)) F dX6_run_38 ic_iconst_0 ?_
    refine gw_istore_n (lv' := [(3, .int (0 : Int32)), (2, .int (0 : Int32)), (0, .ref hWv), (1, .ref hLg)]) F dX6_run_39 (by decide) rfl ?_
    refine gw_lv [2, 3, 1, 0] rfl ?_
    obtain ⟨n_15, hw⟩ := hw
    exact lp_X6_run_40 F E n_15 _ _ _ _ hw
  · have hw := hw.2 c_3
    refine gw_aload_n F dX6_run_23 0 rfl ?_
    refine gw_get F in_X6_run_RX6 0 rfl rfl 1 (by decide) lk_X6_run_15 rfl dX6_run_24 ?_
    refine gw_iload_n F dX6_run_27 2 rfl ?_
    refine gw_iconst (v := (0 : Int32)) F dX6_run_28 ic_iconst_0 ?_
    obtain ⟨h_17, hw⟩ := hw
    obtain ⟨v_16, e_v_16⟩ : ∃ z : OV, z = sA vWv 1 x2.toNatClampNeg (vp_nar .boolean (0 : Int32)) := ⟨_, rfl⟩
    have hw := hw v_16 e_v_16
    refine gw_zast (bs' := [bWv G hWv qWv v_16, bLg G hLg qLg vLg]) F 2 rfl h_17 dX6_run_29 (by rw [e_v_16]; rfl) ?_
    obtain ⟨i_18, e_i_18⟩ : ∃ z : Int32, z = x2 + (1 : Int32) := ⟨_, rfl⟩
    have hw := hw i_18 e_i_18
    refine gw_iinc (v := i_18) (lv' := [(2, .int i_18), (0, .ref hWv), (1, .ref hLg)]) F dX6_run_30 2 rfl (by rw [e_i_18]; rfl) (by decide) rfl ?_
    refine gw_goto (tgt := 17) F dX6_run_33 (by decide) ?_
    refine gw_lv [1, 2, 0] rfl ?_
    exact hK17 _ _ _ hw
def wp_X6_run_17_loop (Q : Int32 → OV → OV → Prop) : Nat → Int32 → OV → OV → Prop
  | 0, _, _, _ => False
  | n + 1, x2, vWv, vLg => wp_X6_run_17 Q (wp_X6_run_17_loop Q n) x2 vWv vLg
theorem lp_X6_run_17 {X : List Cond} {l : Launch} {D : va_G} {G : Nat → ClassId} {C : Cx} {bs0 : List va_W} {hWv : Nat} {qWv : Nat → Nat} {hLg : Nat} {qLg : Nat → Nat} {Q : Int32 → OV → OV → Prop} (F : GF C X cX6_run wsX6_run RX6 rm_X6_run 4 (some .int) D G l) (E : GE C bs0 0 0 (po_X6_run G hWv qWv hLg qLg Q)) : ∀ (n : Nat) (x2 : Int32) (vWv : OV) (vLg : OV), wp_X6_run_17_loop Q n x2 vWv vLg → GW C 0 0 [bWv G hWv qWv vWv, bLg G hLg qLg vLg] 17 [(0, .ref hWv), (1, .ref hLg), (2, .int x2)] [] := by
  intro n
  induction n with
  | zero => intro x2 vWv vLg hw; exact False.elim hw
  | succ n ih => intro x2 vWv vLg hw; exact lb_X6_run_17 (K17 := wp_X6_run_17_loop Q n) F E ih hw
def wp_X6_run_0 (Q : Int32 → OV → OV → Prop) (vWv : OV) (vLg : OV) : Prop :=
  (wp_X6_findLevels (fun (v_1 : OV) => ((¬ (v_1.2 2) = (-1 : Int32) → (∃ n_19 : Nat, wp_X6_run_17_loop Q n_19 (0 : Int32) v_1 vLg)) ∧ ((v_1.2 2) = (-1 : Int32) → (Q (0 : Int32) v_1 vLg)))) vWv vLg)
set_option maxRecDepth 20000 in
theorem lb_X6_run_0 {X : List Cond} {l : Launch} {D : va_G} {G : Nat → ClassId} {C : Cx} {bs0 : List va_W} {hWv : Nat} {qWv : Nat → Nat} {hLg : Nat} {qLg : Nat → Nat} {Q : Int32 → OV → OV → Prop} (F : GF C X cX6_run wsX6_run RX6 rm_X6_run 4 (some .int) D G l) (E : GE C bs0 0 0 (po_X6_run G hWv qWv hLg qLg Q)) {vWv : OV} {vLg : OV} (hw : wp_X6_run_0 Q vWv vLg) : GW C 0 0 [bWv G hWv qWv vWv, bLg G hLg qLg vLg] 0 [(0, .ref hWv), (1, .ref hLg)] [] := by
  unfold wp_X6_run_0 at hw
  refine gw_aload_n F dX6_run_0 0 rfl ?_
  refine gw_aload_n F dX6_run_1 1 rfl ?_
  refine gw_callV F (ct_X6_findLevels hw) 1 gX6_run_X6_findLevels rfl rfl rfl hd_X6_findLevels ⟨(Nat.le_of_ble_eq_true rfl), (Nat.le_of_ble_eq_true rfl)⟩ rfl rfl (Nat.le_of_ble_eq_true rfl) ⟨Nat.zero_le _, Nat.zero_le _⟩ [0, 1] (bsr := []) rfl rfl (q0 := 0) rfl rfl dX6_run_2 ?_
  rintro _ _ ⟨v_1, rfl, rfl, hw⟩
  refine gw_sel [0, 1] (bs' := [bWv G hWv qWv v_1, bLg G hLg qLg vLg]) rfl rfl ?_
  change GW C 0 0 _ 5 _ []
  refine gw_aload_n F dX6_run_5 0 rfl ?_
  refine gw_get F in_X6_run_RX6 0 rfl rfl 2 (by decide) lk_X6_run_19 rfl dX6_run_6 ?_
  refine gw_iconst (v := (-1 : Int32)) F dX6_run_9 ic_iconst_m1 ?_
  refine gw_icmp_ne (tgt := 15) F dX6_run_10 (by decide) (fun c_2 => ?_) (fun c_2 => ?_)
  · have hw := hw.1 c_2
    refine gw_iconst (v := (0 : Int32)) F dX6_run_15 ic_iconst_0 ?_
    refine gw_istore_n (lv' := [(2, .int (0 : Int32)), (0, .ref hWv), (1, .ref hLg)]) F dX6_run_16 (by decide) rfl ?_
    refine gw_lv [1, 2, 0] rfl ?_
    obtain ⟨n_19, hw⟩ := hw
    exact lp_X6_run_17 F E n_19 _ _ _ hw
  · have hw := hw.2 c_2
    refine gw_iconst (v := (0 : Int32)) F dX6_run_13 ic_iconst_0 ?_
    exact gw_iret F E rfl rfl (Nat.le_of_ble_eq_true rfl) (Nat.le_of_ble_eq_true rfl) dX6_run_14 ⟨_, _, _, rfl, rfl, hw⟩
def wp_X6_run (Q : Int32 → OV → OV → Prop) (vWv : OV) (vLg : OV) : Prop := wp_X6_run_0 Q vWv vLg
theorem ct_X6_run {X : List Cond} {l : Launch} {D : va_G} {G : Nat → ClassId} {hWv : Nat} {qWv : Nat → Nat} {hLg : Nat} {qLg : Nat → Nat} {Q : Int32 → OV → OV → Prop} {vWv : OV} {vLg : OV} (hw : wp_X6_run Q vWv vLg) : CM X l yX6_run wsX6_run rm_X6_run D G [.ref hWv, .ref hLg] [bWv G hWv qWv vWv, bLg G hLg qLg vLg] 0 0 (po_X6_run G hWv qWv hLg qLg Q) :=
  CM.of pn_RX6 rfl rfl (Nat.le_of_ble_eq_true rfl) rfl (fun C F E => lb_X6_run_0 F E hw)
-- X6_runToEnd
abbrev rm_X6_runToEnd : Room := { frames := 17, cells := 0, slots := 0, locals := 466 }
def po_X6_runToEnd (G : Nat → ClassId) (hWv : Nat) (qWv : Nat → Nat) (hLg : Nat) (qLg : Nat → Nat) (Q : Int32 → OV → OV → Prop) : Option Value → List va_W → Prop := fun o bs => ∃ (r : Int32) (vWv : OV) (vLg : OV), o = some (.int r) ∧ bs = [bWv G hWv qWv vWv, bLg G hLg qLg vLg] ∧ Q r vWv vLg
theorem hd_X6_runToEnd : yX6_runToEnd.cls = RX6 ∧ yX6_runToEnd.cls ≠ "java/lang/invoke/MethodHandle" ∧ yX6_runToEnd.cls ≠ "java/lang/invoke/VarHandle" ∧ (parseMethodDescriptor yX6_runToEnd.desc).map (fun d => d.parameters.length) = some 1 := by decide +kernel
def wp_X6_runToEnd_22 (Q : Int32 → OV → OV → Prop) (x2 : Int32) (vWv : OV) (vLg : OV) : Prop :=
  (Q x2 vWv vLg)
set_option maxRecDepth 20000 in
theorem lb_X6_runToEnd_22 {X : List Cond} {l : Launch} {D : va_G} {G : Nat → ClassId} {C : Cx} {bs0 : List va_W} {hWv : Nat} {qWv : Nat → Nat} {hLg : Nat} {qLg : Nat → Nat} {Q : Int32 → OV → OV → Prop} (F : GF C X cX6_runToEnd wsX6_runToEnd RX6 rm_X6_runToEnd 3 (some .int) D G l) (E : GE C bs0 0 0 (po_X6_runToEnd G hWv qWv hLg qLg Q)) {x2 : Int32} {vWv : OV} {vLg : OV} (hw : wp_X6_runToEnd_22 Q x2 vWv vLg) : GW C 0 0 [bWv G hWv qWv vWv, bLg G hLg qLg vLg] 22 [(2, .int x2)] [] := by
  unfold wp_X6_runToEnd_22 at hw
  refine gw_iload_n F dX6_runToEnd_22 0 rfl ?_
  exact gw_iret F E rfl rfl (Nat.le_of_ble_eq_true rfl) (Nat.le_of_ble_eq_true rfl) dX6_runToEnd_23 ⟨_, _, _, rfl, rfl, hw⟩
def wp_X6_runToEnd_2 (Q : Int32 → OV → OV → Prop) (K2 : Int32 → OV → OV → Prop) (x2 : Int32) (vWv : OV) (vLg : OV) : Prop :=
  (((10 : Int32) ≤ x2 → (wp_X6_runToEnd_22 Q x2 vWv vLg)) ∧ (¬ ((10 : Int32) ≤ x2) → (wp_X6_run (fun (r_2 : Int32) (v_3 : OV) (v_4 : OV) => ((r_2 ≤ 0 → (wp_X6_runToEnd_22 Q x2 v_3 v_4)) ∧ (¬ (r_2 ≤ 0) → (∀ i_6 : Int32, i_6 = x2 + (1 : Int32) → (K2 i_6 v_3 v_4))))) vWv vLg)))
set_option maxRecDepth 20000 in
theorem lb_X6_runToEnd_2 {X : List Cond} {l : Launch} {D : va_G} {G : Nat → ClassId} {C : Cx} {bs0 : List va_W} {hWv : Nat} {qWv : Nat → Nat} {hLg : Nat} {qLg : Nat → Nat} {Q : Int32 → OV → OV → Prop} {K2 : Int32 → OV → OV → Prop} (F : GF C X cX6_runToEnd wsX6_runToEnd RX6 rm_X6_runToEnd 3 (some .int) D G l) (E : GE C bs0 0 0 (po_X6_runToEnd G hWv qWv hLg qLg Q)) (hK2 : ∀ (x2 : Int32) (vWv : OV) (vLg : OV), K2 x2 vWv vLg → GW C 0 0 [bWv G hWv qWv vWv, bLg G hLg qLg vLg] 2 [(0, .ref hWv), (1, .ref hLg), (2, .int x2)] []) {x2 : Int32} {vWv : OV} {vLg : OV} (hw : wp_X6_runToEnd_2 Q K2 x2 vWv vLg) : GW C 0 0 [bWv G hWv qWv vWv, bLg G hLg qLg vLg] 2 [(0, .ref hWv), (1, .ref hLg), (2, .int x2)] [] := by
  unfold wp_X6_runToEnd_2 at hw
  refine gw_iload_n F dX6_runToEnd_2 2 rfl ?_
  refine gw_bipush (v := (10 : Int32)) F dX6_runToEnd_3 ic_bipush_10 ?_
  refine gw_icmp_ge (tgt := 22) F dX6_runToEnd_5 (by decide) (fun c_1 => ?_) (fun c_1 => ?_)
  · have hw := hw.1 c_1
    refine gw_lv [2] rfl ?_
    exact lb_X6_runToEnd_22 F E hw
  · have hw := hw.2 c_1
    refine gw_aload_n F dX6_runToEnd_8 0 rfl ?_
    refine gw_aload_n F dX6_runToEnd_9 1 rfl ?_
    refine gw_callV F (ct_X6_run hw) 1 gX6_runToEnd_X6_run rfl rfl rfl hd_X6_run ⟨(Nat.le_of_ble_eq_true rfl), (Nat.le_of_ble_eq_true rfl)⟩ rfl rfl (Nat.le_of_ble_eq_true rfl) ⟨Nat.zero_le _, Nat.zero_le _⟩ [0, 1] (bsr := []) rfl rfl (q0 := 0) rfl rfl dX6_runToEnd_10 ?_
    rintro _ _ ⟨r_2, v_3, v_4, rfl, rfl, hw⟩
    refine gw_sel [0, 1] (bs' := [bWv G hWv qWv v_3, bLg G hLg qLg v_4]) rfl rfl ?_
    change GW C 0 0 _ 13 _ [.int r_2]
    refine gw_if_le (tgt := 22) F dX6_runToEnd_13 (by decide) (fun c_5 => ?_) (fun c_5 => ?_)
    · have hw := hw.1 c_5
      refine gw_lv [2] rfl ?_
      exact lb_X6_runToEnd_22 F E hw
    · have hw := hw.2 c_5
      obtain ⟨i_6, e_i_6⟩ : ∃ z : Int32, z = x2 + (1 : Int32) := ⟨_, rfl⟩
      have hw := hw i_6 e_i_6
      refine gw_iinc (v := i_6) (lv' := [(2, .int i_6), (0, .ref hWv), (1, .ref hLg)]) F dX6_runToEnd_16 2 rfl (by rw [e_i_6]; rfl) (by decide) rfl ?_
      refine gw_goto (tgt := 2) F dX6_runToEnd_19 (by decide) ?_
      refine gw_lv [1, 2, 0] rfl ?_
      exact hK2 _ _ _ hw
def wp_X6_runToEnd_2_loop (Q : Int32 → OV → OV → Prop) : Nat → Int32 → OV → OV → Prop
  | 0, _, _, _ => False
  | n + 1, x2, vWv, vLg => wp_X6_runToEnd_2 Q (wp_X6_runToEnd_2_loop Q n) x2 vWv vLg
theorem lp_X6_runToEnd_2 {X : List Cond} {l : Launch} {D : va_G} {G : Nat → ClassId} {C : Cx} {bs0 : List va_W} {hWv : Nat} {qWv : Nat → Nat} {hLg : Nat} {qLg : Nat → Nat} {Q : Int32 → OV → OV → Prop} (F : GF C X cX6_runToEnd wsX6_runToEnd RX6 rm_X6_runToEnd 3 (some .int) D G l) (E : GE C bs0 0 0 (po_X6_runToEnd G hWv qWv hLg qLg Q)) : ∀ (n : Nat) (x2 : Int32) (vWv : OV) (vLg : OV), wp_X6_runToEnd_2_loop Q n x2 vWv vLg → GW C 0 0 [bWv G hWv qWv vWv, bLg G hLg qLg vLg] 2 [(0, .ref hWv), (1, .ref hLg), (2, .int x2)] [] := by
  intro n
  induction n with
  | zero => intro x2 vWv vLg hw; exact False.elim hw
  | succ n ih => intro x2 vWv vLg hw; exact lb_X6_runToEnd_2 (K2 := wp_X6_runToEnd_2_loop Q n) F E ih hw
def wp_X6_runToEnd_0 (Q : Int32 → OV → OV → Prop) (vWv : OV) (vLg : OV) : Prop :=
  (∃ n_7 : Nat, wp_X6_runToEnd_2_loop Q n_7 (0 : Int32) vWv vLg)
set_option maxRecDepth 20000 in
theorem lb_X6_runToEnd_0 {X : List Cond} {l : Launch} {D : va_G} {G : Nat → ClassId} {C : Cx} {bs0 : List va_W} {hWv : Nat} {qWv : Nat → Nat} {hLg : Nat} {qLg : Nat → Nat} {Q : Int32 → OV → OV → Prop} (F : GF C X cX6_runToEnd wsX6_runToEnd RX6 rm_X6_runToEnd 3 (some .int) D G l) (E : GE C bs0 0 0 (po_X6_runToEnd G hWv qWv hLg qLg Q)) {vWv : OV} {vLg : OV} (hw : wp_X6_runToEnd_0 Q vWv vLg) : GW C 0 0 [bWv G hWv qWv vWv, bLg G hLg qLg vLg] 0 [(0, .ref hWv), (1, .ref hLg)] [] := by
  unfold wp_X6_runToEnd_0 at hw
  refine gw_iconst (v := (0 : Int32)) F dX6_runToEnd_0 ic_iconst_0 ?_
  refine gw_istore_n (lv' := [(2, .int (0 : Int32)), (0, .ref hWv), (1, .ref hLg)]) F dX6_runToEnd_1 (by decide) rfl ?_
  refine gw_lv [1, 2, 0] rfl ?_
  obtain ⟨n_7, hw⟩ := hw
  exact lp_X6_runToEnd_2 F E n_7 _ _ _ hw
def wp_X6_runToEnd (Q : Int32 → OV → OV → Prop) (vWv : OV) (vLg : OV) : Prop := wp_X6_runToEnd_0 Q vWv vLg
theorem ct_X6_runToEnd {X : List Cond} {l : Launch} {D : va_G} {G : Nat → ClassId} {hWv : Nat} {qWv : Nat → Nat} {hLg : Nat} {qLg : Nat → Nat} {Q : Int32 → OV → OV → Prop} {vWv : OV} {vLg : OV} (hw : wp_X6_runToEnd Q vWv vLg) : CM X l yX6_runToEnd wsX6_runToEnd rm_X6_runToEnd D G [.ref hWv, .ref hLg] [bWv G hWv qWv vWv, bLg G hLg qLg vLg] 0 0 (po_X6_runToEnd G hWv qWv hLg qLg Q) :=
  CM.of pn_RX6 rfl rfl (Nat.le_of_ble_eq_true rfl) rfl (fun C F E => lb_X6_runToEnd_0 F E hw)
-- X6_findLevel
abbrev rm_X6_findLevel : Room := { frames := 5, cells := 0, slots := 0, locals := 153 }
def po_X6_findLevel (G : Nat → ClassId) (hWv : Nat) (qWv : Nat → Nat) (hLg : Nat) (qLg : Nat → Nat) (vLg : OV) (Q : Int32 → OV → Prop) : Option Value → List va_W → Prop := fun o bs => ∃ (r : Int32) (vWv : OV), o = some (.int r) ∧ bs = [bWv G hWv qWv vWv, bLg G hLg qLg vLg] ∧ Q r vWv
theorem hd_X6_findLevel : yX6_findLevel.cls = RX6 ∧ yX6_findLevel.cls ≠ "java/lang/invoke/MethodHandle" ∧ yX6_findLevel.cls ≠ "java/lang/invoke/VarHandle" ∧ (parseMethodDescriptor yX6_findLevel.desc).map (fun d => d.parameters.length) = some 2 := by decide +kernel
def wp_X6_findLevel_0 (Q : Int32 → OV → Prop) (vLg : OV) (x2 : Int32) (vWv : OV) : Prop :=
  (wp_X6_findLevels (fun (v_1 : OV) => (wp_X6_levelAt (fun (r_2 : Int32) => (Q r_2 v_1)) x2 v_1)) vWv vLg)
set_option maxRecDepth 20000 in
theorem lb_X6_findLevel_0 {X : List Cond} {l : Launch} {D : va_G} {G : Nat → ClassId} {C : Cx} {bs0 : List va_W} {hWv : Nat} {qWv : Nat → Nat} {hLg : Nat} {qLg : Nat → Nat} {Q : Int32 → OV → Prop} {vLg : OV} (F : GF C X cX6_findLevel wsX6_findLevel RX6 rm_X6_findLevel 3 (some .int) D G l) (E : GE C bs0 0 0 (po_X6_findLevel G hWv qWv hLg qLg vLg Q)) {x2 : Int32} {vWv : OV} (hw : wp_X6_findLevel_0 Q vLg x2 vWv) : GW C 0 0 [bWv G hWv qWv vWv, bLg G hLg qLg vLg] 0 [(0, .ref hWv), (1, .ref hLg), (2, .int x2)] [] := by
  unfold wp_X6_findLevel_0 at hw
  refine gw_aload_n F dX6_findLevel_0 0 rfl ?_
  refine gw_aload_n F dX6_findLevel_1 1 rfl ?_
  refine gw_callV F (ct_X6_findLevels hw) 1 gX6_findLevel_X6_findLevels rfl rfl rfl hd_X6_findLevels ⟨(Nat.le_of_ble_eq_true rfl), (Nat.le_of_ble_eq_true rfl)⟩ rfl rfl (Nat.le_of_ble_eq_true rfl) ⟨Nat.zero_le _, Nat.zero_le _⟩ [0, 1] (bsr := []) rfl rfl (q0 := 0) rfl rfl dX6_findLevel_2 ?_
  rintro _ _ ⟨v_1, rfl, rfl, hw⟩
  refine gw_sel [0, 1] (bs' := [bWv G hWv qWv v_1, bLg G hLg qLg vLg]) rfl rfl ?_
  change GW C 0 0 _ 5 _ []
  refine gw_aload_n F dX6_findLevel_5 0 rfl ?_
  refine gw_iload_n F dX6_findLevel_6 2 rfl ?_
  refine gw_callV F (ct_X6_levelAt hw) 1 gX6_findLevel_X6_levelAt rfl rfl rfl hd_X6_levelAt ⟨(Nat.le_of_ble_eq_true rfl), (Nat.le_of_ble_eq_true rfl)⟩ rfl rfl (Nat.le_of_ble_eq_true rfl) ⟨Nat.zero_le _, Nat.zero_le _⟩ [1, 0] (bsr := [bLg G hLg qLg vLg]) rfl rfl (q0 := 0) rfl rfl dX6_findLevel_7 ?_
  rintro _ _ ⟨r_2, rfl, rfl, hw⟩
  refine gw_sel [1, 0] (bs' := [bWv G hWv qWv v_1, bLg G hLg qLg vLg]) rfl rfl ?_
  change GW C 0 0 _ 10 _ [.int r_2]
  exact gw_iret F E rfl rfl (Nat.le_of_ble_eq_true rfl) (Nat.le_of_ble_eq_true rfl) dX6_findLevel_10 ⟨_, _, rfl, rfl, hw⟩
def wp_X6_findLevel (Q : Int32 → OV → Prop) (x2 : Int32) (vWv : OV) (vLg : OV) : Prop := wp_X6_findLevel_0 Q vLg x2 vWv
theorem ct_X6_findLevel {X : List Cond} {l : Launch} {D : va_G} {G : Nat → ClassId} {hWv : Nat} {qWv : Nat → Nat} {hLg : Nat} {qLg : Nat → Nat} {Q : Int32 → OV → Prop} {x2 : Int32} {vWv : OV} {vLg : OV} (hw : wp_X6_findLevel Q x2 vWv vLg) : CM X l yX6_findLevel wsX6_findLevel rm_X6_findLevel D G [.ref hWv, .ref hLg, .int x2] [bWv G hWv qWv vWv, bLg G hLg qLg vLg] 0 0 (po_X6_findLevel G hWv qWv hLg qLg vLg Q) :=
  CM.of pn_RX6 rfl rfl (Nat.le_of_ble_eq_true rfl) rfl (fun C F E => lb_X6_findLevel_0 F E hw)
-- X6_findShortest
abbrev rm_X6_findShortest : Room := { frames := 5, cells := 0, slots := 0, locals := 153 }
def po_X6_findShortest (G : Nat → ClassId) (hWv : Nat) (qWv : Nat → Nat) (hLg : Nat) (qLg : Nat → Nat) (vLg : OV) (Q : Int32 → OV → Prop) : Option Value → List va_W → Prop := fun o bs => ∃ (r : Int32) (vWv : OV), o = some (.int r) ∧ bs = [bWv G hWv qWv vWv, bLg G hLg qLg vLg] ∧ Q r vWv
theorem hd_X6_findShortest : yX6_findShortest.cls = RX6 ∧ yX6_findShortest.cls ≠ "java/lang/invoke/MethodHandle" ∧ yX6_findShortest.cls ≠ "java/lang/invoke/VarHandle" ∧ (parseMethodDescriptor yX6_findShortest.desc).map (fun d => d.parameters.length) = some 1 := by decide +kernel
theorem in_X6_findShortest_RX6 : ∀ w ∈ wsX60, w ∈ wsX6_findShortest := fun w h => List.mem_cons_of_mem _ (List.mem_append_left _ (List.mem_append_left _ (List.mem_append_right _ h)))
theorem lk_X6_findShortest_19 : Cond.fieldLink RX6 19 "KeyWaves$Waves" "lastLevel" "I" ∈ wsX6_findShortest := List.mem_cons_of_mem _ (List.mem_append_left _ (List.mem_append_left _ (List.mem_append_left _ (List.mem_append_left _ (List.mem_of_getElem? (i := 0) rfl)))))
def wp_X6_findShortest_23 (Q : Int32 → OV → Prop) (vLg : OV) (s0 : Int32) (vWv : OV) : Prop :=
  (Q s0 vWv)
set_option maxRecDepth 20000 in
theorem lb_X6_findShortest_23 {X : List Cond} {l : Launch} {D : va_G} {G : Nat → ClassId} {C : Cx} {bs0 : List va_W} {hWv : Nat} {qWv : Nat → Nat} {hLg : Nat} {qLg : Nat → Nat} {Q : Int32 → OV → Prop} {vLg : OV} (F : GF C X cX6_findShortest wsX6_findShortest RX6 rm_X6_findShortest 2 (some .int) D G l) (E : GE C bs0 0 0 (po_X6_findShortest G hWv qWv hLg qLg vLg Q)) {s0 : Int32} {vWv : OV} (hw : wp_X6_findShortest_23 Q vLg s0 vWv) : GW C 0 0 [bWv G hWv qWv vWv, bLg G hLg qLg vLg] 23 [] [.int s0] := by
  unfold wp_X6_findShortest_23 at hw
  exact gw_iret F E rfl rfl (Nat.le_of_ble_eq_true rfl) (Nat.le_of_ble_eq_true rfl) dX6_findShortest_23 ⟨_, _, rfl, rfl, hw⟩
def wp_X6_findShortest_0 (Q : Int32 → OV → Prop) (vLg : OV) (vWv : OV) : Prop :=
  (wp_X6_findLevels (fun (v_1 : OV) => ((¬ (v_1.2 2) = (-1 : Int32) → (wp_X6_findShortest_23 Q vLg ((v_1.2 2) + (1 : Int32)) v_1)) ∧ ((v_1.2 2) = (-1 : Int32) → (wp_X6_findShortest_23 Q vLg (-1 : Int32) v_1)))) vWv vLg)
set_option maxRecDepth 20000 in
theorem lb_X6_findShortest_0 {X : List Cond} {l : Launch} {D : va_G} {G : Nat → ClassId} {C : Cx} {bs0 : List va_W} {hWv : Nat} {qWv : Nat → Nat} {hLg : Nat} {qLg : Nat → Nat} {Q : Int32 → OV → Prop} {vLg : OV} (F : GF C X cX6_findShortest wsX6_findShortest RX6 rm_X6_findShortest 2 (some .int) D G l) (E : GE C bs0 0 0 (po_X6_findShortest G hWv qWv hLg qLg vLg Q)) {vWv : OV} (hw : wp_X6_findShortest_0 Q vLg vWv) : GW C 0 0 [bWv G hWv qWv vWv, bLg G hLg qLg vLg] 0 [(0, .ref hWv), (1, .ref hLg)] [] := by
  unfold wp_X6_findShortest_0 at hw
  refine gw_aload_n F dX6_findShortest_0 0 rfl ?_
  refine gw_aload_n F dX6_findShortest_1 1 rfl ?_
  refine gw_callV F (ct_X6_findLevels hw) 1 gX6_findShortest_X6_findLevels rfl rfl rfl hd_X6_findLevels ⟨(Nat.le_of_ble_eq_true rfl), (Nat.le_of_ble_eq_true rfl)⟩ rfl rfl (Nat.le_of_ble_eq_true rfl) ⟨Nat.zero_le _, Nat.zero_le _⟩ [0, 1] (bsr := []) rfl rfl (q0 := 0) rfl rfl dX6_findShortest_2 ?_
  rintro _ _ ⟨v_1, rfl, rfl, hw⟩
  refine gw_sel [0, 1] (bs' := [bWv G hWv qWv v_1, bLg G hLg qLg vLg]) rfl rfl ?_
  change GW C 0 0 _ 5 _ []
  refine gw_aload_n F dX6_findShortest_5 0 rfl ?_
  refine gw_get F in_X6_findShortest_RX6 0 rfl rfl 2 (by decide) lk_X6_findShortest_19 rfl dX6_findShortest_6 ?_
  refine gw_iconst (v := (-1 : Int32)) F dX6_findShortest_9 ic_iconst_m1 ?_
  refine gw_icmp_ne (tgt := 17) F dX6_findShortest_10 (by decide) (fun c_2 => ?_) (fun c_2 => ?_)
  · have hw := hw.1 c_2
    refine gw_aload_n F dX6_findShortest_17 0 rfl ?_
    refine gw_get F in_X6_findShortest_RX6 0 rfl rfl 2 (by decide) lk_X6_findShortest_19 rfl dX6_findShortest_18 ?_
    refine gw_iconst (v := (1 : Int32)) F dX6_findShortest_21 ic_iconst_1 ?_
    refine gw_iadd F dX6_findShortest_22 ?_
    refine gw_lv [] rfl ?_
    exact lb_X6_findShortest_23 F E hw
  · have hw := hw.2 c_2
    refine gw_iconst (v := (-1 : Int32)) F dX6_findShortest_13 ic_iconst_m1 ?_
    refine gw_goto (tgt := 23) F dX6_findShortest_14 (by decide) ?_
    refine gw_lv [] rfl ?_
    exact lb_X6_findShortest_23 F E hw
def wp_X6_findShortest (Q : Int32 → OV → Prop) (vWv : OV) (vLg : OV) : Prop := wp_X6_findShortest_0 Q vLg vWv
theorem ct_X6_findShortest {X : List Cond} {l : Launch} {D : va_G} {G : Nat → ClassId} {hWv : Nat} {qWv : Nat → Nat} {hLg : Nat} {qLg : Nat → Nat} {Q : Int32 → OV → Prop} {vWv : OV} {vLg : OV} (hw : wp_X6_findShortest Q vWv vLg) : CM X l yX6_findShortest wsX6_findShortest rm_X6_findShortest D G [.ref hWv, .ref hLg] [bWv G hWv qWv vWv, bLg G hLg qLg vLg] 0 0 (po_X6_findShortest G hWv qWv hLg qLg vLg Q) :=
  CM.of pn_RX6 rfl rfl (Nat.le_of_ble_eq_true rfl) rfl (fun C F E => lb_X6_findShortest_0 F E hw)
-- X6_isReached
abbrev rm_X6_isReached : Room := { frames := 3, cells := 0, slots := 0, locals := 105 }
def po_X6_isReached (G : Nat → ClassId) (hWv : Nat) (qWv : Nat → Nat) (hLg : Nat) (qLg : Nat → Nat) (vWv : OV) (vLg : OV) (Q : Int32 → Prop) : Option Value → List va_W → Prop := fun o bs => ∃ (r : Int32), o = some (.int r) ∧ bs = [bWv G hWv qWv vWv, bLg G hLg qLg vLg] ∧ Q r
theorem hd_X6_isReached : yX6_isReached.cls = RX6 ∧ yX6_isReached.cls ≠ "java/lang/invoke/MethodHandle" ∧ yX6_isReached.cls ≠ "java/lang/invoke/VarHandle" ∧ (parseMethodDescriptor yX6_isReached.desc).map (fun d => d.parameters.length) = some 2 := by decide +kernel
theorem in_X6_isReached_RX3 : ∀ w ∈ wsX30, w ∈ wsX6_isReached := fun w h => List.mem_cons_of_mem _ (List.mem_append_left _ (List.mem_append_left _ (List.mem_append_right _ h)))
theorem lk_X6_isReached_27 : Cond.fieldLink RX6 27 "KeyWaves$Lodge" "keys" "I" ∈ wsX6_isReached := List.mem_cons_of_mem _ (List.mem_append_left _ (List.mem_append_left _ (List.mem_append_left _ (List.mem_append_left _ (List.mem_of_getElem? (i := 0) rfl)))))
def wp_X6_isReached_39 (Q : Int32 → Prop) (K2 : Int32 → Int32 → Prop) (vWv : OV) (vLg : OV) (x2 x3 : Int32) : Prop :=
  (∀ i_4 : Int32, i_4 = x3 + (1 : Int32) → (K2 x2 i_4))
set_option maxRecDepth 20000 in
theorem lb_X6_isReached_39 {X : List Cond} {l : Launch} {D : va_G} {G : Nat → ClassId} {C : Cx} {bs0 : List va_W} {hWv : Nat} {qWv : Nat → Nat} {hLg : Nat} {qLg : Nat → Nat} {Q : Int32 → Prop} {K2 : Int32 → Int32 → Prop} {vWv : OV} {vLg : OV} (F : GF C X cX6_isReached wsX6_isReached RX6 rm_X6_isReached 4 (some .boolean) D G l) (E : GE C bs0 0 0 (po_X6_isReached G hWv qWv hLg qLg vWv vLg Q)) (hK2 : ∀ (x2 x3 : Int32), K2 x2 x3 → GW C 0 0 [bWv G hWv qWv vWv, bLg G hLg qLg vLg] 2 [(0, .ref hWv), (1, .ref hLg), (2, .int x2), (3, .int x3)] []) {x2 x3 : Int32} (hw : wp_X6_isReached_39 Q K2 vWv vLg x2 x3) : GW C 0 0 [bWv G hWv qWv vWv, bLg G hLg qLg vLg] 39 [(0, .ref hWv), (1, .ref hLg), (2, .int x2), (3, .int x3)] [] := by
  unfold wp_X6_isReached_39 at hw
  obtain ⟨i_4, e_i_4⟩ : ∃ z : Int32, z = x3 + (1 : Int32) := ⟨_, rfl⟩
  have hw := hw i_4 e_i_4
  refine gw_iinc (v := i_4) (lv' := [(3, .int i_4), (0, .ref hWv), (1, .ref hLg), (2, .int x2)]) F dX6_isReached_39 3 rfl (by rw [e_i_4]; rfl) (by decide) rfl ?_
  refine gw_goto (tgt := 2) F dX6_isReached_42 (by decide) ?_
  refine gw_lv [1, 2, 3, 0] rfl ?_
  exact hK2 _ _ hw
def wp_X6_isReached_2 (Q : Int32 → Prop) (K2 : Int32 → Int32 → Prop) (vWv : OV) (vLg : OV) (x2 x3 : Int32) : Prop :=
  (((vLg.2 8) ≤ x3 → (Q (0 : Int32))) ∧ (¬ ((vLg.2 8) ≤ x3) → (wp_X6_levelAt (fun (r_2 : Int32) => ((r_2 = (-1 : Int32) → (wp_X6_isReached_39 Q K2 vWv vLg x2 x3)) ∧ (¬ (r_2 = (-1 : Int32)) → (wp_X3_isFit (fun (r_5 : Int32) => ((r_5 = 0 → (wp_X6_isReached_39 Q K2 vWv vLg x2 x3)) ∧ (¬ (r_5 = 0) → (wp_X3_keyIn (fun (r_7 : Int32) => ((r_7 = x3 → (wp_X6_isReached_39 Q K2 vWv vLg x2 x3)) ∧ (¬ (r_7 = x3) → (Q (1 : Int32))))) x2 vLg)))) x3 x2 vLg)))) x3 vWv)))
set_option maxRecDepth 20000 in
theorem lb_X6_isReached_2 {X : List Cond} {l : Launch} {D : va_G} {G : Nat → ClassId} {C : Cx} {bs0 : List va_W} {hWv : Nat} {qWv : Nat → Nat} {hLg : Nat} {qLg : Nat → Nat} {Q : Int32 → Prop} {K2 : Int32 → Int32 → Prop} {vWv : OV} {vLg : OV} (F : GF C X cX6_isReached wsX6_isReached RX6 rm_X6_isReached 4 (some .boolean) D G l) (E : GE C bs0 0 0 (po_X6_isReached G hWv qWv hLg qLg vWv vLg Q)) (hK2 : ∀ (x2 x3 : Int32), K2 x2 x3 → GW C 0 0 [bWv G hWv qWv vWv, bLg G hLg qLg vLg] 2 [(0, .ref hWv), (1, .ref hLg), (2, .int x2), (3, .int x3)] []) {x2 x3 : Int32} (hw : wp_X6_isReached_2 Q K2 vWv vLg x2 x3) : GW C 0 0 [bWv G hWv qWv vWv, bLg G hLg qLg vLg] 2 [(0, .ref hWv), (1, .ref hLg), (2, .int x2), (3, .int x3)] [] := by
  unfold wp_X6_isReached_2 at hw
  refine gw_iload_n F dX6_isReached_2 3 rfl ?_
  refine gw_aload_n F dX6_isReached_3 1 rfl ?_
  refine gw_get F in_X6_isReached_RX3 3 rfl rfl 8 (by decide) lk_X6_isReached_27 rfl dX6_isReached_4 ?_
  refine gw_icmp_ge (tgt := 45) F dX6_isReached_7 (by decide) (fun c_1 => ?_) (fun c_1 => ?_)
  · have hw := hw.1 c_1
    refine gw_iconst (v := (0 : Int32)) F dX6_isReached_45 ic_iconst_0 ?_
    exact gw_iret F E rfl rfl (Nat.le_of_ble_eq_true rfl) (Nat.le_of_ble_eq_true rfl) dX6_isReached_46 ⟨_, rfl, rfl, hw⟩
  · have hw := hw.2 c_1
    refine gw_aload_n F dX6_isReached_10 0 rfl ?_
    refine gw_iload_n F dX6_isReached_11 3 rfl ?_
    refine gw_callV F (ct_X6_levelAt hw) 1 gX6_isReached_X6_levelAt rfl rfl rfl hd_X6_levelAt ⟨(Nat.le_of_ble_eq_true rfl), (Nat.le_of_ble_eq_true rfl)⟩ rfl rfl (Nat.le_of_ble_eq_true rfl) ⟨Nat.zero_le _, Nat.zero_le _⟩ [1, 0] (bsr := [bLg G hLg qLg vLg]) rfl rfl (q0 := 0) rfl rfl dX6_isReached_12 ?_
    rintro _ _ ⟨r_2, rfl, rfl, hw⟩
    refine gw_sel [1, 0] (bs' := [bWv G hWv qWv vWv, bLg G hLg qLg vLg]) rfl rfl ?_
    change GW C 0 0 _ 15 _ [.int r_2]
    refine gw_iconst (v := (-1 : Int32)) F dX6_isReached_15 ic_iconst_m1 ?_
    refine gw_icmp_eq (tgt := 39) F dX6_isReached_16 (by decide) (fun c_3 => ?_) (fun c_3 => ?_)
    · have hw := hw.1 c_3
      exact lb_X6_isReached_39 F E hK2 hw
    · have hw := hw.2 c_3
      refine gw_aload_n F dX6_isReached_19 1 rfl ?_
      refine gw_iload_n F dX6_isReached_20 3 rfl ?_
      refine gw_iload_n F dX6_isReached_21 2 rfl ?_
      refine gw_callV F (ct_X3_isFit hw) 2 gX6_isReached_X3_isFit rfl rfl rfl hd_X3_isFit ⟨(Nat.le_of_ble_eq_true rfl), (Nat.le_of_ble_eq_true rfl)⟩ rfl rfl (Nat.le_of_ble_eq_true rfl) ⟨Nat.zero_le _, Nat.zero_le _⟩ [0, 1] (bsr := [bWv G hWv qWv vWv]) rfl rfl (q0 := 0) rfl rfl dX6_isReached_22 ?_
      rintro _ _ ⟨r_5, rfl, rfl, hw⟩
      refine gw_sel [0, 1] (bs' := [bWv G hWv qWv vWv, bLg G hLg qLg vLg]) rfl rfl ?_
      change GW C 0 0 _ 25 _ [.int r_5]
      refine gw_if_eq (tgt := 39) F dX6_isReached_25 (by decide) (fun c_6 => ?_) (fun c_6 => ?_)
      · have hw := hw.1 c_6
        exact lb_X6_isReached_39 F E hK2 hw
      · have hw := hw.2 c_6
        refine gw_aload_n F dX6_isReached_28 1 rfl ?_
        refine gw_iload_n F dX6_isReached_29 2 rfl ?_
        refine gw_callV F (ct_X3_keyIn hw) 1 gX6_isReached_X3_keyIn rfl rfl rfl hd_X3_keyIn ⟨(Nat.le_of_ble_eq_true rfl), (Nat.le_of_ble_eq_true rfl)⟩ rfl rfl (Nat.le_of_ble_eq_true rfl) ⟨Nat.zero_le _, Nat.zero_le _⟩ [0, 1] (bsr := [bWv G hWv qWv vWv]) rfl rfl (q0 := 0) rfl rfl dX6_isReached_30 ?_
        rintro _ _ ⟨r_7, rfl, rfl, hw⟩
        refine gw_sel [0, 1] (bs' := [bWv G hWv qWv vWv, bLg G hLg qLg vLg]) rfl rfl ?_
        change GW C 0 0 _ 33 _ [.int r_7]
        refine gw_iload_n F dX6_isReached_33 3 rfl ?_
        refine gw_icmp_eq (tgt := 39) F dX6_isReached_34 (by decide) (fun c_8 => ?_) (fun c_8 => ?_)
        · have hw := hw.1 c_8
          exact lb_X6_isReached_39 F E hK2 hw
        · have hw := hw.2 c_8
          refine gw_iconst (v := (1 : Int32)) F dX6_isReached_37 ic_iconst_1 ?_
          exact gw_iret F E rfl rfl (Nat.le_of_ble_eq_true rfl) (Nat.le_of_ble_eq_true rfl) dX6_isReached_38 ⟨_, rfl, rfl, hw⟩
def wp_X6_isReached_2_loop (Q : Int32 → Prop) (vWv : OV) (vLg : OV) : Nat → Int32 → Int32 → Prop
  | 0, _, _ => False
  | n + 1, x2, x3 => wp_X6_isReached_2 Q (wp_X6_isReached_2_loop Q vWv vLg n) vWv vLg x2 x3
theorem lp_X6_isReached_2 {X : List Cond} {l : Launch} {D : va_G} {G : Nat → ClassId} {C : Cx} {bs0 : List va_W} {hWv : Nat} {qWv : Nat → Nat} {hLg : Nat} {qLg : Nat → Nat} {Q : Int32 → Prop} {vWv : OV} {vLg : OV} (F : GF C X cX6_isReached wsX6_isReached RX6 rm_X6_isReached 4 (some .boolean) D G l) (E : GE C bs0 0 0 (po_X6_isReached G hWv qWv hLg qLg vWv vLg Q)) : ∀ (n : Nat) (x2 x3 : Int32), wp_X6_isReached_2_loop Q vWv vLg n x2 x3 → GW C 0 0 [bWv G hWv qWv vWv, bLg G hLg qLg vLg] 2 [(0, .ref hWv), (1, .ref hLg), (2, .int x2), (3, .int x3)] [] := by
  intro n
  induction n with
  | zero => intro x2 x3 hw; exact False.elim hw
  | succ n ih => intro x2 x3 hw; exact lb_X6_isReached_2 (K2 := wp_X6_isReached_2_loop Q vWv vLg n) F E ih hw
def wp_X6_isReached_0 (Q : Int32 → Prop) (vWv : OV) (vLg : OV) (x2 : Int32) : Prop :=
  (∃ n_9 : Nat, wp_X6_isReached_2_loop Q vWv vLg n_9 x2 (0 : Int32))
set_option maxRecDepth 20000 in
theorem lb_X6_isReached_0 {X : List Cond} {l : Launch} {D : va_G} {G : Nat → ClassId} {C : Cx} {bs0 : List va_W} {hWv : Nat} {qWv : Nat → Nat} {hLg : Nat} {qLg : Nat → Nat} {Q : Int32 → Prop} {vWv : OV} {vLg : OV} (F : GF C X cX6_isReached wsX6_isReached RX6 rm_X6_isReached 4 (some .boolean) D G l) (E : GE C bs0 0 0 (po_X6_isReached G hWv qWv hLg qLg vWv vLg Q)) {x2 : Int32} (hw : wp_X6_isReached_0 Q vWv vLg x2) : GW C 0 0 [bWv G hWv qWv vWv, bLg G hLg qLg vLg] 0 [(0, .ref hWv), (1, .ref hLg), (2, .int x2)] [] := by
  unfold wp_X6_isReached_0 at hw
  refine gw_iconst (v := (0 : Int32)) F dX6_isReached_0 ic_iconst_0 ?_
  refine gw_istore_n (lv' := [(3, .int (0 : Int32)), (0, .ref hWv), (1, .ref hLg), (2, .int x2)]) F dX6_isReached_1 (by decide) rfl ?_
  refine gw_lv [1, 2, 3, 0] rfl ?_
  obtain ⟨n_9, hw⟩ := hw
  exact lp_X6_isReached_2 F E n_9 _ _ hw
def wp_X6_isReached (Q : Int32 → Prop) (x2 : Int32) (vWv : OV) (vLg : OV) : Prop := wp_X6_isReached_0 Q vWv vLg x2
theorem ct_X6_isReached {X : List Cond} {l : Launch} {D : va_G} {G : Nat → ClassId} {hWv : Nat} {qWv : Nat → Nat} {hLg : Nat} {qLg : Nat → Nat} {Q : Int32 → Prop} {x2 : Int32} {vWv : OV} {vLg : OV} (hw : wp_X6_isReached Q x2 vWv vLg) : CM X l yX6_isReached wsX6_isReached rm_X6_isReached D G [.ref hWv, .ref hLg, .int x2] [bWv G hWv qWv vWv, bLg G hLg qLg vLg] 0 0 (po_X6_isReached G hWv qWv hLg qLg vWv vLg Q) :=
  CM.of pn_RX6 rfl rfl (Nat.le_of_ble_eq_true rfl) rfl (fun C F E => lb_X6_isReached_0 F E hw)
-- X6_findReachedLocks
abbrev rm_X6_findReachedLocks : Room := { frames := 5, cells := 0, slots := 0, locals := 153 }
def po_X6_findReachedLocks (G : Nat → ClassId) (hWv : Nat) (qWv : Nat → Nat) (hLg : Nat) (qLg : Nat → Nat) (vLg : OV) (Q : Int32 → OV → Prop) : Option Value → List va_W → Prop := fun o bs => ∃ (r : Int32) (vWv : OV), o = some (.int r) ∧ bs = [bWv G hWv qWv vWv, bLg G hLg qLg vLg] ∧ Q r vWv
theorem hd_X6_findReachedLocks : yX6_findReachedLocks.cls = RX6 ∧ yX6_findReachedLocks.cls ≠ "java/lang/invoke/MethodHandle" ∧ yX6_findReachedLocks.cls ≠ "java/lang/invoke/VarHandle" ∧ (parseMethodDescriptor yX6_findReachedLocks.desc).map (fun d => d.parameters.length) = some 1 := by decide +kernel
theorem in_X6_findReachedLocks_RX3 : ∀ w ∈ wsX30, w ∈ wsX6_findReachedLocks := fun w h => List.mem_cons_of_mem _ (List.mem_append_left _ (List.mem_append_left _ (List.mem_append_right _ h)))
theorem lk_X6_findReachedLocks_50 : Cond.fieldLink RX6 50 "KeyWaves$Lodge" "locks" "I" ∈ wsX6_findReachedLocks := List.mem_cons_of_mem _ (List.mem_append_left _ (List.mem_append_left _ (List.mem_append_left _ (List.mem_append_left _ (List.mem_of_getElem? (i := 0) rfl)))))
def wp_X6_findReachedLocks_32 (Q : Int32 → OV → Prop) (K9 : Int32 → Int32 → OV → Prop) (vLg : OV) (x2 x3 : Int32) (vWv : OV) : Prop :=
  (∀ i_5 : Int32, i_5 = x3 + (1 : Int32) → (K9 x2 i_5 vWv))
set_option maxRecDepth 20000 in
theorem lb_X6_findReachedLocks_32 {X : List Cond} {l : Launch} {D : va_G} {G : Nat → ClassId} {C : Cx} {bs0 : List va_W} {hWv : Nat} {qWv : Nat → Nat} {hLg : Nat} {qLg : Nat → Nat} {Q : Int32 → OV → Prop} {K9 : Int32 → Int32 → OV → Prop} {vLg : OV} (F : GF C X cX6_findReachedLocks wsX6_findReachedLocks RX6 rm_X6_findReachedLocks 4 (some .int) D G l) (E : GE C bs0 0 0 (po_X6_findReachedLocks G hWv qWv hLg qLg vLg Q)) (hK9 : ∀ (x2 x3 : Int32) (vWv : OV), K9 x2 x3 vWv → GW C 0 0 [bWv G hWv qWv vWv, bLg G hLg qLg vLg] 9 [(0, .ref hWv), (1, .ref hLg), (2, .int x2), (3, .int x3)] []) {x2 x3 : Int32} {vWv : OV} (hw : wp_X6_findReachedLocks_32 Q K9 vLg x2 x3 vWv) : GW C 0 0 [bWv G hWv qWv vWv, bLg G hLg qLg vLg] 32 [(0, .ref hWv), (1, .ref hLg), (2, .int x2), (3, .int x3)] [] := by
  unfold wp_X6_findReachedLocks_32 at hw
  obtain ⟨i_5, e_i_5⟩ : ∃ z : Int32, z = x3 + (1 : Int32) := ⟨_, rfl⟩
  have hw := hw i_5 e_i_5
  refine gw_iinc (v := i_5) (lv' := [(3, .int i_5), (0, .ref hWv), (1, .ref hLg), (2, .int x2)]) F dX6_findReachedLocks_32 3 rfl (by rw [e_i_5]; rfl) (by decide) rfl ?_
  refine gw_goto (tgt := 9) F dX6_findReachedLocks_35 (by decide) ?_
  refine gw_lv [1, 2, 3, 0] rfl ?_
  exact hK9 _ _ _ hw
def wp_X6_findReachedLocks_9 (Q : Int32 → OV → Prop) (K9 : Int32 → Int32 → OV → Prop) (vLg : OV) (x2 x3 : Int32) (vWv : OV) : Prop :=
  (((vLg.2 9) ≤ x3 → (Q x2 vWv)) ∧ (¬ ((vLg.2 9) ≤ x3) → (wp_X6_isReached (fun (r_3 : Int32) => ((r_3 = 0 → (wp_X6_findReachedLocks_32 Q K9 vLg x2 x3 vWv)) ∧ (¬ (r_3 = 0) → (∀ i_6 : Int32, i_6 = (x2 ||| ((1 : Int32) <<< (x3 &&& 31))) → (wp_X6_findReachedLocks_32 Q K9 vLg i_6 x3 vWv))))) x3 vWv vLg)))
set_option maxRecDepth 20000 in
theorem lb_X6_findReachedLocks_9 {X : List Cond} {l : Launch} {D : va_G} {G : Nat → ClassId} {C : Cx} {bs0 : List va_W} {hWv : Nat} {qWv : Nat → Nat} {hLg : Nat} {qLg : Nat → Nat} {Q : Int32 → OV → Prop} {K9 : Int32 → Int32 → OV → Prop} {vLg : OV} (F : GF C X cX6_findReachedLocks wsX6_findReachedLocks RX6 rm_X6_findReachedLocks 4 (some .int) D G l) (E : GE C bs0 0 0 (po_X6_findReachedLocks G hWv qWv hLg qLg vLg Q)) (hK9 : ∀ (x2 x3 : Int32) (vWv : OV), K9 x2 x3 vWv → GW C 0 0 [bWv G hWv qWv vWv, bLg G hLg qLg vLg] 9 [(0, .ref hWv), (1, .ref hLg), (2, .int x2), (3, .int x3)] []) {x2 x3 : Int32} {vWv : OV} (hw : wp_X6_findReachedLocks_9 Q K9 vLg x2 x3 vWv) : GW C 0 0 [bWv G hWv qWv vWv, bLg G hLg qLg vLg] 9 [(0, .ref hWv), (1, .ref hLg), (2, .int x2), (3, .int x3)] [] := by
  unfold wp_X6_findReachedLocks_9 at hw
  refine gw_iload_n F dX6_findReachedLocks_9 3 rfl ?_
  refine gw_aload_n F dX6_findReachedLocks_10 1 rfl ?_
  refine gw_get F in_X6_findReachedLocks_RX3 3 rfl rfl 9 (by decide) lk_X6_findReachedLocks_50 rfl dX6_findReachedLocks_11 ?_
  refine gw_icmp_ge (tgt := 38) F dX6_findReachedLocks_14 (by decide) (fun c_2 => ?_) (fun c_2 => ?_)
  · have hw := hw.1 c_2
    refine gw_iload_n F dX6_findReachedLocks_38 2 rfl ?_
    exact gw_iret F E rfl rfl (Nat.le_of_ble_eq_true rfl) (Nat.le_of_ble_eq_true rfl) dX6_findReachedLocks_39 ⟨_, _, rfl, rfl, hw⟩
  · have hw := hw.2 c_2
    refine gw_aload_n F dX6_findReachedLocks_17 0 rfl ?_
    refine gw_aload_n F dX6_findReachedLocks_18 1 rfl ?_
    refine gw_iload_n F dX6_findReachedLocks_19 3 rfl ?_
    refine gw_callV F (ct_X6_isReached hw) 2 gX6_findReachedLocks_X6_isReached rfl rfl rfl hd_X6_isReached ⟨(Nat.le_of_ble_eq_true rfl), (Nat.le_of_ble_eq_true rfl)⟩ rfl rfl (Nat.le_of_ble_eq_true rfl) ⟨Nat.zero_le _, Nat.zero_le _⟩ [0, 1] (bsr := []) rfl rfl (q0 := 0) rfl rfl dX6_findReachedLocks_20 ?_
    rintro _ _ ⟨r_3, rfl, rfl, hw⟩
    refine gw_sel [0, 1] (bs' := [bWv G hWv qWv vWv, bLg G hLg qLg vLg]) rfl rfl ?_
    change GW C 0 0 _ 23 _ [.int r_3]
    refine gw_if_eq (tgt := 32) F dX6_findReachedLocks_23 (by decide) (fun c_4 => ?_) (fun c_4 => ?_)
    · have hw := hw.1 c_4
      exact lb_X6_findReachedLocks_32 F E hK9 hw
    · have hw := hw.2 c_4
      refine gw_iload_n F dX6_findReachedLocks_26 2 rfl ?_
      refine gw_iconst (v := (1 : Int32)) F dX6_findReachedLocks_27 ic_iconst_1 ?_
      refine gw_iload_n F dX6_findReachedLocks_28 3 rfl ?_
      refine gw_ishl F dX6_findReachedLocks_29 ?_
      refine gw_ior F dX6_findReachedLocks_30 ?_
      refine gw_topi (fun i_6 e_i_6 => ?_)
      have hw := hw i_6 e_i_6
      refine gw_istore_n (lv' := [(2, .int i_6), (0, .ref hWv), (1, .ref hLg), (3, .int x3)]) F dX6_findReachedLocks_31 (by decide) rfl ?_
      refine gw_lv [1, 2, 0, 3] rfl ?_
      exact lb_X6_findReachedLocks_32 F E hK9 hw
def wp_X6_findReachedLocks_9_loop (Q : Int32 → OV → Prop) (vLg : OV) : Nat → Int32 → Int32 → OV → Prop
  | 0, _, _, _ => False
  | n + 1, x2, x3, vWv => wp_X6_findReachedLocks_9 Q (wp_X6_findReachedLocks_9_loop Q vLg n) vLg x2 x3 vWv
theorem lp_X6_findReachedLocks_9 {X : List Cond} {l : Launch} {D : va_G} {G : Nat → ClassId} {C : Cx} {bs0 : List va_W} {hWv : Nat} {qWv : Nat → Nat} {hLg : Nat} {qLg : Nat → Nat} {Q : Int32 → OV → Prop} {vLg : OV} (F : GF C X cX6_findReachedLocks wsX6_findReachedLocks RX6 rm_X6_findReachedLocks 4 (some .int) D G l) (E : GE C bs0 0 0 (po_X6_findReachedLocks G hWv qWv hLg qLg vLg Q)) : ∀ (n : Nat) (x2 x3 : Int32) (vWv : OV), wp_X6_findReachedLocks_9_loop Q vLg n x2 x3 vWv → GW C 0 0 [bWv G hWv qWv vWv, bLg G hLg qLg vLg] 9 [(0, .ref hWv), (1, .ref hLg), (2, .int x2), (3, .int x3)] [] := by
  intro n
  induction n with
  | zero => intro x2 x3 vWv hw; exact False.elim hw
  | succ n ih => intro x2 x3 vWv hw; exact lb_X6_findReachedLocks_9 (K9 := wp_X6_findReachedLocks_9_loop Q vLg n) F E ih hw
def wp_X6_findReachedLocks_0 (Q : Int32 → OV → Prop) (vLg : OV) (vWv : OV) : Prop :=
  (wp_X6_findLevels (fun (v_1 : OV) => (∃ n_7 : Nat, wp_X6_findReachedLocks_9_loop Q vLg n_7 (0 : Int32) (0 : Int32) v_1)) vWv vLg)
set_option maxRecDepth 20000 in
theorem lb_X6_findReachedLocks_0 {X : List Cond} {l : Launch} {D : va_G} {G : Nat → ClassId} {C : Cx} {bs0 : List va_W} {hWv : Nat} {qWv : Nat → Nat} {hLg : Nat} {qLg : Nat → Nat} {Q : Int32 → OV → Prop} {vLg : OV} (F : GF C X cX6_findReachedLocks wsX6_findReachedLocks RX6 rm_X6_findReachedLocks 4 (some .int) D G l) (E : GE C bs0 0 0 (po_X6_findReachedLocks G hWv qWv hLg qLg vLg Q)) {vWv : OV} (hw : wp_X6_findReachedLocks_0 Q vLg vWv) : GW C 0 0 [bWv G hWv qWv vWv, bLg G hLg qLg vLg] 0 [(0, .ref hWv), (1, .ref hLg)] [] := by
  unfold wp_X6_findReachedLocks_0 at hw
  refine gw_aload_n F dX6_findReachedLocks_0 0 rfl ?_
  refine gw_aload_n F dX6_findReachedLocks_1 1 rfl ?_
  refine gw_callV F (ct_X6_findLevels hw) 1 gX6_findReachedLocks_X6_findLevels rfl rfl rfl hd_X6_findLevels ⟨(Nat.le_of_ble_eq_true rfl), (Nat.le_of_ble_eq_true rfl)⟩ rfl rfl (Nat.le_of_ble_eq_true rfl) ⟨Nat.zero_le _, Nat.zero_le _⟩ [0, 1] (bsr := []) rfl rfl (q0 := 0) rfl rfl dX6_findReachedLocks_2 ?_
  rintro _ _ ⟨v_1, rfl, rfl, hw⟩
  refine gw_sel [0, 1] (bs' := [bWv G hWv qWv v_1, bLg G hLg qLg vLg]) rfl rfl ?_
  change GW C 0 0 _ 5 _ []
  refine gw_iconst (v := (0 : Int32)) F dX6_findReachedLocks_5 ic_iconst_0 ?_
  refine gw_istore_n (lv' := [(2, .int (0 : Int32)), (0, .ref hWv), (1, .ref hLg)]) F dX6_findReachedLocks_6 (by decide) rfl ?_
  refine gw_iconst (v := (0 : Int32)) F dX6_findReachedLocks_7 ic_iconst_0 ?_
  refine gw_istore_n (lv' := [(3, .int (0 : Int32)), (2, .int (0 : Int32)), (0, .ref hWv), (1, .ref hLg)]) F dX6_findReachedLocks_8 (by decide) rfl ?_
  refine gw_lv [2, 3, 1, 0] rfl ?_
  obtain ⟨n_7, hw⟩ := hw
  exact lp_X6_findReachedLocks_9 F E n_7 _ _ _ hw
def wp_X6_findReachedLocks (Q : Int32 → OV → Prop) (vWv : OV) (vLg : OV) : Prop := wp_X6_findReachedLocks_0 Q vLg vWv
theorem ct_X6_findReachedLocks {X : List Cond} {l : Launch} {D : va_G} {G : Nat → ClassId} {hWv : Nat} {qWv : Nat → Nat} {hLg : Nat} {qLg : Nat → Nat} {Q : Int32 → OV → Prop} {vWv : OV} {vLg : OV} (hw : wp_X6_findReachedLocks Q vWv vLg) : CM X l yX6_findReachedLocks wsX6_findReachedLocks rm_X6_findReachedLocks D G [.ref hWv, .ref hLg] [bWv G hWv qWv vWv, bLg G hLg qLg vLg] 0 0 (po_X6_findReachedLocks G hWv qWv hLg qLg vLg Q) :=
  CM.of pn_RX6 rfl rfl (Nat.le_of_ble_eq_true rfl) rfl (fun C F E => lb_X6_findReachedLocks_0 F E hw)
-- X6_findUnreachedKeys
abbrev rm_X6_findUnreachedKeys : Room := { frames := 5, cells := 0, slots := 0, locals := 153 }
def po_X6_findUnreachedKeys (G : Nat → ClassId) (hWv : Nat) (qWv : Nat → Nat) (hLg : Nat) (qLg : Nat → Nat) (vLg : OV) (Q : Int32 → OV → Prop) : Option Value → List va_W → Prop := fun o bs => ∃ (r : Int32) (vWv : OV), o = some (.int r) ∧ bs = [bWv G hWv qWv vWv, bLg G hLg qLg vLg] ∧ Q r vWv
theorem hd_X6_findUnreachedKeys : yX6_findUnreachedKeys.cls = RX6 ∧ yX6_findUnreachedKeys.cls ≠ "java/lang/invoke/MethodHandle" ∧ yX6_findUnreachedKeys.cls ≠ "java/lang/invoke/VarHandle" ∧ (parseMethodDescriptor yX6_findUnreachedKeys.desc).map (fun d => d.parameters.length) = some 1 := by decide +kernel
theorem in_X6_findUnreachedKeys_RX3 : ∀ w ∈ wsX30, w ∈ wsX6_findUnreachedKeys := fun w h => List.mem_cons_of_mem _ (List.mem_append_left _ (List.mem_append_left _ (List.mem_append_right _ h)))
theorem lk_X6_findUnreachedKeys_27 : Cond.fieldLink RX6 27 "KeyWaves$Lodge" "keys" "I" ∈ wsX6_findUnreachedKeys := List.mem_cons_of_mem _ (List.mem_append_left _ (List.mem_append_left _ (List.mem_append_left _ (List.mem_append_left _ (List.mem_of_getElem? (i := 0) rfl)))))
def wp_X6_findUnreachedKeys_32 (Q : Int32 → OV → Prop) (K9 : Int32 → Int32 → OV → Prop) (vLg : OV) (x2 x3 : Int32) (vWv : OV) : Prop :=
  (∀ i_5 : Int32, i_5 = x3 + (1 : Int32) → (K9 x2 i_5 vWv))
set_option maxRecDepth 20000 in
theorem lb_X6_findUnreachedKeys_32 {X : List Cond} {l : Launch} {D : va_G} {G : Nat → ClassId} {C : Cx} {bs0 : List va_W} {hWv : Nat} {qWv : Nat → Nat} {hLg : Nat} {qLg : Nat → Nat} {Q : Int32 → OV → Prop} {K9 : Int32 → Int32 → OV → Prop} {vLg : OV} (F : GF C X cX6_findUnreachedKeys wsX6_findUnreachedKeys RX6 rm_X6_findUnreachedKeys 4 (some .int) D G l) (E : GE C bs0 0 0 (po_X6_findUnreachedKeys G hWv qWv hLg qLg vLg Q)) (hK9 : ∀ (x2 x3 : Int32) (vWv : OV), K9 x2 x3 vWv → GW C 0 0 [bWv G hWv qWv vWv, bLg G hLg qLg vLg] 9 [(0, .ref hWv), (1, .ref hLg), (2, .int x2), (3, .int x3)] []) {x2 x3 : Int32} {vWv : OV} (hw : wp_X6_findUnreachedKeys_32 Q K9 vLg x2 x3 vWv) : GW C 0 0 [bWv G hWv qWv vWv, bLg G hLg qLg vLg] 32 [(0, .ref hWv), (1, .ref hLg), (2, .int x2), (3, .int x3)] [] := by
  unfold wp_X6_findUnreachedKeys_32 at hw
  obtain ⟨i_5, e_i_5⟩ : ∃ z : Int32, z = x3 + (1 : Int32) := ⟨_, rfl⟩
  have hw := hw i_5 e_i_5
  refine gw_iinc (v := i_5) (lv' := [(3, .int i_5), (0, .ref hWv), (1, .ref hLg), (2, .int x2)]) F dX6_findUnreachedKeys_32 3 rfl (by rw [e_i_5]; rfl) (by decide) rfl ?_
  refine gw_goto (tgt := 9) F dX6_findUnreachedKeys_35 (by decide) ?_
  refine gw_lv [1, 2, 3, 0] rfl ?_
  exact hK9 _ _ _ hw
def wp_X6_findUnreachedKeys_9 (Q : Int32 → OV → Prop) (K9 : Int32 → Int32 → OV → Prop) (vLg : OV) (x2 x3 : Int32) (vWv : OV) : Prop :=
  (((vLg.2 8) ≤ x3 → (Q x2 vWv)) ∧ (¬ ((vLg.2 8) ≤ x3) → (wp_X6_levelAt (fun (r_3 : Int32) => ((¬ r_3 = (-1 : Int32) → (wp_X6_findUnreachedKeys_32 Q K9 vLg x2 x3 vWv)) ∧ (r_3 = (-1 : Int32) → (∀ i_6 : Int32, i_6 = (x2 ||| ((1 : Int32) <<< (x3 &&& 31))) → (wp_X6_findUnreachedKeys_32 Q K9 vLg i_6 x3 vWv))))) x3 vWv)))
set_option maxRecDepth 20000 in
theorem lb_X6_findUnreachedKeys_9 {X : List Cond} {l : Launch} {D : va_G} {G : Nat → ClassId} {C : Cx} {bs0 : List va_W} {hWv : Nat} {qWv : Nat → Nat} {hLg : Nat} {qLg : Nat → Nat} {Q : Int32 → OV → Prop} {K9 : Int32 → Int32 → OV → Prop} {vLg : OV} (F : GF C X cX6_findUnreachedKeys wsX6_findUnreachedKeys RX6 rm_X6_findUnreachedKeys 4 (some .int) D G l) (E : GE C bs0 0 0 (po_X6_findUnreachedKeys G hWv qWv hLg qLg vLg Q)) (hK9 : ∀ (x2 x3 : Int32) (vWv : OV), K9 x2 x3 vWv → GW C 0 0 [bWv G hWv qWv vWv, bLg G hLg qLg vLg] 9 [(0, .ref hWv), (1, .ref hLg), (2, .int x2), (3, .int x3)] []) {x2 x3 : Int32} {vWv : OV} (hw : wp_X6_findUnreachedKeys_9 Q K9 vLg x2 x3 vWv) : GW C 0 0 [bWv G hWv qWv vWv, bLg G hLg qLg vLg] 9 [(0, .ref hWv), (1, .ref hLg), (2, .int x2), (3, .int x3)] [] := by
  unfold wp_X6_findUnreachedKeys_9 at hw
  refine gw_iload_n F dX6_findUnreachedKeys_9 3 rfl ?_
  refine gw_aload_n F dX6_findUnreachedKeys_10 1 rfl ?_
  refine gw_get F in_X6_findUnreachedKeys_RX3 3 rfl rfl 8 (by decide) lk_X6_findUnreachedKeys_27 rfl dX6_findUnreachedKeys_11 ?_
  refine gw_icmp_ge (tgt := 38) F dX6_findUnreachedKeys_14 (by decide) (fun c_2 => ?_) (fun c_2 => ?_)
  · have hw := hw.1 c_2
    refine gw_iload_n F dX6_findUnreachedKeys_38 2 rfl ?_
    exact gw_iret F E rfl rfl (Nat.le_of_ble_eq_true rfl) (Nat.le_of_ble_eq_true rfl) dX6_findUnreachedKeys_39 ⟨_, _, rfl, rfl, hw⟩
  · have hw := hw.2 c_2
    refine gw_aload_n F dX6_findUnreachedKeys_17 0 rfl ?_
    refine gw_iload_n F dX6_findUnreachedKeys_18 3 rfl ?_
    refine gw_callV F (ct_X6_levelAt hw) 1 gX6_findUnreachedKeys_X6_levelAt rfl rfl rfl hd_X6_levelAt ⟨(Nat.le_of_ble_eq_true rfl), (Nat.le_of_ble_eq_true rfl)⟩ rfl rfl (Nat.le_of_ble_eq_true rfl) ⟨Nat.zero_le _, Nat.zero_le _⟩ [1, 0] (bsr := [bLg G hLg qLg vLg]) rfl rfl (q0 := 0) rfl rfl dX6_findUnreachedKeys_19 ?_
    rintro _ _ ⟨r_3, rfl, rfl, hw⟩
    refine gw_sel [1, 0] (bs' := [bWv G hWv qWv vWv, bLg G hLg qLg vLg]) rfl rfl ?_
    change GW C 0 0 _ 22 _ [.int r_3]
    refine gw_iconst (v := (-1 : Int32)) F dX6_findUnreachedKeys_22 ic_iconst_m1 ?_
    refine gw_icmp_ne (tgt := 32) F dX6_findUnreachedKeys_23 (by decide) (fun c_4 => ?_) (fun c_4 => ?_)
    · have hw := hw.1 c_4
      exact lb_X6_findUnreachedKeys_32 F E hK9 hw
    · have hw := hw.2 c_4
      refine gw_iload_n F dX6_findUnreachedKeys_26 2 rfl ?_
      refine gw_iconst (v := (1 : Int32)) F dX6_findUnreachedKeys_27 ic_iconst_1 ?_
      refine gw_iload_n F dX6_findUnreachedKeys_28 3 rfl ?_
      refine gw_ishl F dX6_findUnreachedKeys_29 ?_
      refine gw_ior F dX6_findUnreachedKeys_30 ?_
      refine gw_topi (fun i_6 e_i_6 => ?_)
      have hw := hw i_6 e_i_6
      refine gw_istore_n (lv' := [(2, .int i_6), (0, .ref hWv), (1, .ref hLg), (3, .int x3)]) F dX6_findUnreachedKeys_31 (by decide) rfl ?_
      refine gw_lv [1, 2, 0, 3] rfl ?_
      exact lb_X6_findUnreachedKeys_32 F E hK9 hw
def wp_X6_findUnreachedKeys_9_loop (Q : Int32 → OV → Prop) (vLg : OV) : Nat → Int32 → Int32 → OV → Prop
  | 0, _, _, _ => False
  | n + 1, x2, x3, vWv => wp_X6_findUnreachedKeys_9 Q (wp_X6_findUnreachedKeys_9_loop Q vLg n) vLg x2 x3 vWv
theorem lp_X6_findUnreachedKeys_9 {X : List Cond} {l : Launch} {D : va_G} {G : Nat → ClassId} {C : Cx} {bs0 : List va_W} {hWv : Nat} {qWv : Nat → Nat} {hLg : Nat} {qLg : Nat → Nat} {Q : Int32 → OV → Prop} {vLg : OV} (F : GF C X cX6_findUnreachedKeys wsX6_findUnreachedKeys RX6 rm_X6_findUnreachedKeys 4 (some .int) D G l) (E : GE C bs0 0 0 (po_X6_findUnreachedKeys G hWv qWv hLg qLg vLg Q)) : ∀ (n : Nat) (x2 x3 : Int32) (vWv : OV), wp_X6_findUnreachedKeys_9_loop Q vLg n x2 x3 vWv → GW C 0 0 [bWv G hWv qWv vWv, bLg G hLg qLg vLg] 9 [(0, .ref hWv), (1, .ref hLg), (2, .int x2), (3, .int x3)] [] := by
  intro n
  induction n with
  | zero => intro x2 x3 vWv hw; exact False.elim hw
  | succ n ih => intro x2 x3 vWv hw; exact lb_X6_findUnreachedKeys_9 (K9 := wp_X6_findUnreachedKeys_9_loop Q vLg n) F E ih hw
def wp_X6_findUnreachedKeys_0 (Q : Int32 → OV → Prop) (vLg : OV) (vWv : OV) : Prop :=
  (wp_X6_findLevels (fun (v_1 : OV) => (∃ n_7 : Nat, wp_X6_findUnreachedKeys_9_loop Q vLg n_7 (0 : Int32) (0 : Int32) v_1)) vWv vLg)
set_option maxRecDepth 20000 in
theorem lb_X6_findUnreachedKeys_0 {X : List Cond} {l : Launch} {D : va_G} {G : Nat → ClassId} {C : Cx} {bs0 : List va_W} {hWv : Nat} {qWv : Nat → Nat} {hLg : Nat} {qLg : Nat → Nat} {Q : Int32 → OV → Prop} {vLg : OV} (F : GF C X cX6_findUnreachedKeys wsX6_findUnreachedKeys RX6 rm_X6_findUnreachedKeys 4 (some .int) D G l) (E : GE C bs0 0 0 (po_X6_findUnreachedKeys G hWv qWv hLg qLg vLg Q)) {vWv : OV} (hw : wp_X6_findUnreachedKeys_0 Q vLg vWv) : GW C 0 0 [bWv G hWv qWv vWv, bLg G hLg qLg vLg] 0 [(0, .ref hWv), (1, .ref hLg)] [] := by
  unfold wp_X6_findUnreachedKeys_0 at hw
  refine gw_aload_n F dX6_findUnreachedKeys_0 0 rfl ?_
  refine gw_aload_n F dX6_findUnreachedKeys_1 1 rfl ?_
  refine gw_callV F (ct_X6_findLevels hw) 1 gX6_findUnreachedKeys_X6_findLevels rfl rfl rfl hd_X6_findLevels ⟨(Nat.le_of_ble_eq_true rfl), (Nat.le_of_ble_eq_true rfl)⟩ rfl rfl (Nat.le_of_ble_eq_true rfl) ⟨Nat.zero_le _, Nat.zero_le _⟩ [0, 1] (bsr := []) rfl rfl (q0 := 0) rfl rfl dX6_findUnreachedKeys_2 ?_
  rintro _ _ ⟨v_1, rfl, rfl, hw⟩
  refine gw_sel [0, 1] (bs' := [bWv G hWv qWv v_1, bLg G hLg qLg vLg]) rfl rfl ?_
  change GW C 0 0 _ 5 _ []
  refine gw_iconst (v := (0 : Int32)) F dX6_findUnreachedKeys_5 ic_iconst_0 ?_
  refine gw_istore_n (lv' := [(2, .int (0 : Int32)), (0, .ref hWv), (1, .ref hLg)]) F dX6_findUnreachedKeys_6 (by decide) rfl ?_
  refine gw_iconst (v := (0 : Int32)) F dX6_findUnreachedKeys_7 ic_iconst_0 ?_
  refine gw_istore_n (lv' := [(3, .int (0 : Int32)), (2, .int (0 : Int32)), (0, .ref hWv), (1, .ref hLg)]) F dX6_findUnreachedKeys_8 (by decide) rfl ?_
  refine gw_lv [2, 3, 1, 0] rfl ?_
  obtain ⟨n_7, hw⟩ := hw
  exact lp_X6_findUnreachedKeys_9 F E n_7 _ _ _ hw
def wp_X6_findUnreachedKeys (Q : Int32 → OV → Prop) (vWv : OV) (vLg : OV) : Prop := wp_X6_findUnreachedKeys_0 Q vLg vWv
theorem ct_X6_findUnreachedKeys {X : List Cond} {l : Launch} {D : va_G} {G : Nat → ClassId} {hWv : Nat} {qWv : Nat → Nat} {hLg : Nat} {qLg : Nat → Nat} {Q : Int32 → OV → Prop} {vWv : OV} {vLg : OV} (hw : wp_X6_findUnreachedKeys Q vWv vLg) : CM X l yX6_findUnreachedKeys wsX6_findUnreachedKeys rm_X6_findUnreachedKeys D G [.ref hWv, .ref hLg] [bWv G hWv qWv vWv, bLg G hLg qLg vLg] 0 0 (po_X6_findUnreachedKeys G hWv qWv hLg qLg vLg Q) :=
  CM.of pn_RX6 rfl rfl (Nat.le_of_ble_eq_true rfl) rfl (fun C F E => lb_X6_findUnreachedKeys_0 F E hw)
-- X0_add
abbrev rm_X0_add : Room := { frames := 1, cells := 0, slots := 0, locals := 60 }
def po_X0_add (G : Nat → ClassId) (hTx : Nat) (qTx : Nat → Nat) (Q : Int32 → OV → Prop) : Option Value → List va_W → Prop := fun o bs => ∃ (r : Int32) (vTx : OV), o = some (.int r) ∧ bs = [bTx G hTx qTx vTx] ∧ Q r vTx
theorem hd_X0_add : yX0_add.cls = RX0 ∧ yX0_add.cls ≠ "java/lang/invoke/MethodHandle" ∧ yX0_add.cls ≠ "java/lang/invoke/VarHandle" ∧ (parseMethodDescriptor yX0_add.desc).map (fun d => d.parameters.length) = some 1 := by decide +kernel
theorem in_X0_add_RX0 : ∀ w ∈ wsX00, w ∈ wsX0_add := fun w h => List.mem_cons_of_mem _ (List.mem_append_left _ (List.mem_append_right _ h))
theorem lk_X0_add_15 : Cond.fieldLink RX0 15 "KeyWaves$CommandText" "length" "I" ∈ wsX0_add := List.mem_cons_of_mem _ (List.mem_append_left _ (List.mem_append_left _ (List.mem_of_getElem? (i := 0) rfl)))
theorem lk_X0_add_9 : Cond.fieldLink RX0 9 "KeyWaves$CommandText" "signs" "[C" ∈ wsX0_add := List.mem_cons_of_mem _ (List.mem_append_left _ (List.mem_append_left _ (List.mem_of_getElem? (i := 1) rfl)))
def wp_X0_add_16 (Q : Int32 → OV → Prop) (vTx : OV) : Prop :=
  (Q (0 : Int32) vTx)
set_option maxRecDepth 20000 in
theorem lb_X0_add_16 {X : List Cond} {l : Launch} {D : va_G} {G : Nat → ClassId} {C : Cx} {bs0 : List va_W} {hTx : Nat} {qTx : Nat → Nat} {Q : Int32 → OV → Prop} (F : GF C X cX0_add wsX0_add RX0 rm_X0_add 2 (some .boolean) D G l) (E : GE C bs0 0 0 (po_X0_add G hTx qTx Q)) {vTx : OV} (hw : wp_X0_add_16 Q vTx) : GW C 0 0 [bTx G hTx qTx vTx] 16 [] [] := by
  unfold wp_X0_add_16 at hw
  refine gw_iconst (v := (0 : Int32)) F dX0_add_16 ic_iconst_0 ?_
  exact gw_iret F E rfl rfl (Nat.le_of_ble_eq_true rfl) (Nat.le_of_ble_eq_true rfl) dX0_add_17 ⟨_, _, rfl, rfl, hw⟩
def wp_X0_add_0 (Q : Int32 → OV → Prop) (x1 : Int32) (vTx : OV) : Prop :=
  (((vTx.2 1) < 0 → (wp_X0_add_16 Q vTx)) ∧ (¬ ((vTx.2 1) < 0) → (((vTx.2 1) < (60 : Int32) → (vp_in (vTx.2 1) 60 ∧ ∀ v_3 : OV, v_3 = sA vTx 0 (vTx.2 1).toNatClampNeg (vp_nar .char x1) → (∀ v_5 : OV, v_5 = sI v_3 1 ((v_3.2 1) + (1 : Int32)) → (Q (1 : Int32) v_5)))) ∧ (¬ ((vTx.2 1) < (60 : Int32)) → (wp_X0_add_16 Q vTx)))))
set_option maxRecDepth 20000 in
theorem lb_X0_add_0 {X : List Cond} {l : Launch} {D : va_G} {G : Nat → ClassId} {C : Cx} {bs0 : List va_W} {hTx : Nat} {qTx : Nat → Nat} {Q : Int32 → OV → Prop} (F : GF C X cX0_add wsX0_add RX0 rm_X0_add 2 (some .boolean) D G l) (E : GE C bs0 0 0 (po_X0_add G hTx qTx Q)) {x1 : Int32} {vTx : OV} (hw : wp_X0_add_0 Q x1 vTx) : GW C 0 0 [bTx G hTx qTx vTx] 0 [(0, .ref hTx), (1, .int x1)] [] := by
  unfold wp_X0_add_0 at hw
  refine gw_aload_n F dX0_add_0 0 rfl ?_
  refine gw_get F in_X0_add_RX0 0 rfl rfl 1 (by decide) lk_X0_add_15 rfl dX0_add_1 ?_
  refine gw_if_lt (tgt := 16) F dX0_add_4 (by decide) (fun c_1 => ?_) (fun c_1 => ?_)
  · have hw := hw.1 c_1
    refine gw_lv [] rfl ?_
    exact lb_X0_add_16 F E hw
  · have hw := hw.2 c_1
    refine gw_aload_n F dX0_add_7 0 rfl ?_
    refine gw_get F in_X0_add_RX0 0 rfl rfl 1 (by decide) lk_X0_add_15 rfl dX0_add_8 ?_
    refine gw_bipush (v := (60 : Int32)) F dX0_add_11 ic_bipush_60 ?_
    refine gw_icmp_lt (tgt := 18) F dX0_add_13 (by decide) (fun c_2 => ?_) (fun c_2 => ?_)
    · have hw := hw.1 c_2
      refine gw_aload_n F dX0_add_18 0 rfl ?_
      refine gw_get F in_X0_add_RX0 0 rfl rfl 0 (by decide) lk_X0_add_9 rfl dX0_add_19 ?_
      refine gw_aload_n F dX0_add_22 0 rfl ?_
      refine gw_get F in_X0_add_RX0 0 rfl rfl 1 (by decide) lk_X0_add_15 rfl dX0_add_23 ?_
      refine gw_iload_n F dX0_add_26 1 rfl ?_
      obtain ⟨h_4, hw⟩ := hw
      obtain ⟨v_3, e_v_3⟩ : ∃ z : OV, z = sA vTx 0 (vTx.2 1).toNatClampNeg (vp_nar .char x1) := ⟨_, rfl⟩
      have hw := hw v_3 e_v_3
      refine gw_cast (bs' := [bTx G hTx qTx v_3]) F 1 rfl h_4 dX0_add_27 (by rw [e_v_3]; rfl) ?_
      refine gw_aload_n F dX0_add_28 0 rfl ?_
      refine gw_dup F dX0_add_29 rfl ?_
      refine gw_get F in_X0_add_RX0 0 rfl rfl 1 (by decide) lk_X0_add_15 rfl dX0_add_30 ?_
      refine gw_iconst (v := (1 : Int32)) F dX0_add_33 ic_iconst_1 ?_
      refine gw_iadd F dX0_add_34 ?_
      obtain ⟨v_5, e_v_5⟩ : ∃ z : OV, z = sI v_3 1 ((v_3.2 1) + (1 : Int32)) := ⟨_, rfl⟩
      have hw := hw v_5 e_v_5
      refine gw_put (bs' := [bTx G hTx qTx v_5]) F in_X0_add_RX0 tyX0 tyX0_ok nmX0 0 rfl rfl 1 (by decide) lk_X0_add_15 rfl rfl rfl (Nat.le_of_ble_eq_true rfl) dX0_add_35 (by rw [e_v_5]; rfl) ?_
      refine gw_iconst (v := (1 : Int32)) F dX0_add_38 ic_iconst_1 ?_
      exact gw_iret F E rfl rfl (Nat.le_of_ble_eq_true rfl) (Nat.le_of_ble_eq_true rfl) dX0_add_39 ⟨_, _, rfl, rfl, hw⟩
    · have hw := hw.2 c_2
      refine gw_lv [] rfl ?_
      exact lb_X0_add_16 F E hw
def wp_X0_add (Q : Int32 → OV → Prop) (x1 : Int32) (vTx : OV) : Prop := wp_X0_add_0 Q x1 vTx
theorem ct_X0_add {X : List Cond} {l : Launch} {D : va_G} {G : Nat → ClassId} {hTx : Nat} {qTx : Nat → Nat} {Q : Int32 → OV → Prop} {x1 : Int32} {vTx : OV} (hw : wp_X0_add Q x1 vTx) : CM X l yX0_add wsX0_add rm_X0_add D G [.ref hTx, .int x1] [bTx G hTx qTx vTx] 0 0 (po_X0_add G hTx qTx Q) :=
  CM.of pn_RX0 rfl rfl (Nat.le_of_ble_eq_true rfl) rfl (fun C F E => lb_X0_add_0 F E hw)
-- X0_clear
abbrev rm_X0_clear : Room := { frames := 1, cells := 0, slots := 0, locals := 60 }
def po_X0_clear (G : Nat → ClassId) (hTx : Nat) (qTx : Nat → Nat) (Q : OV → Prop) : Option Value → List va_W → Prop := fun o bs => ∃ (vTx : OV), o = none ∧ bs = [bTx G hTx qTx vTx] ∧ Q vTx
theorem hd_X0_clear : yX0_clear.cls = RX0 ∧ yX0_clear.cls ≠ "java/lang/invoke/MethodHandle" ∧ yX0_clear.cls ≠ "java/lang/invoke/VarHandle" ∧ (parseMethodDescriptor yX0_clear.desc).map (fun d => d.parameters.length) = some 0 := by decide +kernel
theorem in_X0_clear_RX0 : ∀ w ∈ wsX00, w ∈ wsX0_clear := fun w h => List.mem_cons_of_mem _ (List.mem_append_right _ h)
theorem lk_X0_clear_15 : Cond.fieldLink RX0 15 "KeyWaves$CommandText" "length" "I" ∈ wsX0_clear := List.mem_cons_of_mem _ (List.mem_append_left _ (List.mem_of_getElem? (i := 0) rfl))
def wp_X0_clear_0 (Q : OV → Prop) (vTx : OV) : Prop :=
  (∀ v_1 : OV, v_1 = sI vTx 1 (0 : Int32) → (Q v_1))
set_option maxRecDepth 20000 in
theorem lb_X0_clear_0 {X : List Cond} {l : Launch} {D : va_G} {G : Nat → ClassId} {C : Cx} {bs0 : List va_W} {hTx : Nat} {qTx : Nat → Nat} {Q : OV → Prop} (F : GF C X cX0_clear wsX0_clear RX0 rm_X0_clear 1 none D G l) (E : GE C bs0 0 0 (po_X0_clear G hTx qTx Q)) {vTx : OV} (hw : wp_X0_clear_0 Q vTx) : GW C 0 0 [bTx G hTx qTx vTx] 0 [(0, .ref hTx)] [] := by
  unfold wp_X0_clear_0 at hw
  refine gw_aload_n F dX0_clear_0 0 rfl ?_
  refine gw_iconst (v := (0 : Int32)) F dX0_clear_1 ic_iconst_0 ?_
  obtain ⟨v_1, e_v_1⟩ : ∃ z : OV, z = sI vTx 1 (0 : Int32) := ⟨_, rfl⟩
  have hw := hw v_1 e_v_1
  refine gw_put (bs' := [bTx G hTx qTx v_1]) F in_X0_clear_RX0 tyX0 tyX0_ok nmX0 0 rfl rfl 1 (by decide) lk_X0_clear_15 rfl rfl rfl (Nat.le_of_ble_eq_true rfl) dX0_clear_2 (by rw [e_v_1]; rfl) ?_
  exact gw_vret F E rfl (Nat.le_of_ble_eq_true rfl) (Nat.le_of_ble_eq_true rfl) dX0_clear_5 ⟨_, rfl, rfl, hw⟩
def wp_X0_clear (Q : OV → Prop) (vTx : OV) : Prop := wp_X0_clear_0 Q vTx
theorem ct_X0_clear {X : List Cond} {l : Launch} {D : va_G} {G : Nat → ClassId} {hTx : Nat} {qTx : Nat → Nat} {Q : OV → Prop} {vTx : OV} (hw : wp_X0_clear Q vTx) : CM X l yX0_clear wsX0_clear rm_X0_clear D G [.ref hTx] [bTx G hTx qTx vTx] 0 0 (po_X0_clear G hTx qTx Q) :=
  CM.of pn_RX0 rfl rfl (Nat.le_of_ble_eq_true rfl) rfl (fun C F E => lb_X0_clear_0 F E hw)
-- X0_restart
abbrev rm_X0_restart : Room := { frames := 1, cells := 0, slots := 0, locals := 60 }
def po_X0_restart (G : Nat → ClassId) (hTx : Nat) (qTx : Nat → Nat) (Q : OV → Prop) : Option Value → List va_W → Prop := fun o bs => ∃ (vTx : OV), o = none ∧ bs = [bTx G hTx qTx vTx] ∧ Q vTx
theorem hd_X0_restart : yX0_restart.cls = RX0 ∧ yX0_restart.cls ≠ "java/lang/invoke/MethodHandle" ∧ yX0_restart.cls ≠ "java/lang/invoke/VarHandle" ∧ (parseMethodDescriptor yX0_restart.desc).map (fun d => d.parameters.length) = some 0 := by decide +kernel
theorem in_X0_restart_RX0 : ∀ w ∈ wsX00, w ∈ wsX0_restart := fun w h => List.mem_cons_of_mem _ (List.mem_append_right _ h)
theorem lk_X0_restart_19 : Cond.fieldLink RX0 19 "KeyWaves$CommandText" "place" "I" ∈ wsX0_restart := List.mem_cons_of_mem _ (List.mem_append_left _ (List.mem_of_getElem? (i := 0) rfl))
def wp_X0_restart_0 (Q : OV → Prop) (vTx : OV) : Prop :=
  (∀ v_1 : OV, v_1 = sI vTx 2 (0 : Int32) → (Q v_1))
set_option maxRecDepth 20000 in
theorem lb_X0_restart_0 {X : List Cond} {l : Launch} {D : va_G} {G : Nat → ClassId} {C : Cx} {bs0 : List va_W} {hTx : Nat} {qTx : Nat → Nat} {Q : OV → Prop} (F : GF C X cX0_restart wsX0_restart RX0 rm_X0_restart 1 none D G l) (E : GE C bs0 0 0 (po_X0_restart G hTx qTx Q)) {vTx : OV} (hw : wp_X0_restart_0 Q vTx) : GW C 0 0 [bTx G hTx qTx vTx] 0 [(0, .ref hTx)] [] := by
  unfold wp_X0_restart_0 at hw
  refine gw_aload_n F dX0_restart_0 0 rfl ?_
  refine gw_iconst (v := (0 : Int32)) F dX0_restart_1 ic_iconst_0 ?_
  obtain ⟨v_1, e_v_1⟩ : ∃ z : OV, z = sI vTx 2 (0 : Int32) := ⟨_, rfl⟩
  have hw := hw v_1 e_v_1
  refine gw_put (bs' := [bTx G hTx qTx v_1]) F in_X0_restart_RX0 tyX0 tyX0_ok nmX0 0 rfl rfl 2 (by decide) lk_X0_restart_19 rfl rfl rfl (Nat.le_of_ble_eq_true rfl) dX0_restart_2 (by rw [e_v_1]; rfl) ?_
  exact gw_vret F E rfl (Nat.le_of_ble_eq_true rfl) (Nat.le_of_ble_eq_true rfl) dX0_restart_5 ⟨_, rfl, rfl, hw⟩
def wp_X0_restart (Q : OV → Prop) (vTx : OV) : Prop := wp_X0_restart_0 Q vTx
theorem ct_X0_restart {X : List Cond} {l : Launch} {D : va_G} {G : Nat → ClassId} {hTx : Nat} {qTx : Nat → Nat} {Q : OV → Prop} {vTx : OV} (hw : wp_X0_restart Q vTx) : CM X l yX0_restart wsX0_restart rm_X0_restart D G [.ref hTx] [bTx G hTx qTx vTx] 0 0 (po_X0_restart G hTx qTx Q) :=
  CM.of pn_RX0 rfl rfl (Nat.le_of_ble_eq_true rfl) rfl (fun C F E => lb_X0_restart_0 F E hw)
-- X0_signAtPlace
abbrev rm_X0_signAtPlace : Room := { frames := 1, cells := 0, slots := 0, locals := 60 }
def po_X0_signAtPlace (G : Nat → ClassId) (hTx : Nat) (qTx : Nat → Nat) (vTx : OV) (Q : Int32 → Prop) : Option Value → List va_W → Prop := fun o bs => ∃ (r : Int32), o = some (.int r) ∧ bs = [bTx G hTx qTx vTx] ∧ Q r
theorem hd_X0_signAtPlace : yX0_signAtPlace.cls = RX0 ∧ yX0_signAtPlace.cls ≠ "java/lang/invoke/MethodHandle" ∧ yX0_signAtPlace.cls ≠ "java/lang/invoke/VarHandle" ∧ (parseMethodDescriptor yX0_signAtPlace.desc).map (fun d => d.parameters.length) = some 0 := by decide +kernel
theorem in_X0_signAtPlace_RX0 : ∀ w ∈ wsX00, w ∈ wsX0_signAtPlace := fun w h => List.mem_cons_of_mem _ (List.mem_append_left _ (List.mem_append_right _ h))
theorem lk_X0_signAtPlace_19 : Cond.fieldLink RX0 19 "KeyWaves$CommandText" "place" "I" ∈ wsX0_signAtPlace := List.mem_cons_of_mem _ (List.mem_append_left _ (List.mem_append_left _ (List.mem_of_getElem? (i := 0) rfl)))
theorem lk_X0_signAtPlace_15 : Cond.fieldLink RX0 15 "KeyWaves$CommandText" "length" "I" ∈ wsX0_signAtPlace := List.mem_cons_of_mem _ (List.mem_append_left _ (List.mem_append_left _ (List.mem_of_getElem? (i := 1) rfl)))
theorem lk_X0_signAtPlace_9 : Cond.fieldLink RX0 9 "KeyWaves$CommandText" "signs" "[C" ∈ wsX0_signAtPlace := List.mem_cons_of_mem _ (List.mem_append_left _ (List.mem_append_left _ (List.mem_of_getElem? (i := 2) rfl)))
def wp_X0_signAtPlace_40 (Q : Int32 → Prop) (vTx : OV) (s0 : Int32) : Prop :=
  (narrow .char (.int s0) = .int s0 ∧ Q s0)
set_option maxRecDepth 20000 in
theorem lb_X0_signAtPlace_40 {X : List Cond} {l : Launch} {D : va_G} {G : Nat → ClassId} {C : Cx} {bs0 : List va_W} {hTx : Nat} {qTx : Nat → Nat} {Q : Int32 → Prop} {vTx : OV} (F : GF C X cX0_signAtPlace wsX0_signAtPlace RX0 rm_X0_signAtPlace 1 (some .char) D G l) (E : GE C bs0 0 0 (po_X0_signAtPlace G hTx qTx vTx Q)) {s0 : Int32} (hw : wp_X0_signAtPlace_40 Q vTx s0) : GW C 0 0 [bTx G hTx qTx vTx] 40 [] [.int s0] := by
  unfold wp_X0_signAtPlace_40 at hw
  obtain ⟨hn, hw⟩ := hw
  exact gw_iret F E rfl hn (Nat.le_of_ble_eq_true rfl) (Nat.le_of_ble_eq_true rfl) dX0_signAtPlace_40 ⟨_, rfl, rfl, hw⟩
def wp_X0_signAtPlace_39 (Q : Int32 → Prop) (vTx : OV) : Prop :=
  (wp_X0_signAtPlace_40 Q vTx (0 : Int32))
set_option maxRecDepth 20000 in
theorem lb_X0_signAtPlace_39 {X : List Cond} {l : Launch} {D : va_G} {G : Nat → ClassId} {C : Cx} {bs0 : List va_W} {hTx : Nat} {qTx : Nat → Nat} {Q : Int32 → Prop} {vTx : OV} (F : GF C X cX0_signAtPlace wsX0_signAtPlace RX0 rm_X0_signAtPlace 1 (some .char) D G l) (E : GE C bs0 0 0 (po_X0_signAtPlace G hTx qTx vTx Q)) (hw : wp_X0_signAtPlace_39 Q vTx ) : GW C 0 0 [bTx G hTx qTx vTx] 39 [] [] := by
  unfold wp_X0_signAtPlace_39 at hw
  refine gw_iconst (v := (0 : Int32)) F dX0_signAtPlace_39 ic_iconst_0 ?_
  exact lb_X0_signAtPlace_40 F E hw
def wp_X0_signAtPlace_0 (Q : Int32 → Prop) (vTx : OV) : Prop :=
  (((vTx.2 2) < 0 → (wp_X0_signAtPlace_39 Q vTx)) ∧ (¬ ((vTx.2 2) < 0) → (((vTx.2 1) ≤ (vTx.2 2) → (wp_X0_signAtPlace_39 Q vTx)) ∧ (¬ ((vTx.2 1) ≤ (vTx.2 2)) → (((60 : Int32) ≤ (vTx.2 2) → (wp_X0_signAtPlace_39 Q vTx)) ∧ (¬ ((60 : Int32) ≤ (vTx.2 2)) → (vp_in (vTx.2 2) 60 ∧ (wp_X0_signAtPlace_40 Q vTx (vTx.1 0 (vTx.2 2).toNatClampNeg)))))))))
set_option maxRecDepth 20000 in
theorem lb_X0_signAtPlace_0 {X : List Cond} {l : Launch} {D : va_G} {G : Nat → ClassId} {C : Cx} {bs0 : List va_W} {hTx : Nat} {qTx : Nat → Nat} {Q : Int32 → Prop} {vTx : OV} (F : GF C X cX0_signAtPlace wsX0_signAtPlace RX0 rm_X0_signAtPlace 1 (some .char) D G l) (E : GE C bs0 0 0 (po_X0_signAtPlace G hTx qTx vTx Q)) (hw : wp_X0_signAtPlace_0 Q vTx ) : GW C 0 0 [bTx G hTx qTx vTx] 0 [(0, .ref hTx)] [] := by
  unfold wp_X0_signAtPlace_0 at hw
  refine gw_aload_n F dX0_signAtPlace_0 0 rfl ?_
  refine gw_get F in_X0_signAtPlace_RX0 0 rfl rfl 2 (by decide) lk_X0_signAtPlace_19 rfl dX0_signAtPlace_1 ?_
  refine gw_if_lt (tgt := 39) F dX0_signAtPlace_4 (by decide) (fun c_1 => ?_) (fun c_1 => ?_)
  · have hw := hw.1 c_1
    refine gw_lv [] rfl ?_
    exact lb_X0_signAtPlace_39 F E hw
  · have hw := hw.2 c_1
    refine gw_aload_n F dX0_signAtPlace_7 0 rfl ?_
    refine gw_get F in_X0_signAtPlace_RX0 0 rfl rfl 2 (by decide) lk_X0_signAtPlace_19 rfl dX0_signAtPlace_8 ?_
    refine gw_aload_n F dX0_signAtPlace_11 0 rfl ?_
    refine gw_get F in_X0_signAtPlace_RX0 0 rfl rfl 1 (by decide) lk_X0_signAtPlace_15 rfl dX0_signAtPlace_12 ?_
    refine gw_icmp_ge (tgt := 39) F dX0_signAtPlace_15 (by decide) (fun c_2 => ?_) (fun c_2 => ?_)
    · have hw := hw.1 c_2
      refine gw_lv [] rfl ?_
      exact lb_X0_signAtPlace_39 F E hw
    · have hw := hw.2 c_2
      refine gw_aload_n F dX0_signAtPlace_18 0 rfl ?_
      refine gw_get F in_X0_signAtPlace_RX0 0 rfl rfl 2 (by decide) lk_X0_signAtPlace_19 rfl dX0_signAtPlace_19 ?_
      refine gw_bipush (v := (60 : Int32)) F dX0_signAtPlace_22 ic_bipush_60 ?_
      refine gw_icmp_ge (tgt := 39) F dX0_signAtPlace_24 (by decide) (fun c_3 => ?_) (fun c_3 => ?_)
      · have hw := hw.1 c_3
        refine gw_lv [] rfl ?_
        exact lb_X0_signAtPlace_39 F E hw
      · have hw := hw.2 c_3
        refine gw_aload_n F dX0_signAtPlace_27 0 rfl ?_
        refine gw_get F in_X0_signAtPlace_RX0 0 rfl rfl 0 (by decide) lk_X0_signAtPlace_9 rfl dX0_signAtPlace_28 ?_
        refine gw_aload_n F dX0_signAtPlace_31 0 rfl ?_
        refine gw_get F in_X0_signAtPlace_RX0 0 rfl rfl 2 (by decide) lk_X0_signAtPlace_19 rfl dX0_signAtPlace_32 ?_
        obtain ⟨h_4, hw⟩ := hw
        refine gw_cald F 1 rfl h_4 dX0_signAtPlace_35 ?_
        refine gw_goto (tgt := 40) F dX0_signAtPlace_36 (by decide) ?_
        refine gw_lv [] rfl ?_
        exact lb_X0_signAtPlace_40 F E hw
def wp_X0_signAtPlace (Q : Int32 → Prop) (vTx : OV) : Prop := wp_X0_signAtPlace_0 Q vTx
theorem ct_X0_signAtPlace {X : List Cond} {l : Launch} {D : va_G} {G : Nat → ClassId} {hTx : Nat} {qTx : Nat → Nat} {Q : Int32 → Prop} {vTx : OV} (hw : wp_X0_signAtPlace Q vTx) : CM X l yX0_signAtPlace wsX0_signAtPlace rm_X0_signAtPlace D G [.ref hTx] [bTx G hTx qTx vTx] 0 0 (po_X0_signAtPlace G hTx qTx vTx Q) :=
  CM.of pn_RX0 rfl rfl (Nat.le_of_ble_eq_true rfl) rfl (fun C F E => lb_X0_signAtPlace_0 F E hw)
-- X0_readNumber
abbrev rm_X0_readNumber : Room := { frames := 2, cells := 0, slots := 0, locals := 80 }
def po_X0_readNumber (G : Nat → ClassId) (hTx : Nat) (qTx : Nat → Nat) (Q : Int32 → OV → Prop) : Option Value → List va_W → Prop := fun o bs => ∃ (r : Int32) (vTx : OV), o = some (.int r) ∧ bs = [bTx G hTx qTx vTx] ∧ Q r vTx
theorem hd_X0_readNumber : yX0_readNumber.cls = RX0 ∧ yX0_readNumber.cls ≠ "java/lang/invoke/MethodHandle" ∧ yX0_readNumber.cls ≠ "java/lang/invoke/VarHandle" ∧ (parseMethodDescriptor yX0_readNumber.desc).map (fun d => d.parameters.length) = some 1 := by decide +kernel
theorem wd_X0_readNumber_0 : Cond.methodLink RX0 61 Lib.Math.max.name ∈ wsX0_readNumber := List.mem_cons_of_mem _ (List.mem_append_left _ (List.mem_append_left _ (List.mem_of_getElem? (i := 0) rfl)))
theorem wd_X0_readNumber_1 : Cond.static Lib.Math.max.name ∈ wsX0_readNumber := List.mem_cons_of_mem _ (List.mem_append_left _ (List.mem_append_left _ (List.mem_of_getElem? (i := 1) rfl)))
theorem wd_X0_readNumber_2 : Cond.initialized "java/lang/Math" ∈ wsX0_readNumber := List.mem_cons_of_mem _ (List.mem_append_left _ (List.mem_append_left _ (List.mem_of_getElem? (i := 2) rfl)))
theorem wd_X0_readNumber_3 : Cond.code Lib.Math.max.name Lib.Math.max.code 2 (some .int) ∈ wsX0_readNumber := List.mem_cons_of_mem _ (List.mem_append_left _ (List.mem_append_left _ (List.mem_of_getElem? (i := 3) rfl)))
theorem in_X0_readNumber_RX0 : ∀ w ∈ wsX00, w ∈ wsX0_readNumber := fun w h => List.mem_cons_of_mem _ (List.mem_append_left _ (List.mem_append_right _ h))
theorem lk_X0_readNumber_19 : Cond.fieldLink RX0 19 "KeyWaves$CommandText" "place" "I" ∈ wsX0_readNumber := List.mem_cons_of_mem _ (List.mem_append_left _ (List.mem_append_left _ (List.mem_of_getElem? (i := 4) rfl)))
def wp_X0_readNumber_29 (Q : Int32 → OV → Prop) (x2 : Int32) (vTx : OV) : Prop :=
  (Q x2 vTx)
set_option maxRecDepth 20000 in
theorem lb_X0_readNumber_29 {X : List Cond} {l : Launch} {D : va_G} {G : Nat → ClassId} {C : Cx} {bs0 : List va_W} {hTx : Nat} {qTx : Nat → Nat} {Q : Int32 → OV → Prop} (F : GF C X cX0_readNumber wsX0_readNumber RX0 rm_X0_readNumber 5 (some .int) D G l) (E : GE C bs0 0 0 (po_X0_readNumber G hTx qTx Q)) {x2 : Int32} {vTx : OV} (hw : wp_X0_readNumber_29 Q x2 vTx) : GW C 0 0 [bTx G hTx qTx vTx] 29 [(2, .int x2)] [] := by
  unfold wp_X0_readNumber_29 at hw
  refine gw_iload_n F dX0_readNumber_29 0 rfl ?_
  exact gw_iret F E rfl rfl (Nat.le_of_ble_eq_true rfl) (Nat.le_of_ble_eq_true rfl) dX0_readNumber_30 ⟨_, _, rfl, rfl, hw⟩
def wp_X0_readNumber_4 (Q : Int32 → OV → Prop) (K4 : Int32 → Int32 → Int32 → OV → Prop) (x1 x2 x3 : Int32) (vTx : OV) : Prop :=
  ((x1 ≤ x3 → (Q x2 vTx)) ∧ (¬ (x1 ≤ x3) → (wp_X0_signAtPlace (fun (r_2 : Int32) => ((r_2 < (48 : Int32) → (wp_X0_readNumber_29 Q x2 vTx)) ∧ (¬ (r_2 < (48 : Int32)) → ((r_2 ≤ (57 : Int32) → (∀ i_5 : Int32, i_5 = (((if x2 < (0 : Int32) then (0 : Int32) else x2) * (10 : Int32)) + (r_2 - (48 : Int32))) → (∀ v_6 : OV, v_6 = sI vTx 2 ((vTx.2 2) + (1 : Int32)) → (∀ i_7 : Int32, i_7 = x3 + (1 : Int32) → (K4 x1 i_5 i_7 v_6))))) ∧ (¬ (r_2 ≤ (57 : Int32)) → (wp_X0_readNumber_29 Q x2 vTx)))))) vTx)))
set_option maxRecDepth 20000 in
theorem lb_X0_readNumber_4 {X : List Cond} {l : Launch} {D : va_G} {G : Nat → ClassId} {C : Cx} {bs0 : List va_W} {hTx : Nat} {qTx : Nat → Nat} {Q : Int32 → OV → Prop} {K4 : Int32 → Int32 → Int32 → OV → Prop} (F : GF C X cX0_readNumber wsX0_readNumber RX0 rm_X0_readNumber 5 (some .int) D G l) (E : GE C bs0 0 0 (po_X0_readNumber G hTx qTx Q)) (hK4 : ∀ (x1 x2 x3 : Int32) (vTx : OV), K4 x1 x2 x3 vTx → GW C 0 0 [bTx G hTx qTx vTx] 4 [(0, .ref hTx), (1, .int x1), (2, .int x2), (3, .int x3)] []) {x1 x2 x3 : Int32} {vTx : OV} (hw : wp_X0_readNumber_4 Q K4 x1 x2 x3 vTx) : GW C 0 0 [bTx G hTx qTx vTx] 4 [(0, .ref hTx), (1, .int x1), (2, .int x2), (3, .int x3)] [] := by
  unfold wp_X0_readNumber_4 at hw
  refine gw_iload_n F dX0_readNumber_4 3 rfl ?_
  refine gw_iload_n F dX0_readNumber_5 1 rfl ?_
  refine gw_icmp_ge (tgt := 62) F dX0_readNumber_6 (by decide) (fun c_1 => ?_) (fun c_1 => ?_)
  · have hw := hw.1 c_1
    refine gw_iload_n F dX0_readNumber_62 2 rfl ?_
    exact gw_iret F E rfl rfl (Nat.le_of_ble_eq_true rfl) (Nat.le_of_ble_eq_true rfl) dX0_readNumber_63 ⟨_, _, rfl, rfl, hw⟩
  · have hw := hw.2 c_1
    refine gw_aload_n F dX0_readNumber_9 0 rfl ?_
    refine gw_callV F (ct_X0_signAtPlace hw) 0 gX0_readNumber_X0_signAtPlace rfl rfl rfl hd_X0_signAtPlace ⟨(Nat.le_of_ble_eq_true rfl), (Nat.le_of_ble_eq_true rfl)⟩ rfl rfl (Nat.le_of_ble_eq_true rfl) ⟨Nat.zero_le _, Nat.zero_le _⟩ [0] (bsr := []) rfl rfl (q0 := 0) rfl rfl dX0_readNumber_10 ?_
    rintro _ _ ⟨r_2, rfl, rfl, hw⟩
    refine gw_sel [0] (bs' := [bTx G hTx qTx vTx]) rfl rfl ?_
    change GW C 0 0 _ 13 _ [.int r_2]
    refine gw_istore (lv' := [(4, .int r_2), (0, .ref hTx), (1, .int x1), (2, .int x2), (3, .int x3)]) F dX0_readNumber_13 (by decide) rfl ?_
    refine gw_iload F dX0_readNumber_15 0 rfl ?_
    refine gw_bipush (v := (48 : Int32)) F dX0_readNumber_17 ic_bipush_48 ?_
    refine gw_icmp_lt (tgt := 29) F dX0_readNumber_19 (by decide) (fun c_3 => ?_) (fun c_3 => ?_)
    · have hw := hw.1 c_3
      refine gw_lv [3] rfl ?_
      exact lb_X0_readNumber_29 F E hw
    · have hw := hw.2 c_3
      refine gw_iload F dX0_readNumber_22 0 rfl ?_
      refine gw_bipush (v := (57 : Int32)) F dX0_readNumber_24 ic_bipush_57 ?_
      refine gw_icmp_le (tgt := 31) F dX0_readNumber_26 (by decide) (fun c_4 => ?_) (fun c_4 => ?_)
      · have hw := hw.1 c_4
        refine gw_iload_n F dX0_readNumber_31 3 rfl ?_
        refine gw_iconst (v := (0 : Int32)) F dX0_readNumber_32 ic_iconst_0 ?_
        refine gw_max F wd_X0_readNumber_0 wd_X0_readNumber_1 wd_X0_readNumber_2 wd_X0_readNumber_3 (Nat.le_of_ble_eq_true rfl) (Nat.le_of_ble_eq_true rfl) (Nat.zero_le _) (Nat.zero_le _) dX0_readNumber_33 ?_
        refine gw_bipush (v := (10 : Int32)) F dX0_readNumber_36 ic_bipush_10 ?_
        refine gw_imul F dX0_readNumber_38 ?_
        refine gw_iload F dX0_readNumber_39 0 rfl ?_
        refine gw_bipush (v := (48 : Int32)) F dX0_readNumber_41 ic_bipush_48 ?_
        refine gw_isub F dX0_readNumber_43 ?_
        refine gw_iadd F dX0_readNumber_44 ?_
        refine gw_topi (fun i_5 e_i_5 => ?_)
        have hw := hw i_5 e_i_5
        refine gw_istore_n (lv' := [(2, .int i_5), (4, .int r_2), (0, .ref hTx), (1, .int x1), (3, .int x3)]) F dX0_readNumber_45 (by decide) rfl ?_
        refine gw_aload_n F dX0_readNumber_46 2 rfl ?_
        refine gw_dup F dX0_readNumber_47 rfl ?_
        refine gw_get F in_X0_readNumber_RX0 0 rfl rfl 2 (by decide) lk_X0_readNumber_19 rfl dX0_readNumber_48 ?_
        refine gw_iconst (v := (1 : Int32)) F dX0_readNumber_51 ic_iconst_1 ?_
        refine gw_iadd F dX0_readNumber_52 ?_
        obtain ⟨v_6, e_v_6⟩ : ∃ z : OV, z = sI vTx 2 ((vTx.2 2) + (1 : Int32)) := ⟨_, rfl⟩
        have hw := hw v_6 e_v_6
        refine gw_put (bs' := [bTx G hTx qTx v_6]) F in_X0_readNumber_RX0 tyX0 tyX0_ok nmX0 0 rfl rfl 2 (by decide) lk_X0_readNumber_19 rfl rfl rfl (Nat.le_of_ble_eq_true rfl) dX0_readNumber_53 (by rw [e_v_6]; rfl) ?_
        obtain ⟨i_7, e_i_7⟩ : ∃ z : Int32, z = x3 + (1 : Int32) := ⟨_, rfl⟩
        have hw := hw i_7 e_i_7
        refine gw_iinc (v := i_7) (lv' := [(3, .int i_7), (2, .int i_5), (4, .int r_2), (0, .ref hTx), (1, .int x1)]) F dX0_readNumber_56 4 rfl (by rw [e_i_7]; rfl) (by decide) rfl ?_
        refine gw_goto (tgt := 4) F dX0_readNumber_59 (by decide) ?_
        refine gw_lv [3, 4, 1, 0] rfl ?_
        exact hK4 _ _ _ _ hw
      · have hw := hw.2 c_4
        refine gw_lv [3] rfl ?_
        exact lb_X0_readNumber_29 F E hw
def wp_X0_readNumber_4_loop (Q : Int32 → OV → Prop) : Nat → Int32 → Int32 → Int32 → OV → Prop
  | 0, _, _, _, _ => False
  | n + 1, x1, x2, x3, vTx => wp_X0_readNumber_4 Q (wp_X0_readNumber_4_loop Q n) x1 x2 x3 vTx
theorem lp_X0_readNumber_4 {X : List Cond} {l : Launch} {D : va_G} {G : Nat → ClassId} {C : Cx} {bs0 : List va_W} {hTx : Nat} {qTx : Nat → Nat} {Q : Int32 → OV → Prop} (F : GF C X cX0_readNumber wsX0_readNumber RX0 rm_X0_readNumber 5 (some .int) D G l) (E : GE C bs0 0 0 (po_X0_readNumber G hTx qTx Q)) : ∀ (n : Nat) (x1 x2 x3 : Int32) (vTx : OV), wp_X0_readNumber_4_loop Q n x1 x2 x3 vTx → GW C 0 0 [bTx G hTx qTx vTx] 4 [(0, .ref hTx), (1, .int x1), (2, .int x2), (3, .int x3)] [] := by
  intro n
  induction n with
  | zero => intro x1 x2 x3 vTx hw; exact False.elim hw
  | succ n ih => intro x1 x2 x3 vTx hw; exact lb_X0_readNumber_4 (K4 := wp_X0_readNumber_4_loop Q n) F E ih hw
def wp_X0_readNumber_0 (Q : Int32 → OV → Prop) (x1 : Int32) (vTx : OV) : Prop :=
  (∃ n_8 : Nat, wp_X0_readNumber_4_loop Q n_8 x1 (-1 : Int32) (0 : Int32) vTx)
set_option maxRecDepth 20000 in
theorem lb_X0_readNumber_0 {X : List Cond} {l : Launch} {D : va_G} {G : Nat → ClassId} {C : Cx} {bs0 : List va_W} {hTx : Nat} {qTx : Nat → Nat} {Q : Int32 → OV → Prop} (F : GF C X cX0_readNumber wsX0_readNumber RX0 rm_X0_readNumber 5 (some .int) D G l) (E : GE C bs0 0 0 (po_X0_readNumber G hTx qTx Q)) {x1 : Int32} {vTx : OV} (hw : wp_X0_readNumber_0 Q x1 vTx) : GW C 0 0 [bTx G hTx qTx vTx] 0 [(0, .ref hTx), (1, .int x1)] [] := by
  unfold wp_X0_readNumber_0 at hw
  refine gw_iconst (v := (-1 : Int32)) F dX0_readNumber_0 ic_iconst_m1 ?_
  refine gw_istore_n (lv' := [(2, .int (-1 : Int32)), (0, .ref hTx), (1, .int x1)]) F dX0_readNumber_1 (by decide) rfl ?_
  refine gw_iconst (v := (0 : Int32)) F dX0_readNumber_2 ic_iconst_0 ?_
  refine gw_istore_n (lv' := [(3, .int (0 : Int32)), (2, .int (-1 : Int32)), (0, .ref hTx), (1, .int x1)]) F dX0_readNumber_3 (by decide) rfl ?_
  refine gw_lv [2, 3, 1, 0] rfl ?_
  obtain ⟨n_8, hw⟩ := hw
  exact lp_X0_readNumber_4 F E n_8 _ _ _ _ hw
def wp_X0_readNumber (Q : Int32 → OV → Prop) (x1 : Int32) (vTx : OV) : Prop := wp_X0_readNumber_0 Q x1 vTx
theorem ct_X0_readNumber {X : List Cond} {l : Launch} {D : va_G} {G : Nat → ClassId} {hTx : Nat} {qTx : Nat → Nat} {Q : Int32 → OV → Prop} {x1 : Int32} {vTx : OV} (hw : wp_X0_readNumber Q x1 vTx) : CM X l yX0_readNumber wsX0_readNumber rm_X0_readNumber D G [.ref hTx, .int x1] [bTx G hTx qTx vTx] 0 0 (po_X0_readNumber G hTx qTx Q) :=
  CM.of pn_RX0 rfl rfl (Nat.le_of_ble_eq_true rfl) rfl (fun C F E => lb_X0_readNumber_0 F E hw)
-- X0_readFirst
abbrev rm_X0_readFirst : Room := { frames := 3, cells := 0, slots := 0, locals := 104 }
def po_X0_readFirst (G : Nat → ClassId) (hTx : Nat) (qTx : Nat → Nat) (Q : Int32 → OV → Prop) : Option Value → List va_W → Prop := fun o bs => ∃ (r : Int32) (vTx : OV), o = some (.int r) ∧ bs = [bTx G hTx qTx vTx] ∧ Q r vTx
theorem hd_X0_readFirst : yX0_readFirst.cls = RX0 ∧ yX0_readFirst.cls ≠ "java/lang/invoke/MethodHandle" ∧ yX0_readFirst.cls ≠ "java/lang/invoke/VarHandle" ∧ (parseMethodDescriptor yX0_readFirst.desc).map (fun d => d.parameters.length) = some 1 := by decide +kernel
theorem in_X0_readFirst_RX0 : ∀ w ∈ wsX00, w ∈ wsX0_readFirst := fun w h => List.mem_cons_of_mem _ (List.mem_append_left _ (List.mem_append_right _ h))
theorem lk_X0_readFirst_29 : Cond.fieldLink RX0 29 "KeyWaves$CommandText" "first" "I" ∈ wsX0_readFirst := List.mem_cons_of_mem _ (List.mem_append_left _ (List.mem_append_left _ (List.mem_of_getElem? (i := 0) rfl)))
def wp_X0_readFirst_22 (Q : Int32 → OV → Prop) (s0 : Int32) (vTx : OV) : Prop :=
  (narrow .boolean (.int s0) = .int s0 ∧ Q s0 vTx)
set_option maxRecDepth 20000 in
theorem lb_X0_readFirst_22 {X : List Cond} {l : Launch} {D : va_G} {G : Nat → ClassId} {C : Cx} {bs0 : List va_W} {hTx : Nat} {qTx : Nat → Nat} {Q : Int32 → OV → Prop} (F : GF C X cX0_readFirst wsX0_readFirst RX0 rm_X0_readFirst 2 (some .boolean) D G l) (E : GE C bs0 0 0 (po_X0_readFirst G hTx qTx Q)) {s0 : Int32} {vTx : OV} (hw : wp_X0_readFirst_22 Q s0 vTx) : GW C 0 0 [bTx G hTx qTx vTx] 22 [] [.int s0] := by
  unfold wp_X0_readFirst_22 at hw
  obtain ⟨hn, hw⟩ := hw
  exact gw_iret F E rfl hn (Nat.le_of_ble_eq_true rfl) (Nat.le_of_ble_eq_true rfl) dX0_readFirst_22 ⟨_, _, rfl, rfl, hw⟩
def wp_X0_readFirst_0 (Q : Int32 → OV → Prop) (x1 : Int32) (vTx : OV) : Prop :=
  (wp_X0_readNumber (fun (r_1 : Int32) (v_2 : OV) => (∀ v_3 : OV, v_3 = sI v_2 5 r_1 → (((v_3.2 5) = (-1 : Int32) → (wp_X0_readFirst_22 Q (0 : Int32) v_3)) ∧ (¬ ((v_3.2 5) = (-1 : Int32)) → (wp_X0_readFirst_22 Q (1 : Int32) v_3))))) x1 vTx)
set_option maxRecDepth 20000 in
theorem lb_X0_readFirst_0 {X : List Cond} {l : Launch} {D : va_G} {G : Nat → ClassId} {C : Cx} {bs0 : List va_W} {hTx : Nat} {qTx : Nat → Nat} {Q : Int32 → OV → Prop} (F : GF C X cX0_readFirst wsX0_readFirst RX0 rm_X0_readFirst 2 (some .boolean) D G l) (E : GE C bs0 0 0 (po_X0_readFirst G hTx qTx Q)) {x1 : Int32} {vTx : OV} (hw : wp_X0_readFirst_0 Q x1 vTx) : GW C 0 0 [bTx G hTx qTx vTx] 0 [(0, .ref hTx), (1, .int x1)] [] := by
  unfold wp_X0_readFirst_0 at hw
  refine gw_aload_n F dX0_readFirst_0 0 rfl ?_
  refine gw_aload_n F dX0_readFirst_1 0 rfl ?_
  refine gw_iload_n F dX0_readFirst_2 1 rfl ?_
  refine gw_callV F (ct_X0_readNumber hw) 1 gX0_readFirst_X0_readNumber rfl rfl rfl hd_X0_readNumber ⟨(Nat.le_of_ble_eq_true rfl), (Nat.le_of_ble_eq_true rfl)⟩ rfl rfl (Nat.le_of_ble_eq_true rfl) ⟨Nat.zero_le _, Nat.zero_le _⟩ [0] (bsr := []) rfl rfl (q0 := 0) rfl rfl dX0_readFirst_3 ?_
  rintro _ _ ⟨r_1, v_2, rfl, rfl, hw⟩
  refine gw_sel [0] (bs' := [bTx G hTx qTx v_2]) rfl rfl ?_
  change GW C 0 0 _ 6 _ [.int r_1, .ref hTx]
  obtain ⟨v_3, e_v_3⟩ : ∃ z : OV, z = sI v_2 5 r_1 := ⟨_, rfl⟩
  have hw := hw v_3 e_v_3
  refine gw_put (bs' := [bTx G hTx qTx v_3]) F in_X0_readFirst_RX0 tyX0 tyX0_ok nmX0 0 rfl rfl 5 (by decide) lk_X0_readFirst_29 rfl rfl rfl (Nat.le_of_ble_eq_true rfl) dX0_readFirst_6 (by rw [e_v_3]; rfl) ?_
  refine gw_aload_n F dX0_readFirst_9 0 rfl ?_
  refine gw_get F in_X0_readFirst_RX0 0 rfl rfl 5 (by decide) lk_X0_readFirst_29 rfl dX0_readFirst_10 ?_
  refine gw_iconst (v := (-1 : Int32)) F dX0_readFirst_13 ic_iconst_m1 ?_
  refine gw_icmp_eq (tgt := 21) F dX0_readFirst_14 (by decide) (fun c_4 => ?_) (fun c_4 => ?_)
  · have hw := hw.1 c_4
    refine gw_iconst (v := (0 : Int32)) F dX0_readFirst_21 ic_iconst_0 ?_
    refine gw_lv [] rfl ?_
    exact lb_X0_readFirst_22 F E hw
  · have hw := hw.2 c_4
    refine gw_iconst (v := (1 : Int32)) F dX0_readFirst_17 ic_iconst_1 ?_
    refine gw_goto (tgt := 22) F dX0_readFirst_18 (by decide) ?_
    refine gw_lv [] rfl ?_
    exact lb_X0_readFirst_22 F E hw
def wp_X0_readFirst (Q : Int32 → OV → Prop) (x1 : Int32) (vTx : OV) : Prop := wp_X0_readFirst_0 Q x1 vTx
theorem ct_X0_readFirst {X : List Cond} {l : Launch} {D : va_G} {G : Nat → ClassId} {hTx : Nat} {qTx : Nat → Nat} {Q : Int32 → OV → Prop} {x1 : Int32} {vTx : OV} (hw : wp_X0_readFirst Q x1 vTx) : CM X l yX0_readFirst wsX0_readFirst rm_X0_readFirst D G [.ref hTx, .int x1] [bTx G hTx qTx vTx] 0 0 (po_X0_readFirst G hTx qTx Q) :=
  CM.of pn_RX0 rfl rfl (Nat.le_of_ble_eq_true rfl) rfl (fun C F E => lb_X0_readFirst_0 F E hw)
-- X0_readSecond
abbrev rm_X0_readSecond : Room := { frames := 3, cells := 0, slots := 0, locals := 104 }
def po_X0_readSecond (G : Nat → ClassId) (hTx : Nat) (qTx : Nat → Nat) (Q : Int32 → OV → Prop) : Option Value → List va_W → Prop := fun o bs => ∃ (r : Int32) (vTx : OV), o = some (.int r) ∧ bs = [bTx G hTx qTx vTx] ∧ Q r vTx
theorem hd_X0_readSecond : yX0_readSecond.cls = RX0 ∧ yX0_readSecond.cls ≠ "java/lang/invoke/MethodHandle" ∧ yX0_readSecond.cls ≠ "java/lang/invoke/VarHandle" ∧ (parseMethodDescriptor yX0_readSecond.desc).map (fun d => d.parameters.length) = some 1 := by decide +kernel
theorem in_X0_readSecond_RX0 : ∀ w ∈ wsX00, w ∈ wsX0_readSecond := fun w h => List.mem_cons_of_mem _ (List.mem_append_left _ (List.mem_append_right _ h))
theorem lk_X0_readSecond_32 : Cond.fieldLink RX0 32 "KeyWaves$CommandText" "second" "I" ∈ wsX0_readSecond := List.mem_cons_of_mem _ (List.mem_append_left _ (List.mem_append_left _ (List.mem_of_getElem? (i := 0) rfl)))
def wp_X0_readSecond_22 (Q : Int32 → OV → Prop) (s0 : Int32) (vTx : OV) : Prop :=
  (narrow .boolean (.int s0) = .int s0 ∧ Q s0 vTx)
set_option maxRecDepth 20000 in
theorem lb_X0_readSecond_22 {X : List Cond} {l : Launch} {D : va_G} {G : Nat → ClassId} {C : Cx} {bs0 : List va_W} {hTx : Nat} {qTx : Nat → Nat} {Q : Int32 → OV → Prop} (F : GF C X cX0_readSecond wsX0_readSecond RX0 rm_X0_readSecond 2 (some .boolean) D G l) (E : GE C bs0 0 0 (po_X0_readSecond G hTx qTx Q)) {s0 : Int32} {vTx : OV} (hw : wp_X0_readSecond_22 Q s0 vTx) : GW C 0 0 [bTx G hTx qTx vTx] 22 [] [.int s0] := by
  unfold wp_X0_readSecond_22 at hw
  obtain ⟨hn, hw⟩ := hw
  exact gw_iret F E rfl hn (Nat.le_of_ble_eq_true rfl) (Nat.le_of_ble_eq_true rfl) dX0_readSecond_22 ⟨_, _, rfl, rfl, hw⟩
def wp_X0_readSecond_0 (Q : Int32 → OV → Prop) (x1 : Int32) (vTx : OV) : Prop :=
  (wp_X0_readNumber (fun (r_1 : Int32) (v_2 : OV) => (∀ v_3 : OV, v_3 = sI v_2 6 r_1 → (((v_3.2 6) = (-1 : Int32) → (wp_X0_readSecond_22 Q (0 : Int32) v_3)) ∧ (¬ ((v_3.2 6) = (-1 : Int32)) → (wp_X0_readSecond_22 Q (1 : Int32) v_3))))) x1 vTx)
set_option maxRecDepth 20000 in
theorem lb_X0_readSecond_0 {X : List Cond} {l : Launch} {D : va_G} {G : Nat → ClassId} {C : Cx} {bs0 : List va_W} {hTx : Nat} {qTx : Nat → Nat} {Q : Int32 → OV → Prop} (F : GF C X cX0_readSecond wsX0_readSecond RX0 rm_X0_readSecond 2 (some .boolean) D G l) (E : GE C bs0 0 0 (po_X0_readSecond G hTx qTx Q)) {x1 : Int32} {vTx : OV} (hw : wp_X0_readSecond_0 Q x1 vTx) : GW C 0 0 [bTx G hTx qTx vTx] 0 [(0, .ref hTx), (1, .int x1)] [] := by
  unfold wp_X0_readSecond_0 at hw
  refine gw_aload_n F dX0_readSecond_0 0 rfl ?_
  refine gw_aload_n F dX0_readSecond_1 0 rfl ?_
  refine gw_iload_n F dX0_readSecond_2 1 rfl ?_
  refine gw_callV F (ct_X0_readNumber hw) 1 gX0_readSecond_X0_readNumber rfl rfl rfl hd_X0_readNumber ⟨(Nat.le_of_ble_eq_true rfl), (Nat.le_of_ble_eq_true rfl)⟩ rfl rfl (Nat.le_of_ble_eq_true rfl) ⟨Nat.zero_le _, Nat.zero_le _⟩ [0] (bsr := []) rfl rfl (q0 := 0) rfl rfl dX0_readSecond_3 ?_
  rintro _ _ ⟨r_1, v_2, rfl, rfl, hw⟩
  refine gw_sel [0] (bs' := [bTx G hTx qTx v_2]) rfl rfl ?_
  change GW C 0 0 _ 6 _ [.int r_1, .ref hTx]
  obtain ⟨v_3, e_v_3⟩ : ∃ z : OV, z = sI v_2 6 r_1 := ⟨_, rfl⟩
  have hw := hw v_3 e_v_3
  refine gw_put (bs' := [bTx G hTx qTx v_3]) F in_X0_readSecond_RX0 tyX0 tyX0_ok nmX0 0 rfl rfl 6 (by decide) lk_X0_readSecond_32 rfl rfl rfl (Nat.le_of_ble_eq_true rfl) dX0_readSecond_6 (by rw [e_v_3]; rfl) ?_
  refine gw_aload_n F dX0_readSecond_9 0 rfl ?_
  refine gw_get F in_X0_readSecond_RX0 0 rfl rfl 6 (by decide) lk_X0_readSecond_32 rfl dX0_readSecond_10 ?_
  refine gw_iconst (v := (-1 : Int32)) F dX0_readSecond_13 ic_iconst_m1 ?_
  refine gw_icmp_eq (tgt := 21) F dX0_readSecond_14 (by decide) (fun c_4 => ?_) (fun c_4 => ?_)
  · have hw := hw.1 c_4
    refine gw_iconst (v := (0 : Int32)) F dX0_readSecond_21 ic_iconst_0 ?_
    refine gw_lv [] rfl ?_
    exact lb_X0_readSecond_22 F E hw
  · have hw := hw.2 c_4
    refine gw_iconst (v := (1 : Int32)) F dX0_readSecond_17 ic_iconst_1 ?_
    refine gw_goto (tgt := 22) F dX0_readSecond_18 (by decide) ?_
    refine gw_lv [] rfl ?_
    exact lb_X0_readSecond_22 F E hw
def wp_X0_readSecond (Q : Int32 → OV → Prop) (x1 : Int32) (vTx : OV) : Prop := wp_X0_readSecond_0 Q x1 vTx
theorem ct_X0_readSecond {X : List Cond} {l : Launch} {D : va_G} {G : Nat → ClassId} {hTx : Nat} {qTx : Nat → Nat} {Q : Int32 → OV → Prop} {x1 : Int32} {vTx : OV} (hw : wp_X0_readSecond Q x1 vTx) : CM X l yX0_readSecond wsX0_readSecond rm_X0_readSecond D G [.ref hTx, .int x1] [bTx G hTx qTx vTx] 0 0 (po_X0_readSecond G hTx qTx Q) :=
  CM.of pn_RX0 rfl rfl (Nat.le_of_ble_eq_true rfl) rfl (fun C F E => lb_X0_readSecond_0 F E hw)
-- X0_readSign
abbrev rm_X0_readSign : Room := { frames := 2, cells := 0, slots := 0, locals := 80 }
def po_X0_readSign (G : Nat → ClassId) (hTx : Nat) (qTx : Nat → Nat) (Q : Int32 → OV → Prop) : Option Value → List va_W → Prop := fun o bs => ∃ (r : Int32) (vTx : OV), o = some (.int r) ∧ bs = [bTx G hTx qTx vTx] ∧ Q r vTx
theorem hd_X0_readSign : yX0_readSign.cls = RX0 ∧ yX0_readSign.cls ≠ "java/lang/invoke/MethodHandle" ∧ yX0_readSign.cls ≠ "java/lang/invoke/VarHandle" ∧ (parseMethodDescriptor yX0_readSign.desc).map (fun d => d.parameters.length) = some 1 := by decide +kernel
theorem in_X0_readSign_RX0 : ∀ w ∈ wsX00, w ∈ wsX0_readSign := fun w h => List.mem_cons_of_mem _ (List.mem_append_left _ (List.mem_append_right _ h))
theorem lk_X0_readSign_19 : Cond.fieldLink RX0 19 "KeyWaves$CommandText" "place" "I" ∈ wsX0_readSign := List.mem_cons_of_mem _ (List.mem_append_left _ (List.mem_append_left _ (List.mem_of_getElem? (i := 0) rfl)))
def wp_X0_readSign_0 (Q : Int32 → OV → Prop) (x1 : Int32) (vTx : OV) : Prop :=
  (wp_X0_signAtPlace (fun (r_1 : Int32) => ((r_1 = x1 → (∀ v_3 : OV, v_3 = sI vTx 2 ((vTx.2 2) + (1 : Int32)) → (Q (1 : Int32) v_3))) ∧ (¬ (r_1 = x1) → (Q (0 : Int32) vTx)))) vTx)
set_option maxRecDepth 20000 in
theorem lb_X0_readSign_0 {X : List Cond} {l : Launch} {D : va_G} {G : Nat → ClassId} {C : Cx} {bs0 : List va_W} {hTx : Nat} {qTx : Nat → Nat} {Q : Int32 → OV → Prop} (F : GF C X cX0_readSign wsX0_readSign RX0 rm_X0_readSign 2 (some .boolean) D G l) (E : GE C bs0 0 0 (po_X0_readSign G hTx qTx Q)) {x1 : Int32} {vTx : OV} (hw : wp_X0_readSign_0 Q x1 vTx) : GW C 0 0 [bTx G hTx qTx vTx] 0 [(0, .ref hTx), (1, .int x1)] [] := by
  unfold wp_X0_readSign_0 at hw
  refine gw_aload_n F dX0_readSign_0 0 rfl ?_
  refine gw_callV F (ct_X0_signAtPlace hw) 0 gX0_readSign_X0_signAtPlace rfl rfl rfl hd_X0_signAtPlace ⟨(Nat.le_of_ble_eq_true rfl), (Nat.le_of_ble_eq_true rfl)⟩ rfl rfl (Nat.le_of_ble_eq_true rfl) ⟨Nat.zero_le _, Nat.zero_le _⟩ [0] (bsr := []) rfl rfl (q0 := 0) rfl rfl dX0_readSign_1 ?_
  rintro _ _ ⟨r_1, rfl, rfl, hw⟩
  refine gw_sel [0] (bs' := [bTx G hTx qTx vTx]) rfl rfl ?_
  change GW C 0 0 _ 4 _ [.int r_1]
  refine gw_iload_n F dX0_readSign_4 1 rfl ?_
  refine gw_icmp_eq (tgt := 10) F dX0_readSign_5 (by decide) (fun c_2 => ?_) (fun c_2 => ?_)
  · have hw := hw.1 c_2
    refine gw_aload_n F dX0_readSign_10 0 rfl ?_
    refine gw_dup F dX0_readSign_11 rfl ?_
    refine gw_get F in_X0_readSign_RX0 0 rfl rfl 2 (by decide) lk_X0_readSign_19 rfl dX0_readSign_12 ?_
    refine gw_iconst (v := (1 : Int32)) F dX0_readSign_15 ic_iconst_1 ?_
    refine gw_iadd F dX0_readSign_16 ?_
    obtain ⟨v_3, e_v_3⟩ : ∃ z : OV, z = sI vTx 2 ((vTx.2 2) + (1 : Int32)) := ⟨_, rfl⟩
    have hw := hw v_3 e_v_3
    refine gw_put (bs' := [bTx G hTx qTx v_3]) F in_X0_readSign_RX0 tyX0 tyX0_ok nmX0 0 rfl rfl 2 (by decide) lk_X0_readSign_19 rfl rfl rfl (Nat.le_of_ble_eq_true rfl) dX0_readSign_17 (by rw [e_v_3]; rfl) ?_
    refine gw_iconst (v := (1 : Int32)) F dX0_readSign_20 ic_iconst_1 ?_
    exact gw_iret F E rfl rfl (Nat.le_of_ble_eq_true rfl) (Nat.le_of_ble_eq_true rfl) dX0_readSign_21 ⟨_, _, rfl, rfl, hw⟩
  · have hw := hw.2 c_2
    refine gw_iconst (v := (0 : Int32)) F dX0_readSign_8 ic_iconst_0 ?_
    exact gw_iret F E rfl rfl (Nat.le_of_ble_eq_true rfl) (Nat.le_of_ble_eq_true rfl) dX0_readSign_9 ⟨_, _, rfl, rfl, hw⟩
def wp_X0_readSign (Q : Int32 → OV → Prop) (x1 : Int32) (vTx : OV) : Prop := wp_X0_readSign_0 Q x1 vTx
theorem ct_X0_readSign {X : List Cond} {l : Launch} {D : va_G} {G : Nat → ClassId} {hTx : Nat} {qTx : Nat → Nat} {Q : Int32 → OV → Prop} {x1 : Int32} {vTx : OV} (hw : wp_X0_readSign Q x1 vTx) : CM X l yX0_readSign wsX0_readSign rm_X0_readSign D G [.ref hTx, .int x1] [bTx G hTx qTx vTx] 0 0 (po_X0_readSign G hTx qTx Q) :=
  CM.of pn_RX0 rfl rfl (Nat.le_of_ble_eq_true rfl) rfl (fun C F E => lb_X0_readSign_0 F E hw)
-- X0_readCommand
abbrev rm_X0_readCommand : Room := { frames := 4, cells := 0, slots := 0, locals := 125 }
def po_X0_readCommand (G : Nat → ClassId) (hTx : Nat) (qTx : Nat → Nat) (Q : Int32 → OV → Prop) : Option Value → List va_W → Prop := fun o bs => ∃ (r : Int32) (vTx : OV), o = some (.int r) ∧ bs = [bTx G hTx qTx vTx] ∧ Q r vTx
theorem hd_X0_readCommand : yX0_readCommand.cls = RX0 ∧ yX0_readCommand.cls ≠ "java/lang/invoke/MethodHandle" ∧ yX0_readCommand.cls ≠ "java/lang/invoke/VarHandle" ∧ (parseMethodDescriptor yX0_readCommand.desc).map (fun d => d.parameters.length) = some 0 := by decide +kernel
theorem in_X0_readCommand_RX0 : ∀ w ∈ wsX00, w ∈ wsX0_readCommand := fun w h => List.mem_cons_of_mem _ (List.mem_append_left _ (List.mem_append_right _ h))
theorem lk_X0_readCommand_25 : Cond.fieldLink RX0 25 "KeyWaves$CommandText" "letter" "C" ∈ wsX0_readCommand := List.mem_cons_of_mem _ (List.mem_append_left _ (List.mem_append_left _ (List.mem_append_left _ (List.mem_of_getElem? (i := 0) rfl))))
theorem lk_X0_readCommand_19 : Cond.fieldLink RX0 19 "KeyWaves$CommandText" "place" "I" ∈ wsX0_readCommand := List.mem_cons_of_mem _ (List.mem_append_left _ (List.mem_append_left _ (List.mem_append_left _ (List.mem_of_getElem? (i := 1) rfl))))
def wp_X0_readCommand_274 (Q : Int32 → OV → Prop) (vTx : OV) : Prop :=
  (Q (0 : Int32) vTx)
set_option maxRecDepth 20000 in
theorem lb_X0_readCommand_274 {X : List Cond} {l : Launch} {D : va_G} {G : Nat → ClassId} {C : Cx} {bs0 : List va_W} {hTx : Nat} {qTx : Nat → Nat} {Q : Int32 → OV → Prop} (F : GF C X cX0_readCommand wsX0_readCommand RX0 rm_X0_readCommand 1 (some .boolean) D G l) (E : GE C bs0 0 0 (po_X0_readCommand G hTx qTx Q)) {vTx : OV} (hw : wp_X0_readCommand_274 Q vTx) : GW C 0 0 [bTx G hTx qTx vTx] 274 [] [] := by
  unfold wp_X0_readCommand_274 at hw
  refine gw_iconst (v := (0 : Int32)) F dX0_readCommand_274 ic_iconst_0 ?_
  exact gw_iret F E rfl rfl (Nat.le_of_ble_eq_true rfl) (Nat.le_of_ble_eq_true rfl) dX0_readCommand_275 ⟨_, _, rfl, rfl, hw⟩
def wp_X0_readCommand_245 (Q : Int32 → OV → Prop) (s0 : Int32) (vTx : OV) : Prop :=
  (narrow .boolean (.int s0) = .int s0 ∧ Q s0 vTx)
set_option maxRecDepth 20000 in
theorem lb_X0_readCommand_245 {X : List Cond} {l : Launch} {D : va_G} {G : Nat → ClassId} {C : Cx} {bs0 : List va_W} {hTx : Nat} {qTx : Nat → Nat} {Q : Int32 → OV → Prop} (F : GF C X cX0_readCommand wsX0_readCommand RX0 rm_X0_readCommand 1 (some .boolean) D G l) (E : GE C bs0 0 0 (po_X0_readCommand G hTx qTx Q)) {s0 : Int32} {vTx : OV} (hw : wp_X0_readCommand_245 Q s0 vTx) : GW C 0 0 [bTx G hTx qTx vTx] 245 [] [.int s0] := by
  unfold wp_X0_readCommand_245 at hw
  obtain ⟨hn, hw⟩ := hw
  exact gw_iret F E rfl hn (Nat.le_of_ble_eq_true rfl) (Nat.le_of_ble_eq_true rfl) dX0_readCommand_245 ⟨_, _, rfl, rfl, hw⟩
def wp_X0_readCommand_244 (Q : Int32 → OV → Prop) (vTx : OV) : Prop :=
  (wp_X0_readCommand_245 Q (0 : Int32) vTx)
set_option maxRecDepth 20000 in
theorem lb_X0_readCommand_244 {X : List Cond} {l : Launch} {D : va_G} {G : Nat → ClassId} {C : Cx} {bs0 : List va_W} {hTx : Nat} {qTx : Nat → Nat} {Q : Int32 → OV → Prop} (F : GF C X cX0_readCommand wsX0_readCommand RX0 rm_X0_readCommand 1 (some .boolean) D G l) (E : GE C bs0 0 0 (po_X0_readCommand G hTx qTx Q)) {vTx : OV} (hw : wp_X0_readCommand_244 Q vTx) : GW C 0 0 [bTx G hTx qTx vTx] 244 [] [] := by
  unfold wp_X0_readCommand_244 at hw
  refine gw_iconst (v := (0 : Int32)) F dX0_readCommand_244 ic_iconst_0 ?_
  exact lb_X0_readCommand_245 F E hw
def wp_X0_readCommand_214 (Q : Int32 → OV → Prop) (vTx : OV) : Prop :=
  (∀ v_4 : OV, v_4 = sI vTx 2 ((vTx.2 2) + (1 : Int32)) → (wp_X0_readFirst (fun (r_5 : Int32) (v_6 : OV) => ((r_5 = 0 → (wp_X0_readCommand_244 Q v_6)) ∧ (¬ (r_5 = 0) → (wp_X0_readSecond (fun (r_8 : Int32) (v_9 : OV) => ((r_8 = 0 → (wp_X0_readCommand_244 Q v_9)) ∧ (¬ (r_8 = 0) → (wp_X0_readCommand_245 Q (1 : Int32) v_9)))) (1 : Int32) v_6)))) (1 : Int32) v_4))
set_option maxRecDepth 20000 in
theorem lb_X0_readCommand_214 {X : List Cond} {l : Launch} {D : va_G} {G : Nat → ClassId} {C : Cx} {bs0 : List va_W} {hTx : Nat} {qTx : Nat → Nat} {Q : Int32 → OV → Prop} (F : GF C X cX0_readCommand wsX0_readCommand RX0 rm_X0_readCommand 1 (some .boolean) D G l) (E : GE C bs0 0 0 (po_X0_readCommand G hTx qTx Q)) {vTx : OV} (hw : wp_X0_readCommand_214 Q vTx) : GW C 0 0 [bTx G hTx qTx vTx] 214 [(0, .ref hTx)] [] := by
  unfold wp_X0_readCommand_214 at hw
  refine gw_aload_n F dX0_readCommand_214 0 rfl ?_
  refine gw_dup F dX0_readCommand_215 rfl ?_
  refine gw_get F in_X0_readCommand_RX0 0 rfl rfl 2 (by decide) lk_X0_readCommand_19 rfl dX0_readCommand_216 ?_
  refine gw_iconst (v := (1 : Int32)) F dX0_readCommand_219 ic_iconst_1 ?_
  refine gw_iadd F dX0_readCommand_220 ?_
  obtain ⟨v_4, e_v_4⟩ : ∃ z : OV, z = sI vTx 2 ((vTx.2 2) + (1 : Int32)) := ⟨_, rfl⟩
  have hw := hw v_4 e_v_4
  refine gw_put (bs' := [bTx G hTx qTx v_4]) F in_X0_readCommand_RX0 tyX0 tyX0_ok nmX0 0 rfl rfl 2 (by decide) lk_X0_readCommand_19 rfl rfl rfl (Nat.le_of_ble_eq_true rfl) dX0_readCommand_221 (by rw [e_v_4]; rfl) ?_
  refine gw_aload_n F dX0_readCommand_224 0 rfl ?_
  refine gw_iconst (v := (1 : Int32)) F dX0_readCommand_225 ic_iconst_1 ?_
  refine gw_callV F (ct_X0_readFirst hw) 1 gX0_readCommand_X0_readFirst rfl rfl rfl hd_X0_readFirst ⟨(Nat.le_of_ble_eq_true rfl), (Nat.le_of_ble_eq_true rfl)⟩ rfl rfl (Nat.le_of_ble_eq_true rfl) ⟨Nat.zero_le _, Nat.zero_le _⟩ [0] (bsr := []) rfl rfl (q0 := 0) rfl rfl dX0_readCommand_226 ?_
  rintro _ _ ⟨r_5, v_6, rfl, rfl, hw⟩
  refine gw_sel [0] (bs' := [bTx G hTx qTx v_6]) rfl rfl ?_
  change GW C 0 0 _ 229 _ [.int r_5]
  refine gw_if_eq (tgt := 244) F dX0_readCommand_229 (by decide) (fun c_7 => ?_) (fun c_7 => ?_)
  · have hw := hw.1 c_7
    refine gw_lv [] rfl ?_
    exact lb_X0_readCommand_244 F E hw
  · have hw := hw.2 c_7
    refine gw_aload_n F dX0_readCommand_232 0 rfl ?_
    refine gw_iconst (v := (1 : Int32)) F dX0_readCommand_233 ic_iconst_1 ?_
    refine gw_callV F (ct_X0_readSecond hw) 1 gX0_readCommand_X0_readSecond rfl rfl rfl hd_X0_readSecond ⟨(Nat.le_of_ble_eq_true rfl), (Nat.le_of_ble_eq_true rfl)⟩ rfl rfl (Nat.le_of_ble_eq_true rfl) ⟨Nat.zero_le _, Nat.zero_le _⟩ [0] (bsr := []) rfl rfl (q0 := 0) rfl rfl dX0_readCommand_234 ?_
    rintro _ _ ⟨r_8, v_9, rfl, rfl, hw⟩
    refine gw_sel [0] (bs' := [bTx G hTx qTx v_9]) rfl rfl ?_
    change GW C 0 0 _ 237 _ [.int r_8]
    refine gw_if_eq (tgt := 244) F dX0_readCommand_237 (by decide) (fun c_10 => ?_) (fun c_10 => ?_)
    · have hw := hw.1 c_10
      refine gw_lv [] rfl ?_
      exact lb_X0_readCommand_244 F E hw
    · have hw := hw.2 c_10
      refine gw_iconst (v := (1 : Int32)) F dX0_readCommand_240 ic_iconst_1 ?_
      refine gw_goto (tgt := 245) F dX0_readCommand_241 (by decide) ?_
      refine gw_lv [] rfl ?_
      exact lb_X0_readCommand_245 F E hw
def wp_X0_readCommand_213 (Q : Int32 → OV → Prop) (s0 : Int32) (vTx : OV) : Prop :=
  (narrow .boolean (.int s0) = .int s0 ∧ Q s0 vTx)
set_option maxRecDepth 20000 in
theorem lb_X0_readCommand_213 {X : List Cond} {l : Launch} {D : va_G} {G : Nat → ClassId} {C : Cx} {bs0 : List va_W} {hTx : Nat} {qTx : Nat → Nat} {Q : Int32 → OV → Prop} (F : GF C X cX0_readCommand wsX0_readCommand RX0 rm_X0_readCommand 1 (some .boolean) D G l) (E : GE C bs0 0 0 (po_X0_readCommand G hTx qTx Q)) {s0 : Int32} {vTx : OV} (hw : wp_X0_readCommand_213 Q s0 vTx) : GW C 0 0 [bTx G hTx qTx vTx] 213 [] [.int s0] := by
  unfold wp_X0_readCommand_213 at hw
  obtain ⟨hn, hw⟩ := hw
  exact gw_iret F E rfl hn (Nat.le_of_ble_eq_true rfl) (Nat.le_of_ble_eq_true rfl) dX0_readCommand_213 ⟨_, _, rfl, rfl, hw⟩
def wp_X0_readCommand_212 (Q : Int32 → OV → Prop) (vTx : OV) : Prop :=
  (wp_X0_readCommand_213 Q (0 : Int32) vTx)
set_option maxRecDepth 20000 in
theorem lb_X0_readCommand_212 {X : List Cond} {l : Launch} {D : va_G} {G : Nat → ClassId} {C : Cx} {bs0 : List va_W} {hTx : Nat} {qTx : Nat → Nat} {Q : Int32 → OV → Prop} (F : GF C X cX0_readCommand wsX0_readCommand RX0 rm_X0_readCommand 1 (some .boolean) D G l) (E : GE C bs0 0 0 (po_X0_readCommand G hTx qTx Q)) {vTx : OV} (hw : wp_X0_readCommand_212 Q vTx) : GW C 0 0 [bTx G hTx qTx vTx] 212 [] [] := by
  unfold wp_X0_readCommand_212 at hw
  refine gw_iconst (v := (0 : Int32)) F dX0_readCommand_212 ic_iconst_0 ?_
  exact lb_X0_readCommand_213 F E hw
def wp_X0_readCommand_156 (Q : Int32 → OV → Prop) (s0 : Int32) (vTx : OV) : Prop :=
  (narrow .boolean (.int s0) = .int s0 ∧ Q s0 vTx)
set_option maxRecDepth 20000 in
theorem lb_X0_readCommand_156 {X : List Cond} {l : Launch} {D : va_G} {G : Nat → ClassId} {C : Cx} {bs0 : List va_W} {hTx : Nat} {qTx : Nat → Nat} {Q : Int32 → OV → Prop} (F : GF C X cX0_readCommand wsX0_readCommand RX0 rm_X0_readCommand 1 (some .boolean) D G l) (E : GE C bs0 0 0 (po_X0_readCommand G hTx qTx Q)) {s0 : Int32} {vTx : OV} (hw : wp_X0_readCommand_156 Q s0 vTx) : GW C 0 0 [bTx G hTx qTx vTx] 156 [] [.int s0] := by
  unfold wp_X0_readCommand_156 at hw
  obtain ⟨hn, hw⟩ := hw
  exact gw_iret F E rfl hn (Nat.le_of_ble_eq_true rfl) (Nat.le_of_ble_eq_true rfl) dX0_readCommand_156 ⟨_, _, rfl, rfl, hw⟩
def wp_X0_readCommand_155 (Q : Int32 → OV → Prop) (vTx : OV) : Prop :=
  (wp_X0_readCommand_156 Q (0 : Int32) vTx)
set_option maxRecDepth 20000 in
theorem lb_X0_readCommand_155 {X : List Cond} {l : Launch} {D : va_G} {G : Nat → ClassId} {C : Cx} {bs0 : List va_W} {hTx : Nat} {qTx : Nat → Nat} {Q : Int32 → OV → Prop} (F : GF C X cX0_readCommand wsX0_readCommand RX0 rm_X0_readCommand 1 (some .boolean) D G l) (E : GE C bs0 0 0 (po_X0_readCommand G hTx qTx Q)) {vTx : OV} (hw : wp_X0_readCommand_155 Q vTx) : GW C 0 0 [bTx G hTx qTx vTx] 155 [] [] := by
  unfold wp_X0_readCommand_155 at hw
  refine gw_iconst (v := (0 : Int32)) F dX0_readCommand_155 ic_iconst_0 ?_
  exact lb_X0_readCommand_156 F E hw
def wp_X0_readCommand_246 (Q : Int32 → OV → Prop) (vTx : OV) : Prop :=
  (∀ v_34 : OV, v_34 = sI vTx 2 ((vTx.2 2) + (1 : Int32)) → (wp_X0_readFirst (fun (r_35 : Int32) (v_36 : OV) => (narrow .boolean (.int r_35) = .int r_35 ∧ Q r_35 v_36)) (1 : Int32) v_34))
set_option maxRecDepth 20000 in
theorem lb_X0_readCommand_246 {X : List Cond} {l : Launch} {D : va_G} {G : Nat → ClassId} {C : Cx} {bs0 : List va_W} {hTx : Nat} {qTx : Nat → Nat} {Q : Int32 → OV → Prop} (F : GF C X cX0_readCommand wsX0_readCommand RX0 rm_X0_readCommand 1 (some .boolean) D G l) (E : GE C bs0 0 0 (po_X0_readCommand G hTx qTx Q)) {vTx : OV} (hw : wp_X0_readCommand_246 Q vTx) : GW C 0 0 [bTx G hTx qTx vTx] 246 [(0, .ref hTx)] [] := by
  unfold wp_X0_readCommand_246 at hw
  refine gw_aload_n F dX0_readCommand_246 0 rfl ?_
  refine gw_dup F dX0_readCommand_247 rfl ?_
  refine gw_get F in_X0_readCommand_RX0 0 rfl rfl 2 (by decide) lk_X0_readCommand_19 rfl dX0_readCommand_248 ?_
  refine gw_iconst (v := (1 : Int32)) F dX0_readCommand_251 ic_iconst_1 ?_
  refine gw_iadd F dX0_readCommand_252 ?_
  obtain ⟨v_34, e_v_34⟩ : ∃ z : OV, z = sI vTx 2 ((vTx.2 2) + (1 : Int32)) := ⟨_, rfl⟩
  have hw := hw v_34 e_v_34
  refine gw_put (bs' := [bTx G hTx qTx v_34]) F in_X0_readCommand_RX0 tyX0 tyX0_ok nmX0 0 rfl rfl 2 (by decide) lk_X0_readCommand_19 rfl rfl rfl (Nat.le_of_ble_eq_true rfl) dX0_readCommand_253 (by rw [e_v_34]; rfl) ?_
  refine gw_aload_n F dX0_readCommand_256 0 rfl ?_
  refine gw_iconst (v := (1 : Int32)) F dX0_readCommand_257 ic_iconst_1 ?_
  refine gw_callV F (ct_X0_readFirst hw) 1 gX0_readCommand_X0_readFirst rfl rfl rfl hd_X0_readFirst ⟨(Nat.le_of_ble_eq_true rfl), (Nat.le_of_ble_eq_true rfl)⟩ rfl rfl (Nat.le_of_ble_eq_true rfl) ⟨Nat.zero_le _, Nat.zero_le _⟩ [0] (bsr := []) rfl rfl (q0 := 0) rfl rfl dX0_readCommand_258 ?_
  rintro _ _ ⟨r_35, v_36, rfl, rfl, hw⟩
  refine gw_sel [0] (bs' := [bTx G hTx qTx v_36]) rfl rfl ?_
  change GW C 0 0 _ 261 _ [.int r_35]
  obtain ⟨hn, hw⟩ := hw
  exact gw_iret F E rfl hn (Nat.le_of_ble_eq_true rfl) (Nat.le_of_ble_eq_true rfl) dX0_readCommand_261 ⟨_, _, rfl, rfl, hw⟩
def wp_X0_readCommand_0 (Q : Int32 → OV → Prop) (vTx : OV) : Prop :=
  (wp_X0_signAtPlace (fun (r_1 : Int32) => (fitC .char r_1 ∧ (∀ v_2 : OV, v_2 = sI vTx 4 r_1 → ((((v_2.2 4)).toInt < 98 ∨ 119 < ((v_2.2 4)).toInt → (wp_X0_readCommand_274 Q v_2)) ∧ (((v_2.2 4)).toInt = 98 → (wp_X0_readCommand_214 Q v_2)) ∧ (((v_2.2 4)).toInt = 99 → (∀ v_11 : OV, v_11 = sI v_2 2 ((v_2.2 2) + (1 : Int32)) → (wp_X0_readFirst (fun (r_12 : Int32) (v_13 : OV) => ((r_12 = 0 → (wp_X0_readCommand_212 Q v_13)) ∧ (¬ (r_12 = 0) → (wp_X0_readSign (fun (r_15 : Int32) (v_16 : OV) => ((r_15 = 0 → (wp_X0_readCommand_212 Q v_16)) ∧ (¬ (r_15 = 0) → (wp_X0_readSecond (fun (r_18 : Int32) (v_19 : OV) => ((r_18 = 0 → (wp_X0_readCommand_212 Q v_19)) ∧ (¬ (r_18 = 0) → (wp_X0_readCommand_213 Q (1 : Int32) v_19)))) (2 : Int32) v_16)))) (47 : Int32) v_13)))) (1 : Int32) v_11))) ∧ (((v_2.2 4)).toInt = 100 → (wp_X0_readCommand_274 Q v_2)) ∧ (((v_2.2 4)).toInt = 101 → (wp_X0_readCommand_274 Q v_2)) ∧ (((v_2.2 4)).toInt = 102 → (wp_X0_readCommand_274 Q v_2)) ∧ (((v_2.2 4)).toInt = 103 → (wp_X0_readCommand_274 Q v_2)) ∧ (((v_2.2 4)).toInt = 104 → (wp_X0_readCommand_274 Q v_2)) ∧ (((v_2.2 4)).toInt = 105 → (wp_X0_readCommand_274 Q v_2)) ∧ (((v_2.2 4)).toInt = 106 → (wp_X0_readCommand_274 Q v_2)) ∧ (((v_2.2 4)).toInt = 107 → (∀ v_21 : OV, v_21 = sI v_2 2 ((v_2.2 2) + (1 : Int32)) → (wp_X0_readFirst (fun (r_22 : Int32) (v_23 : OV) => ((r_22 = 0 → (wp_X0_readCommand_155 Q v_23)) ∧ (¬ (r_22 = 0) → (wp_X0_readSign (fun (r_25 : Int32) (v_26 : OV) => ((r_25 = 0 → (wp_X0_readCommand_155 Q v_26)) ∧ (¬ (r_25 = 0) → (wp_X0_readSecond (fun (r_28 : Int32) (v_29 : OV) => ((r_28 = 0 → (wp_X0_readCommand_155 Q v_29)) ∧ (¬ (r_28 = 0) → (wp_X0_readCommand_156 Q (1 : Int32) v_29)))) (1 : Int32) v_26)))) (47 : Int32) v_23)))) (2 : Int32) v_21))) ∧ (((v_2.2 4)).toInt = 108 → (∀ v_31 : OV, v_31 = sI v_2 2 ((v_2.2 2) + (1 : Int32)) → (wp_X0_readFirst (fun (r_32 : Int32) (v_33 : OV) => (narrow .boolean (.int r_32) = .int r_32 ∧ Q r_32 v_33)) (2 : Int32) v_31))) ∧ (((v_2.2 4)).toInt = 109 → (wp_X0_readCommand_274 Q v_2)) ∧ (((v_2.2 4)).toInt = 110 → (wp_X0_readCommand_274 Q v_2)) ∧ (((v_2.2 4)).toInt = 111 → (wp_X0_readCommand_274 Q v_2)) ∧ (((v_2.2 4)).toInt = 112 → (wp_X0_readCommand_214 Q v_2)) ∧ (((v_2.2 4)).toInt = 113 → (wp_X0_readCommand_274 Q v_2)) ∧ (((v_2.2 4)).toInt = 114 → (wp_X0_readCommand_274 Q v_2)) ∧ (((v_2.2 4)).toInt = 115 → (wp_X0_readCommand_246 Q v_2)) ∧ (((v_2.2 4)).toInt = 116 → (wp_X0_readCommand_246 Q v_2)) ∧ (((v_2.2 4)).toInt = 117 → (wp_X0_readCommand_214 Q v_2)) ∧ (((v_2.2 4)).toInt = 118 → (wp_X0_readCommand_274 Q v_2)) ∧ (((v_2.2 4)).toInt = 119 → (∀ v_37 : OV, v_37 = sI v_2 2 ((v_2.2 2) + (1 : Int32)) → (Q (1 : Int32) v_37))))))) vTx)
set_option maxRecDepth 20000 in
theorem lb_X0_readCommand_0 {X : List Cond} {l : Launch} {D : va_G} {G : Nat → ClassId} {C : Cx} {bs0 : List va_W} {hTx : Nat} {qTx : Nat → Nat} {Q : Int32 → OV → Prop} (F : GF C X cX0_readCommand wsX0_readCommand RX0 rm_X0_readCommand 1 (some .boolean) D G l) (E : GE C bs0 0 0 (po_X0_readCommand G hTx qTx Q)) {vTx : OV} (hw : wp_X0_readCommand_0 Q vTx) : GW C 0 0 [bTx G hTx qTx vTx] 0 [(0, .ref hTx)] [] := by
  unfold wp_X0_readCommand_0 at hw
  refine gw_aload_n F dX0_readCommand_0 0 rfl ?_
  refine gw_aload_n F dX0_readCommand_1 0 rfl ?_
  refine gw_callV F (ct_X0_signAtPlace hw) 0 gX0_readCommand_X0_signAtPlace rfl rfl rfl hd_X0_signAtPlace ⟨(Nat.le_of_ble_eq_true rfl), (Nat.le_of_ble_eq_true rfl)⟩ rfl rfl (Nat.le_of_ble_eq_true rfl) ⟨Nat.zero_le _, Nat.zero_le _⟩ [0] (bsr := []) rfl rfl (q0 := 0) rfl rfl dX0_readCommand_2 ?_
  rintro _ _ ⟨r_1, rfl, rfl, hw⟩
  refine gw_sel [0] (bs' := [bTx G hTx qTx vTx]) rfl rfl ?_
  change GW C 0 0 _ 5 _ [.int r_1, .ref hTx]
  obtain ⟨hfit, hw⟩ := hw
  obtain ⟨v_2, e_v_2⟩ : ∃ z : OV, z = sI vTx 4 r_1 := ⟨_, rfl⟩
  have hw := hw v_2 e_v_2
  refine gw_put (bs' := [bTx G hTx qTx v_2]) F in_X0_readCommand_RX0 tyX0 tyX0_ok nmX0 0 rfl rfl 4 (by decide) lk_X0_readCommand_25 rfl hfit.1 hfit.2 (Nat.le_of_ble_eq_true rfl) dX0_readCommand_5 (by rw [e_v_2]; rfl) ?_
  refine gw_aload_n F dX0_readCommand_8 0 rfl ?_
  refine gw_get F in_X0_readCommand_RX0 0 rfl rfl 4 (by decide) lk_X0_readCommand_25 rfl dX0_readCommand_9 ?_
  rcases tb_98_119 ((v_2.2 4)) with c_3 | c_3 | c_3 | c_3 | c_3 | c_3 | c_3 | c_3 | c_3 | c_3 | c_3 | c_3 | c_3 | c_3 | c_3 | c_3 | c_3 | c_3 | c_3 | c_3 | c_3 | c_3 | c_3
  · have hw := hw.1 c_3
    refine gw_tout (tgt := 274) F dX0_readCommand_12 c_3 (by decide) ?_
    refine gw_lv [] rfl ?_
    exact lb_X0_readCommand_274 F E hw
  · have hw := hw.2.1 c_3
    refine gw_tin (j := 98) (off := 202) (tgt := 214) F dX0_readCommand_12 c_3 (by decide) (by decide) rfl (by decide) ?_
    exact lb_X0_readCommand_214 F E hw
  · have hw := hw.2.2.1 c_3
    refine gw_tin (j := 99) (off := 161) (tgt := 173) F dX0_readCommand_12 c_3 (by decide) (by decide) rfl (by decide) ?_
    refine gw_aload_n F dX0_readCommand_173 0 rfl ?_
    refine gw_dup F dX0_readCommand_174 rfl ?_
    refine gw_get F in_X0_readCommand_RX0 0 rfl rfl 2 (by decide) lk_X0_readCommand_19 rfl dX0_readCommand_175 ?_
    refine gw_iconst (v := (1 : Int32)) F dX0_readCommand_178 ic_iconst_1 ?_
    refine gw_iadd F dX0_readCommand_179 ?_
    obtain ⟨v_11, e_v_11⟩ : ∃ z : OV, z = sI v_2 2 ((v_2.2 2) + (1 : Int32)) := ⟨_, rfl⟩
    have hw := hw v_11 e_v_11
    refine gw_put (bs' := [bTx G hTx qTx v_11]) F in_X0_readCommand_RX0 tyX0 tyX0_ok nmX0 0 rfl rfl 2 (by decide) lk_X0_readCommand_19 rfl rfl rfl (Nat.le_of_ble_eq_true rfl) dX0_readCommand_180 (by rw [e_v_11]; rfl) ?_
    refine gw_aload_n F dX0_readCommand_183 0 rfl ?_
    refine gw_iconst (v := (1 : Int32)) F dX0_readCommand_184 ic_iconst_1 ?_
    refine gw_callV F (ct_X0_readFirst hw) 1 gX0_readCommand_X0_readFirst rfl rfl rfl hd_X0_readFirst ⟨(Nat.le_of_ble_eq_true rfl), (Nat.le_of_ble_eq_true rfl)⟩ rfl rfl (Nat.le_of_ble_eq_true rfl) ⟨Nat.zero_le _, Nat.zero_le _⟩ [0] (bsr := []) rfl rfl (q0 := 0) rfl rfl dX0_readCommand_185 ?_
    rintro _ _ ⟨r_12, v_13, rfl, rfl, hw⟩
    refine gw_sel [0] (bs' := [bTx G hTx qTx v_13]) rfl rfl ?_
    change GW C 0 0 _ 188 _ [.int r_12]
    refine gw_if_eq (tgt := 212) F dX0_readCommand_188 (by decide) (fun c_14 => ?_) (fun c_14 => ?_)
    · have hw := hw.1 c_14
      refine gw_lv [] rfl ?_
      exact lb_X0_readCommand_212 F E hw
    · have hw := hw.2 c_14
      refine gw_aload_n F dX0_readCommand_191 0 rfl ?_
      refine gw_bipush (v := (47 : Int32)) F dX0_readCommand_192 ic_bipush_47 ?_
      refine gw_callV F (ct_X0_readSign hw) 1 gX0_readCommand_X0_readSign rfl rfl rfl hd_X0_readSign ⟨(Nat.le_of_ble_eq_true rfl), (Nat.le_of_ble_eq_true rfl)⟩ rfl rfl (Nat.le_of_ble_eq_true rfl) ⟨Nat.zero_le _, Nat.zero_le _⟩ [0] (bsr := []) rfl rfl (q0 := 0) rfl rfl dX0_readCommand_194 ?_
      rintro _ _ ⟨r_15, v_16, rfl, rfl, hw⟩
      refine gw_sel [0] (bs' := [bTx G hTx qTx v_16]) rfl rfl ?_
      change GW C 0 0 _ 197 _ [.int r_15]
      refine gw_if_eq (tgt := 212) F dX0_readCommand_197 (by decide) (fun c_17 => ?_) (fun c_17 => ?_)
      · have hw := hw.1 c_17
        refine gw_lv [] rfl ?_
        exact lb_X0_readCommand_212 F E hw
      · have hw := hw.2 c_17
        refine gw_aload_n F dX0_readCommand_200 0 rfl ?_
        refine gw_iconst (v := (2 : Int32)) F dX0_readCommand_201 ic_iconst_2 ?_
        refine gw_callV F (ct_X0_readSecond hw) 1 gX0_readCommand_X0_readSecond rfl rfl rfl hd_X0_readSecond ⟨(Nat.le_of_ble_eq_true rfl), (Nat.le_of_ble_eq_true rfl)⟩ rfl rfl (Nat.le_of_ble_eq_true rfl) ⟨Nat.zero_le _, Nat.zero_le _⟩ [0] (bsr := []) rfl rfl (q0 := 0) rfl rfl dX0_readCommand_202 ?_
        rintro _ _ ⟨r_18, v_19, rfl, rfl, hw⟩
        refine gw_sel [0] (bs' := [bTx G hTx qTx v_19]) rfl rfl ?_
        change GW C 0 0 _ 205 _ [.int r_18]
        refine gw_if_eq (tgt := 212) F dX0_readCommand_205 (by decide) (fun c_20 => ?_) (fun c_20 => ?_)
        · have hw := hw.1 c_20
          refine gw_lv [] rfl ?_
          exact lb_X0_readCommand_212 F E hw
        · have hw := hw.2 c_20
          refine gw_iconst (v := (1 : Int32)) F dX0_readCommand_208 ic_iconst_1 ?_
          refine gw_goto (tgt := 213) F dX0_readCommand_209 (by decide) ?_
          refine gw_lv [] rfl ?_
          exact lb_X0_readCommand_213 F E hw
  · have hw := hw.2.2.2.1 c_3
    refine gw_tin (j := 100) (off := 262) (tgt := 274) F dX0_readCommand_12 c_3 (by decide) (by decide) rfl (by decide) ?_
    refine gw_lv [] rfl ?_
    exact lb_X0_readCommand_274 F E hw
  · have hw := hw.2.2.2.2.1 c_3
    refine gw_tin (j := 101) (off := 262) (tgt := 274) F dX0_readCommand_12 c_3 (by decide) (by decide) rfl (by decide) ?_
    refine gw_lv [] rfl ?_
    exact lb_X0_readCommand_274 F E hw
  · have hw := hw.2.2.2.2.2.1 c_3
    refine gw_tin (j := 102) (off := 262) (tgt := 274) F dX0_readCommand_12 c_3 (by decide) (by decide) rfl (by decide) ?_
    refine gw_lv [] rfl ?_
    exact lb_X0_readCommand_274 F E hw
  · have hw := hw.2.2.2.2.2.2.1 c_3
    refine gw_tin (j := 103) (off := 262) (tgt := 274) F dX0_readCommand_12 c_3 (by decide) (by decide) rfl (by decide) ?_
    refine gw_lv [] rfl ?_
    exact lb_X0_readCommand_274 F E hw
  · have hw := hw.2.2.2.2.2.2.2.1 c_3
    refine gw_tin (j := 104) (off := 262) (tgt := 274) F dX0_readCommand_12 c_3 (by decide) (by decide) rfl (by decide) ?_
    refine gw_lv [] rfl ?_
    exact lb_X0_readCommand_274 F E hw
  · have hw := hw.2.2.2.2.2.2.2.2.1 c_3
    refine gw_tin (j := 105) (off := 262) (tgt := 274) F dX0_readCommand_12 c_3 (by decide) (by decide) rfl (by decide) ?_
    refine gw_lv [] rfl ?_
    exact lb_X0_readCommand_274 F E hw
  · have hw := hw.2.2.2.2.2.2.2.2.2.1 c_3
    refine gw_tin (j := 106) (off := 262) (tgt := 274) F dX0_readCommand_12 c_3 (by decide) (by decide) rfl (by decide) ?_
    refine gw_lv [] rfl ?_
    exact lb_X0_readCommand_274 F E hw
  · have hw := hw.2.2.2.2.2.2.2.2.2.2.1 c_3
    refine gw_tin (j := 107) (off := 104) (tgt := 116) F dX0_readCommand_12 c_3 (by decide) (by decide) rfl (by decide) ?_
    refine gw_aload_n F dX0_readCommand_116 0 rfl ?_
    refine gw_dup F dX0_readCommand_117 rfl ?_
    refine gw_get F in_X0_readCommand_RX0 0 rfl rfl 2 (by decide) lk_X0_readCommand_19 rfl dX0_readCommand_118 ?_
    refine gw_iconst (v := (1 : Int32)) F dX0_readCommand_121 ic_iconst_1 ?_
    refine gw_iadd F dX0_readCommand_122 ?_
    obtain ⟨v_21, e_v_21⟩ : ∃ z : OV, z = sI v_2 2 ((v_2.2 2) + (1 : Int32)) := ⟨_, rfl⟩
    have hw := hw v_21 e_v_21
    refine gw_put (bs' := [bTx G hTx qTx v_21]) F in_X0_readCommand_RX0 tyX0 tyX0_ok nmX0 0 rfl rfl 2 (by decide) lk_X0_readCommand_19 rfl rfl rfl (Nat.le_of_ble_eq_true rfl) dX0_readCommand_123 (by rw [e_v_21]; rfl) ?_
    refine gw_aload_n F dX0_readCommand_126 0 rfl ?_
    refine gw_iconst (v := (2 : Int32)) F dX0_readCommand_127 ic_iconst_2 ?_
    refine gw_callV F (ct_X0_readFirst hw) 1 gX0_readCommand_X0_readFirst rfl rfl rfl hd_X0_readFirst ⟨(Nat.le_of_ble_eq_true rfl), (Nat.le_of_ble_eq_true rfl)⟩ rfl rfl (Nat.le_of_ble_eq_true rfl) ⟨Nat.zero_le _, Nat.zero_le _⟩ [0] (bsr := []) rfl rfl (q0 := 0) rfl rfl dX0_readCommand_128 ?_
    rintro _ _ ⟨r_22, v_23, rfl, rfl, hw⟩
    refine gw_sel [0] (bs' := [bTx G hTx qTx v_23]) rfl rfl ?_
    change GW C 0 0 _ 131 _ [.int r_22]
    refine gw_if_eq (tgt := 155) F dX0_readCommand_131 (by decide) (fun c_24 => ?_) (fun c_24 => ?_)
    · have hw := hw.1 c_24
      refine gw_lv [] rfl ?_
      exact lb_X0_readCommand_155 F E hw
    · have hw := hw.2 c_24
      refine gw_aload_n F dX0_readCommand_134 0 rfl ?_
      refine gw_bipush (v := (47 : Int32)) F dX0_readCommand_135 ic_bipush_47 ?_
      refine gw_callV F (ct_X0_readSign hw) 1 gX0_readCommand_X0_readSign rfl rfl rfl hd_X0_readSign ⟨(Nat.le_of_ble_eq_true rfl), (Nat.le_of_ble_eq_true rfl)⟩ rfl rfl (Nat.le_of_ble_eq_true rfl) ⟨Nat.zero_le _, Nat.zero_le _⟩ [0] (bsr := []) rfl rfl (q0 := 0) rfl rfl dX0_readCommand_137 ?_
      rintro _ _ ⟨r_25, v_26, rfl, rfl, hw⟩
      refine gw_sel [0] (bs' := [bTx G hTx qTx v_26]) rfl rfl ?_
      change GW C 0 0 _ 140 _ [.int r_25]
      refine gw_if_eq (tgt := 155) F dX0_readCommand_140 (by decide) (fun c_27 => ?_) (fun c_27 => ?_)
      · have hw := hw.1 c_27
        refine gw_lv [] rfl ?_
        exact lb_X0_readCommand_155 F E hw
      · have hw := hw.2 c_27
        refine gw_aload_n F dX0_readCommand_143 0 rfl ?_
        refine gw_iconst (v := (1 : Int32)) F dX0_readCommand_144 ic_iconst_1 ?_
        refine gw_callV F (ct_X0_readSecond hw) 1 gX0_readCommand_X0_readSecond rfl rfl rfl hd_X0_readSecond ⟨(Nat.le_of_ble_eq_true rfl), (Nat.le_of_ble_eq_true rfl)⟩ rfl rfl (Nat.le_of_ble_eq_true rfl) ⟨Nat.zero_le _, Nat.zero_le _⟩ [0] (bsr := []) rfl rfl (q0 := 0) rfl rfl dX0_readCommand_145 ?_
        rintro _ _ ⟨r_28, v_29, rfl, rfl, hw⟩
        refine gw_sel [0] (bs' := [bTx G hTx qTx v_29]) rfl rfl ?_
        change GW C 0 0 _ 148 _ [.int r_28]
        refine gw_if_eq (tgt := 155) F dX0_readCommand_148 (by decide) (fun c_30 => ?_) (fun c_30 => ?_)
        · have hw := hw.1 c_30
          refine gw_lv [] rfl ?_
          exact lb_X0_readCommand_155 F E hw
        · have hw := hw.2 c_30
          refine gw_iconst (v := (1 : Int32)) F dX0_readCommand_151 ic_iconst_1 ?_
          refine gw_goto (tgt := 156) F dX0_readCommand_152 (by decide) ?_
          refine gw_lv [] rfl ?_
          exact lb_X0_readCommand_156 F E hw
  · have hw := hw.2.2.2.2.2.2.2.2.2.2.2.1 c_3
    refine gw_tin (j := 108) (off := 145) (tgt := 157) F dX0_readCommand_12 c_3 (by decide) (by decide) rfl (by decide) ?_
    refine gw_aload_n F dX0_readCommand_157 0 rfl ?_
    refine gw_dup F dX0_readCommand_158 rfl ?_
    refine gw_get F in_X0_readCommand_RX0 0 rfl rfl 2 (by decide) lk_X0_readCommand_19 rfl dX0_readCommand_159 ?_
    refine gw_iconst (v := (1 : Int32)) F dX0_readCommand_162 ic_iconst_1 ?_
    refine gw_iadd F dX0_readCommand_163 ?_
    obtain ⟨v_31, e_v_31⟩ : ∃ z : OV, z = sI v_2 2 ((v_2.2 2) + (1 : Int32)) := ⟨_, rfl⟩
    have hw := hw v_31 e_v_31
    refine gw_put (bs' := [bTx G hTx qTx v_31]) F in_X0_readCommand_RX0 tyX0 tyX0_ok nmX0 0 rfl rfl 2 (by decide) lk_X0_readCommand_19 rfl rfl rfl (Nat.le_of_ble_eq_true rfl) dX0_readCommand_164 (by rw [e_v_31]; rfl) ?_
    refine gw_aload_n F dX0_readCommand_167 0 rfl ?_
    refine gw_iconst (v := (2 : Int32)) F dX0_readCommand_168 ic_iconst_2 ?_
    refine gw_callV F (ct_X0_readFirst hw) 1 gX0_readCommand_X0_readFirst rfl rfl rfl hd_X0_readFirst ⟨(Nat.le_of_ble_eq_true rfl), (Nat.le_of_ble_eq_true rfl)⟩ rfl rfl (Nat.le_of_ble_eq_true rfl) ⟨Nat.zero_le _, Nat.zero_le _⟩ [0] (bsr := []) rfl rfl (q0 := 0) rfl rfl dX0_readCommand_169 ?_
    rintro _ _ ⟨r_32, v_33, rfl, rfl, hw⟩
    refine gw_sel [0] (bs' := [bTx G hTx qTx v_33]) rfl rfl ?_
    change GW C 0 0 _ 172 _ [.int r_32]
    obtain ⟨hn, hw⟩ := hw
    exact gw_iret F E rfl hn (Nat.le_of_ble_eq_true rfl) (Nat.le_of_ble_eq_true rfl) dX0_readCommand_172 ⟨_, _, rfl, rfl, hw⟩
  · have hw := hw.2.2.2.2.2.2.2.2.2.2.2.2.1 c_3
    refine gw_tin (j := 109) (off := 262) (tgt := 274) F dX0_readCommand_12 c_3 (by decide) (by decide) rfl (by decide) ?_
    refine gw_lv [] rfl ?_
    exact lb_X0_readCommand_274 F E hw
  · have hw := hw.2.2.2.2.2.2.2.2.2.2.2.2.2.1 c_3
    refine gw_tin (j := 110) (off := 262) (tgt := 274) F dX0_readCommand_12 c_3 (by decide) (by decide) rfl (by decide) ?_
    refine gw_lv [] rfl ?_
    exact lb_X0_readCommand_274 F E hw
  · have hw := hw.2.2.2.2.2.2.2.2.2.2.2.2.2.2.1 c_3
    refine gw_tin (j := 111) (off := 262) (tgt := 274) F dX0_readCommand_12 c_3 (by decide) (by decide) rfl (by decide) ?_
    refine gw_lv [] rfl ?_
    exact lb_X0_readCommand_274 F E hw
  · have hw := hw.2.2.2.2.2.2.2.2.2.2.2.2.2.2.2.1 c_3
    refine gw_tin (j := 112) (off := 202) (tgt := 214) F dX0_readCommand_12 c_3 (by decide) (by decide) rfl (by decide) ?_
    exact lb_X0_readCommand_214 F E hw
  · have hw := hw.2.2.2.2.2.2.2.2.2.2.2.2.2.2.2.2.1 c_3
    refine gw_tin (j := 113) (off := 262) (tgt := 274) F dX0_readCommand_12 c_3 (by decide) (by decide) rfl (by decide) ?_
    refine gw_lv [] rfl ?_
    exact lb_X0_readCommand_274 F E hw
  · have hw := hw.2.2.2.2.2.2.2.2.2.2.2.2.2.2.2.2.2.1 c_3
    refine gw_tin (j := 114) (off := 262) (tgt := 274) F dX0_readCommand_12 c_3 (by decide) (by decide) rfl (by decide) ?_
    refine gw_lv [] rfl ?_
    exact lb_X0_readCommand_274 F E hw
  · have hw := hw.2.2.2.2.2.2.2.2.2.2.2.2.2.2.2.2.2.2.1 c_3
    refine gw_tin (j := 115) (off := 234) (tgt := 246) F dX0_readCommand_12 c_3 (by decide) (by decide) rfl (by decide) ?_
    exact lb_X0_readCommand_246 F E hw
  · have hw := hw.2.2.2.2.2.2.2.2.2.2.2.2.2.2.2.2.2.2.2.1 c_3
    refine gw_tin (j := 116) (off := 234) (tgt := 246) F dX0_readCommand_12 c_3 (by decide) (by decide) rfl (by decide) ?_
    exact lb_X0_readCommand_246 F E hw
  · have hw := hw.2.2.2.2.2.2.2.2.2.2.2.2.2.2.2.2.2.2.2.2.1 c_3
    refine gw_tin (j := 117) (off := 202) (tgt := 214) F dX0_readCommand_12 c_3 (by decide) (by decide) rfl (by decide) ?_
    exact lb_X0_readCommand_214 F E hw
  · have hw := hw.2.2.2.2.2.2.2.2.2.2.2.2.2.2.2.2.2.2.2.2.2.1 c_3
    refine gw_tin (j := 118) (off := 262) (tgt := 274) F dX0_readCommand_12 c_3 (by decide) (by decide) rfl (by decide) ?_
    refine gw_lv [] rfl ?_
    exact lb_X0_readCommand_274 F E hw
  · have hw := hw.2.2.2.2.2.2.2.2.2.2.2.2.2.2.2.2.2.2.2.2.2.2 c_3
    refine gw_tin (j := 119) (off := 250) (tgt := 262) F dX0_readCommand_12 c_3 (by decide) (by decide) rfl (by decide) ?_
    refine gw_aload_n F dX0_readCommand_262 0 rfl ?_
    refine gw_dup F dX0_readCommand_263 rfl ?_
    refine gw_get F in_X0_readCommand_RX0 0 rfl rfl 2 (by decide) lk_X0_readCommand_19 rfl dX0_readCommand_264 ?_
    refine gw_iconst (v := (1 : Int32)) F dX0_readCommand_267 ic_iconst_1 ?_
    refine gw_iadd F dX0_readCommand_268 ?_
    obtain ⟨v_37, e_v_37⟩ : ∃ z : OV, z = sI v_2 2 ((v_2.2 2) + (1 : Int32)) := ⟨_, rfl⟩
    have hw := hw v_37 e_v_37
    refine gw_put (bs' := [bTx G hTx qTx v_37]) F in_X0_readCommand_RX0 tyX0 tyX0_ok nmX0 0 rfl rfl 2 (by decide) lk_X0_readCommand_19 rfl rfl rfl (Nat.le_of_ble_eq_true rfl) dX0_readCommand_269 (by rw [e_v_37]; rfl) ?_
    refine gw_iconst (v := (1 : Int32)) F dX0_readCommand_272 ic_iconst_1 ?_
    exact gw_iret F E rfl rfl (Nat.le_of_ble_eq_true rfl) (Nat.le_of_ble_eq_true rfl) dX0_readCommand_273 ⟨_, _, rfl, rfl, hw⟩
def wp_X0_readCommand (Q : Int32 → OV → Prop) (vTx : OV) : Prop := wp_X0_readCommand_0 Q vTx
theorem ct_X0_readCommand {X : List Cond} {l : Launch} {D : va_G} {G : Nat → ClassId} {hTx : Nat} {qTx : Nat → Nat} {Q : Int32 → OV → Prop} {vTx : OV} (hw : wp_X0_readCommand Q vTx) : CM X l yX0_readCommand wsX0_readCommand rm_X0_readCommand D G [.ref hTx] [bTx G hTx qTx vTx] 0 0 (po_X0_readCommand G hTx qTx Q) :=
  CM.of pn_RX0 rfl rfl (Nat.le_of_ble_eq_true rfl) rfl (fun C F E => lb_X0_readCommand_0 F E hw)
-- X0_findFault
abbrev rm_X0_findFault : Room := { frames := 5, cells := 0, slots := 0, locals := 145 }
def po_X0_findFault (G : Nat → ClassId) (hTx : Nat) (qTx : Nat → Nat) (Q : Int32 → OV → Prop) : Option Value → List va_W → Prop := fun o bs => ∃ (r : Int32) (vTx : OV), o = some (.int r) ∧ bs = [bTx G hTx qTx vTx] ∧ Q r vTx
theorem hd_X0_findFault : yX0_findFault.cls = RX0 ∧ yX0_findFault.cls ≠ "java/lang/invoke/MethodHandle" ∧ yX0_findFault.cls ≠ "java/lang/invoke/VarHandle" ∧ (parseMethodDescriptor yX0_findFault.desc).map (fun d => d.parameters.length) = some 0 := by decide +kernel
theorem in_X0_findFault_RX0 : ∀ w ∈ wsX00, w ∈ wsX0_findFault := fun w h => List.mem_cons_of_mem _ (List.mem_append_left _ (List.mem_append_right _ h))
theorem lk_X0_findFault_22 : Cond.fieldLink RX0 22 "KeyWaves$CommandText" "count" "I" ∈ wsX0_findFault := List.mem_cons_of_mem _ (List.mem_append_left _ (List.mem_append_left _ (List.mem_append_left _ (List.mem_of_getElem? (i := 0) rfl))))
theorem lk_X0_findFault_19 : Cond.fieldLink RX0 19 "KeyWaves$CommandText" "place" "I" ∈ wsX0_findFault := List.mem_cons_of_mem _ (List.mem_append_left _ (List.mem_append_left _ (List.mem_append_left _ (List.mem_of_getElem? (i := 1) rfl))))
theorem lk_X0_findFault_15 : Cond.fieldLink RX0 15 "KeyWaves$CommandText" "length" "I" ∈ wsX0_findFault := List.mem_cons_of_mem _ (List.mem_append_left _ (List.mem_append_left _ (List.mem_append_left _ (List.mem_of_getElem? (i := 2) rfl))))
def wp_X0_findFault_9 (Q : Int32 → OV → Prop) (K9 : OV → Prop) (vTx : OV) : Prop :=
  (((60 : Int32) < (vTx.2 3) → (Q (vTx.2 2) vTx)) ∧ (¬ ((60 : Int32) < (vTx.2 3)) → (wp_X0_readCommand (fun (r_4 : Int32) (v_5 : OV) => ((¬ r_4 = 0 → (∀ v_7 : OV, v_7 = sI v_5 3 ((v_5.2 3) + (1 : Int32)) → (((v_7.2 2) < (v_7.2 1) → (wp_X0_readSign (fun (r_9 : Int32) (v_10 : OV) => ((¬ r_9 = 0 → (K9 v_10)) ∧ (r_9 = 0 → (Q (v_10.2 2) v_10)))) (59 : Int32) v_7)) ∧ (¬ ((v_7.2 2) < (v_7.2 1)) → (Q (-1 : Int32) v_7))))) ∧ (r_4 = 0 → (Q (v_5.2 2) v_5)))) vTx)))
set_option maxRecDepth 20000 in
theorem lb_X0_findFault_9 {X : List Cond} {l : Launch} {D : va_G} {G : Nat → ClassId} {C : Cx} {bs0 : List va_W} {hTx : Nat} {qTx : Nat → Nat} {Q : Int32 → OV → Prop} {K9 : OV → Prop} (F : GF C X cX0_findFault wsX0_findFault RX0 rm_X0_findFault 1 (some .int) D G l) (E : GE C bs0 0 0 (po_X0_findFault G hTx qTx Q)) (hK9 : ∀ (vTx : OV), K9 vTx → GW C 0 0 [bTx G hTx qTx vTx] 9 [(0, .ref hTx)] []) {vTx : OV} (hw : wp_X0_findFault_9 Q K9 vTx) : GW C 0 0 [bTx G hTx qTx vTx] 9 [(0, .ref hTx)] [] := by
  unfold wp_X0_findFault_9 at hw
  refine gw_aload_n F dX0_findFault_9 0 rfl ?_
  refine gw_get F in_X0_findFault_RX0 0 rfl rfl 3 (by decide) lk_X0_findFault_22 rfl dX0_findFault_10 ?_
  refine gw_bipush (v := (60 : Int32)) F dX0_findFault_13 ic_bipush_60 ?_
  refine gw_icmp_gt (tgt := 67) F dX0_findFault_15 (by decide) (fun c_3 => ?_) (fun c_3 => ?_)
  · have hw := hw.1 c_3
    refine gw_aload_n F dX0_findFault_67 0 rfl ?_
    refine gw_get F in_X0_findFault_RX0 0 rfl rfl 2 (by decide) lk_X0_findFault_19 rfl dX0_findFault_68 ?_
    exact gw_iret F E rfl rfl (Nat.le_of_ble_eq_true rfl) (Nat.le_of_ble_eq_true rfl) dX0_findFault_71 ⟨_, _, rfl, rfl, hw⟩
  · have hw := hw.2 c_3
    refine gw_aload_n F dX0_findFault_18 0 rfl ?_
    refine gw_callV F (ct_X0_readCommand hw) 0 gX0_findFault_X0_readCommand rfl rfl rfl hd_X0_readCommand ⟨(Nat.le_of_ble_eq_true rfl), (Nat.le_of_ble_eq_true rfl)⟩ rfl rfl (Nat.le_of_ble_eq_true rfl) ⟨Nat.zero_le _, Nat.zero_le _⟩ [0] (bsr := []) rfl rfl (q0 := 0) rfl rfl dX0_findFault_19 ?_
    rintro _ _ ⟨r_4, v_5, rfl, rfl, hw⟩
    refine gw_sel [0] (bs' := [bTx G hTx qTx v_5]) rfl rfl ?_
    change GW C 0 0 _ 22 _ [.int r_4]
    refine gw_if_ne (tgt := 30) F dX0_findFault_22 (by decide) (fun c_6 => ?_) (fun c_6 => ?_)
    · have hw := hw.1 c_6
      refine gw_aload_n F dX0_findFault_30 0 rfl ?_
      refine gw_dup F dX0_findFault_31 rfl ?_
      refine gw_get F in_X0_findFault_RX0 0 rfl rfl 3 (by decide) lk_X0_findFault_22 rfl dX0_findFault_32 ?_
      refine gw_iconst (v := (1 : Int32)) F dX0_findFault_35 ic_iconst_1 ?_
      refine gw_iadd F dX0_findFault_36 ?_
      obtain ⟨v_7, e_v_7⟩ : ∃ z : OV, z = sI v_5 3 ((v_5.2 3) + (1 : Int32)) := ⟨_, rfl⟩
      have hw := hw v_7 e_v_7
      refine gw_put (bs' := [bTx G hTx qTx v_7]) F in_X0_findFault_RX0 tyX0 tyX0_ok nmX0 0 rfl rfl 3 (by decide) lk_X0_findFault_22 rfl rfl rfl (Nat.le_of_ble_eq_true rfl) dX0_findFault_37 (by rw [e_v_7]; rfl) ?_
      refine gw_aload_n F dX0_findFault_40 0 rfl ?_
      refine gw_get F in_X0_findFault_RX0 0 rfl rfl 2 (by decide) lk_X0_findFault_19 rfl dX0_findFault_41 ?_
      refine gw_aload_n F dX0_findFault_44 0 rfl ?_
      refine gw_get F in_X0_findFault_RX0 0 rfl rfl 1 (by decide) lk_X0_findFault_15 rfl dX0_findFault_45 ?_
      refine gw_icmp_lt (tgt := 53) F dX0_findFault_48 (by decide) (fun c_8 => ?_) (fun c_8 => ?_)
      · have hw := hw.1 c_8
        refine gw_aload_n F dX0_findFault_53 0 rfl ?_
        refine gw_bipush (v := (59 : Int32)) F dX0_findFault_54 ic_bipush_59 ?_
        refine gw_callV F (ct_X0_readSign hw) 1 gX0_findFault_X0_readSign rfl rfl rfl hd_X0_readSign ⟨(Nat.le_of_ble_eq_true rfl), (Nat.le_of_ble_eq_true rfl)⟩ rfl rfl (Nat.le_of_ble_eq_true rfl) ⟨Nat.zero_le _, Nat.zero_le _⟩ [0] (bsr := []) rfl rfl (q0 := 0) rfl rfl dX0_findFault_56 ?_
        rintro _ _ ⟨r_9, v_10, rfl, rfl, hw⟩
        refine gw_sel [0] (bs' := [bTx G hTx qTx v_10]) rfl rfl ?_
        change GW C 0 0 _ 59 _ [.int r_9]
        refine gw_if_ne (tgt := 9) F dX0_findFault_59 (by decide) (fun c_11 => ?_) (fun c_11 => ?_)
        · have hw := hw.1 c_11
          exact hK9 _ hw
        · have hw := hw.2 c_11
          refine gw_aload_n F dX0_findFault_62 0 rfl ?_
          refine gw_get F in_X0_findFault_RX0 0 rfl rfl 2 (by decide) lk_X0_findFault_19 rfl dX0_findFault_63 ?_
          exact gw_iret F E rfl rfl (Nat.le_of_ble_eq_true rfl) (Nat.le_of_ble_eq_true rfl) dX0_findFault_66 ⟨_, _, rfl, rfl, hw⟩
      · have hw := hw.2 c_8
        refine gw_iconst (v := (-1 : Int32)) F dX0_findFault_51 ic_iconst_m1 ?_
        exact gw_iret F E rfl rfl (Nat.le_of_ble_eq_true rfl) (Nat.le_of_ble_eq_true rfl) dX0_findFault_52 ⟨_, _, rfl, rfl, hw⟩
    · have hw := hw.2 c_6
      refine gw_aload_n F dX0_findFault_25 0 rfl ?_
      refine gw_get F in_X0_findFault_RX0 0 rfl rfl 2 (by decide) lk_X0_findFault_19 rfl dX0_findFault_26 ?_
      exact gw_iret F E rfl rfl (Nat.le_of_ble_eq_true rfl) (Nat.le_of_ble_eq_true rfl) dX0_findFault_29 ⟨_, _, rfl, rfl, hw⟩
def wp_X0_findFault_9_loop (Q : Int32 → OV → Prop) : Nat → OV → Prop
  | 0, _ => False
  | n + 1, vTx => wp_X0_findFault_9 Q (wp_X0_findFault_9_loop Q n) vTx
theorem lp_X0_findFault_9 {X : List Cond} {l : Launch} {D : va_G} {G : Nat → ClassId} {C : Cx} {bs0 : List va_W} {hTx : Nat} {qTx : Nat → Nat} {Q : Int32 → OV → Prop} (F : GF C X cX0_findFault wsX0_findFault RX0 rm_X0_findFault 1 (some .int) D G l) (E : GE C bs0 0 0 (po_X0_findFault G hTx qTx Q)) : ∀ (n : Nat) (vTx : OV), wp_X0_findFault_9_loop Q n vTx → GW C 0 0 [bTx G hTx qTx vTx] 9 [(0, .ref hTx)] [] := by
  intro n
  induction n with
  | zero => intro vTx hw; exact False.elim hw
  | succ n ih => intro vTx hw; exact lb_X0_findFault_9 (K9 := wp_X0_findFault_9_loop Q n) F E ih hw
def wp_X0_findFault_0 (Q : Int32 → OV → Prop) (vTx : OV) : Prop :=
  (wp_X0_restart (fun (v_1 : OV) => (∀ v_2 : OV, v_2 = sI v_1 3 (0 : Int32) → (∃ n_12 : Nat, wp_X0_findFault_9_loop Q n_12 v_2))) vTx)
set_option maxRecDepth 20000 in
theorem lb_X0_findFault_0 {X : List Cond} {l : Launch} {D : va_G} {G : Nat → ClassId} {C : Cx} {bs0 : List va_W} {hTx : Nat} {qTx : Nat → Nat} {Q : Int32 → OV → Prop} (F : GF C X cX0_findFault wsX0_findFault RX0 rm_X0_findFault 1 (some .int) D G l) (E : GE C bs0 0 0 (po_X0_findFault G hTx qTx Q)) {vTx : OV} (hw : wp_X0_findFault_0 Q vTx) : GW C 0 0 [bTx G hTx qTx vTx] 0 [(0, .ref hTx)] [] := by
  unfold wp_X0_findFault_0 at hw
  refine gw_aload_n F dX0_findFault_0 0 rfl ?_
  refine gw_callV F (ct_X0_restart hw) 0 gX0_findFault_X0_restart rfl rfl rfl hd_X0_restart ⟨(Nat.le_of_ble_eq_true rfl), (Nat.le_of_ble_eq_true rfl)⟩ rfl rfl (Nat.le_of_ble_eq_true rfl) ⟨Nat.zero_le _, Nat.zero_le _⟩ [0] (bsr := []) rfl rfl (q0 := 0) rfl rfl dX0_findFault_1 ?_
  rintro _ _ ⟨v_1, rfl, rfl, hw⟩
  refine gw_sel [0] (bs' := [bTx G hTx qTx v_1]) rfl rfl ?_
  change GW C 0 0 _ 4 _ []
  refine gw_aload_n F dX0_findFault_4 0 rfl ?_
  refine gw_iconst (v := (0 : Int32)) F dX0_findFault_5 ic_iconst_0 ?_
  obtain ⟨v_2, e_v_2⟩ : ∃ z : OV, z = sI v_1 3 (0 : Int32) := ⟨_, rfl⟩
  have hw := hw v_2 e_v_2
  refine gw_put (bs' := [bTx G hTx qTx v_2]) F in_X0_findFault_RX0 tyX0 tyX0_ok nmX0 0 rfl rfl 3 (by decide) lk_X0_findFault_22 rfl rfl rfl (Nat.le_of_ble_eq_true rfl) dX0_findFault_6 (by rw [e_v_2]; rfl) ?_
  obtain ⟨n_12, hw⟩ := hw
  exact lp_X0_findFault_9 F E n_12 _ hw
def wp_X0_findFault (Q : Int32 → OV → Prop) (vTx : OV) : Prop := wp_X0_findFault_0 Q vTx
theorem ct_X0_findFault {X : List Cond} {l : Launch} {D : va_G} {G : Nat → ClassId} {hTx : Nat} {qTx : Nat → Nat} {Q : Int32 → OV → Prop} {vTx : OV} (hw : wp_X0_findFault Q vTx) : CM X l yX0_findFault wsX0_findFault rm_X0_findFault D G [.ref hTx] [bTx G hTx qTx vTx] 0 0 (po_X0_findFault G hTx qTx Q) :=
  CM.of pn_RX0 rfl rfl (Nat.le_of_ble_eq_true rfl) rfl (fun C F E => lb_X0_findFault_0 F E hw)
-- X0_readNext
abbrev rm_X0_readNext : Room := { frames := 5, cells := 0, slots := 0, locals := 145 }
def po_X0_readNext (G : Nat → ClassId) (hTx : Nat) (qTx : Nat → Nat) (Q : OV → Prop) : Option Value → List va_W → Prop := fun o bs => ∃ (vTx : OV), o = none ∧ bs = [bTx G hTx qTx vTx] ∧ Q vTx
theorem hd_X0_readNext : yX0_readNext.cls = RX0 ∧ yX0_readNext.cls ≠ "java/lang/invoke/MethodHandle" ∧ yX0_readNext.cls ≠ "java/lang/invoke/VarHandle" ∧ (parseMethodDescriptor yX0_readNext.desc).map (fun d => d.parameters.length) = some 0 := by decide +kernel
def wp_X0_readNext_14 (Q : OV → Prop) (vTx : OV) : Prop :=
  (Q vTx)
set_option maxRecDepth 20000 in
theorem lb_X0_readNext_14 {X : List Cond} {l : Launch} {D : va_G} {G : Nat → ClassId} {C : Cx} {bs0 : List va_W} {hTx : Nat} {qTx : Nat → Nat} {Q : OV → Prop} (F : GF C X cX0_readNext wsX0_readNext RX0 rm_X0_readNext 1 none D G l) (E : GE C bs0 0 0 (po_X0_readNext G hTx qTx Q)) {vTx : OV} (hw : wp_X0_readNext_14 Q vTx) : GW C 0 0 [bTx G hTx qTx vTx] 14 [] [] := by
  unfold wp_X0_readNext_14 at hw
  exact gw_vret F E rfl (Nat.le_of_ble_eq_true rfl) (Nat.le_of_ble_eq_true rfl) dX0_readNext_14 ⟨_, rfl, rfl, hw⟩
def wp_X0_readNext_0 (Q : OV → Prop) (vTx : OV) : Prop :=
  (wp_X0_readCommand (fun (r_1 : Int32) (v_2 : OV) => ((r_1 = 0 → (wp_X0_readNext_14 Q v_2)) ∧ (¬ (r_1 = 0) → (wp_X0_readSign (fun (r_4 : Int32) (v_5 : OV) => (wp_X0_readNext_14 Q v_5)) (59 : Int32) v_2)))) vTx)
set_option maxRecDepth 20000 in
theorem lb_X0_readNext_0 {X : List Cond} {l : Launch} {D : va_G} {G : Nat → ClassId} {C : Cx} {bs0 : List va_W} {hTx : Nat} {qTx : Nat → Nat} {Q : OV → Prop} (F : GF C X cX0_readNext wsX0_readNext RX0 rm_X0_readNext 1 none D G l) (E : GE C bs0 0 0 (po_X0_readNext G hTx qTx Q)) {vTx : OV} (hw : wp_X0_readNext_0 Q vTx) : GW C 0 0 [bTx G hTx qTx vTx] 0 [(0, .ref hTx)] [] := by
  unfold wp_X0_readNext_0 at hw
  refine gw_aload_n F dX0_readNext_0 0 rfl ?_
  refine gw_callV F (ct_X0_readCommand hw) 0 gX0_readNext_X0_readCommand rfl rfl rfl hd_X0_readCommand ⟨(Nat.le_of_ble_eq_true rfl), (Nat.le_of_ble_eq_true rfl)⟩ rfl rfl (Nat.le_of_ble_eq_true rfl) ⟨Nat.zero_le _, Nat.zero_le _⟩ [0] (bsr := []) rfl rfl (q0 := 0) rfl rfl dX0_readNext_1 ?_
  rintro _ _ ⟨r_1, v_2, rfl, rfl, hw⟩
  refine gw_sel [0] (bs' := [bTx G hTx qTx v_2]) rfl rfl ?_
  change GW C 0 0 _ 4 _ [.int r_1]
  refine gw_if_eq (tgt := 14) F dX0_readNext_4 (by decide) (fun c_3 => ?_) (fun c_3 => ?_)
  · have hw := hw.1 c_3
    refine gw_lv [] rfl ?_
    exact lb_X0_readNext_14 F E hw
  · have hw := hw.2 c_3
    refine gw_aload_n F dX0_readNext_7 0 rfl ?_
    refine gw_bipush (v := (59 : Int32)) F dX0_readNext_8 ic_bipush_59 ?_
    refine gw_callV F (ct_X0_readSign hw) 1 gX0_readNext_X0_readSign rfl rfl rfl hd_X0_readSign ⟨(Nat.le_of_ble_eq_true rfl), (Nat.le_of_ble_eq_true rfl)⟩ rfl rfl (Nat.le_of_ble_eq_true rfl) ⟨Nat.zero_le _, Nat.zero_le _⟩ [0] (bsr := []) rfl rfl (q0 := 0) rfl rfl dX0_readNext_10 ?_
    rintro _ _ ⟨r_4, v_5, rfl, rfl, hw⟩
    refine gw_sel [0] (bs' := [bTx G hTx qTx v_5]) rfl rfl ?_
    change GW C 0 0 _ 13 _ [.int r_4]
    refine gw_pop F dX0_readNext_13 rfl ?_
    refine gw_lv [] rfl ?_
    exact lb_X0_readNext_14 F E hw
def wp_X0_readNext (Q : OV → Prop) (vTx : OV) : Prop := wp_X0_readNext_0 Q vTx
theorem ct_X0_readNext {X : List Cond} {l : Launch} {D : va_G} {G : Nat → ClassId} {hTx : Nat} {qTx : Nat → Nat} {Q : OV → Prop} {vTx : OV} (hw : wp_X0_readNext Q vTx) : CM X l yX0_readNext wsX0_readNext rm_X0_readNext D G [.ref hTx] [bTx G hTx qTx vTx] 0 0 (po_X0_readNext G hTx qTx Q) :=
  CM.of pn_RX0 rfl rfl (Nat.le_of_ble_eq_true rfl) rfl (fun C F E => lb_X0_readNext_0 F E hw)
