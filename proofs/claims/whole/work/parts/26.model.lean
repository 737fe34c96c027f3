-- X8_thrown
abbrev rm_X8_thrown : Room := { frames := 1, cells := 0, slots := 0, locals := 60 }
def po_X8_thrown (G : Nat → ClassId) (hMd : Nat) (qMd : Nat → Nat) (vMd : OV) (Q : Int32 → Prop) : Option Value → List va_W → Prop := fun o bs => ∃ (r : Int32), o = some (.int r) ∧ bs = [bMd G hMd qMd vMd] ∧ Q r
theorem hd_X8_thrown : yX8_thrown.cls = RX8 ∧ yX8_thrown.cls ≠ "java/lang/invoke/MethodHandle" ∧ yX8_thrown.cls ≠ "java/lang/invoke/VarHandle" ∧ (parseMethodDescriptor yX8_thrown.desc).map (fun d => d.parameters.length) = some 0 := by decide +kernel
theorem in_X8_thrown_RX8 : ∀ w ∈ wsX80, w ∈ wsX8_thrown := fun w h => List.mem_cons_of_mem _ (List.mem_append_right _ h)
theorem lk_X8_thrown_46 : Cond.fieldLink RX8 46 "KeyWavesModel" "code" "I" ∈ wsX8_thrown := List.mem_cons_of_mem _ (List.mem_append_left _ (List.mem_of_getElem? (i := 0) rfl))
def wp_X8_thrown_0 (Q : Int32 → Prop) (vMd : OV) : Prop :=
  (Q (vMd.2 9))
set_option maxRecDepth 20000 in
theorem lb_X8_thrown_0 {X : List Cond} {l : Launch} {D : va_G} {G : Nat → ClassId} {C : Cx} {bs0 : List va_W} {hMd : Nat} {qMd : Nat → Nat} {Q : Int32 → Prop} {vMd : OV} (F : GF C X cX8_thrown wsX8_thrown RX8 rm_X8_thrown 1 (some .int) D G l) (E : GE C bs0 0 0 (po_X8_thrown G hMd qMd vMd Q)) (hw : wp_X8_thrown_0 Q vMd ) : GW C 0 0 [bMd G hMd qMd vMd] 0 [(0, .ref hMd)] [] := by
  unfold wp_X8_thrown_0 at hw
  refine gw_aload_n F dX8_thrown_0 0 rfl ?_
  refine gw_get F in_X8_thrown_RX8 0 rfl rfl 9 (by decide) lk_X8_thrown_46 rfl dX8_thrown_1 ?_
  exact gw_iret F E rfl rfl (Nat.le_of_ble_eq_true rfl) (Nat.le_of_ble_eq_true rfl) dX8_thrown_4 ⟨_, rfl, rfl, hw⟩
def wp_X8_thrown (Q : Int32 → Prop) (vMd : OV) : Prop := wp_X8_thrown_0 Q vMd
theorem ct_X8_thrown {X : List Cond} {l : Launch} {D : va_G} {G : Nat → ClassId} {hMd : Nat} {qMd : Nat → Nat} {Q : Int32 → Prop} {vMd : OV} (hw : wp_X8_thrown Q vMd) : CM X l yX8_thrown wsX8_thrown rm_X8_thrown D G [.ref hMd] [bMd G hMd qMd vMd] 0 0 (po_X8_thrown G hMd qMd vMd Q) :=
  CM.of pn_RX8 rfl rfl (Nat.le_of_ble_eq_true rfl) rfl (fun C F E => lb_X8_thrown_0 F E hw)
-- X8_fails
abbrev rm_X8_fails : Room := { frames := 1, cells := 0, slots := 0, locals := 60 }
def po_X8_fails (G : Nat → ClassId) (hMd : Nat) (qMd : Nat → Nat) (Q : Int32 → OV → Prop) : Option Value → List va_W → Prop := fun o bs => ∃ (r : Int32) (vMd : OV), o = some (.int r) ∧ bs = [bMd G hMd qMd vMd] ∧ Q r vMd
theorem hd_X8_fails : yX8_fails.cls = RX8 ∧ yX8_fails.cls ≠ "java/lang/invoke/MethodHandle" ∧ yX8_fails.cls ≠ "java/lang/invoke/VarHandle" ∧ (parseMethodDescriptor yX8_fails.desc).map (fun d => d.parameters.length) = some 1 := by decide +kernel
theorem in_X8_fails_RX8 : ∀ w ∈ wsX80, w ∈ wsX8_fails := fun w h => List.mem_cons_of_mem _ (List.mem_append_right _ h)
theorem lk_X8_fails_46 : Cond.fieldLink RX8 46 "KeyWavesModel" "code" "I" ∈ wsX8_fails := List.mem_cons_of_mem _ (List.mem_append_left _ (List.mem_of_getElem? (i := 0) rfl))
def wp_X8_fails_14 (Q : Int32 → OV → Prop) (s0 : Int32) (vMd : OV) : Prop :=
  (narrow .boolean (.int s0) = .int s0 ∧ Q s0 vMd)
set_option maxRecDepth 20000 in
theorem lb_X8_fails_14 {X : List Cond} {l : Launch} {D : va_G} {G : Nat → ClassId} {C : Cx} {bs0 : List va_W} {hMd : Nat} {qMd : Nat → Nat} {Q : Int32 → OV → Prop} (F : GF C X cX8_fails wsX8_fails RX8 rm_X8_fails 2 (some .boolean) D G l) (E : GE C bs0 0 0 (po_X8_fails G hMd qMd Q)) {s0 : Int32} {vMd : OV} (hw : wp_X8_fails_14 Q s0 vMd) : GW C 0 0 [bMd G hMd qMd vMd] 14 [] [.int s0] := by
  unfold wp_X8_fails_14 at hw
  obtain ⟨hn, hw⟩ := hw
  exact gw_iret F E rfl hn (Nat.le_of_ble_eq_true rfl) (Nat.le_of_ble_eq_true rfl) dX8_fails_14 ⟨_, _, rfl, rfl, hw⟩
def wp_X8_fails_0 (Q : Int32 → OV → Prop) (x1 : Int32) (vMd : OV) : Prop :=
  (∀ v_1 : OV, v_1 = sI vMd 9 x1 → ((x1 ≤ 0 → (wp_X8_fails_14 Q (0 : Int32) v_1)) ∧ (¬ (x1 ≤ 0) → (wp_X8_fails_14 Q (1 : Int32) v_1))))
set_option maxRecDepth 20000 in
theorem lb_X8_fails_0 {X : List Cond} {l : Launch} {D : va_G} {G : Nat → ClassId} {C : Cx} {bs0 : List va_W} {hMd : Nat} {qMd : Nat → Nat} {Q : Int32 → OV → Prop} (F : GF C X cX8_fails wsX8_fails RX8 rm_X8_fails 2 (some .boolean) D G l) (E : GE C bs0 0 0 (po_X8_fails G hMd qMd Q)) {x1 : Int32} {vMd : OV} (hw : wp_X8_fails_0 Q x1 vMd) : GW C 0 0 [bMd G hMd qMd vMd] 0 [(0, .ref hMd), (1, .int x1)] [] := by
  unfold wp_X8_fails_0 at hw
  refine gw_aload_n F dX8_fails_0 0 rfl ?_
  refine gw_iload_n F dX8_fails_1 1 rfl ?_
  obtain ⟨v_1, e_v_1⟩ : ∃ z : OV, z = sI vMd 9 x1 := ⟨_, rfl⟩
  have hw := hw v_1 e_v_1
  refine gw_put (bs' := [bMd G hMd qMd v_1]) F in_X8_fails_RX8 tyX8 tyX8_ok nmX8 0 rfl rfl 9 (by decide) lk_X8_fails_46 rfl rfl rfl (Nat.le_of_ble_eq_true rfl) dX8_fails_2 (by rw [e_v_1]; rfl) ?_
  refine gw_iload_n F dX8_fails_5 1 rfl ?_
  refine gw_if_le (tgt := 13) F dX8_fails_6 (by decide) (fun c_2 => ?_) (fun c_2 => ?_)
  · have hw := hw.1 c_2
    refine gw_iconst (v := (0 : Int32)) F dX8_fails_13 ic_iconst_0 ?_
    refine gw_lv [] rfl ?_
    exact lb_X8_fails_14 F E hw
  · have hw := hw.2 c_2
    refine gw_iconst (v := (1 : Int32)) F dX8_fails_9 ic_iconst_1 ?_
    refine gw_goto (tgt := 14) F dX8_fails_10 (by decide) ?_
    refine gw_lv [] rfl ?_
    exact lb_X8_fails_14 F E hw
def wp_X8_fails (Q : Int32 → OV → Prop) (x1 : Int32) (vMd : OV) : Prop := wp_X8_fails_0 Q x1 vMd
theorem ct_X8_fails {X : List Cond} {l : Launch} {D : va_G} {G : Nat → ClassId} {hMd : Nat} {qMd : Nat → Nat} {Q : Int32 → OV → Prop} {x1 : Int32} {vMd : OV} (hw : wp_X8_fails Q x1 vMd) : CM X l yX8_fails wsX8_fails rm_X8_fails D G [.ref hMd, .int x1] [bMd G hMd qMd vMd] 0 0 (po_X8_fails G hMd qMd Q) :=
  CM.of pn_RX8 rfl rfl (Nat.le_of_ble_eq_true rfl) rfl (fun C F E => lb_X8_fails_0 F E hw)
-- X8_refuses
abbrev rm_X8_refuses : Room := { frames := 1, cells := 0, slots := 0, locals := 60 }
def po_X8_refuses (G : Nat → ClassId) (hMd : Nat) (qMd : Nat → Nat) (Q : Int32 → OV → Prop) : Option Value → List va_W → Prop := fun o bs => ∃ (r : Int32) (vMd : OV), o = some (.int r) ∧ bs = [bMd G hMd qMd vMd] ∧ Q r vMd
theorem hd_X8_refuses : yX8_refuses.cls = RX8 ∧ yX8_refuses.cls ≠ "java/lang/invoke/MethodHandle" ∧ yX8_refuses.cls ≠ "java/lang/invoke/VarHandle" ∧ (parseMethodDescriptor yX8_refuses.desc).map (fun d => d.parameters.length) = some 2 := by decide +kernel
theorem in_X8_refuses_RX8 : ∀ w ∈ wsX80, w ∈ wsX8_refuses := fun w h => List.mem_cons_of_mem _ (List.mem_append_right _ h)
theorem lk_X8_refuses_46 : Cond.fieldLink RX8 46 "KeyWavesModel" "code" "I" ∈ wsX8_refuses := List.mem_cons_of_mem _ (List.mem_append_left _ (List.mem_of_getElem? (i := 0) rfl))
theorem lk_X8_refuses_49 : Cond.fieldLink RX8 49 "KeyWavesModel" "why" "I" ∈ wsX8_refuses := List.mem_cons_of_mem _ (List.mem_append_left _ (List.mem_of_getElem? (i := 1) rfl))
theorem lk_X8_refuses_52 : Cond.fieldLink RX8 52 "KeyWavesModel" "detail" "I" ∈ wsX8_refuses := List.mem_cons_of_mem _ (List.mem_append_left _ (List.mem_of_getElem? (i := 2) rfl))
theorem lk_X8_refuses_55 : Cond.fieldLink RX8 55 "KeyWavesModel" "isWithin" "Z" ∈ wsX8_refuses := List.mem_cons_of_mem _ (List.mem_append_left _ (List.mem_of_getElem? (i := 3) rfl))
theorem lk_X8_refuses_62 : Cond.fieldLink RX8 62 "KeyWavesModel" "index0" "I" ∈ wsX8_refuses := List.mem_cons_of_mem _ (List.mem_append_left _ (List.mem_of_getElem? (i := 5) rfl))
theorem lk_X8_refuses_59 : Cond.fieldLink RX8 59 "KeyWavesModel" "done" "I" ∈ wsX8_refuses := List.mem_cons_of_mem _ (List.mem_append_left _ (List.mem_of_getElem? (i := 4) rfl))
def wp_X8_refuses_31 (Q : Int32 → OV → Prop) (s1 : Int32) (vMd : OV) : Prop :=
  (∀ v_5 : OV, v_5 = sI vMd 12 s1 → (Q (0 : Int32) v_5))
set_option maxRecDepth 20000 in
theorem lb_X8_refuses_31 {X : List Cond} {l : Launch} {D : va_G} {G : Nat → ClassId} {C : Cx} {bs0 : List va_W} {hMd : Nat} {qMd : Nat → Nat} {Q : Int32 → OV → Prop} (F : GF C X cX8_refuses wsX8_refuses RX8 rm_X8_refuses 3 (some .int) D G l) (E : GE C bs0 0 0 (po_X8_refuses G hMd qMd Q)) {s1 : Int32} {vMd : OV} (hw : wp_X8_refuses_31 Q s1 vMd) : GW C 0 0 [bMd G hMd qMd vMd] 31 [] [.int s1, .ref hMd] := by
  unfold wp_X8_refuses_31 at hw
  obtain ⟨v_5, e_v_5⟩ : ∃ z : OV, z = sI vMd 12 s1 := ⟨_, rfl⟩
  have hw := hw v_5 e_v_5
  refine gw_put (bs' := [bMd G hMd qMd v_5]) F in_X8_refuses_RX8 tyX8 tyX8_ok nmX8 0 rfl rfl 12 (by decide) lk_X8_refuses_62 rfl rfl rfl (Nat.le_of_ble_eq_true rfl) dX8_refuses_31 (by rw [e_v_5]; rfl) ?_
  refine gw_iconst (v := (0 : Int32)) F dX8_refuses_34 ic_iconst_0 ?_
  exact gw_iret F E rfl rfl (Nat.le_of_ble_eq_true rfl) (Nat.le_of_ble_eq_true rfl) dX8_refuses_35 ⟨_, _, rfl, rfl, hw⟩
def wp_X8_refuses_0 (Q : Int32 → OV → Prop) (x1 : Int32) (x2 : Int32) (vMd : OV) : Prop :=
  (∀ v_1 : OV, v_1 = sI vMd 9 (1 : Int32) → (∀ v_2 : OV, v_2 = sI v_1 10 x1 → (∀ v_3 : OV, v_3 = sI v_2 11 x2 → (((v_3.2 7) = 0 → (wp_X8_refuses_31 Q (0 : Int32) v_3)) ∧ (¬ ((v_3.2 7) = 0) → (wp_X8_refuses_31 Q (v_3.2 8) v_3))))))
set_option maxRecDepth 20000 in
theorem lb_X8_refuses_0 {X : List Cond} {l : Launch} {D : va_G} {G : Nat → ClassId} {C : Cx} {bs0 : List va_W} {hMd : Nat} {qMd : Nat → Nat} {Q : Int32 → OV → Prop} (F : GF C X cX8_refuses wsX8_refuses RX8 rm_X8_refuses 3 (some .int) D G l) (E : GE C bs0 0 0 (po_X8_refuses G hMd qMd Q)) {x1 : Int32} {x2 : Int32} {vMd : OV} (hw : wp_X8_refuses_0 Q x1 x2 vMd) : GW C 0 0 [bMd G hMd qMd vMd] 0 [(0, .ref hMd), (1, .int x1), (2, .int x2)] [] := by
  unfold wp_X8_refuses_0 at hw
  refine gw_aload_n F dX8_refuses_0 0 rfl ?_
  refine gw_iconst (v := (1 : Int32)) F dX8_refuses_1 ic_iconst_1 ?_
  obtain ⟨v_1, e_v_1⟩ : ∃ z : OV, z = sI vMd 9 (1 : Int32) := ⟨_, rfl⟩
  have hw := hw v_1 e_v_1
  refine gw_put (bs' := [bMd G hMd qMd v_1]) F in_X8_refuses_RX8 tyX8 tyX8_ok nmX8 0 rfl rfl 9 (by decide) lk_X8_refuses_46 rfl rfl rfl (Nat.le_of_ble_eq_true rfl) dX8_refuses_2 (by rw [e_v_1]; rfl) ?_
  refine gw_aload_n F dX8_refuses_5 0 rfl ?_
  refine gw_iload_n F dX8_refuses_6 1 rfl ?_
  obtain ⟨v_2, e_v_2⟩ : ∃ z : OV, z = sI v_1 10 x1 := ⟨_, rfl⟩
  have hw := hw v_2 e_v_2
  refine gw_put (bs' := [bMd G hMd qMd v_2]) F in_X8_refuses_RX8 tyX8 tyX8_ok nmX8 0 rfl rfl 10 (by decide) lk_X8_refuses_49 rfl rfl rfl (Nat.le_of_ble_eq_true rfl) dX8_refuses_7 (by rw [e_v_2]; rfl) ?_
  refine gw_aload_n F dX8_refuses_10 0 rfl ?_
  refine gw_iload_n F dX8_refuses_11 2 rfl ?_
  obtain ⟨v_3, e_v_3⟩ : ∃ z : OV, z = sI v_2 11 x2 := ⟨_, rfl⟩
  have hw := hw v_3 e_v_3
  refine gw_put (bs' := [bMd G hMd qMd v_3]) F in_X8_refuses_RX8 tyX8 tyX8_ok nmX8 0 rfl rfl 11 (by decide) lk_X8_refuses_52 rfl rfl rfl (Nat.le_of_ble_eq_true rfl) dX8_refuses_12 (by rw [e_v_3]; rfl) ?_
  refine gw_aload_n F dX8_refuses_15 0 rfl ?_
  refine gw_aload_n F dX8_refuses_16 0 rfl ?_
  refine gw_get F in_X8_refuses_RX8 0 rfl rfl 7 (by decide) lk_X8_refuses_55 rfl dX8_refuses_17 ?_
  refine gw_if_eq (tgt := 30) F dX8_refuses_20 (by decide) (fun c_4 => ?_) (fun c_4 => ?_)
  · have hw := hw.1 c_4
    refine gw_iconst (v := (0 : Int32)) F dX8_refuses_30 ic_iconst_0 ?_
    refine gw_lv [] rfl ?_
    exact lb_X8_refuses_31 F E hw
  · have hw := hw.2 c_4
    refine gw_aload_n F dX8_refuses_23 0 rfl ?_
    refine gw_get F in_X8_refuses_RX8 0 rfl rfl 8 (by decide) lk_X8_refuses_59 rfl dX8_refuses_24 ?_
    refine gw_goto (tgt := 31) F dX8_refuses_27 (by decide) ?_
    refine gw_lv [] rfl ?_
    exact lb_X8_refuses_31 F E hw
def wp_X8_refuses (Q : Int32 → OV → Prop) (x1 : Int32) (x2 : Int32) (vMd : OV) : Prop := wp_X8_refuses_0 Q x1 x2 vMd
theorem ct_X8_refuses {X : List Cond} {l : Launch} {D : va_G} {G : Nat → ClassId} {hMd : Nat} {qMd : Nat → Nat} {Q : Int32 → OV → Prop} {x1 : Int32} {x2 : Int32} {vMd : OV} (hw : wp_X8_refuses Q x1 x2 vMd) : CM X l yX8_refuses wsX8_refuses rm_X8_refuses D G [.ref hMd, .int x1, .int x2] [bMd G hMd qMd vMd] 0 0 (po_X8_refuses G hMd qMd Q) :=
  CM.of pn_RX8 rfl rfl (Nat.le_of_ble_eq_true rfl) rfl (fun C F E => lb_X8_refuses_0 F E hw)
-- X8_in
abbrev rm_X8_in : Room := { frames := 1, cells := 0, slots := 0, locals := 60 }
def po_X8_in (G : Nat → ClassId) (Q : Int32 → Prop) : Option Value → List va_W → Prop := fun o bs => ∃ (r : Int32), o = some (.int r) ∧ bs = [] ∧ Q r
theorem hd_X8_in : yX8_in.cls ≠ "java/lang/invoke/MethodHandle" ∧ yX8_in.cls ≠ "java/lang/invoke/VarHandle" ∧ (parseMethodDescriptor yX8_in.desc).map (fun d => d.parameters.length) = some 3 := by decide +kernel
def wp_X8_in_15 (Q : Int32 → Prop) (s0 : Int32) : Prop :=
  (narrow .boolean (.int s0) = .int s0 ∧ Q s0)
set_option maxRecDepth 20000 in
theorem lb_X8_in_15 {X : List Cond} {l : Launch} {D : va_G} {G : Nat → ClassId} {C : Cx} {bs0 : List va_W} {Q : Int32 → Prop} (F : GF C X cX8_in wsX8_in RX8 rm_X8_in 3 (some .boolean) D G l) (E : GE C bs0 0 0 (po_X8_in G Q)) {s0 : Int32} (hw : wp_X8_in_15 Q s0) : GW C 0 0 [] 15 [] [.int s0] := by
  unfold wp_X8_in_15 at hw
  obtain ⟨hn, hw⟩ := hw
  exact gw_iret F E rfl hn (Nat.le_of_ble_eq_true rfl) (Nat.le_of_ble_eq_true rfl) dX8_in_15 ⟨_, rfl, rfl, hw⟩
def wp_X8_in_14 (Q : Int32 → Prop) : Prop :=
  (wp_X8_in_15 Q (0 : Int32))
set_option maxRecDepth 20000 in
theorem lb_X8_in_14 {X : List Cond} {l : Launch} {D : va_G} {G : Nat → ClassId} {C : Cx} {bs0 : List va_W} {Q : Int32 → Prop} (F : GF C X cX8_in wsX8_in RX8 rm_X8_in 3 (some .boolean) D G l) (E : GE C bs0 0 0 (po_X8_in G Q)) (hw : wp_X8_in_14 Q ) : GW C 0 0 [] 14 [] [] := by
  unfold wp_X8_in_14 at hw
  refine gw_iconst (v := (0 : Int32)) F dX8_in_14 ic_iconst_0 ?_
  exact lb_X8_in_15 F E hw
def wp_X8_in_0 (Q : Int32 → Prop) (x0 : Int32) (x1 : Int32) (x2 : Int32) : Prop :=
  ((x0 < x1 → (wp_X8_in_14 Q)) ∧ (¬ (x0 < x1) → ((x2 < x0 → (wp_X8_in_14 Q)) ∧ (¬ (x2 < x0) → (wp_X8_in_15 Q (1 : Int32))))))
set_option maxRecDepth 20000 in
theorem lb_X8_in_0 {X : List Cond} {l : Launch} {D : va_G} {G : Nat → ClassId} {C : Cx} {bs0 : List va_W} {Q : Int32 → Prop} (F : GF C X cX8_in wsX8_in RX8 rm_X8_in 3 (some .boolean) D G l) (E : GE C bs0 0 0 (po_X8_in G Q)) {x0 : Int32} {x1 : Int32} {x2 : Int32} (hw : wp_X8_in_0 Q x0 x1 x2) : GW C 0 0 [] 0 [(0, .int x0), (1, .int x1), (2, .int x2)] [] := by
  unfold wp_X8_in_0 at hw
  refine gw_iload_n F dX8_in_0 0 rfl ?_
  refine gw_iload_n F dX8_in_1 1 rfl ?_
  refine gw_icmp_lt (tgt := 14) F dX8_in_2 (by decide) (fun c_1 => ?_) (fun c_1 => ?_)
  · have hw := hw.1 c_1
    refine gw_lv [] rfl ?_
    exact lb_X8_in_14 F E hw
  · have hw := hw.2 c_1
    refine gw_iload_n F dX8_in_5 0 rfl ?_
    refine gw_iload_n F dX8_in_6 2 rfl ?_
    refine gw_icmp_gt (tgt := 14) F dX8_in_7 (by decide) (fun c_2 => ?_) (fun c_2 => ?_)
    · have hw := hw.1 c_2
      refine gw_lv [] rfl ?_
      exact lb_X8_in_14 F E hw
    · have hw := hw.2 c_2
      refine gw_iconst (v := (1 : Int32)) F dX8_in_10 ic_iconst_1 ?_
      refine gw_goto (tgt := 15) F dX8_in_11 (by decide) ?_
      refine gw_lv [] rfl ?_
      exact lb_X8_in_15 F E hw
def wp_X8_in (Q : Int32 → Prop) (x0 : Int32) (x1 : Int32) (x2 : Int32) : Prop := wp_X8_in_0 Q x0 x1 x2
theorem ct_X8_in {X : List Cond} {l : Launch} {D : va_G} {G : Nat → ClassId} {Q : Int32 → Prop} {x0 : Int32} {x1 : Int32} {x2 : Int32} (hw : wp_X8_in Q x0 x1 x2) : CM X l yX8_in wsX8_in rm_X8_in D G [.int x0, .int x1, .int x2] [] 0 0 (po_X8_in G Q) :=
  CM.of pn_RX8 rfl rfl (Nat.le_of_ble_eq_true rfl) rfl (fun C F E => lb_X8_in_0 F E hw)
-- X8_copies
abbrev rm_X8_copies : Room := { frames := 1, cells := 0, slots := 0, locals := 60 }
def po_X8_copies (G : Nat → ClassId) (zAr1 aAr1 : Nat) (zAr2 aAr2 : Nat) (vAr1 : (Nat → Int32)) (Q : (Nat → Int32) → Prop) : Option Value → List va_W → Prop := fun o bs => ∃ (vAr2 : (Nat → Int32)), o = none ∧ bs = [bAr G zAr1 aAr1 vAr1, bAr G zAr2 aAr2 vAr2] ∧ Q vAr2
theorem hd_X8_copies : yX8_copies.cls ≠ "java/lang/invoke/MethodHandle" ∧ yX8_copies.cls ≠ "java/lang/invoke/VarHandle" ∧ (parseMethodDescriptor yX8_copies.desc).map (fun d => d.parameters.length) = some 4 := by decide +kernel
def wp_X8_copies_3 (Q : (Nat → Int32) → Prop) (K3 : Int32 → Int32 → Int32 → (Nat → Int32) → Prop) (zAr1 : Nat) (zAr2 : Nat) (vAr1 : (Nat → Int32)) (x1 x3 x4 : Int32) (vAr2 : (Nat → Int32)) : Prop :=
  (((177 : Int32) ≤ x4 → (Q vAr2)) ∧ (¬ ((177 : Int32) ≤ x4) → (vp_in (x1 + x4) zAr1 ∧ (vp_in (x3 + x4) zAr2 ∧ ∀ v_3 : (Nat → Int32), v_3 = upd vAr2 (x3 + x4).toNatClampNeg (vAr1 (x1 + x4).toNatClampNeg) → (∀ i_5 : Int32, i_5 = x4 + (1 : Int32) → (K3 x1 x3 i_5 v_3))))))
set_option maxRecDepth 20000 in
theorem lb_X8_copies_3 {X : List Cond} {l : Launch} {D : va_G} {G : Nat → ClassId} {C : Cx} {bs0 : List va_W} {aAr1 : Nat} {aAr2 : Nat} {Q : (Nat → Int32) → Prop} {K3 : Int32 → Int32 → Int32 → (Nat → Int32) → Prop} {zAr1 : Nat} {zAr2 : Nat} {vAr1 : (Nat → Int32)} (F : GF C X cX8_copies wsX8_copies RX8 rm_X8_copies 5 none D G l) (E : GE C bs0 0 0 (po_X8_copies G zAr1 aAr1 zAr2 aAr2 vAr1 Q)) (hK3 : ∀ (x1 x3 x4 : Int32) (vAr2 : (Nat → Int32)), K3 x1 x3 x4 vAr2 → GW C 0 0 [bAr G zAr1 aAr1 vAr1, bAr G zAr2 aAr2 vAr2] 3 [(0, .ref aAr1), (1, .int x1), (2, .ref aAr2), (3, .int x3), (4, .int x4)] []) {x1 x3 x4 : Int32} {vAr2 : (Nat → Int32)} (hw : wp_X8_copies_3 Q K3 zAr1 zAr2 vAr1 x1 x3 x4 vAr2) : GW C 0 0 [bAr G zAr1 aAr1 vAr1, bAr G zAr2 aAr2 vAr2] 3 [(0, .ref aAr1), (1, .int x1), (2, .ref aAr2), (3, .int x3), (4, .int x4)] [] := by
  unfold wp_X8_copies_3 at hw
  refine gw_iload F dX8_copies_3 4 rfl ?_
  refine gw_sipush (v := (177 : Int32)) F dX8_copies_5 ic_sipush_177 ?_
  refine gw_icmp_ge (tgt := 29) F dX8_copies_8 (by decide) (fun c_1 => ?_) (fun c_1 => ?_)
  · have hw := hw.1 c_1
    exact gw_vret F E rfl (Nat.le_of_ble_eq_true rfl) (Nat.le_of_ble_eq_true rfl) dX8_copies_29 ⟨_, rfl, rfl, hw⟩
  · have hw := hw.2 c_1
    refine gw_aload_n F dX8_copies_11 2 rfl ?_
    refine gw_iload_n F dX8_copies_12 3 rfl ?_
    refine gw_iload F dX8_copies_13 4 rfl ?_
    refine gw_iadd F dX8_copies_15 ?_
    refine gw_aload_n F dX8_copies_16 0 rfl ?_
    refine gw_iload_n F dX8_copies_17 1 rfl ?_
    refine gw_iload F dX8_copies_18 4 rfl ?_
    refine gw_iadd F dX8_copies_20 ?_
    obtain ⟨h_2, hw⟩ := hw
    refine gw_iald F 0 rfl h_2 dX8_copies_21 ?_
    obtain ⟨h_4, hw⟩ := hw
    obtain ⟨v_3, e_v_3⟩ : ∃ z : (Nat → Int32), z = upd vAr2 (x3 + x4).toNatClampNeg (vAr1 (x1 + x4).toNatClampNeg) := ⟨_, rfl⟩
    have hw := hw v_3 e_v_3
    refine gw_iast (bs' := [bAr G zAr1 aAr1 vAr1, bAr G zAr2 aAr2 v_3]) F 1 rfl h_4 dX8_copies_22 (by rw [e_v_3]; rfl) ?_
    obtain ⟨i_5, e_i_5⟩ : ∃ z : Int32, z = x4 + (1 : Int32) := ⟨_, rfl⟩
    have hw := hw i_5 e_i_5
    refine gw_iinc (v := i_5) (lv' := [(4, .int i_5), (0, .ref aAr1), (1, .int x1), (2, .ref aAr2), (3, .int x3)]) F dX8_copies_23 4 rfl (by rw [e_i_5]; rfl) (by decide) rfl ?_
    refine gw_goto (tgt := 3) F dX8_copies_26 (by decide) ?_
    refine gw_lv [1, 2, 3, 4, 0] rfl ?_
    exact hK3 _ _ _ _ hw
def wp_X8_copies_3_loop (Q : (Nat → Int32) → Prop) (zAr1 : Nat) (zAr2 : Nat) (vAr1 : (Nat → Int32)) : Nat → Int32 → Int32 → Int32 → (Nat → Int32) → Prop
  | 0, _, _, _, _ => False
  | n + 1, x1, x3, x4, vAr2 => wp_X8_copies_3 Q (wp_X8_copies_3_loop Q zAr1 zAr2 vAr1 n) zAr1 zAr2 vAr1 x1 x3 x4 vAr2
theorem lp_X8_copies_3 {X : List Cond} {l : Launch} {D : va_G} {G : Nat → ClassId} {C : Cx} {bs0 : List va_W} {aAr1 : Nat} {aAr2 : Nat} {Q : (Nat → Int32) → Prop} {zAr1 : Nat} {zAr2 : Nat} {vAr1 : (Nat → Int32)} (F : GF C X cX8_copies wsX8_copies RX8 rm_X8_copies 5 none D G l) (E : GE C bs0 0 0 (po_X8_copies G zAr1 aAr1 zAr2 aAr2 vAr1 Q)) : ∀ (n : Nat) (x1 x3 x4 : Int32) (vAr2 : (Nat → Int32)), wp_X8_copies_3_loop Q zAr1 zAr2 vAr1 n x1 x3 x4 vAr2 → GW C 0 0 [bAr G zAr1 aAr1 vAr1, bAr G zAr2 aAr2 vAr2] 3 [(0, .ref aAr1), (1, .int x1), (2, .ref aAr2), (3, .int x3), (4, .int x4)] [] := by
  intro n
  induction n with
  | zero => intro x1 x3 x4 vAr2 hw; exact False.elim hw
  | succ n ih => intro x1 x3 x4 vAr2 hw; exact lb_X8_copies_3 (K3 := wp_X8_copies_3_loop Q zAr1 zAr2 vAr1 n) F E ih hw
def wp_X8_copies_0 (Q : (Nat → Int32) → Prop) (zAr1 : Nat) (zAr2 : Nat) (vAr1 : (Nat → Int32)) (x1 : Int32) (x3 : Int32) (vAr2 : (Nat → Int32)) : Prop :=
  (∃ n_6 : Nat, wp_X8_copies_3_loop Q zAr1 zAr2 vAr1 n_6 x1 x3 (0 : Int32) vAr2)
set_option maxRecDepth 20000 in
theorem lb_X8_copies_0 {X : List Cond} {l : Launch} {D : va_G} {G : Nat → ClassId} {C : Cx} {bs0 : List va_W} {aAr1 : Nat} {aAr2 : Nat} {Q : (Nat → Int32) → Prop} {zAr1 : Nat} {zAr2 : Nat} {vAr1 : (Nat → Int32)} (F : GF C X cX8_copies wsX8_copies RX8 rm_X8_copies 5 none D G l) (E : GE C bs0 0 0 (po_X8_copies G zAr1 aAr1 zAr2 aAr2 vAr1 Q)) {x1 x3 : Int32} {vAr2 : (Nat → Int32)} (hw : wp_X8_copies_0 Q zAr1 zAr2 vAr1 x1 x3 vAr2) : GW C 0 0 [bAr G zAr1 aAr1 vAr1, bAr G zAr2 aAr2 vAr2] 0 [(0, .ref aAr1), (1, .int x1), (2, .ref aAr2), (3, .int x3)] [] := by
  unfold wp_X8_copies_0 at hw
  refine gw_iconst (v := (0 : Int32)) F dX8_copies_0 ic_iconst_0 ?_
  refine gw_istore (lv' := [(4, .int (0 : Int32)), (0, .ref aAr1), (1, .int x1), (2, .ref aAr2), (3, .int x3)]) F dX8_copies_1 (by decide) rfl ?_
  refine gw_lv [1, 2, 3, 4, 0] rfl ?_
  obtain ⟨n_6, hw⟩ := hw
  exact lp_X8_copies_3 F E n_6 _ _ _ _ hw
def wp_X8_copies (Q : (Nat → Int32) → Prop) (zAr1 : Nat) (zAr2 : Nat) (x1 : Int32) (x3 : Int32) (vAr1 : (Nat → Int32)) (vAr2 : (Nat → Int32)) : Prop := wp_X8_copies_0 Q zAr1 zAr2 vAr1 x1 x3 vAr2
theorem ct_X8_copies {X : List Cond} {l : Launch} {D : va_G} {G : Nat → ClassId} {aAr1 : Nat} {aAr2 : Nat} {Q : (Nat → Int32) → Prop} {zAr1 : Nat} {zAr2 : Nat} {x1 : Int32} {x3 : Int32} {vAr1 : (Nat → Int32)} {vAr2 : (Nat → Int32)} (hw : wp_X8_copies Q zAr1 zAr2 x1 x3 vAr1 vAr2) : CM X l yX8_copies wsX8_copies rm_X8_copies D G [.ref aAr1, .int x1, .ref aAr2, .int x3] [bAr G zAr1 aAr1 vAr1, bAr G zAr2 aAr2 vAr2] 0 0 (po_X8_copies G zAr1 aAr1 zAr2 aAr2 vAr1 Q) :=
  CM.of pn_RX8 rfl rfl (Nat.le_of_ble_eq_true rfl) rfl (fun C F E => lb_X8_copies_0 F E hw)
-- X8_keeps0
abbrev rm_X8_keeps0 : Room := { frames := 2, cells := 0, slots := 0, locals := 84 }
def po_X8_keeps0 (G : Nat → ClassId) (hMd : Nat) (qMd : Nat → Nat) (Q : OV → Prop) : Option Value → List va_W → Prop := fun o bs => ∃ (vMd : OV), o = none ∧ bs = [bMd G hMd qMd vMd] ∧ Q vMd
theorem hd_X8_keeps : yX8_keeps.cls = RX8 ∧ yX8_keeps.cls ≠ "java/lang/invoke/MethodHandle" ∧ yX8_keeps.cls ≠ "java/lang/invoke/VarHandle" ∧ (parseMethodDescriptor yX8_keeps.desc).map (fun d => d.parameters.length) = some 1 := by decide +kernel
theorem in_X8_keeps0_RX8 : ∀ w ∈ wsX80, w ∈ wsX8_keeps := fun w h => List.mem_cons_of_mem _ (List.mem_append_left _ (List.mem_append_right _ h))
theorem lk_X8_keeps0_46 : Cond.fieldLink RX8 46 "KeyWavesModel" "code" "I" ∈ wsX8_keeps := List.mem_cons_of_mem _ (List.mem_append_left _ (List.mem_append_left _ (List.mem_of_getElem? (i := 0) rfl)))
theorem lk_X8_keeps0_55 : Cond.fieldLink RX8 55 "KeyWavesModel" "isWithin" "Z" ∈ wsX8_keeps := List.mem_cons_of_mem _ (List.mem_append_left _ (List.mem_append_left _ (List.mem_of_getElem? (i := 1) rfl)))
theorem lk_X8_keeps0_65 : Cond.fieldLink RX8 65 "KeyWavesModel" "changes" "I" ∈ wsX8_keeps := List.mem_cons_of_mem _ (List.mem_append_left _ (List.mem_append_left _ (List.mem_of_getElem? (i := 2) rfl)))
theorem lk_X8_keeps0_13 : Cond.fieldLink RX8 13 "KeyWavesModel" "kept" "[I" ∈ wsX8_keeps := List.mem_cons_of_mem _ (List.mem_append_left _ (List.mem_append_left _ (List.mem_of_getElem? (i := 3) rfl)))
def wp_X8_keeps0_63 (Q : OV → Prop) (vMd : OV) : Prop :=
  (wp_X8_copies (fun (v_4 : (Nat → Int32)) => (∀ v_5 : OV, v_5 = sF vMd 1 v_4 → (∀ v_6 : OV, v_6 = sI v_5 6 ((v_5.2 6) + (1 : Int32)) → (Q v_6)))) 177 1416 (0 : Int32) ((177 : Int32) * (vMd.2 6)) (vMd.1 0) (vMd.1 1))
set_option maxRecDepth 20000 in
theorem lb_X8_keeps0_63 {X : List Cond} {l : Launch} {D : va_G} {G : Nat → ClassId} {C : Cx} {bs0 : List va_W} {hMd : Nat} {qMd : Nat → Nat} {Q : OV → Prop} (F : GF C X cX8_keeps wsX8_keeps RX8 rm_X8_keeps0 3 none D G l) (E : GE C bs0 0 0 (po_X8_keeps0 G hMd qMd Q)) {vMd : OV} (hw : wp_X8_keeps0_63 Q vMd) : GW C 0 0 [bMd G hMd qMd vMd] 63 [(0, .ref hMd), (1, .ref (qMd 0))] [] := by
  unfold wp_X8_keeps0_63 at hw
  refine gw_aload_n F dX8_keeps_63 1 rfl ?_
  refine gw_iconst (v := (0 : Int32)) F dX8_keeps_64 ic_iconst_0 ?_
  refine gw_aload_n F dX8_keeps_65 0 rfl ?_
  refine gw_get F in_X8_keeps0_RX8 0 rfl rfl 1 (by decide) lk_X8_keeps0_13 rfl dX8_keeps_66 ?_
  refine gw_sipush (v := (177 : Int32)) F dX8_keeps_69 ic_sipush_177 ?_
  refine gw_aload_n F dX8_keeps_72 0 rfl ?_
  refine gw_get F in_X8_keeps0_RX8 0 rfl rfl 6 (by decide) lk_X8_keeps0_65 rfl dX8_keeps_73 ?_
  refine gw_imul F dX8_keeps_76 ?_
  refine gw_flat (bs' := mdB G hMd qMd vMd) rfl ?_
  refine gw_callS F (ct_X8_copies hw) 4 gX8_keeps_X8_copies rfl rfl rfl hd_X8_copies ⟨(Nat.le_of_ble_eq_true rfl), (Nat.le_of_ble_eq_true rfl)⟩ rfl rfl (Nat.le_of_ble_eq_true rfl) ⟨Nat.zero_le _, Nat.zero_le _⟩ [0, 3, 4, 5, 6, 7, 8, 9, 10, 1, 2] (bsr := ((mdB G hMd qMd vMd).eraseIdx 2 |>.eraseIdx 1)) rfl rfl dX8_keeps_77 ?_
  rintro _ _ ⟨v_4, rfl, rfl, hw⟩
  obtain ⟨v_5, e_v_5⟩ : ∃ z : OV, z = sF vMd 1 v_4 := ⟨_, rfl⟩
  have hw := hw v_5 e_v_5
  refine gw_sel [0, 9, 10, 1, 2, 3, 4, 5, 6, 7, 8] (bs' := mdB G hMd qMd v_5) (by rw [e_v_5]; rfl) rfl ?_
  refine gw_flat (bs' := [bMd G hMd qMd v_5]) rfl ?_
  change GW C 0 0 _ 80 _ []
  refine gw_aload_n F dX8_keeps_80 0 rfl ?_
  refine gw_dup F dX8_keeps_81 rfl ?_
  refine gw_get F in_X8_keeps0_RX8 0 rfl rfl 6 (by decide) lk_X8_keeps0_65 rfl dX8_keeps_82 ?_
  refine gw_iconst (v := (1 : Int32)) F dX8_keeps_85 ic_iconst_1 ?_
  refine gw_iadd F dX8_keeps_86 ?_
  obtain ⟨v_6, e_v_6⟩ : ∃ z : OV, z = sI v_5 6 ((v_5.2 6) + (1 : Int32)) := ⟨_, rfl⟩
  have hw := hw v_6 e_v_6
  refine gw_put (bs' := [bMd G hMd qMd v_6]) F in_X8_keeps0_RX8 tyX8 tyX8_ok nmX8 0 rfl rfl 6 (by decide) lk_X8_keeps0_65 rfl rfl rfl (Nat.le_of_ble_eq_true rfl) dX8_keeps_87 (by rw [e_v_6]; rfl) ?_
  exact gw_vret F E rfl (Nat.le_of_ble_eq_true rfl) (Nat.le_of_ble_eq_true rfl) dX8_keeps_90 ⟨_, rfl, rfl, hw⟩
def wp_X8_keeps0_24 (Q : OV → Prop) (K24 : Int32 → OV → Prop) (x2 : Int32) (vMd : OV) : Prop :=
  (((1239 : Int32) ≤ x2 → (∀ v_8 : OV, v_8 = sI vMd 6 ((vMd.2 6) - (1 : Int32)) → (wp_X8_keeps0_63 Q v_8))) ∧ (¬ ((1239 : Int32) ≤ x2) → (vp_in (x2 + (177 : Int32)) 1416 ∧ (vp_in x2 1416 ∧ ∀ v_10 : OV, v_10 = sA vMd 1 x2.toNatClampNeg (vMd.1 1 (x2 + (177 : Int32)).toNatClampNeg) → (∀ i_12 : Int32, i_12 = x2 + (1 : Int32) → (K24 i_12 v_10))))))
set_option maxRecDepth 20000 in
theorem lb_X8_keeps0_24 {X : List Cond} {l : Launch} {D : va_G} {G : Nat → ClassId} {C : Cx} {bs0 : List va_W} {hMd : Nat} {qMd : Nat → Nat} {Q : OV → Prop} {K24 : Int32 → OV → Prop} (F : GF C X cX8_keeps wsX8_keeps RX8 rm_X8_keeps0 3 none D G l) (E : GE C bs0 0 0 (po_X8_keeps0 G hMd qMd Q)) (hK24 : ∀ (x2 : Int32) (vMd : OV), K24 x2 vMd → GW C 0 0 [bMd G hMd qMd vMd] 24 [(0, .ref hMd), (1, .ref (qMd 0)), (2, .int x2)] []) {x2 : Int32} {vMd : OV} (hw : wp_X8_keeps0_24 Q K24 x2 vMd) : GW C 0 0 [bMd G hMd qMd vMd] 24 [(0, .ref hMd), (1, .ref (qMd 0)), (2, .int x2)] [] := by
  unfold wp_X8_keeps0_24 at hw
  refine gw_iload_n F dX8_keeps_24 2 rfl ?_
  refine gw_sipush (v := (1239 : Int32)) F dX8_keeps_25 ic_sipush_1239 ?_
  refine gw_icmp_ge (tgt := 53) F dX8_keeps_28 (by decide) (fun c_7 => ?_) (fun c_7 => ?_)
  · have hw := hw.1 c_7
    refine gw_aload_n F dX8_keeps_53 0 rfl ?_
    refine gw_dup F dX8_keeps_54 rfl ?_
    refine gw_get F in_X8_keeps0_RX8 0 rfl rfl 6 (by decide) lk_X8_keeps0_65 rfl dX8_keeps_55 ?_
    refine gw_iconst (v := (1 : Int32)) F dX8_keeps_58 ic_iconst_1 ?_
    refine gw_isub F dX8_keeps_59 ?_
    obtain ⟨v_8, e_v_8⟩ : ∃ z : OV, z = sI vMd 6 ((vMd.2 6) - (1 : Int32)) := ⟨_, rfl⟩
    have hw := hw v_8 e_v_8
    refine gw_put (bs' := [bMd G hMd qMd v_8]) F in_X8_keeps0_RX8 tyX8 tyX8_ok nmX8 0 rfl rfl 6 (by decide) lk_X8_keeps0_65 rfl rfl rfl (Nat.le_of_ble_eq_true rfl) dX8_keeps_60 (by rw [e_v_8]; rfl) ?_
    refine gw_lv [0, 1] rfl ?_
    exact lb_X8_keeps0_63 F E hw
  · have hw := hw.2 c_7
    refine gw_aload_n F dX8_keeps_31 0 rfl ?_
    refine gw_get F in_X8_keeps0_RX8 0 rfl rfl 1 (by decide) lk_X8_keeps0_13 rfl dX8_keeps_32 ?_
    refine gw_iload_n F dX8_keeps_35 2 rfl ?_
    refine gw_aload_n F dX8_keeps_36 0 rfl ?_
    refine gw_get F in_X8_keeps0_RX8 0 rfl rfl 1 (by decide) lk_X8_keeps0_13 rfl dX8_keeps_37 ?_
    refine gw_iload_n F dX8_keeps_40 2 rfl ?_
    refine gw_sipush (v := (177 : Int32)) F dX8_keeps_41 ic_sipush_177 ?_
    refine gw_iadd F dX8_keeps_44 ?_
    obtain ⟨h_9, hw⟩ := hw
    refine gw_iald F 2 rfl h_9 dX8_keeps_45 ?_
    obtain ⟨h_11, hw⟩ := hw
    obtain ⟨v_10, e_v_10⟩ : ∃ z : OV, z = sA vMd 1 x2.toNatClampNeg (vMd.1 1 (x2 + (177 : Int32)).toNatClampNeg) := ⟨_, rfl⟩
    have hw := hw v_10 e_v_10
    refine gw_iast (bs' := [bMd G hMd qMd v_10]) F 2 rfl h_11 dX8_keeps_46 (by rw [e_v_10]; rfl) ?_
    obtain ⟨i_12, e_i_12⟩ : ∃ z : Int32, z = x2 + (1 : Int32) := ⟨_, rfl⟩
    have hw := hw i_12 e_i_12
    refine gw_iinc (v := i_12) (lv' := [(2, .int i_12), (0, .ref hMd), (1, .ref (qMd 0))]) F dX8_keeps_47 2 rfl (by rw [e_i_12]; rfl) (by decide) rfl ?_
    refine gw_goto (tgt := 24) F dX8_keeps_50 (by decide) ?_
    refine gw_lv [1, 2, 0] rfl ?_
    exact hK24 _ _ hw
def wp_X8_keeps0_24_loop (Q : OV → Prop) : Nat → Int32 → OV → Prop
  | 0, _, _ => False
  | n + 1, x2, vMd => wp_X8_keeps0_24 Q (wp_X8_keeps0_24_loop Q n) x2 vMd
theorem lp_X8_keeps0_24 {X : List Cond} {l : Launch} {D : va_G} {G : Nat → ClassId} {C : Cx} {bs0 : List va_W} {hMd : Nat} {qMd : Nat → Nat} {Q : OV → Prop} (F : GF C X cX8_keeps wsX8_keeps RX8 rm_X8_keeps0 3 none D G l) (E : GE C bs0 0 0 (po_X8_keeps0 G hMd qMd Q)) : ∀ (n : Nat) (x2 : Int32) (vMd : OV), wp_X8_keeps0_24_loop Q n x2 vMd → GW C 0 0 [bMd G hMd qMd vMd] 24 [(0, .ref hMd), (1, .ref (qMd 0)), (2, .int x2)] [] := by
  intro n
  induction n with
  | zero => intro x2 vMd hw; exact False.elim hw
  | succ n ih => intro x2 vMd hw; exact lb_X8_keeps0_24 (K24 := wp_X8_keeps0_24_loop Q n) F E ih hw
def wp_X8_keeps0_0 (Q : OV → Prop) (vMd : OV) : Prop :=
  (∀ v_1 : OV, v_1 = sI vMd 9 (0 : Int32) → (((v_1.2 7) = 0 → ((¬ (v_1.2 6) = (8 : Int32) → (wp_X8_keeps0_63 Q v_1)) ∧ ((v_1.2 6) = (8 : Int32) → (∃ n_13 : Nat, wp_X8_keeps0_24_loop Q n_13 (0 : Int32) v_1)))) ∧ (¬ ((v_1.2 7) = 0) → (Q v_1))))
set_option maxRecDepth 20000 in
theorem lb_X8_keeps0_0 {X : List Cond} {l : Launch} {D : va_G} {G : Nat → ClassId} {C : Cx} {bs0 : List va_W} {hMd : Nat} {qMd : Nat → Nat} {Q : OV → Prop} (F : GF C X cX8_keeps wsX8_keeps RX8 rm_X8_keeps0 3 none D G l) (E : GE C bs0 0 0 (po_X8_keeps0 G hMd qMd Q)) {vMd : OV} (hw : wp_X8_keeps0_0 Q vMd) : GW C 0 0 [bMd G hMd qMd vMd] 0 [(0, .ref hMd), (1, .ref (qMd 0))] [] := by
  unfold wp_X8_keeps0_0 at hw
  refine gw_aload_n F dX8_keeps_0 0 rfl ?_
  refine gw_iconst (v := (0 : Int32)) F dX8_keeps_1 ic_iconst_0 ?_
  obtain ⟨v_1, e_v_1⟩ : ∃ z : OV, z = sI vMd 9 (0 : Int32) := ⟨_, rfl⟩
  have hw := hw v_1 e_v_1
  refine gw_put (bs' := [bMd G hMd qMd v_1]) F in_X8_keeps0_RX8 tyX8 tyX8_ok nmX8 0 rfl rfl 9 (by decide) lk_X8_keeps0_46 rfl rfl rfl (Nat.le_of_ble_eq_true rfl) dX8_keeps_2 (by rw [e_v_1]; rfl) ?_
  refine gw_aload_n F dX8_keeps_5 0 rfl ?_
  refine gw_get F in_X8_keeps0_RX8 0 rfl rfl 7 (by decide) lk_X8_keeps0_55 rfl dX8_keeps_6 ?_
  refine gw_if_eq (tgt := 13) F dX8_keeps_9 (by decide) (fun c_2 => ?_) (fun c_2 => ?_)
  · have hw := hw.1 c_2
    refine gw_aload_n F dX8_keeps_13 0 rfl ?_
    refine gw_get F in_X8_keeps0_RX8 0 rfl rfl 6 (by decide) lk_X8_keeps0_65 rfl dX8_keeps_14 ?_
    refine gw_bipush (v := (8 : Int32)) F dX8_keeps_17 ic_bipush_8 ?_
    refine gw_icmp_ne (tgt := 63) F dX8_keeps_19 (by decide) (fun c_3 => ?_) (fun c_3 => ?_)
    · have hw := hw.1 c_3
      exact lb_X8_keeps0_63 F E hw
    · have hw := hw.2 c_3
      refine gw_iconst (v := (0 : Int32)) F dX8_keeps_22 ic_iconst_0 ?_
      refine gw_istore_n (lv' := [(2, .int (0 : Int32)), (0, .ref hMd), (1, .ref (qMd 0))]) F dX8_keeps_23 (by decide) rfl ?_
      refine gw_lv [1, 2, 0] rfl ?_
      obtain ⟨n_13, hw⟩ := hw
      exact lp_X8_keeps0_24 F E n_13 _ _ hw
  · have hw := hw.2 c_2
    exact gw_vret F E rfl (Nat.le_of_ble_eq_true rfl) (Nat.le_of_ble_eq_true rfl) dX8_keeps_12 ⟨_, rfl, rfl, hw⟩
def wp_X8_keeps0 (Q : OV → Prop) (vMd : OV) : Prop := wp_X8_keeps0_0 Q vMd
theorem ct_X8_keeps0 {X : List Cond} {l : Launch} {D : va_G} {G : Nat → ClassId} {hMd : Nat} {qMd : Nat → Nat} {Q : OV → Prop} {vMd : OV} (hw : wp_X8_keeps0 Q vMd) : CM X l yX8_keeps wsX8_keeps rm_X8_keeps0 D G [.ref hMd, .ref (qMd 0)] [bMd G hMd qMd vMd] 0 0 (po_X8_keeps0 G hMd qMd Q) :=
  CM.of pn_RX8 rfl rfl (Nat.le_of_ble_eq_true rfl) rfl (fun C F E => lb_X8_keeps0_0 F E hw)
-- X8_keeps3
abbrev rm_X8_keeps3 : Room := { frames := 2, cells := 0, slots := 0, locals := 84 }
def po_X8_keeps3 (G : Nat → ClassId) (hMd : Nat) (qMd : Nat → Nat) (Q : OV → Prop) : Option Value → List va_W → Prop := fun o bs => ∃ (vMd : OV), o = none ∧ bs = [bMd G hMd qMd vMd] ∧ Q vMd
theorem in_X8_keeps3_RX8 : ∀ w ∈ wsX80, w ∈ wsX8_keeps := fun w h => List.mem_cons_of_mem _ (List.mem_append_left _ (List.mem_append_right _ h))
theorem lk_X8_keeps3_46 : Cond.fieldLink RX8 46 "KeyWavesModel" "code" "I" ∈ wsX8_keeps := List.mem_cons_of_mem _ (List.mem_append_left _ (List.mem_append_left _ (List.mem_of_getElem? (i := 0) rfl)))
theorem lk_X8_keeps3_55 : Cond.fieldLink RX8 55 "KeyWavesModel" "isWithin" "Z" ∈ wsX8_keeps := List.mem_cons_of_mem _ (List.mem_append_left _ (List.mem_append_left _ (List.mem_of_getElem? (i := 1) rfl)))
theorem lk_X8_keeps3_65 : Cond.fieldLink RX8 65 "KeyWavesModel" "changes" "I" ∈ wsX8_keeps := List.mem_cons_of_mem _ (List.mem_append_left _ (List.mem_append_left _ (List.mem_of_getElem? (i := 2) rfl)))
theorem lk_X8_keeps3_13 : Cond.fieldLink RX8 13 "KeyWavesModel" "kept" "[I" ∈ wsX8_keeps := List.mem_cons_of_mem _ (List.mem_append_left _ (List.mem_append_left _ (List.mem_of_getElem? (i := 3) rfl)))
def wp_X8_keeps3_63 (Q : OV → Prop) (vMd : OV) : Prop :=
  (wp_X8_copies (fun (v_4 : (Nat → Int32)) => (∀ v_5 : OV, v_5 = sF vMd 1 v_4 → (∀ v_6 : OV, v_6 = sI v_5 6 ((v_5.2 6) + (1 : Int32)) → (Q v_6)))) 177 1416 (0 : Int32) ((177 : Int32) * (vMd.2 6)) (vMd.1 3) (vMd.1 1))
set_option maxRecDepth 20000 in
theorem lb_X8_keeps3_63 {X : List Cond} {l : Launch} {D : va_G} {G : Nat → ClassId} {C : Cx} {bs0 : List va_W} {hMd : Nat} {qMd : Nat → Nat} {Q : OV → Prop} (F : GF C X cX8_keeps wsX8_keeps RX8 rm_X8_keeps3 3 none D G l) (E : GE C bs0 0 0 (po_X8_keeps3 G hMd qMd Q)) {vMd : OV} (hw : wp_X8_keeps3_63 Q vMd) : GW C 0 0 [bMd G hMd qMd vMd] 63 [(0, .ref hMd), (1, .ref (qMd 3))] [] := by
  unfold wp_X8_keeps3_63 at hw
  refine gw_aload_n F dX8_keeps_63 1 rfl ?_
  refine gw_iconst (v := (0 : Int32)) F dX8_keeps_64 ic_iconst_0 ?_
  refine gw_aload_n F dX8_keeps_65 0 rfl ?_
  refine gw_get F in_X8_keeps3_RX8 0 rfl rfl 1 (by decide) lk_X8_keeps3_13 rfl dX8_keeps_66 ?_
  refine gw_sipush (v := (177 : Int32)) F dX8_keeps_69 ic_sipush_177 ?_
  refine gw_aload_n F dX8_keeps_72 0 rfl ?_
  refine gw_get F in_X8_keeps3_RX8 0 rfl rfl 6 (by decide) lk_X8_keeps3_65 rfl dX8_keeps_73 ?_
  refine gw_imul F dX8_keeps_76 ?_
  refine gw_flat (bs' := mdB G hMd qMd vMd) rfl ?_
  refine gw_callS F (ct_X8_copies hw) 4 gX8_keeps_X8_copies rfl rfl rfl hd_X8_copies ⟨(Nat.le_of_ble_eq_true rfl), (Nat.le_of_ble_eq_true rfl)⟩ rfl rfl (Nat.le_of_ble_eq_true rfl) ⟨Nat.zero_le _, Nat.zero_le _⟩ [0, 1, 3, 5, 6, 7, 8, 9, 10, 4, 2] (bsr := ((mdB G hMd qMd vMd).eraseIdx 4 |>.eraseIdx 2)) rfl rfl dX8_keeps_77 ?_
  rintro _ _ ⟨v_4, rfl, rfl, hw⟩
  obtain ⟨v_5, e_v_5⟩ : ∃ z : OV, z = sF vMd 1 v_4 := ⟨_, rfl⟩
  have hw := hw v_5 e_v_5
  refine gw_sel [0, 1, 10, 2, 9, 3, 4, 5, 6, 7, 8] (bs' := mdB G hMd qMd v_5) (by rw [e_v_5]; rfl) rfl ?_
  refine gw_flat (bs' := [bMd G hMd qMd v_5]) rfl ?_
  change GW C 0 0 _ 80 _ []
  refine gw_aload_n F dX8_keeps_80 0 rfl ?_
  refine gw_dup F dX8_keeps_81 rfl ?_
  refine gw_get F in_X8_keeps3_RX8 0 rfl rfl 6 (by decide) lk_X8_keeps3_65 rfl dX8_keeps_82 ?_
  refine gw_iconst (v := (1 : Int32)) F dX8_keeps_85 ic_iconst_1 ?_
  refine gw_iadd F dX8_keeps_86 ?_
  obtain ⟨v_6, e_v_6⟩ : ∃ z : OV, z = sI v_5 6 ((v_5.2 6) + (1 : Int32)) := ⟨_, rfl⟩
  have hw := hw v_6 e_v_6
  refine gw_put (bs' := [bMd G hMd qMd v_6]) F in_X8_keeps3_RX8 tyX8 tyX8_ok nmX8 0 rfl rfl 6 (by decide) lk_X8_keeps3_65 rfl rfl rfl (Nat.le_of_ble_eq_true rfl) dX8_keeps_87 (by rw [e_v_6]; rfl) ?_
  exact gw_vret F E rfl (Nat.le_of_ble_eq_true rfl) (Nat.le_of_ble_eq_true rfl) dX8_keeps_90 ⟨_, rfl, rfl, hw⟩
def wp_X8_keeps3_24 (Q : OV → Prop) (K24 : Int32 → OV → Prop) (x2 : Int32) (vMd : OV) : Prop :=
  (((1239 : Int32) ≤ x2 → (∀ v_8 : OV, v_8 = sI vMd 6 ((vMd.2 6) - (1 : Int32)) → (wp_X8_keeps3_63 Q v_8))) ∧ (¬ ((1239 : Int32) ≤ x2) → (vp_in (x2 + (177 : Int32)) 1416 ∧ (vp_in x2 1416 ∧ ∀ v_10 : OV, v_10 = sA vMd 1 x2.toNatClampNeg (vMd.1 1 (x2 + (177 : Int32)).toNatClampNeg) → (∀ i_12 : Int32, i_12 = x2 + (1 : Int32) → (K24 i_12 v_10))))))
set_option maxRecDepth 20000 in
theorem lb_X8_keeps3_24 {X : List Cond} {l : Launch} {D : va_G} {G : Nat → ClassId} {C : Cx} {bs0 : List va_W} {hMd : Nat} {qMd : Nat → Nat} {Q : OV → Prop} {K24 : Int32 → OV → Prop} (F : GF C X cX8_keeps wsX8_keeps RX8 rm_X8_keeps3 3 none D G l) (E : GE C bs0 0 0 (po_X8_keeps3 G hMd qMd Q)) (hK24 : ∀ (x2 : Int32) (vMd : OV), K24 x2 vMd → GW C 0 0 [bMd G hMd qMd vMd] 24 [(0, .ref hMd), (1, .ref (qMd 3)), (2, .int x2)] []) {x2 : Int32} {vMd : OV} (hw : wp_X8_keeps3_24 Q K24 x2 vMd) : GW C 0 0 [bMd G hMd qMd vMd] 24 [(0, .ref hMd), (1, .ref (qMd 3)), (2, .int x2)] [] := by
  unfold wp_X8_keeps3_24 at hw
  refine gw_iload_n F dX8_keeps_24 2 rfl ?_
  refine gw_sipush (v := (1239 : Int32)) F dX8_keeps_25 ic_sipush_1239 ?_
  refine gw_icmp_ge (tgt := 53) F dX8_keeps_28 (by decide) (fun c_7 => ?_) (fun c_7 => ?_)
  · have hw := hw.1 c_7
    refine gw_aload_n F dX8_keeps_53 0 rfl ?_
    refine gw_dup F dX8_keeps_54 rfl ?_
    refine gw_get F in_X8_keeps3_RX8 0 rfl rfl 6 (by decide) lk_X8_keeps3_65 rfl dX8_keeps_55 ?_
    refine gw_iconst (v := (1 : Int32)) F dX8_keeps_58 ic_iconst_1 ?_
    refine gw_isub F dX8_keeps_59 ?_
    obtain ⟨v_8, e_v_8⟩ : ∃ z : OV, z = sI vMd 6 ((vMd.2 6) - (1 : Int32)) := ⟨_, rfl⟩
    have hw := hw v_8 e_v_8
    refine gw_put (bs' := [bMd G hMd qMd v_8]) F in_X8_keeps3_RX8 tyX8 tyX8_ok nmX8 0 rfl rfl 6 (by decide) lk_X8_keeps3_65 rfl rfl rfl (Nat.le_of_ble_eq_true rfl) dX8_keeps_60 (by rw [e_v_8]; rfl) ?_
    refine gw_lv [0, 1] rfl ?_
    exact lb_X8_keeps3_63 F E hw
  · have hw := hw.2 c_7
    refine gw_aload_n F dX8_keeps_31 0 rfl ?_
    refine gw_get F in_X8_keeps3_RX8 0 rfl rfl 1 (by decide) lk_X8_keeps3_13 rfl dX8_keeps_32 ?_
    refine gw_iload_n F dX8_keeps_35 2 rfl ?_
    refine gw_aload_n F dX8_keeps_36 0 rfl ?_
    refine gw_get F in_X8_keeps3_RX8 0 rfl rfl 1 (by decide) lk_X8_keeps3_13 rfl dX8_keeps_37 ?_
    refine gw_iload_n F dX8_keeps_40 2 rfl ?_
    refine gw_sipush (v := (177 : Int32)) F dX8_keeps_41 ic_sipush_177 ?_
    refine gw_iadd F dX8_keeps_44 ?_
    obtain ⟨h_9, hw⟩ := hw
    refine gw_iald F 2 rfl h_9 dX8_keeps_45 ?_
    obtain ⟨h_11, hw⟩ := hw
    obtain ⟨v_10, e_v_10⟩ : ∃ z : OV, z = sA vMd 1 x2.toNatClampNeg (vMd.1 1 (x2 + (177 : Int32)).toNatClampNeg) := ⟨_, rfl⟩
    have hw := hw v_10 e_v_10
    refine gw_iast (bs' := [bMd G hMd qMd v_10]) F 2 rfl h_11 dX8_keeps_46 (by rw [e_v_10]; rfl) ?_
    obtain ⟨i_12, e_i_12⟩ : ∃ z : Int32, z = x2 + (1 : Int32) := ⟨_, rfl⟩
    have hw := hw i_12 e_i_12
    refine gw_iinc (v := i_12) (lv' := [(2, .int i_12), (0, .ref hMd), (1, .ref (qMd 3))]) F dX8_keeps_47 2 rfl (by rw [e_i_12]; rfl) (by decide) rfl ?_
    refine gw_goto (tgt := 24) F dX8_keeps_50 (by decide) ?_
    refine gw_lv [1, 2, 0] rfl ?_
    exact hK24 _ _ hw
def wp_X8_keeps3_24_loop (Q : OV → Prop) : Nat → Int32 → OV → Prop
  | 0, _, _ => False
  | n + 1, x2, vMd => wp_X8_keeps3_24 Q (wp_X8_keeps3_24_loop Q n) x2 vMd
theorem lp_X8_keeps3_24 {X : List Cond} {l : Launch} {D : va_G} {G : Nat → ClassId} {C : Cx} {bs0 : List va_W} {hMd : Nat} {qMd : Nat → Nat} {Q : OV → Prop} (F : GF C X cX8_keeps wsX8_keeps RX8 rm_X8_keeps3 3 none D G l) (E : GE C bs0 0 0 (po_X8_keeps3 G hMd qMd Q)) : ∀ (n : Nat) (x2 : Int32) (vMd : OV), wp_X8_keeps3_24_loop Q n x2 vMd → GW C 0 0 [bMd G hMd qMd vMd] 24 [(0, .ref hMd), (1, .ref (qMd 3)), (2, .int x2)] [] := by
  intro n
  induction n with
  | zero => intro x2 vMd hw; exact False.elim hw
  | succ n ih => intro x2 vMd hw; exact lb_X8_keeps3_24 (K24 := wp_X8_keeps3_24_loop Q n) F E ih hw
def wp_X8_keeps3_0 (Q : OV → Prop) (vMd : OV) : Prop :=
  (∀ v_1 : OV, v_1 = sI vMd 9 (0 : Int32) → (((v_1.2 7) = 0 → ((¬ (v_1.2 6) = (8 : Int32) → (wp_X8_keeps3_63 Q v_1)) ∧ ((v_1.2 6) = (8 : Int32) → (∃ n_13 : Nat, wp_X8_keeps3_24_loop Q n_13 (0 : Int32) v_1)))) ∧ (¬ ((v_1.2 7) = 0) → (Q v_1))))
set_option maxRecDepth 20000 in
theorem lb_X8_keeps3_0 {X : List Cond} {l : Launch} {D : va_G} {G : Nat → ClassId} {C : Cx} {bs0 : List va_W} {hMd : Nat} {qMd : Nat → Nat} {Q : OV → Prop} (F : GF C X cX8_keeps wsX8_keeps RX8 rm_X8_keeps3 3 none D G l) (E : GE C bs0 0 0 (po_X8_keeps3 G hMd qMd Q)) {vMd : OV} (hw : wp_X8_keeps3_0 Q vMd) : GW C 0 0 [bMd G hMd qMd vMd] 0 [(0, .ref hMd), (1, .ref (qMd 3))] [] := by
  unfold wp_X8_keeps3_0 at hw
  refine gw_aload_n F dX8_keeps_0 0 rfl ?_
  refine gw_iconst (v := (0 : Int32)) F dX8_keeps_1 ic_iconst_0 ?_
  obtain ⟨v_1, e_v_1⟩ : ∃ z : OV, z = sI vMd 9 (0 : Int32) := ⟨_, rfl⟩
  have hw := hw v_1 e_v_1
  refine gw_put (bs' := [bMd G hMd qMd v_1]) F in_X8_keeps3_RX8 tyX8 tyX8_ok nmX8 0 rfl rfl 9 (by decide) lk_X8_keeps3_46 rfl rfl rfl (Nat.le_of_ble_eq_true rfl) dX8_keeps_2 (by rw [e_v_1]; rfl) ?_
  refine gw_aload_n F dX8_keeps_5 0 rfl ?_
  refine gw_get F in_X8_keeps3_RX8 0 rfl rfl 7 (by decide) lk_X8_keeps3_55 rfl dX8_keeps_6 ?_
  refine gw_if_eq (tgt := 13) F dX8_keeps_9 (by decide) (fun c_2 => ?_) (fun c_2 => ?_)
  · have hw := hw.1 c_2
    refine gw_aload_n F dX8_keeps_13 0 rfl ?_
    refine gw_get F in_X8_keeps3_RX8 0 rfl rfl 6 (by decide) lk_X8_keeps3_65 rfl dX8_keeps_14 ?_
    refine gw_bipush (v := (8 : Int32)) F dX8_keeps_17 ic_bipush_8 ?_
    refine gw_icmp_ne (tgt := 63) F dX8_keeps_19 (by decide) (fun c_3 => ?_) (fun c_3 => ?_)
    · have hw := hw.1 c_3
      exact lb_X8_keeps3_63 F E hw
    · have hw := hw.2 c_3
      refine gw_iconst (v := (0 : Int32)) F dX8_keeps_22 ic_iconst_0 ?_
      refine gw_istore_n (lv' := [(2, .int (0 : Int32)), (0, .ref hMd), (1, .ref (qMd 3))]) F dX8_keeps_23 (by decide) rfl ?_
      refine gw_lv [1, 2, 0] rfl ?_
      obtain ⟨n_13, hw⟩ := hw
      exact lp_X8_keeps3_24 F E n_13 _ _ hw
  · have hw := hw.2 c_2
    exact gw_vret F E rfl (Nat.le_of_ble_eq_true rfl) (Nat.le_of_ble_eq_true rfl) dX8_keeps_12 ⟨_, rfl, rfl, hw⟩
def wp_X8_keeps3 (Q : OV → Prop) (vMd : OV) : Prop := wp_X8_keeps3_0 Q vMd
theorem ct_X8_keeps3 {X : List Cond} {l : Launch} {D : va_G} {G : Nat → ClassId} {hMd : Nat} {qMd : Nat → Nat} {Q : OV → Prop} {vMd : OV} (hw : wp_X8_keeps3 Q vMd) : CM X l yX8_keeps wsX8_keeps rm_X8_keeps3 D G [.ref hMd, .ref (qMd 3)] [bMd G hMd qMd vMd] 0 0 (po_X8_keeps3 G hMd qMd Q) :=
  CM.of pn_RX8 rfl rfl (Nat.le_of_ble_eq_true rfl) rfl (fun C F E => lb_X8_keeps3_0 F E hw)
-- X8_many
abbrev rm_X8_many : Room := { frames := 1, cells := 0, slots := 0, locals := 60 }
def po_X8_many (G : Nat → ClassId) (Q : Int32 → Prop) : Option Value → List va_W → Prop := fun o bs => ∃ (r : Int32), o = some (.int r) ∧ bs = [] ∧ Q r
theorem hd_X8_many : yX8_many.cls ≠ "java/lang/invoke/MethodHandle" ∧ yX8_many.cls ≠ "java/lang/invoke/VarHandle" ∧ (parseMethodDescriptor yX8_many.desc).map (fun d => d.parameters.length) = some 1 := by decide +kernel
def wp_X8_many_4 (Q : Int32 → Prop) (K4 : Int32 → Int32 → Int32 → Prop) (x0 x1 x2 : Int32) : Prop :=
  (((6 : Int32) ≤ x2 → (Q x1)) ∧ (¬ ((6 : Int32) ≤ x2) → (∀ i_2 : Int32, i_2 = (x1 + ((x0 >>> (x2 &&& 31)) &&& (1 : Int32))) → (∀ i_3 : Int32, i_3 = x2 + (1 : Int32) → (K4 x0 i_2 i_3)))))
set_option maxRecDepth 20000 in
theorem lb_X8_many_4 {X : List Cond} {l : Launch} {D : va_G} {G : Nat → ClassId} {C : Cx} {bs0 : List va_W} {Q : Int32 → Prop} {K4 : Int32 → Int32 → Int32 → Prop} (F : GF C X cX8_many wsX8_many RX8 rm_X8_many 3 (some .int) D G l) (E : GE C bs0 0 0 (po_X8_many G Q)) (hK4 : ∀ (x0 x1 x2 : Int32), K4 x0 x1 x2 → GW C 0 0 [] 4 [(0, .int x0), (1, .int x1), (2, .int x2)] []) {x0 x1 x2 : Int32} (hw : wp_X8_many_4 Q K4 x0 x1 x2) : GW C 0 0 [] 4 [(0, .int x0), (1, .int x1), (2, .int x2)] [] := by
  unfold wp_X8_many_4 at hw
  refine gw_iload_n F dX8_many_4 2 rfl ?_
  refine gw_bipush (v := (6 : Int32)) F dX8_many_5 ic_bipush_6 ?_
  refine gw_icmp_ge (tgt := 24) F dX8_many_7 (by decide) (fun c_1 => ?_) (fun c_1 => ?_)
  · have hw := hw.1 c_1
    refine gw_iload_n F dX8_many_24 1 rfl ?_
    exact gw_iret F E rfl rfl (Nat.le_of_ble_eq_true rfl) (Nat.le_of_ble_eq_true rfl) dX8_many_25 ⟨_, rfl, rfl, hw⟩
  · have hw := hw.2 c_1
    refine gw_iload_n F dX8_many_10 1 rfl ?_
    refine gw_iload_n F dX8_many_11 0 rfl ?_
    refine gw_iload_n F dX8_many_12 2 rfl ?_
    refine gw_ishr F dX8_many_13 ?_
    refine gw_iconst (v := (1 : Int32)) F dX8_many_14 ic_iconst_1 ?_
    refine gw_iand F dX8_many_15 ?_
    refine gw_iadd F dX8_many_16 ?_
    refine gw_topi (fun i_2 e_i_2 => ?_)
    have hw := hw i_2 e_i_2
    refine gw_istore_n (lv' := [(1, .int i_2), (0, .int x0), (2, .int x2)]) F dX8_many_17 (by decide) rfl ?_
    obtain ⟨i_3, e_i_3⟩ : ∃ z : Int32, z = x2 + (1 : Int32) := ⟨_, rfl⟩
    have hw := hw i_3 e_i_3
    refine gw_iinc (v := i_3) (lv' := [(2, .int i_3), (1, .int i_2), (0, .int x0)]) F dX8_many_18 2 rfl (by rw [e_i_3]; rfl) (by decide) rfl ?_
    refine gw_goto (tgt := 4) F dX8_many_21 (by decide) ?_
    refine gw_lv [2, 1, 0] rfl ?_
    exact hK4 _ _ _ hw
def wp_X8_many_4_loop (Q : Int32 → Prop) : Nat → Int32 → Int32 → Int32 → Prop
  | 0, _, _, _ => False
  | n + 1, x0, x1, x2 => wp_X8_many_4 Q (wp_X8_many_4_loop Q n) x0 x1 x2
theorem lp_X8_many_4 {X : List Cond} {l : Launch} {D : va_G} {G : Nat → ClassId} {C : Cx} {bs0 : List va_W} {Q : Int32 → Prop} (F : GF C X cX8_many wsX8_many RX8 rm_X8_many 3 (some .int) D G l) (E : GE C bs0 0 0 (po_X8_many G Q)) : ∀ (n : Nat) (x0 x1 x2 : Int32), wp_X8_many_4_loop Q n x0 x1 x2 → GW C 0 0 [] 4 [(0, .int x0), (1, .int x1), (2, .int x2)] [] := by
  intro n
  induction n with
  | zero => intro x0 x1 x2 hw; exact False.elim hw
  | succ n ih => intro x0 x1 x2 hw; exact lb_X8_many_4 (K4 := wp_X8_many_4_loop Q n) F E ih hw
def wp_X8_many_0 (Q : Int32 → Prop) (x0 : Int32) : Prop :=
  (∃ n_4 : Nat, wp_X8_many_4_loop Q n_4 x0 (0 : Int32) (0 : Int32))
set_option maxRecDepth 20000 in
theorem lb_X8_many_0 {X : List Cond} {l : Launch} {D : va_G} {G : Nat → ClassId} {C : Cx} {bs0 : List va_W} {Q : Int32 → Prop} (F : GF C X cX8_many wsX8_many RX8 rm_X8_many 3 (some .int) D G l) (E : GE C bs0 0 0 (po_X8_many G Q)) {x0 : Int32} (hw : wp_X8_many_0 Q x0) : GW C 0 0 [] 0 [(0, .int x0)] [] := by
  unfold wp_X8_many_0 at hw
  refine gw_iconst (v := (0 : Int32)) F dX8_many_0 ic_iconst_0 ?_
  refine gw_istore_n (lv' := [(1, .int (0 : Int32)), (0, .int x0)]) F dX8_many_1 (by decide) rfl ?_
  refine gw_iconst (v := (0 : Int32)) F dX8_many_2 ic_iconst_0 ?_
  refine gw_istore_n (lv' := [(2, .int (0 : Int32)), (1, .int (0 : Int32)), (0, .int x0)]) F dX8_many_3 (by decide) rfl ?_
  refine gw_lv [2, 1, 0] rfl ?_
  obtain ⟨n_4, hw⟩ := hw
  exact lp_X8_many_4 F E n_4 _ _ _ hw
def wp_X8_many (Q : Int32 → Prop) (x0 : Int32) : Prop := wp_X8_many_0 Q x0
theorem ct_X8_many {X : List Cond} {l : Launch} {D : va_G} {G : Nat → ClassId} {Q : Int32 → Prop} {x0 : Int32} (hw : wp_X8_many Q x0) : CM X l yX8_many wsX8_many rm_X8_many D G [.int x0] [] 0 0 (po_X8_many G Q) :=
  CM.of pn_RX8 rfl rfl (Nat.le_of_ble_eq_true rfl) rfl (fun C F E => lb_X8_many_0 F E hw)
-- X8_isKey
abbrev rm_X8_isKey : Room := { frames := 2, cells := 0, slots := 0, locals := 82 }
def po_X8_isKey (G : Nat → ClassId) (hMd : Nat) (qMd : Nat → Nat) (vMd : OV) (Q : Int32 → Prop) : Option Value → List va_W → Prop := fun o bs => ∃ (r : Int32), o = some (.int r) ∧ bs = [bMd G hMd qMd vMd] ∧ Q r
theorem hd_X8_isKey : yX8_isKey.cls = RX8 ∧ yX8_isKey.cls ≠ "java/lang/invoke/MethodHandle" ∧ yX8_isKey.cls ≠ "java/lang/invoke/VarHandle" ∧ (parseMethodDescriptor yX8_isKey.desc).map (fun d => d.parameters.length) = some 1 := by decide +kernel
theorem in_X8_isKey_RX8 : ∀ w ∈ wsX80, w ∈ wsX8_isKey := fun w h => List.mem_cons_of_mem _ (List.mem_append_left _ (List.mem_append_right _ h))
theorem lk_X8_isKey_7 : Cond.fieldLink RX8 7 "KeyWavesModel" "g" "[I" ∈ wsX8_isKey := List.mem_cons_of_mem _ (List.mem_append_left _ (List.mem_append_left _ (List.mem_of_getElem? (i := 0) rfl)))
def wp_X8_isKey_0 (Q : Int32 → Prop) (vMd : OV) (x1 : Int32) : Prop :=
  (vp_in (0 : Int32) 177 ∧ (wp_X8_in (fun (r_2 : Int32) => (narrow .boolean (.int r_2) = .int r_2 ∧ Q r_2)) x1 (0 : Int32) ((vMd.1 0 (0 : Int32).toNatClampNeg) - (1 : Int32))))
set_option maxRecDepth 20000 in
theorem lb_X8_isKey_0 {X : List Cond} {l : Launch} {D : va_G} {G : Nat → ClassId} {C : Cx} {bs0 : List va_W} {hMd : Nat} {qMd : Nat → Nat} {Q : Int32 → Prop} {vMd : OV} (F : GF C X cX8_isKey wsX8_isKey RX8 rm_X8_isKey 2 (some .boolean) D G l) (E : GE C bs0 0 0 (po_X8_isKey G hMd qMd vMd Q)) {x1 : Int32} (hw : wp_X8_isKey_0 Q vMd x1) : GW C 0 0 [bMd G hMd qMd vMd] 0 [(0, .ref hMd), (1, .int x1)] [] := by
  unfold wp_X8_isKey_0 at hw
  refine gw_iload_n F dX8_isKey_0 1 rfl ?_
  refine gw_iconst (v := (0 : Int32)) F dX8_isKey_1 ic_iconst_0 ?_
  refine gw_aload_n F dX8_isKey_2 0 rfl ?_
  refine gw_get F in_X8_isKey_RX8 0 rfl rfl 0 (by decide) lk_X8_isKey_7 rfl dX8_isKey_3 ?_
  refine gw_iconst (v := (0 : Int32)) F dX8_isKey_6 ic_iconst_0 ?_
  obtain ⟨h_1, hw⟩ := hw
  refine gw_iald F 1 rfl h_1 dX8_isKey_7 ?_
  refine gw_iconst (v := (1 : Int32)) F dX8_isKey_8 ic_iconst_1 ?_
  refine gw_isub F dX8_isKey_9 ?_
  refine gw_callS F (ct_X8_in hw) 3 gX8_isKey_X8_in rfl rfl rfl hd_X8_in ⟨(Nat.le_of_ble_eq_true rfl), (Nat.le_of_ble_eq_true rfl)⟩ rfl rfl (Nat.le_of_ble_eq_true rfl) ⟨Nat.zero_le _, Nat.zero_le _⟩ [0] (bsr := [bMd G hMd qMd vMd]) rfl rfl dX8_isKey_10 ?_
  rintro _ _ ⟨r_2, rfl, rfl, hw⟩
  refine gw_sel [0] (bs' := [bMd G hMd qMd vMd]) rfl rfl ?_
  change GW C 0 0 _ 13 _ [.int r_2]
  obtain ⟨hn, hw⟩ := hw
  exact gw_iret F E rfl hn (Nat.le_of_ble_eq_true rfl) (Nat.le_of_ble_eq_true rfl) dX8_isKey_13 ⟨_, rfl, rfl, hw⟩
def wp_X8_isKey (Q : Int32 → Prop) (x1 : Int32) (vMd : OV) : Prop := wp_X8_isKey_0 Q vMd x1
theorem ct_X8_isKey {X : List Cond} {l : Launch} {D : va_G} {G : Nat → ClassId} {hMd : Nat} {qMd : Nat → Nat} {Q : Int32 → Prop} {x1 : Int32} {vMd : OV} (hw : wp_X8_isKey Q x1 vMd) : CM X l yX8_isKey wsX8_isKey rm_X8_isKey D G [.ref hMd, .int x1] [bMd G hMd qMd vMd] 0 0 (po_X8_isKey G hMd qMd vMd Q) :=
  CM.of pn_RX8 rfl rfl (Nat.le_of_ble_eq_true rfl) rfl (fun C F E => lb_X8_isKey_0 F E hw)
-- X8_isLock
abbrev rm_X8_isLock : Room := { frames := 2, cells := 0, slots := 0, locals := 82 }
def po_X8_isLock (G : Nat → ClassId) (hMd : Nat) (qMd : Nat → Nat) (vMd : OV) (Q : Int32 → Prop) : Option Value → List va_W → Prop := fun o bs => ∃ (r : Int32), o = some (.int r) ∧ bs = [bMd G hMd qMd vMd] ∧ Q r
theorem hd_X8_isLock : yX8_isLock.cls = RX8 ∧ yX8_isLock.cls ≠ "java/lang/invoke/MethodHandle" ∧ yX8_isLock.cls ≠ "java/lang/invoke/VarHandle" ∧ (parseMethodDescriptor yX8_isLock.desc).map (fun d => d.parameters.length) = some 1 := by decide +kernel
theorem in_X8_isLock_RX8 : ∀ w ∈ wsX80, w ∈ wsX8_isLock := fun w h => List.mem_cons_of_mem _ (List.mem_append_left _ (List.mem_append_right _ h))
theorem lk_X8_isLock_7 : Cond.fieldLink RX8 7 "KeyWavesModel" "g" "[I" ∈ wsX8_isLock := List.mem_cons_of_mem _ (List.mem_append_left _ (List.mem_append_left _ (List.mem_of_getElem? (i := 0) rfl)))
def wp_X8_isLock_0 (Q : Int32 → Prop) (vMd : OV) (x1 : Int32) : Prop :=
  (vp_in (1 : Int32) 177 ∧ (wp_X8_in (fun (r_2 : Int32) => (narrow .boolean (.int r_2) = .int r_2 ∧ Q r_2)) x1 (0 : Int32) ((vMd.1 0 (1 : Int32).toNatClampNeg) - (1 : Int32))))
set_option maxRecDepth 20000 in
theorem lb_X8_isLock_0 {X : List Cond} {l : Launch} {D : va_G} {G : Nat → ClassId} {C : Cx} {bs0 : List va_W} {hMd : Nat} {qMd : Nat → Nat} {Q : Int32 → Prop} {vMd : OV} (F : GF C X cX8_isLock wsX8_isLock RX8 rm_X8_isLock 2 (some .boolean) D G l) (E : GE C bs0 0 0 (po_X8_isLock G hMd qMd vMd Q)) {x1 : Int32} (hw : wp_X8_isLock_0 Q vMd x1) : GW C 0 0 [bMd G hMd qMd vMd] 0 [(0, .ref hMd), (1, .int x1)] [] := by
  unfold wp_X8_isLock_0 at hw
  refine gw_iload_n F dX8_isLock_0 1 rfl ?_
  refine gw_iconst (v := (0 : Int32)) F dX8_isLock_1 ic_iconst_0 ?_
  refine gw_aload_n F dX8_isLock_2 0 rfl ?_
  refine gw_get F in_X8_isLock_RX8 0 rfl rfl 0 (by decide) lk_X8_isLock_7 rfl dX8_isLock_3 ?_
  refine gw_iconst (v := (1 : Int32)) F dX8_isLock_6 ic_iconst_1 ?_
  obtain ⟨h_1, hw⟩ := hw
  refine gw_iald F 1 rfl h_1 dX8_isLock_7 ?_
  refine gw_iconst (v := (1 : Int32)) F dX8_isLock_8 ic_iconst_1 ?_
  refine gw_isub F dX8_isLock_9 ?_
  refine gw_callS F (ct_X8_in hw) 3 gX8_isLock_X8_in rfl rfl rfl hd_X8_in ⟨(Nat.le_of_ble_eq_true rfl), (Nat.le_of_ble_eq_true rfl)⟩ rfl rfl (Nat.le_of_ble_eq_true rfl) ⟨Nat.zero_le _, Nat.zero_le _⟩ [0] (bsr := [bMd G hMd qMd vMd]) rfl rfl dX8_isLock_10 ?_
  rintro _ _ ⟨r_2, rfl, rfl, hw⟩
  refine gw_sel [0] (bs' := [bMd G hMd qMd vMd]) rfl rfl ?_
  change GW C 0 0 _ 13 _ [.int r_2]
  obtain ⟨hn, hw⟩ := hw
  exact gw_iret F E rfl hn (Nat.le_of_ble_eq_true rfl) (Nat.le_of_ble_eq_true rfl) dX8_isLock_13 ⟨_, rfl, rfl, hw⟩
def wp_X8_isLock (Q : Int32 → Prop) (x1 : Int32) (vMd : OV) : Prop := wp_X8_isLock_0 Q vMd x1
theorem ct_X8_isLock {X : List Cond} {l : Launch} {D : va_G} {G : Nat → ClassId} {hMd : Nat} {qMd : Nat → Nat} {Q : Int32 → Prop} {x1 : Int32} {vMd : OV} (hw : wp_X8_isLock Q x1 vMd) : CM X l yX8_isLock wsX8_isLock rm_X8_isLock D G [.ref hMd, .int x1] [bMd G hMd qMd vMd] 0 0 (po_X8_isLock G hMd qMd vMd Q) :=
  CM.of pn_RX8 rfl rfl (Nat.le_of_ble_eq_true rfl) rfl (fun C F E => lb_X8_isLock_0 F E hw)
-- X8_ofKey
abbrev rm_X8_ofKey : Room := { frames := 1, cells := 0, slots := 0, locals := 60 }
def po_X8_ofKey (G : Nat → ClassId) (hMd : Nat) (qMd : Nat → Nat) (vMd : OV) (Q : Int32 → Prop) : Option Value → List va_W → Prop := fun o bs => ∃ (r : Int32), o = some (.int r) ∧ bs = [bMd G hMd qMd vMd] ∧ Q r
theorem hd_X8_ofKey : yX8_ofKey.cls = RX8 ∧ yX8_ofKey.cls ≠ "java/lang/invoke/MethodHandle" ∧ yX8_ofKey.cls ≠ "java/lang/invoke/VarHandle" ∧ (parseMethodDescriptor yX8_ofKey.desc).map (fun d => d.parameters.length) = some 2 := by decide +kernel
theorem in_X8_ofKey_RX8 : ∀ w ∈ wsX80, w ∈ wsX8_ofKey := fun w h => List.mem_cons_of_mem _ (List.mem_append_left _ (List.mem_append_right _ h))
theorem lk_X8_ofKey_7 : Cond.fieldLink RX8 7 "KeyWavesModel" "g" "[I" ∈ wsX8_ofKey := List.mem_cons_of_mem _ (List.mem_append_left _ (List.mem_append_left _ (List.mem_of_getElem? (i := 0) rfl)))
def wp_X8_ofKey_0 (Q : Int32 → Prop) (vMd : OV) (x1 : Int32) (x2 : Int32) : Prop :=
  (vp_in (((7 : Int32) + ((4 : Int32) * x1)) + x2) 177 ∧ (Q (vMd.1 0 (((7 : Int32) + ((4 : Int32) * x1)) + x2).toNatClampNeg)))
set_option maxRecDepth 20000 in
theorem lb_X8_ofKey_0 {X : List Cond} {l : Launch} {D : va_G} {G : Nat → ClassId} {C : Cx} {bs0 : List va_W} {hMd : Nat} {qMd : Nat → Nat} {Q : Int32 → Prop} {vMd : OV} (F : GF C X cX8_ofKey wsX8_ofKey RX8 rm_X8_ofKey 3 (some .int) D G l) (E : GE C bs0 0 0 (po_X8_ofKey G hMd qMd vMd Q)) {x1 : Int32} {x2 : Int32} (hw : wp_X8_ofKey_0 Q vMd x1 x2) : GW C 0 0 [bMd G hMd qMd vMd] 0 [(0, .ref hMd), (1, .int x1), (2, .int x2)] [] := by
  unfold wp_X8_ofKey_0 at hw
  refine gw_aload_n F dX8_ofKey_0 0 rfl ?_
  refine gw_get F in_X8_ofKey_RX8 0 rfl rfl 0 (by decide) lk_X8_ofKey_7 rfl dX8_ofKey_1 ?_
  refine gw_bipush (v := (7 : Int32)) F dX8_ofKey_4 ic_bipush_7 ?_
  refine gw_iconst (v := (4 : Int32)) F dX8_ofKey_6 ic_iconst_4 ?_
  refine gw_iload_n F dX8_ofKey_7 1 rfl ?_
  refine gw_imul F dX8_ofKey_8 ?_
  refine gw_iadd F dX8_ofKey_9 ?_
  refine gw_iload_n F dX8_ofKey_10 2 rfl ?_
  refine gw_iadd F dX8_ofKey_11 ?_
  obtain ⟨h_1, hw⟩ := hw
  refine gw_iald F 1 rfl h_1 dX8_ofKey_12 ?_
  exact gw_iret F E rfl rfl (Nat.le_of_ble_eq_true rfl) (Nat.le_of_ble_eq_true rfl) dX8_ofKey_13 ⟨_, rfl, rfl, hw⟩
def wp_X8_ofKey (Q : Int32 → Prop) (x1 : Int32) (x2 : Int32) (vMd : OV) : Prop := wp_X8_ofKey_0 Q vMd x1 x2
theorem ct_X8_ofKey {X : List Cond} {l : Launch} {D : va_G} {G : Nat → ClassId} {hMd : Nat} {qMd : Nat → Nat} {Q : Int32 → Prop} {x1 : Int32} {x2 : Int32} {vMd : OV} (hw : wp_X8_ofKey Q x1 x2 vMd) : CM X l yX8_ofKey wsX8_ofKey rm_X8_ofKey D G [.ref hMd, .int x1, .int x2] [bMd G hMd qMd vMd] 0 0 (po_X8_ofKey G hMd qMd vMd Q) :=
  CM.of pn_RX8 rfl rfl (Nat.le_of_ble_eq_true rfl) rfl (fun C F E => lb_X8_ofKey_0 F E hw)
-- X8_ofLock
abbrev rm_X8_ofLock : Room := { frames := 1, cells := 0, slots := 0, locals := 60 }
def po_X8_ofLock (G : Nat → ClassId) (hMd : Nat) (qMd : Nat → Nat) (vMd : OV) (Q : Int32 → Prop) : Option Value → List va_W → Prop := fun o bs => ∃ (r : Int32), o = some (.int r) ∧ bs = [bMd G hMd qMd vMd] ∧ Q r
theorem hd_X8_ofLock : yX8_ofLock.cls = RX8 ∧ yX8_ofLock.cls ≠ "java/lang/invoke/MethodHandle" ∧ yX8_ofLock.cls ≠ "java/lang/invoke/VarHandle" ∧ (parseMethodDescriptor yX8_ofLock.desc).map (fun d => d.parameters.length) = some 2 := by decide +kernel
theorem in_X8_ofLock_RX8 : ∀ w ∈ wsX80, w ∈ wsX8_ofLock := fun w h => List.mem_cons_of_mem _ (List.mem_append_left _ (List.mem_append_right _ h))
theorem lk_X8_ofLock_7 : Cond.fieldLink RX8 7 "KeyWavesModel" "g" "[I" ∈ wsX8_ofLock := List.mem_cons_of_mem _ (List.mem_append_left _ (List.mem_append_left _ (List.mem_of_getElem? (i := 0) rfl)))
def wp_X8_ofLock_0 (Q : Int32 → Prop) (vMd : OV) (x1 : Int32) (x2 : Int32) : Prop :=
  (vp_in (((47 : Int32) + ((3 : Int32) * x1)) + x2) 177 ∧ (Q (vMd.1 0 (((47 : Int32) + ((3 : Int32) * x1)) + x2).toNatClampNeg)))
set_option maxRecDepth 20000 in
theorem lb_X8_ofLock_0 {X : List Cond} {l : Launch} {D : va_G} {G : Nat → ClassId} {C : Cx} {bs0 : List va_W} {hMd : Nat} {qMd : Nat → Nat} {Q : Int32 → Prop} {vMd : OV} (F : GF C X cX8_ofLock wsX8_ofLock RX8 rm_X8_ofLock 3 (some .int) D G l) (E : GE C bs0 0 0 (po_X8_ofLock G hMd qMd vMd Q)) {x1 : Int32} {x2 : Int32} (hw : wp_X8_ofLock_0 Q vMd x1 x2) : GW C 0 0 [bMd G hMd qMd vMd] 0 [(0, .ref hMd), (1, .int x1), (2, .int x2)] [] := by
  unfold wp_X8_ofLock_0 at hw
  refine gw_aload_n F dX8_ofLock_0 0 rfl ?_
  refine gw_get F in_X8_ofLock_RX8 0 rfl rfl 0 (by decide) lk_X8_ofLock_7 rfl dX8_ofLock_1 ?_
  refine gw_bipush (v := (47 : Int32)) F dX8_ofLock_4 ic_bipush_47 ?_
  refine gw_iconst (v := (3 : Int32)) F dX8_ofLock_6 ic_iconst_3 ?_
  refine gw_iload_n F dX8_ofLock_7 1 rfl ?_
  refine gw_imul F dX8_ofLock_8 ?_
  refine gw_iadd F dX8_ofLock_9 ?_
  refine gw_iload_n F dX8_ofLock_10 2 rfl ?_
  refine gw_iadd F dX8_ofLock_11 ?_
  obtain ⟨h_1, hw⟩ := hw
  refine gw_iald F 1 rfl h_1 dX8_ofLock_12 ?_
  exact gw_iret F E rfl rfl (Nat.le_of_ble_eq_true rfl) (Nat.le_of_ble_eq_true rfl) dX8_ofLock_13 ⟨_, rfl, rfl, hw⟩
def wp_X8_ofLock (Q : Int32 → Prop) (x1 : Int32) (x2 : Int32) (vMd : OV) : Prop := wp_X8_ofLock_0 Q vMd x1 x2
theorem ct_X8_ofLock {X : List Cond} {l : Launch} {D : va_G} {G : Nat → ClassId} {hMd : Nat} {qMd : Nat → Nat} {Q : Int32 → Prop} {x1 : Int32} {x2 : Int32} {vMd : OV} (hw : wp_X8_ofLock Q x1 x2 vMd) : CM X l yX8_ofLock wsX8_ofLock rm_X8_ofLock D G [.ref hMd, .int x1, .int x2] [bMd G hMd qMd vMd] 0 0 (po_X8_ofLock G hMd qMd vMd Q) :=
  CM.of pn_RX8 rfl rfl (Nat.le_of_ble_eq_true rfl) rfl (fun C F E => lb_X8_ofLock_0 F E hw)
-- X8_lacks
abbrev rm_X8_lacks : Room := { frames := 2, cells := 0, slots := 0, locals := 82 }
def po_X8_lacks (G : Nat → ClassId) (hMd : Nat) (qMd : Nat → Nat) (vMd : OV) (Q : Int32 → Prop) : Option Value → List va_W → Prop := fun o bs => ∃ (r : Int32), o = some (.int r) ∧ bs = [bMd G hMd qMd vMd] ∧ Q r
theorem hd_X8_lacks : yX8_lacks.cls = RX8 ∧ yX8_lacks.cls ≠ "java/lang/invoke/MethodHandle" ∧ yX8_lacks.cls ≠ "java/lang/invoke/VarHandle" ∧ (parseMethodDescriptor yX8_lacks.desc).map (fun d => d.parameters.length) = some 2 := by decide +kernel
def wp_X8_lacks_0 (Q : Int32 → Prop) (vMd : OV) (x1 : Int32) (x2 : Int32) : Prop :=
  (wp_X8_ofLock (fun (r_1 : Int32) => (wp_X8_ofKey (fun (r_2 : Int32) => (wp_X8_many (fun (r_3 : Int32) => (Q r_3)) (r_1 &&& (r_2 ^^^ (-1 : Int32))))) x1 (0 : Int32) vMd)) x2 (0 : Int32) vMd)
set_option maxRecDepth 20000 in
theorem lb_X8_lacks_0 {X : List Cond} {l : Launch} {D : va_G} {G : Nat → ClassId} {C : Cx} {bs0 : List va_W} {hMd : Nat} {qMd : Nat → Nat} {Q : Int32 → Prop} {vMd : OV} (F : GF C X cX8_lacks wsX8_lacks RX8 rm_X8_lacks 3 (some .int) D G l) (E : GE C bs0 0 0 (po_X8_lacks G hMd qMd vMd Q)) {x1 : Int32} {x2 : Int32} (hw : wp_X8_lacks_0 Q vMd x1 x2) : GW C 0 0 [bMd G hMd qMd vMd] 0 [(0, .ref hMd), (1, .int x1), (2, .int x2)] [] := by
  unfold wp_X8_lacks_0 at hw
  refine gw_aload_n F dX8_lacks_0 0 rfl ?_
  refine gw_iload_n F dX8_lacks_1 2 rfl ?_
  refine gw_iconst (v := (0 : Int32)) F dX8_lacks_2 ic_iconst_0 ?_
  refine gw_callV F (ct_X8_ofLock hw) 2 gX8_lacks_X8_ofLock rfl rfl rfl hd_X8_ofLock ⟨(Nat.le_of_ble_eq_true rfl), (Nat.le_of_ble_eq_true rfl)⟩ rfl rfl (Nat.le_of_ble_eq_true rfl) ⟨Nat.zero_le _, Nat.zero_le _⟩ [0] (bsr := []) rfl rfl (q0 := 0) rfl rfl dX8_lacks_3 ?_
  rintro _ _ ⟨r_1, rfl, rfl, hw⟩
  refine gw_sel [0] (bs' := [bMd G hMd qMd vMd]) rfl rfl ?_
  change GW C 0 0 _ 6 _ [.int r_1]
  refine gw_aload_n F dX8_lacks_6 0 rfl ?_
  refine gw_iload_n F dX8_lacks_7 1 rfl ?_
  refine gw_iconst (v := (0 : Int32)) F dX8_lacks_8 ic_iconst_0 ?_
  refine gw_callV F (ct_X8_ofKey hw) 2 gX8_lacks_X8_ofKey rfl rfl rfl hd_X8_ofKey ⟨(Nat.le_of_ble_eq_true rfl), (Nat.le_of_ble_eq_true rfl)⟩ rfl rfl (Nat.le_of_ble_eq_true rfl) ⟨Nat.zero_le _, Nat.zero_le _⟩ [0] (bsr := []) rfl rfl (q0 := 0) rfl rfl dX8_lacks_9 ?_
  rintro _ _ ⟨r_2, rfl, rfl, hw⟩
  refine gw_sel [0] (bs' := [bMd G hMd qMd vMd]) rfl rfl ?_
  change GW C 0 0 _ 12 _ [.int r_2, .int r_1]
  refine gw_iconst (v := (-1 : Int32)) F dX8_lacks_12 ic_iconst_m1 ?_
  refine gw_ixor F dX8_lacks_13 ?_
  refine gw_iand F dX8_lacks_14 ?_
  refine gw_callS F (ct_X8_many hw) 1 gX8_lacks_X8_many rfl rfl rfl hd_X8_many ⟨(Nat.le_of_ble_eq_true rfl), (Nat.le_of_ble_eq_true rfl)⟩ rfl rfl (Nat.le_of_ble_eq_true rfl) ⟨Nat.zero_le _, Nat.zero_le _⟩ [0] (bsr := [bMd G hMd qMd vMd]) rfl rfl dX8_lacks_15 ?_
  rintro _ _ ⟨r_3, rfl, rfl, hw⟩
  refine gw_sel [0] (bs' := [bMd G hMd qMd vMd]) rfl rfl ?_
  change GW C 0 0 _ 18 _ [.int r_3]
  exact gw_iret F E rfl rfl (Nat.le_of_ble_eq_true rfl) (Nat.le_of_ble_eq_true rfl) dX8_lacks_18 ⟨_, rfl, rfl, hw⟩
def wp_X8_lacks (Q : Int32 → Prop) (x1 : Int32) (x2 : Int32) (vMd : OV) : Prop := wp_X8_lacks_0 Q vMd x1 x2
theorem ct_X8_lacks {X : List Cond} {l : Launch} {D : va_G} {G : Nat → ClassId} {hMd : Nat} {qMd : Nat → Nat} {Q : Int32 → Prop} {x1 : Int32} {x2 : Int32} {vMd : OV} (hw : wp_X8_lacks Q x1 x2 vMd) : CM X l yX8_lacks wsX8_lacks rm_X8_lacks D G [.ref hMd, .int x1, .int x2] [bMd G hMd qMd vMd] 0 0 (po_X8_lacks G hMd qMd vMd Q) :=
  CM.of pn_RX8 rfl rfl (Nat.le_of_ble_eq_true rfl) rfl (fun C F E => lb_X8_lacks_0 F E hw)
-- X8_isFit
abbrev rm_X8_isFit : Room := { frames := 3, cells := 0, slots := 0, locals := 104 }
def po_X8_isFit (G : Nat → ClassId) (hMd : Nat) (qMd : Nat → Nat) (vMd : OV) (Q : Int32 → Prop) : Option Value → List va_W → Prop := fun o bs => ∃ (r : Int32), o = some (.int r) ∧ bs = [bMd G hMd qMd vMd] ∧ Q r
theorem hd_X8_isFit : yX8_isFit.cls = RX8 ∧ yX8_isFit.cls ≠ "java/lang/invoke/MethodHandle" ∧ yX8_isFit.cls ≠ "java/lang/invoke/VarHandle" ∧ (parseMethodDescriptor yX8_isFit.desc).map (fun d => d.parameters.length) = some 2 := by decide +kernel
theorem in_X8_isFit_RX8 : ∀ w ∈ wsX80, w ∈ wsX8_isFit := fun w h => List.mem_cons_of_mem _ (List.mem_append_left _ (List.mem_append_right _ h))
theorem lk_X8_isFit_7 : Cond.fieldLink RX8 7 "KeyWavesModel" "g" "[I" ∈ wsX8_isFit := List.mem_cons_of_mem _ (List.mem_append_left _ (List.mem_append_left _ (List.mem_of_getElem? (i := 0) rfl)))
def wp_X8_isFit_59 (Q : Int32 → Prop) (vMd : OV) (s0 : Int32) : Prop :=
  (narrow .boolean (.int s0) = .int s0 ∧ Q s0)
set_option maxRecDepth 20000 in
theorem lb_X8_isFit_59 {X : List Cond} {l : Launch} {D : va_G} {G : Nat → ClassId} {C : Cx} {bs0 : List va_W} {hMd : Nat} {qMd : Nat → Nat} {Q : Int32 → Prop} {vMd : OV} (F : GF C X cX8_isFit wsX8_isFit RX8 rm_X8_isFit 3 (some .boolean) D G l) (E : GE C bs0 0 0 (po_X8_isFit G hMd qMd vMd Q)) {s0 : Int32} (hw : wp_X8_isFit_59 Q vMd s0) : GW C 0 0 [bMd G hMd qMd vMd] 59 [] [.int s0] := by
  unfold wp_X8_isFit_59 at hw
  obtain ⟨hn, hw⟩ := hw
  exact gw_iret F E rfl hn (Nat.le_of_ble_eq_true rfl) (Nat.le_of_ble_eq_true rfl) dX8_isFit_59 ⟨_, rfl, rfl, hw⟩
def wp_X8_isFit_58 (Q : Int32 → Prop) (vMd : OV) : Prop :=
  (wp_X8_isFit_59 Q vMd (0 : Int32))
set_option maxRecDepth 20000 in
theorem lb_X8_isFit_58 {X : List Cond} {l : Launch} {D : va_G} {G : Nat → ClassId} {C : Cx} {bs0 : List va_W} {hMd : Nat} {qMd : Nat → Nat} {Q : Int32 → Prop} {vMd : OV} (F : GF C X cX8_isFit wsX8_isFit RX8 rm_X8_isFit 3 (some .boolean) D G l) (E : GE C bs0 0 0 (po_X8_isFit G hMd qMd vMd Q)) (hw : wp_X8_isFit_58 Q vMd ) : GW C 0 0 [bMd G hMd qMd vMd] 58 [] [] := by
  unfold wp_X8_isFit_58 at hw
  refine gw_iconst (v := (0 : Int32)) F dX8_isFit_58 ic_iconst_0 ?_
  exact lb_X8_isFit_59 F E hw
def wp_X8_isFit_0 (Q : Int32 → Prop) (vMd : OV) (x1 : Int32) (x2 : Int32) : Prop :=
  (wp_X8_lacks (fun (r_1 : Int32) => ((¬ r_1 = 0 → (wp_X8_isFit_58 Q vMd)) ∧ (r_1 = 0 → (wp_X8_ofKey (fun (r_3 : Int32) => (wp_X8_many (fun (r_4 : Int32) => (wp_X8_ofLock (fun (r_5 : Int32) => (wp_X8_many (fun (r_6 : Int32) => (vp_in (2 : Int32) 177 ∧ (((r_6 + (vMd.1 0 (2 : Int32).toNatClampNeg)) < r_4 → (wp_X8_isFit_58 Q vMd)) ∧ (¬ ((r_6 + (vMd.1 0 (2 : Int32).toNatClampNeg)) < r_4) → (vp_in (((77 : Int32) + ((10 : Int32) * x1)) + x2) 177 ∧ ((¬ (vMd.1 0 (((77 : Int32) + ((10 : Int32) * x1)) + x2).toNatClampNeg) = 0 → (wp_X8_isFit_58 Q vMd)) ∧ ((vMd.1 0 (((77 : Int32) + ((10 : Int32) * x1)) + x2).toNatClampNeg) = 0 → (wp_X8_isFit_59 Q vMd (1 : Int32))))))))) r_5)) x2 (0 : Int32) vMd)) r_3)) x1 (0 : Int32) vMd)))) x1 x2 vMd)
set_option maxRecDepth 20000 in
theorem lb_X8_isFit_0 {X : List Cond} {l : Launch} {D : va_G} {G : Nat → ClassId} {C : Cx} {bs0 : List va_W} {hMd : Nat} {qMd : Nat → Nat} {Q : Int32 → Prop} {vMd : OV} (F : GF C X cX8_isFit wsX8_isFit RX8 rm_X8_isFit 3 (some .boolean) D G l) (E : GE C bs0 0 0 (po_X8_isFit G hMd qMd vMd Q)) {x1 : Int32} {x2 : Int32} (hw : wp_X8_isFit_0 Q vMd x1 x2) : GW C 0 0 [bMd G hMd qMd vMd] 0 [(0, .ref hMd), (1, .int x1), (2, .int x2)] [] := by
  unfold wp_X8_isFit_0 at hw
  refine gw_aload_n F dX8_isFit_0 0 rfl ?_
  refine gw_iload_n F dX8_isFit_1 1 rfl ?_
  refine gw_iload_n F dX8_isFit_2 2 rfl ?_
  refine gw_callV F (ct_X8_lacks hw) 2 gX8_isFit_X8_lacks rfl rfl rfl hd_X8_lacks ⟨(Nat.le_of_ble_eq_true rfl), (Nat.le_of_ble_eq_true rfl)⟩ rfl rfl (Nat.le_of_ble_eq_true rfl) ⟨Nat.zero_le _, Nat.zero_le _⟩ [0] (bsr := []) rfl rfl (q0 := 0) rfl rfl dX8_isFit_3 ?_
  rintro _ _ ⟨r_1, rfl, rfl, hw⟩
  refine gw_sel [0] (bs' := [bMd G hMd qMd vMd]) rfl rfl ?_
  change GW C 0 0 _ 6 _ [.int r_1]
  refine gw_if_ne (tgt := 58) F dX8_isFit_6 (by decide) (fun c_2 => ?_) (fun c_2 => ?_)
  · have hw := hw.1 c_2
    refine gw_lv [] rfl ?_
    exact lb_X8_isFit_58 F E hw
  · have hw := hw.2 c_2
    refine gw_aload_n F dX8_isFit_9 0 rfl ?_
    refine gw_iload_n F dX8_isFit_10 1 rfl ?_
    refine gw_iconst (v := (0 : Int32)) F dX8_isFit_11 ic_iconst_0 ?_
    refine gw_callV F (ct_X8_ofKey hw) 2 gX8_isFit_X8_ofKey rfl rfl rfl hd_X8_ofKey ⟨(Nat.le_of_ble_eq_true rfl), (Nat.le_of_ble_eq_true rfl)⟩ rfl rfl (Nat.le_of_ble_eq_true rfl) ⟨Nat.zero_le _, Nat.zero_le _⟩ [0] (bsr := []) rfl rfl (q0 := 0) rfl rfl dX8_isFit_12 ?_
    rintro _ _ ⟨r_3, rfl, rfl, hw⟩
    refine gw_sel [0] (bs' := [bMd G hMd qMd vMd]) rfl rfl ?_
    change GW C 0 0 _ 15 _ [.int r_3]
    refine gw_callS F (ct_X8_many hw) 1 gX8_isFit_X8_many rfl rfl rfl hd_X8_many ⟨(Nat.le_of_ble_eq_true rfl), (Nat.le_of_ble_eq_true rfl)⟩ rfl rfl (Nat.le_of_ble_eq_true rfl) ⟨Nat.zero_le _, Nat.zero_le _⟩ [0] (bsr := [bMd G hMd qMd vMd]) rfl rfl dX8_isFit_15 ?_
    rintro _ _ ⟨r_4, rfl, rfl, hw⟩
    refine gw_sel [0] (bs' := [bMd G hMd qMd vMd]) rfl rfl ?_
    change GW C 0 0 _ 18 _ [.int r_4]
    refine gw_aload_n F dX8_isFit_18 0 rfl ?_
    refine gw_iload_n F dX8_isFit_19 2 rfl ?_
    refine gw_iconst (v := (0 : Int32)) F dX8_isFit_20 ic_iconst_0 ?_
    refine gw_callV F (ct_X8_ofLock hw) 2 gX8_isFit_X8_ofLock rfl rfl rfl hd_X8_ofLock ⟨(Nat.le_of_ble_eq_true rfl), (Nat.le_of_ble_eq_true rfl)⟩ rfl rfl (Nat.le_of_ble_eq_true rfl) ⟨Nat.zero_le _, Nat.zero_le _⟩ [0] (bsr := []) rfl rfl (q0 := 0) rfl rfl dX8_isFit_21 ?_
    rintro _ _ ⟨r_5, rfl, rfl, hw⟩
    refine gw_sel [0] (bs' := [bMd G hMd qMd vMd]) rfl rfl ?_
    change GW C 0 0 _ 24 _ [.int r_5, .int r_4]
    refine gw_callS F (ct_X8_many hw) 1 gX8_isFit_X8_many rfl rfl rfl hd_X8_many ⟨(Nat.le_of_ble_eq_true rfl), (Nat.le_of_ble_eq_true rfl)⟩ rfl rfl (Nat.le_of_ble_eq_true rfl) ⟨Nat.zero_le _, Nat.zero_le _⟩ [0] (bsr := [bMd G hMd qMd vMd]) rfl rfl dX8_isFit_24 ?_
    rintro _ _ ⟨r_6, rfl, rfl, hw⟩
    refine gw_sel [0] (bs' := [bMd G hMd qMd vMd]) rfl rfl ?_
    change GW C 0 0 _ 27 _ [.int r_6, .int r_4]
    refine gw_aload_n F dX8_isFit_27 0 rfl ?_
    refine gw_get F in_X8_isFit_RX8 0 rfl rfl 0 (by decide) lk_X8_isFit_7 rfl dX8_isFit_28 ?_
    refine gw_iconst (v := (2 : Int32)) F dX8_isFit_31 ic_iconst_2 ?_
    obtain ⟨h_7, hw⟩ := hw
    refine gw_iald F 1 rfl h_7 dX8_isFit_32 ?_
    refine gw_iadd F dX8_isFit_33 ?_
    refine gw_icmp_gt (tgt := 58) F dX8_isFit_34 (by decide) (fun c_8 => ?_) (fun c_8 => ?_)
    · have hw := hw.1 c_8
      refine gw_lv [] rfl ?_
      exact lb_X8_isFit_58 F E hw
    · have hw := hw.2 c_8
      refine gw_aload_n F dX8_isFit_37 0 rfl ?_
      refine gw_get F in_X8_isFit_RX8 0 rfl rfl 0 (by decide) lk_X8_isFit_7 rfl dX8_isFit_38 ?_
      refine gw_bipush (v := (77 : Int32)) F dX8_isFit_41 ic_bipush_77 ?_
      refine gw_bipush (v := (10 : Int32)) F dX8_isFit_43 ic_bipush_10 ?_
      refine gw_iload_n F dX8_isFit_45 1 rfl ?_
      refine gw_imul F dX8_isFit_46 ?_
      refine gw_iadd F dX8_isFit_47 ?_
      refine gw_iload_n F dX8_isFit_48 2 rfl ?_
      refine gw_iadd F dX8_isFit_49 ?_
      obtain ⟨h_9, hw⟩ := hw
      refine gw_iald F 1 rfl h_9 dX8_isFit_50 ?_
      refine gw_if_ne (tgt := 58) F dX8_isFit_51 (by decide) (fun c_10 => ?_) (fun c_10 => ?_)
      · have hw := hw.1 c_10
        refine gw_lv [] rfl ?_
        exact lb_X8_isFit_58 F E hw
      · have hw := hw.2 c_10
        refine gw_iconst (v := (1 : Int32)) F dX8_isFit_54 ic_iconst_1 ?_
        refine gw_goto (tgt := 59) F dX8_isFit_55 (by decide) ?_
        refine gw_lv [] rfl ?_
        exact lb_X8_isFit_59 F E hw
def wp_X8_isFit (Q : Int32 → Prop) (x1 : Int32) (x2 : Int32) (vMd : OV) : Prop := wp_X8_isFit_0 Q vMd x1 x2
theorem ct_X8_isFit {X : List Cond} {l : Launch} {D : va_G} {G : Nat → ClassId} {hMd : Nat} {qMd : Nat → Nat} {Q : Int32 → Prop} {x1 : Int32} {x2 : Int32} {vMd : OV} (hw : wp_X8_isFit Q x1 x2 vMd) : CM X l yX8_isFit wsX8_isFit rm_X8_isFit D G [.ref hMd, .int x1, .int x2] [bMd G hMd qMd vMd] 0 0 (po_X8_isFit G hMd qMd vMd Q) :=
  CM.of pn_RX8 rfl rfl (Nat.le_of_ble_eq_true rfl) rfl (fun C F E => lb_X8_isFit_0 F E hw)
-- X8_openMany
abbrev rm_X8_openMany : Room := { frames := 2, cells := 0, slots := 0, locals := 82 }
def po_X8_openMany (G : Nat → ClassId) (hMd : Nat) (qMd : Nat → Nat) (vMd : OV) (Q : Int32 → Prop) : Option Value → List va_W → Prop := fun o bs => ∃ (r : Int32), o = some (.int r) ∧ bs = [bMd G hMd qMd vMd] ∧ Q r
theorem hd_X8_openMany : yX8_openMany.cls = RX8 ∧ yX8_openMany.cls ≠ "java/lang/invoke/MethodHandle" ∧ yX8_openMany.cls ≠ "java/lang/invoke/VarHandle" ∧ (parseMethodDescriptor yX8_openMany.desc).map (fun d => d.parameters.length) = some 0 := by decide +kernel
theorem in_X8_openMany_RX8 : ∀ w ∈ wsX80, w ∈ wsX8_openMany := fun w h => List.mem_cons_of_mem _ (List.mem_append_left _ (List.mem_append_right _ h))
theorem lk_X8_openMany_7 : Cond.fieldLink RX8 7 "KeyWavesModel" "g" "[I" ∈ wsX8_openMany := List.mem_cons_of_mem _ (List.mem_append_left _ (List.mem_append_left _ (List.mem_of_getElem? (i := 0) rfl)))
def wp_X8_openMany_29 (Q : Int32 → Prop) (K4 : Int32 → Int32 → Prop) (vMd : OV) (x2 s0 s1 : Int32) : Prop :=
  (∀ i_5 : Int32, i_5 = (s0 + s1) → (∀ i_6 : Int32, i_6 = x2 + (1 : Int32) → (K4 i_5 i_6)))
set_option maxRecDepth 20000 in
theorem lb_X8_openMany_29 {X : List Cond} {l : Launch} {D : va_G} {G : Nat → ClassId} {C : Cx} {bs0 : List va_W} {hMd : Nat} {qMd : Nat → Nat} {Q : Int32 → Prop} {K4 : Int32 → Int32 → Prop} {vMd : OV} (F : GF C X cX8_openMany wsX8_openMany RX8 rm_X8_openMany 3 (some .int) D G l) (E : GE C bs0 0 0 (po_X8_openMany G hMd qMd vMd Q)) (hK4 : ∀ (x1 x2 : Int32), K4 x1 x2 → GW C 0 0 [bMd G hMd qMd vMd] 4 [(0, .ref hMd), (1, .int x1), (2, .int x2)] []) {x2 s0 s1 : Int32} (hw : wp_X8_openMany_29 Q K4 vMd x2 s0 s1) : GW C 0 0 [bMd G hMd qMd vMd] 29 [(0, .ref hMd), (2, .int x2)] [.int s1, .int s0] := by
  unfold wp_X8_openMany_29 at hw
  refine gw_iadd F dX8_openMany_29 ?_
  refine gw_topi (fun i_5 e_i_5 => ?_)
  have hw := hw i_5 e_i_5
  refine gw_istore_n (lv' := [(1, .int i_5), (0, .ref hMd), (2, .int x2)]) F dX8_openMany_30 (by decide) rfl ?_
  obtain ⟨i_6, e_i_6⟩ : ∃ z : Int32, z = x2 + (1 : Int32) := ⟨_, rfl⟩
  have hw := hw i_6 e_i_6
  refine gw_iinc (v := i_6) (lv' := [(2, .int i_6), (1, .int i_5), (0, .ref hMd)]) F dX8_openMany_31 2 rfl (by rw [e_i_6]; rfl) (by decide) rfl ?_
  refine gw_goto (tgt := 4) F dX8_openMany_34 (by decide) ?_
  refine gw_lv [2, 1, 0] rfl ?_
  exact hK4 _ _ hw
def wp_X8_openMany_4 (Q : Int32 → Prop) (K4 : Int32 → Int32 → Prop) (vMd : OV) (x1 x2 : Int32) : Prop :=
  (vp_in (1 : Int32) 177 ∧ (((vMd.1 0 (1 : Int32).toNatClampNeg) ≤ x2 → (Q x1)) ∧ (¬ ((vMd.1 0 (1 : Int32).toNatClampNeg) ≤ x2) → (wp_X8_ofLock (fun (r_3 : Int32) => ((r_3 < 0 → (wp_X8_openMany_29 Q K4 vMd x2 x1 (0 : Int32))) ∧ (¬ (r_3 < 0) → (wp_X8_openMany_29 Q K4 vMd x2 x1 (1 : Int32))))) x2 (1 : Int32) vMd))))
set_option maxRecDepth 20000 in
theorem lb_X8_openMany_4 {X : List Cond} {l : Launch} {D : va_G} {G : Nat → ClassId} {C : Cx} {bs0 : List va_W} {hMd : Nat} {qMd : Nat → Nat} {Q : Int32 → Prop} {K4 : Int32 → Int32 → Prop} {vMd : OV} (F : GF C X cX8_openMany wsX8_openMany RX8 rm_X8_openMany 3 (some .int) D G l) (E : GE C bs0 0 0 (po_X8_openMany G hMd qMd vMd Q)) (hK4 : ∀ (x1 x2 : Int32), K4 x1 x2 → GW C 0 0 [bMd G hMd qMd vMd] 4 [(0, .ref hMd), (1, .int x1), (2, .int x2)] []) {x1 x2 : Int32} (hw : wp_X8_openMany_4 Q K4 vMd x1 x2) : GW C 0 0 [bMd G hMd qMd vMd] 4 [(0, .ref hMd), (1, .int x1), (2, .int x2)] [] := by
  unfold wp_X8_openMany_4 at hw
  refine gw_iload_n F dX8_openMany_4 2 rfl ?_
  refine gw_aload_n F dX8_openMany_5 0 rfl ?_
  refine gw_get F in_X8_openMany_RX8 0 rfl rfl 0 (by decide) lk_X8_openMany_7 rfl dX8_openMany_6 ?_
  refine gw_iconst (v := (1 : Int32)) F dX8_openMany_9 ic_iconst_1 ?_
  obtain ⟨h_1, hw⟩ := hw
  refine gw_iald F 1 rfl h_1 dX8_openMany_10 ?_
  refine gw_icmp_ge (tgt := 37) F dX8_openMany_11 (by decide) (fun c_2 => ?_) (fun c_2 => ?_)
  · have hw := hw.1 c_2
    refine gw_iload_n F dX8_openMany_37 1 rfl ?_
    exact gw_iret F E rfl rfl (Nat.le_of_ble_eq_true rfl) (Nat.le_of_ble_eq_true rfl) dX8_openMany_38 ⟨_, rfl, rfl, hw⟩
  · have hw := hw.2 c_2
    refine gw_iload_n F dX8_openMany_14 1 rfl ?_
    refine gw_aload_n F dX8_openMany_15 0 rfl ?_
    refine gw_iload_n F dX8_openMany_16 2 rfl ?_
    refine gw_iconst (v := (1 : Int32)) F dX8_openMany_17 ic_iconst_1 ?_
    refine gw_callV F (ct_X8_ofLock hw) 2 gX8_openMany_X8_ofLock rfl rfl rfl hd_X8_ofLock ⟨(Nat.le_of_ble_eq_true rfl), (Nat.le_of_ble_eq_true rfl)⟩ rfl rfl (Nat.le_of_ble_eq_true rfl) ⟨Nat.zero_le _, Nat.zero_le _⟩ [0] (bsr := []) rfl rfl (q0 := 0) rfl rfl dX8_openMany_18 ?_
    rintro _ _ ⟨r_3, rfl, rfl, hw⟩
    refine gw_sel [0] (bs' := [bMd G hMd qMd vMd]) rfl rfl ?_
    change GW C 0 0 _ 21 _ [.int r_3, .int x1]
    refine gw_if_lt (tgt := 28) F dX8_openMany_21 (by decide) (fun c_4 => ?_) (fun c_4 => ?_)
    · have hw := hw.1 c_4
      refine gw_iconst (v := (0 : Int32)) F dX8_openMany_28 ic_iconst_0 ?_
      refine gw_lv [0, 2] rfl ?_
      exact lb_X8_openMany_29 F E hK4 hw
    · have hw := hw.2 c_4
      refine gw_iconst (v := (1 : Int32)) F dX8_openMany_24 ic_iconst_1 ?_
      refine gw_goto (tgt := 29) F dX8_openMany_25 (by decide) ?_
      refine gw_lv [0, 2] rfl ?_
      exact lb_X8_openMany_29 F E hK4 hw
def wp_X8_openMany_4_loop (Q : Int32 → Prop) (vMd : OV) : Nat → Int32 → Int32 → Prop
  | 0, _, _ => False
  | n + 1, x1, x2 => wp_X8_openMany_4 Q (wp_X8_openMany_4_loop Q vMd n) vMd x1 x2
theorem lp_X8_openMany_4 {X : List Cond} {l : Launch} {D : va_G} {G : Nat → ClassId} {C : Cx} {bs0 : List va_W} {hMd : Nat} {qMd : Nat → Nat} {Q : Int32 → Prop} {vMd : OV} (F : GF C X cX8_openMany wsX8_openMany RX8 rm_X8_openMany 3 (some .int) D G l) (E : GE C bs0 0 0 (po_X8_openMany G hMd qMd vMd Q)) : ∀ (n : Nat) (x1 x2 : Int32), wp_X8_openMany_4_loop Q vMd n x1 x2 → GW C 0 0 [bMd G hMd qMd vMd] 4 [(0, .ref hMd), (1, .int x1), (2, .int x2)] [] := by
  intro n
  induction n with
  | zero => intro x1 x2 hw; exact False.elim hw
  | succ n ih => intro x1 x2 hw; exact lb_X8_openMany_4 (K4 := wp_X8_openMany_4_loop Q vMd n) F E ih hw
def wp_X8_openMany_0 (Q : Int32 → Prop) (vMd : OV) : Prop :=
  (∃ n_7 : Nat, wp_X8_openMany_4_loop Q vMd n_7 (0 : Int32) (0 : Int32))
set_option maxRecDepth 20000 in
theorem lb_X8_openMany_0 {X : List Cond} {l : Launch} {D : va_G} {G : Nat → ClassId} {C : Cx} {bs0 : List va_W} {hMd : Nat} {qMd : Nat → Nat} {Q : Int32 → Prop} {vMd : OV} (F : GF C X cX8_openMany wsX8_openMany RX8 rm_X8_openMany 3 (some .int) D G l) (E : GE C bs0 0 0 (po_X8_openMany G hMd qMd vMd Q)) (hw : wp_X8_openMany_0 Q vMd ) : GW C 0 0 [bMd G hMd qMd vMd] 0 [(0, .ref hMd)] [] := by
  unfold wp_X8_openMany_0 at hw
  refine gw_iconst (v := (0 : Int32)) F dX8_openMany_0 ic_iconst_0 ?_
  refine gw_istore_n (lv' := [(1, .int (0 : Int32)), (0, .ref hMd)]) F dX8_openMany_1 (by decide) rfl ?_
  refine gw_iconst (v := (0 : Int32)) F dX8_openMany_2 ic_iconst_0 ?_
  refine gw_istore_n (lv' := [(2, .int (0 : Int32)), (1, .int (0 : Int32)), (0, .ref hMd)]) F dX8_openMany_3 (by decide) rfl ?_
  refine gw_lv [2, 1, 0] rfl ?_
  obtain ⟨n_7, hw⟩ := hw
  exact lp_X8_openMany_4 F E n_7 _ _ hw
def wp_X8_openMany (Q : Int32 → Prop) (vMd : OV) : Prop := wp_X8_openMany_0 Q vMd
theorem ct_X8_openMany {X : List Cond} {l : Launch} {D : va_G} {G : Nat → ClassId} {hMd : Nat} {qMd : Nat → Nat} {Q : Int32 → Prop} {vMd : OV} (hw : wp_X8_openMany Q vMd) : CM X l yX8_openMany wsX8_openMany rm_X8_openMany D G [.ref hMd] [bMd G hMd qMd vMd] 0 0 (po_X8_openMany G hMd qMd vMd Q) :=
  CM.of pn_RX8 rfl rfl (Nat.le_of_ble_eq_true rfl) rfl (fun C F E => lb_X8_openMany_0 F E hw)
-- X8_lets
abbrev rm_X8_lets : Room := { frames := 1, cells := 0, slots := 0, locals := 60 }
def po_X8_lets (G : Nat → ClassId) (hMd : Nat) (qMd : Nat → Nat) (Q : OV → Prop) : Option Value → List va_W → Prop := fun o bs => ∃ (vMd : OV), o = none ∧ bs = [bMd G hMd qMd vMd] ∧ Q vMd
theorem hd_X8_lets : yX8_lets.cls = RX8 ∧ yX8_lets.cls ≠ "java/lang/invoke/MethodHandle" ∧ yX8_lets.cls ≠ "java/lang/invoke/VarHandle" ∧ (parseMethodDescriptor yX8_lets.desc).map (fun d => d.parameters.length) = some 2 := by decide +kernel
theorem in_X8_lets_RX8 : ∀ w ∈ wsX80, w ∈ wsX8_lets := fun w h => List.mem_cons_of_mem _ (List.mem_append_left _ (List.mem_append_right _ h))
theorem lk_X8_lets_7 : Cond.fieldLink RX8 7 "KeyWavesModel" "g" "[I" ∈ wsX8_lets := List.mem_cons_of_mem _ (List.mem_append_left _ (List.mem_append_left _ (List.mem_of_getElem? (i := 0) rfl)))
def wp_X8_lets_0 (Q : OV → Prop) (x1 : Int32) (x2 : Int32) (vMd : OV) : Prop :=
  (vp_in (((7 : Int32) + ((4 : Int32) * x1)) + (2 : Int32)) 177 ∧ ∀ v_1 : OV, v_1 = sA vMd 0 (((7 : Int32) + ((4 : Int32) * x1)) + (2 : Int32)).toNatClampNeg (-1 : Int32) → (vp_in (((47 : Int32) + ((3 : Int32) * x2)) + (1 : Int32)) 177 ∧ ∀ v_3 : OV, v_3 = sA v_1 0 (((47 : Int32) + ((3 : Int32) * x2)) + (1 : Int32)).toNatClampNeg (-1 : Int32) → (Q v_3)))
set_option maxRecDepth 20000 in
theorem lb_X8_lets_0 {X : List Cond} {l : Launch} {D : va_G} {G : Nat → ClassId} {C : Cx} {bs0 : List va_W} {hMd : Nat} {qMd : Nat → Nat} {Q : OV → Prop} (F : GF C X cX8_lets wsX8_lets RX8 rm_X8_lets 3 none D G l) (E : GE C bs0 0 0 (po_X8_lets G hMd qMd Q)) {x1 : Int32} {x2 : Int32} {vMd : OV} (hw : wp_X8_lets_0 Q x1 x2 vMd) : GW C 0 0 [bMd G hMd qMd vMd] 0 [(0, .ref hMd), (1, .int x1), (2, .int x2)] [] := by
  unfold wp_X8_lets_0 at hw
  refine gw_aload_n F dX8_lets_0 0 rfl ?_
  refine gw_get F in_X8_lets_RX8 0 rfl rfl 0 (by decide) lk_X8_lets_7 rfl dX8_lets_1 ?_
  refine gw_bipush (v := (7 : Int32)) F dX8_lets_4 ic_bipush_7 ?_
  refine gw_iconst (v := (4 : Int32)) F dX8_lets_6 ic_iconst_4 ?_
  refine gw_iload_n F dX8_lets_7 1 rfl ?_
  refine gw_imul F dX8_lets_8 ?_
  refine gw_iadd F dX8_lets_9 ?_
  refine gw_iconst (v := (2 : Int32)) F dX8_lets_10 ic_iconst_2 ?_
  refine gw_iadd F dX8_lets_11 ?_
  refine gw_iconst (v := (-1 : Int32)) F dX8_lets_12 ic_iconst_m1 ?_
  obtain ⟨h_2, hw⟩ := hw
  obtain ⟨v_1, e_v_1⟩ : ∃ z : OV, z = sA vMd 0 (((7 : Int32) + ((4 : Int32) * x1)) + (2 : Int32)).toNatClampNeg (-1 : Int32) := ⟨_, rfl⟩
  have hw := hw v_1 e_v_1
  refine gw_iast (bs' := [bMd G hMd qMd v_1]) F 1 rfl h_2 dX8_lets_13 (by rw [e_v_1]; rfl) ?_
  refine gw_aload_n F dX8_lets_14 0 rfl ?_
  refine gw_get F in_X8_lets_RX8 0 rfl rfl 0 (by decide) lk_X8_lets_7 rfl dX8_lets_15 ?_
  refine gw_bipush (v := (47 : Int32)) F dX8_lets_18 ic_bipush_47 ?_
  refine gw_iconst (v := (3 : Int32)) F dX8_lets_20 ic_iconst_3 ?_
  refine gw_iload_n F dX8_lets_21 2 rfl ?_
  refine gw_imul F dX8_lets_22 ?_
  refine gw_iadd F dX8_lets_23 ?_
  refine gw_iconst (v := (1 : Int32)) F dX8_lets_24 ic_iconst_1 ?_
  refine gw_iadd F dX8_lets_25 ?_
  refine gw_iconst (v := (-1 : Int32)) F dX8_lets_26 ic_iconst_m1 ?_
  obtain ⟨h_4, hw⟩ := hw
  obtain ⟨v_3, e_v_3⟩ : ∃ z : OV, z = sA v_1 0 (((47 : Int32) + ((3 : Int32) * x2)) + (1 : Int32)).toNatClampNeg (-1 : Int32) := ⟨_, rfl⟩
  have hw := hw v_3 e_v_3
  refine gw_iast (bs' := [bMd G hMd qMd v_3]) F 1 rfl h_4 dX8_lets_27 (by rw [e_v_3]; rfl) ?_
  exact gw_vret F E rfl (Nat.le_of_ble_eq_true rfl) (Nat.le_of_ble_eq_true rfl) dX8_lets_28 ⟨_, rfl, rfl, hw⟩
def wp_X8_lets (Q : OV → Prop) (x1 : Int32) (x2 : Int32) (vMd : OV) : Prop := wp_X8_lets_0 Q x1 x2 vMd
theorem ct_X8_lets {X : List Cond} {l : Launch} {D : va_G} {G : Nat → ClassId} {hMd : Nat} {qMd : Nat → Nat} {Q : OV → Prop} {x1 : Int32} {x2 : Int32} {vMd : OV} (hw : wp_X8_lets Q x1 x2 vMd) : CM X l yX8_lets wsX8_lets rm_X8_lets D G [.ref hMd, .int x1, .int x2] [bMd G hMd qMd vMd] 0 0 (po_X8_lets G hMd qMd Q) :=
  CM.of pn_RX8 rfl rfl (Nat.le_of_ble_eq_true rfl) rfl (fun C F E => lb_X8_lets_0 F E hw)
-- X8_puts
abbrev rm_X8_puts : Room := { frames := 1, cells := 0, slots := 0, locals := 60 }
def po_X8_puts (G : Nat → ClassId) (hMd : Nat) (qMd : Nat → Nat) (Q : OV → Prop) : Option Value → List va_W → Prop := fun o bs => ∃ (vMd : OV), o = none ∧ bs = [bMd G hMd qMd vMd] ∧ Q vMd
theorem hd_X8_puts : yX8_puts.cls = RX8 ∧ yX8_puts.cls ≠ "java/lang/invoke/MethodHandle" ∧ yX8_puts.cls ≠ "java/lang/invoke/VarHandle" ∧ (parseMethodDescriptor yX8_puts.desc).map (fun d => d.parameters.length) = some 2 := by decide +kernel
theorem in_X8_puts_RX8 : ∀ w ∈ wsX80, w ∈ wsX8_puts := fun w h => List.mem_cons_of_mem _ (List.mem_append_left _ (List.mem_append_right _ h))
theorem lk_X8_puts_7 : Cond.fieldLink RX8 7 "KeyWavesModel" "g" "[I" ∈ wsX8_puts := List.mem_cons_of_mem _ (List.mem_append_left _ (List.mem_append_left _ (List.mem_of_getElem? (i := 0) rfl)))
def wp_X8_puts_0 (Q : OV → Prop) (x1 : Int32) (x2 : Int32) (vMd : OV) : Prop :=
  (vp_in (((7 : Int32) + ((4 : Int32) * x1)) + (2 : Int32)) 177 ∧ ∀ v_1 : OV, v_1 = sA vMd 0 (((7 : Int32) + ((4 : Int32) * x1)) + (2 : Int32)).toNatClampNeg x2 → (vp_in (((47 : Int32) + ((3 : Int32) * x2)) + (1 : Int32)) 177 ∧ ∀ v_3 : OV, v_3 = sA v_1 0 (((47 : Int32) + ((3 : Int32) * x2)) + (1 : Int32)).toNatClampNeg x1 → (vp_in (((47 : Int32) + ((3 : Int32) * x2)) + (2 : Int32)) 177 ∧ (vp_in (((47 : Int32) + ((3 : Int32) * x2)) + (2 : Int32)) 177 ∧ ∀ v_6 : OV, v_6 = sA v_3 0 (((47 : Int32) + ((3 : Int32) * x2)) + (2 : Int32)).toNatClampNeg ((v_3.1 0 (((47 : Int32) + ((3 : Int32) * x2)) + (2 : Int32)).toNatClampNeg) + (1 : Int32)) → (Q v_6)))))
set_option maxRecDepth 20000 in
theorem lb_X8_puts_0 {X : List Cond} {l : Launch} {D : va_G} {G : Nat → ClassId} {C : Cx} {bs0 : List va_W} {hMd : Nat} {qMd : Nat → Nat} {Q : OV → Prop} (F : GF C X cX8_puts wsX8_puts RX8 rm_X8_puts 3 none D G l) (E : GE C bs0 0 0 (po_X8_puts G hMd qMd Q)) {x1 : Int32} {x2 : Int32} {vMd : OV} (hw : wp_X8_puts_0 Q x1 x2 vMd) : GW C 0 0 [bMd G hMd qMd vMd] 0 [(0, .ref hMd), (1, .int x1), (2, .int x2)] [] := by
  unfold wp_X8_puts_0 at hw
  refine gw_aload_n F dX8_puts_0 0 rfl ?_
  refine gw_get F in_X8_puts_RX8 0 rfl rfl 0 (by decide) lk_X8_puts_7 rfl dX8_puts_1 ?_
  refine gw_bipush (v := (7 : Int32)) F dX8_puts_4 ic_bipush_7 ?_
  refine gw_iconst (v := (4 : Int32)) F dX8_puts_6 ic_iconst_4 ?_
  refine gw_iload_n F dX8_puts_7 1 rfl ?_
  refine gw_imul F dX8_puts_8 ?_
  refine gw_iadd F dX8_puts_9 ?_
  refine gw_iconst (v := (2 : Int32)) F dX8_puts_10 ic_iconst_2 ?_
  refine gw_iadd F dX8_puts_11 ?_
  refine gw_iload_n F dX8_puts_12 2 rfl ?_
  obtain ⟨h_2, hw⟩ := hw
  obtain ⟨v_1, e_v_1⟩ : ∃ z : OV, z = sA vMd 0 (((7 : Int32) + ((4 : Int32) * x1)) + (2 : Int32)).toNatClampNeg x2 := ⟨_, rfl⟩
  have hw := hw v_1 e_v_1
  refine gw_iast (bs' := [bMd G hMd qMd v_1]) F 1 rfl h_2 dX8_puts_13 (by rw [e_v_1]; rfl) ?_
  refine gw_aload_n F dX8_puts_14 0 rfl ?_
  refine gw_get F in_X8_puts_RX8 0 rfl rfl 0 (by decide) lk_X8_puts_7 rfl dX8_puts_15 ?_
  refine gw_bipush (v := (47 : Int32)) F dX8_puts_18 ic_bipush_47 ?_
  refine gw_iconst (v := (3 : Int32)) F dX8_puts_20 ic_iconst_3 ?_
  refine gw_iload_n F dX8_puts_21 2 rfl ?_
  refine gw_imul F dX8_puts_22 ?_
  refine gw_iadd F dX8_puts_23 ?_
  refine gw_iconst (v := (1 : Int32)) F dX8_puts_24 ic_iconst_1 ?_
  refine gw_iadd F dX8_puts_25 ?_
  refine gw_iload_n F dX8_puts_26 1 rfl ?_
  obtain ⟨h_4, hw⟩ := hw
  obtain ⟨v_3, e_v_3⟩ : ∃ z : OV, z = sA v_1 0 (((47 : Int32) + ((3 : Int32) * x2)) + (1 : Int32)).toNatClampNeg x1 := ⟨_, rfl⟩
  have hw := hw v_3 e_v_3
  refine gw_iast (bs' := [bMd G hMd qMd v_3]) F 1 rfl h_4 dX8_puts_27 (by rw [e_v_3]; rfl) ?_
  refine gw_aload_n F dX8_puts_28 0 rfl ?_
  refine gw_get F in_X8_puts_RX8 0 rfl rfl 0 (by decide) lk_X8_puts_7 rfl dX8_puts_29 ?_
  refine gw_bipush (v := (47 : Int32)) F dX8_puts_32 ic_bipush_47 ?_
  refine gw_iconst (v := (3 : Int32)) F dX8_puts_34 ic_iconst_3 ?_
  refine gw_iload_n F dX8_puts_35 2 rfl ?_
  refine gw_imul F dX8_puts_36 ?_
  refine gw_iadd F dX8_puts_37 ?_
  refine gw_iconst (v := (2 : Int32)) F dX8_puts_38 ic_iconst_2 ?_
  refine gw_iadd F dX8_puts_39 ?_
  refine gw_dup2 F dX8_puts_40 rfl rfl ?_
  obtain ⟨h_5, hw⟩ := hw
  refine gw_iald F 1 rfl h_5 dX8_puts_41 ?_
  refine gw_iconst (v := (1 : Int32)) F dX8_puts_42 ic_iconst_1 ?_
  refine gw_iadd F dX8_puts_43 ?_
  obtain ⟨h_7, hw⟩ := hw
  obtain ⟨v_6, e_v_6⟩ : ∃ z : OV, z = sA v_3 0 (((47 : Int32) + ((3 : Int32) * x2)) + (2 : Int32)).toNatClampNeg ((v_3.1 0 (((47 : Int32) + ((3 : Int32) * x2)) + (2 : Int32)).toNatClampNeg) + (1 : Int32)) := ⟨_, rfl⟩
  have hw := hw v_6 e_v_6
  refine gw_iast (bs' := [bMd G hMd qMd v_6]) F 1 rfl h_7 dX8_puts_44 (by rw [e_v_6]; rfl) ?_
  exact gw_vret F E rfl (Nat.le_of_ble_eq_true rfl) (Nat.le_of_ble_eq_true rfl) dX8_puts_45 ⟨_, rfl, rfl, hw⟩
def wp_X8_puts (Q : OV → Prop) (x1 : Int32) (x2 : Int32) (vMd : OV) : Prop := wp_X8_puts_0 Q x1 x2 vMd
theorem ct_X8_puts {X : List Cond} {l : Launch} {D : va_G} {G : Nat → ClassId} {hMd : Nat} {qMd : Nat → Nat} {Q : OV → Prop} {x1 : Int32} {x2 : Int32} {vMd : OV} (hw : wp_X8_puts Q x1 x2 vMd) : CM X l yX8_puts wsX8_puts rm_X8_puts D G [.ref hMd, .int x1, .int x2] [bMd G hMd qMd vMd] 0 0 (po_X8_puts G hMd qMd Q) :=
  CM.of pn_RX8 rfl rfl (Nat.le_of_ble_eq_true rfl) rfl (fun C F E => lb_X8_puts_0 F E hw)
-- X8_falls
abbrev rm_X8_falls : Room := { frames := 4, cells := 0, slots := 0, locals := 126 }
def po_X8_falls (G : Nat → ClassId) (hMd : Nat) (qMd : Nat → Nat) (Q : Int32 → OV → Prop) : Option Value → List va_W → Prop := fun o bs => ∃ (r : Int32) (vMd : OV), o = some (.int r) ∧ bs = [bMd G hMd qMd vMd] ∧ Q r vMd
theorem hd_X8_falls : yX8_falls.cls = RX8 ∧ yX8_falls.cls ≠ "java/lang/invoke/MethodHandle" ∧ yX8_falls.cls ≠ "java/lang/invoke/VarHandle" ∧ (parseMethodDescriptor yX8_falls.desc).map (fun d => d.parameters.length) = some 0 := by decide +kernel
theorem in_X8_falls_RX8 : ∀ w ∈ wsX80, w ∈ wsX8_falls := fun w h => List.mem_cons_of_mem _ (List.mem_append_left _ (List.mem_append_right _ h))
theorem lk_X8_falls_7 : Cond.fieldLink RX8 7 "KeyWavesModel" "g" "[I" ∈ wsX8_falls := List.mem_cons_of_mem _ (List.mem_append_left _ (List.mem_append_left _ (List.mem_append_left _ (List.mem_of_getElem? (i := 0) rfl))))
def wp_X8_falls_46 (Q : Int32 → OV → Prop) (K4 : Int32 → Int32 → OV → Prop) (x1 x2 : Int32) (vMd : OV) : Prop :=
  (∀ i_8 : Int32, i_8 = x2 + (1 : Int32) → (K4 x1 i_8 vMd))
set_option maxRecDepth 20000 in
theorem lb_X8_falls_46 {X : List Cond} {l : Launch} {D : va_G} {G : Nat → ClassId} {C : Cx} {bs0 : List va_W} {hMd : Nat} {qMd : Nat → Nat} {Q : Int32 → OV → Prop} {K4 : Int32 → Int32 → OV → Prop} (F : GF C X cX8_falls wsX8_falls RX8 rm_X8_falls 4 (some .int) D G l) (E : GE C bs0 0 0 (po_X8_falls G hMd qMd Q)) (hK4 : ∀ (x1 x2 : Int32) (vMd : OV), K4 x1 x2 vMd → GW C 0 0 [bMd G hMd qMd vMd] 4 [(0, .ref hMd), (1, .int x1), (2, .int x2)] []) {x1 x2 : Int32} {vMd : OV} (hw : wp_X8_falls_46 Q K4 x1 x2 vMd) : GW C 0 0 [bMd G hMd qMd vMd] 46 [(0, .ref hMd), (1, .int x1), (2, .int x2)] [] := by
  unfold wp_X8_falls_46 at hw
  obtain ⟨i_8, e_i_8⟩ : ∃ z : Int32, z = x2 + (1 : Int32) := ⟨_, rfl⟩
  have hw := hw i_8 e_i_8
  refine gw_iinc (v := i_8) (lv' := [(2, .int i_8), (0, .ref hMd), (1, .int x1)]) F dX8_falls_46 2 rfl (by rw [e_i_8]; rfl) (by decide) rfl ?_
  refine gw_goto (tgt := 4) F dX8_falls_49 (by decide) ?_
  refine gw_lv [1, 2, 0] rfl ?_
  exact hK4 _ _ _ hw
def wp_X8_falls_4 (Q : Int32 → OV → Prop) (K4 : Int32 → Int32 → OV → Prop) (x1 x2 : Int32) (vMd : OV) : Prop :=
  (vp_in (0 : Int32) 177 ∧ (((vMd.1 0 (0 : Int32).toNatClampNeg) ≤ x2 → (vp_in (5 : Int32) 177 ∧ (vp_in (5 : Int32) 177 ∧ ∀ v_4 : OV, v_4 = sA vMd 0 (5 : Int32).toNatClampNeg ((vMd.1 0 (5 : Int32).toNatClampNeg) + x1) → (Q x1 v_4)))) ∧ (¬ ((vMd.1 0 (0 : Int32).toNatClampNeg) ≤ x2) → (wp_X8_ofKey (fun (r_6 : Int32) => ((r_6 < 0 → (wp_X8_falls_46 Q K4 x1 x2 vMd)) ∧ (¬ (r_6 < 0) → (wp_X8_isFit (fun (r_9 : Int32) => ((r_9 = 0 → (wp_X8_lets (fun (v_11 : OV) => (∀ i_12 : Int32, i_12 = x1 + (1 : Int32) → (wp_X8_falls_46 Q K4 i_12 x2 v_11))) x2 r_6 vMd)) ∧ (¬ (r_9 = 0) → (wp_X8_falls_46 Q K4 x1 x2 vMd)))) x2 r_6 vMd)))) x2 (2 : Int32) vMd))))
set_option maxRecDepth 20000 in
theorem lb_X8_falls_4 {X : List Cond} {l : Launch} {D : va_G} {G : Nat → ClassId} {C : Cx} {bs0 : List va_W} {hMd : Nat} {qMd : Nat → Nat} {Q : Int32 → OV → Prop} {K4 : Int32 → Int32 → OV → Prop} (F : GF C X cX8_falls wsX8_falls RX8 rm_X8_falls 4 (some .int) D G l) (E : GE C bs0 0 0 (po_X8_falls G hMd qMd Q)) (hK4 : ∀ (x1 x2 : Int32) (vMd : OV), K4 x1 x2 vMd → GW C 0 0 [bMd G hMd qMd vMd] 4 [(0, .ref hMd), (1, .int x1), (2, .int x2)] []) {x1 x2 : Int32} {vMd : OV} (hw : wp_X8_falls_4 Q K4 x1 x2 vMd) : GW C 0 0 [bMd G hMd qMd vMd] 4 [(0, .ref hMd), (1, .int x1), (2, .int x2)] [] := by
  unfold wp_X8_falls_4 at hw
  refine gw_iload_n F dX8_falls_4 2 rfl ?_
  refine gw_aload_n F dX8_falls_5 0 rfl ?_
  refine gw_get F in_X8_falls_RX8 0 rfl rfl 0 (by decide) lk_X8_falls_7 rfl dX8_falls_6 ?_
  refine gw_iconst (v := (0 : Int32)) F dX8_falls_9 ic_iconst_0 ?_
  obtain ⟨h_1, hw⟩ := hw
  refine gw_iald F 1 rfl h_1 dX8_falls_10 ?_
  refine gw_icmp_ge (tgt := 52) F dX8_falls_11 (by decide) (fun c_2 => ?_) (fun c_2 => ?_)
  · have hw := hw.1 c_2
    refine gw_aload_n F dX8_falls_52 0 rfl ?_
    refine gw_get F in_X8_falls_RX8 0 rfl rfl 0 (by decide) lk_X8_falls_7 rfl dX8_falls_53 ?_
    refine gw_iconst (v := (5 : Int32)) F dX8_falls_56 ic_iconst_5 ?_
    refine gw_dup2 F dX8_falls_57 rfl rfl ?_
    obtain ⟨h_3, hw⟩ := hw
    refine gw_iald F 1 rfl h_3 dX8_falls_58 ?_
    refine gw_iload_n F dX8_falls_59 1 rfl ?_
    refine gw_iadd F dX8_falls_60 ?_
    obtain ⟨h_5, hw⟩ := hw
    obtain ⟨v_4, e_v_4⟩ : ∃ z : OV, z = sA vMd 0 (5 : Int32).toNatClampNeg ((vMd.1 0 (5 : Int32).toNatClampNeg) + x1) := ⟨_, rfl⟩
    have hw := hw v_4 e_v_4
    refine gw_iast (bs' := [bMd G hMd qMd v_4]) F 1 rfl h_5 dX8_falls_61 (by rw [e_v_4]; rfl) ?_
    refine gw_iload_n F dX8_falls_62 1 rfl ?_
    exact gw_iret F E rfl rfl (Nat.le_of_ble_eq_true rfl) (Nat.le_of_ble_eq_true rfl) dX8_falls_63 ⟨_, _, rfl, rfl, hw⟩
  · have hw := hw.2 c_2
    refine gw_aload_n F dX8_falls_14 0 rfl ?_
    refine gw_iload_n F dX8_falls_15 2 rfl ?_
    refine gw_iconst (v := (2 : Int32)) F dX8_falls_16 ic_iconst_2 ?_
    refine gw_callV F (ct_X8_ofKey hw) 2 gX8_falls_X8_ofKey rfl rfl rfl hd_X8_ofKey ⟨(Nat.le_of_ble_eq_true rfl), (Nat.le_of_ble_eq_true rfl)⟩ rfl rfl (Nat.le_of_ble_eq_true rfl) ⟨Nat.zero_le _, Nat.zero_le _⟩ [0] (bsr := []) rfl rfl (q0 := 0) rfl rfl dX8_falls_17 ?_
    rintro _ _ ⟨r_6, rfl, rfl, hw⟩
    refine gw_sel [0] (bs' := [bMd G hMd qMd vMd]) rfl rfl ?_
    change GW C 0 0 _ 20 _ [.int r_6]
    refine gw_istore_n (lv' := [(3, .int r_6), (0, .ref hMd), (1, .int x1), (2, .int x2)]) F dX8_falls_20 (by decide) rfl ?_
    refine gw_iload_n F dX8_falls_21 0 rfl ?_
    refine gw_if_lt (tgt := 46) F dX8_falls_22 (by decide) (fun c_7 => ?_) (fun c_7 => ?_)
    · have hw := hw.1 c_7
      refine gw_lv [1, 2, 3] rfl ?_
      exact lb_X8_falls_46 F E hK4 hw
    · have hw := hw.2 c_7
      refine gw_aload_n F dX8_falls_25 1 rfl ?_
      refine gw_iload_n F dX8_falls_26 3 rfl ?_
      refine gw_iload_n F dX8_falls_27 0 rfl ?_
      refine gw_callV F (ct_X8_isFit hw) 2 gX8_falls_X8_isFit rfl rfl rfl hd_X8_isFit ⟨(Nat.le_of_ble_eq_true rfl), (Nat.le_of_ble_eq_true rfl)⟩ rfl rfl (Nat.le_of_ble_eq_true rfl) ⟨Nat.zero_le _, Nat.zero_le _⟩ [0] (bsr := []) rfl rfl (q0 := 0) rfl rfl dX8_falls_28 ?_
      rintro _ _ ⟨r_9, rfl, rfl, hw⟩
      refine gw_sel [0] (bs' := [bMd G hMd qMd vMd]) rfl rfl ?_
      change GW C 0 0 _ 31 _ [.int r_9]
      refine gw_if_eq (tgt := 37) F dX8_falls_31 (by decide) (fun c_10 => ?_) (fun c_10 => ?_)
      · have hw := hw.1 c_10
        refine gw_aload_n F dX8_falls_37 1 rfl ?_
        refine gw_iload_n F dX8_falls_38 3 rfl ?_
        refine gw_iload_n F dX8_falls_39 0 rfl ?_
        refine gw_callV F (ct_X8_lets hw) 2 gX8_falls_X8_lets rfl rfl rfl hd_X8_lets ⟨(Nat.le_of_ble_eq_true rfl), (Nat.le_of_ble_eq_true rfl)⟩ rfl rfl (Nat.le_of_ble_eq_true rfl) ⟨Nat.zero_le _, Nat.zero_le _⟩ [0] (bsr := []) rfl rfl (q0 := 0) rfl rfl dX8_falls_40 ?_
        rintro _ _ ⟨v_11, rfl, rfl, hw⟩
        refine gw_sel [0] (bs' := [bMd G hMd qMd v_11]) rfl rfl ?_
        change GW C 0 0 _ 43 _ []
        obtain ⟨i_12, e_i_12⟩ : ∃ z : Int32, z = x1 + (1 : Int32) := ⟨_, rfl⟩
        have hw := hw i_12 e_i_12
        refine gw_iinc (v := i_12) (lv' := [(1, .int i_12), (3, .int r_6), (0, .ref hMd), (2, .int x2)]) F dX8_falls_43 2 rfl (by rw [e_i_12]; rfl) (by decide) rfl ?_
        refine gw_lv [2, 0, 3] rfl ?_
        exact lb_X8_falls_46 F E hK4 hw
      · have hw := hw.2 c_10
        refine gw_goto (tgt := 46) F dX8_falls_34 (by decide) ?_
        refine gw_lv [1, 2, 3] rfl ?_
        exact lb_X8_falls_46 F E hK4 hw
def wp_X8_falls_4_loop (Q : Int32 → OV → Prop) : Nat → Int32 → Int32 → OV → Prop
  | 0, _, _, _ => False
  | n + 1, x1, x2, vMd => wp_X8_falls_4 Q (wp_X8_falls_4_loop Q n) x1 x2 vMd
theorem lp_X8_falls_4 {X : List Cond} {l : Launch} {D : va_G} {G : Nat → ClassId} {C : Cx} {bs0 : List va_W} {hMd : Nat} {qMd : Nat → Nat} {Q : Int32 → OV → Prop} (F : GF C X cX8_falls wsX8_falls RX8 rm_X8_falls 4 (some .int) D G l) (E : GE C bs0 0 0 (po_X8_falls G hMd qMd Q)) : ∀ (n : Nat) (x1 x2 : Int32) (vMd : OV), wp_X8_falls_4_loop Q n x1 x2 vMd → GW C 0 0 [bMd G hMd qMd vMd] 4 [(0, .ref hMd), (1, .int x1), (2, .int x2)] [] := by
  intro n
  induction n with
  | zero => intro x1 x2 vMd hw; exact False.elim hw
  | succ n ih => intro x1 x2 vMd hw; exact lb_X8_falls_4 (K4 := wp_X8_falls_4_loop Q n) F E ih hw
def wp_X8_falls_0 (Q : Int32 → OV → Prop) (vMd : OV) : Prop :=
  (∃ n_13 : Nat, wp_X8_falls_4_loop Q n_13 (0 : Int32) (0 : Int32) vMd)
set_option maxRecDepth 20000 in
theorem lb_X8_falls_0 {X : List Cond} {l : Launch} {D : va_G} {G : Nat → ClassId} {C : Cx} {bs0 : List va_W} {hMd : Nat} {qMd : Nat → Nat} {Q : Int32 → OV → Prop} (F : GF C X cX8_falls wsX8_falls RX8 rm_X8_falls 4 (some .int) D G l) (E : GE C bs0 0 0 (po_X8_falls G hMd qMd Q)) {vMd : OV} (hw : wp_X8_falls_0 Q vMd) : GW C 0 0 [bMd G hMd qMd vMd] 0 [(0, .ref hMd)] [] := by
  unfold wp_X8_falls_0 at hw
  refine gw_iconst (v := (0 : Int32)) F dX8_falls_0 ic_iconst_0 ?_
  refine gw_istore_n (lv' := [(1, .int (0 : Int32)), (0, .ref hMd)]) F dX8_falls_1 (by decide) rfl ?_
  refine gw_iconst (v := (0 : Int32)) F dX8_falls_2 ic_iconst_0 ?_
  refine gw_istore_n (lv' := [(2, .int (0 : Int32)), (1, .int (0 : Int32)), (0, .ref hMd)]) F dX8_falls_3 (by decide) rfl ?_
  refine gw_lv [2, 1, 0] rfl ?_
  obtain ⟨n_13, hw⟩ := hw
  exact lp_X8_falls_4 F E n_13 _ _ _ hw
def wp_X8_falls (Q : Int32 → OV → Prop) (vMd : OV) : Prop := wp_X8_falls_0 Q vMd
theorem ct_X8_falls {X : List Cond} {l : Launch} {D : va_G} {G : Nat → ClassId} {hMd : Nat} {qMd : Nat → Nat} {Q : Int32 → OV → Prop} {vMd : OV} (hw : wp_X8_falls Q vMd) : CM X l yX8_falls wsX8_falls rm_X8_falls D G [.ref hMd] [bMd G hMd qMd vMd] 0 0 (po_X8_falls G hMd qMd Q) :=
  CM.of pn_RX8 rfl rfl (Nat.le_of_ble_eq_true rfl) rfl (fun C F E => lb_X8_falls_0 F E hw)
-- X8_key
abbrev rm_X8_key : Room := { frames := 3, cells := 0, slots := 0, locals := 106 }
def po_X8_key (G : Nat → ClassId) (hMd : Nat) (qMd : Nat → Nat) (Q : Int32 → OV → Prop) : Option Value → List va_W → Prop := fun o bs => ∃ (r : Int32) (vMd : OV), o = some (.int r) ∧ bs = [bMd G hMd qMd vMd] ∧ Q r vMd
theorem hd_X8_key : yX8_key.cls = RX8 ∧ yX8_key.cls ≠ "java/lang/invoke/MethodHandle" ∧ yX8_key.cls ≠ "java/lang/invoke/VarHandle" ∧ (parseMethodDescriptor yX8_key.desc).map (fun d => d.parameters.length) = some 2 := by decide +kernel
theorem in_X8_key_RX8 : ∀ w ∈ wsX80, w ∈ wsX8_key := fun w h => List.mem_cons_of_mem _ (List.mem_append_left _ (List.mem_append_right _ h))
theorem lk_X8_key_7 : Cond.fieldLink RX8 7 "KeyWavesModel" "g" "[I" ∈ wsX8_key := List.mem_cons_of_mem _ (List.mem_append_left _ (List.mem_append_left _ (List.mem_of_getElem? (i := 0) rfl)))
def wp_X8_key_19 (Q : Int32 → OV → Prop) (vMd : OV) : Prop :=
  (wp_X8_refuses (fun (r_3 : Int32) (v_4 : OV) => (Q r_3 v_4)) (1 : Int32) (0 : Int32) vMd)
set_option maxRecDepth 20000 in
theorem lb_X8_key_19 {X : List Cond} {l : Launch} {D : va_G} {G : Nat → ClassId} {C : Cx} {bs0 : List va_W} {hMd : Nat} {qMd : Nat → Nat} {Q : Int32 → OV → Prop} (F : GF C X cX8_key wsX8_key RX8 rm_X8_key 4 (some .int) D G l) (E : GE C bs0 0 0 (po_X8_key G hMd qMd Q)) {vMd : OV} (hw : wp_X8_key_19 Q vMd) : GW C 0 0 [bMd G hMd qMd vMd] 19 [(0, .ref hMd)] [] := by
  unfold wp_X8_key_19 at hw
  refine gw_aload_n F dX8_key_19 0 rfl ?_
  refine gw_iconst (v := (1 : Int32)) F dX8_key_20 ic_iconst_1 ?_
  refine gw_iconst (v := (0 : Int32)) F dX8_key_21 ic_iconst_0 ?_
  refine gw_callV F (ct_X8_refuses hw) 2 gX8_key_X8_refuses rfl rfl rfl hd_X8_refuses ⟨(Nat.le_of_ble_eq_true rfl), (Nat.le_of_ble_eq_true rfl)⟩ rfl rfl (Nat.le_of_ble_eq_true rfl) ⟨Nat.zero_le _, Nat.zero_le _⟩ [0] (bsr := []) rfl rfl (q0 := 0) rfl rfl dX8_key_22 ?_
  rintro _ _ ⟨r_3, v_4, rfl, rfl, hw⟩
  refine gw_sel [0] (bs' := [bMd G hMd qMd v_4]) rfl rfl ?_
  change GW C 0 0 _ 25 _ [.int r_3]
  exact gw_iret F E rfl rfl (Nat.le_of_ble_eq_true rfl) (Nat.le_of_ble_eq_true rfl) dX8_key_25 ⟨_, _, rfl, rfl, hw⟩
def wp_X8_key_0 (Q : Int32 → OV → Prop) (x1 : Int32) (x2 : Int32) (vMd : OV) : Prop :=
  (wp_X8_in (fun (r_1 : Int32) => ((r_1 = 0 → (wp_X8_key_19 Q vMd)) ∧ (¬ (r_1 = 0) → (wp_X8_in (fun (r_5 : Int32) => ((¬ r_5 = 0 → (vp_in (0 : Int32) 177 ∧ ((¬ (vMd.1 0 (0 : Int32).toNatClampNeg) = (10 : Int32) → (wp_X8_keeps0 (fun (v_9 : OV) => (vp_in (0 : Int32) 177 ∧ (∀ i_11 : Int32, i_11 = (v_9.1 0 (0 : Int32).toNatClampNeg) → (vp_in (0 : Int32) 177 ∧ (vp_in (0 : Int32) 177 ∧ ∀ v_13 : OV, v_13 = sA v_9 0 (0 : Int32).toNatClampNeg ((v_9.1 0 (0 : Int32).toNatClampNeg) + (1 : Int32)) → (vp_in ((7 : Int32) + ((4 : Int32) * i_11)) 177 ∧ ∀ v_15 : OV, v_15 = sA v_13 0 ((7 : Int32) + ((4 : Int32) * i_11)).toNatClampNeg x1 → (vp_in (((7 : Int32) + ((4 : Int32) * i_11)) + (1 : Int32)) 177 ∧ ∀ v_17 : OV, v_17 = sA v_15 0 (((7 : Int32) + ((4 : Int32) * i_11)) + (1 : Int32)).toNatClampNeg x2 → (vp_in (((7 : Int32) + ((4 : Int32) * i_11)) + (2 : Int32)) 177 ∧ ∀ v_19 : OV, v_19 = sA v_17 0 (((7 : Int32) + ((4 : Int32) * i_11)) + (2 : Int32)).toNatClampNeg (-1 : Int32) → (vp_in (((7 : Int32) + ((4 : Int32) * i_11)) + (3 : Int32)) 177 ∧ ∀ v_21 : OV, v_21 = sA v_19 0 (((7 : Int32) + ((4 : Int32) * i_11)) + (3 : Int32)).toNatClampNeg (0 : Int32) → (Q i_11 v_21)))))))))) vMd)) ∧ ((vMd.1 0 (0 : Int32).toNatClampNeg) = (10 : Int32) → (wp_X8_refuses (fun (r_23 : Int32) (v_24 : OV) => (Q r_23 v_24)) (2 : Int32) (10 : Int32) vMd))))) ∧ (r_5 = 0 → (wp_X8_key_19 Q vMd)))) x2 (0 : Int32) (3 : Int32))))) x1 (0 : Int32) (63 : Int32))
set_option maxRecDepth 20000 in
theorem lb_X8_key_0 {X : List Cond} {l : Launch} {D : va_G} {G : Nat → ClassId} {C : Cx} {bs0 : List va_W} {hMd : Nat} {qMd : Nat → Nat} {Q : Int32 → OV → Prop} (F : GF C X cX8_key wsX8_key RX8 rm_X8_key 4 (some .int) D G l) (E : GE C bs0 0 0 (po_X8_key G hMd qMd Q)) {x1 : Int32} {x2 : Int32} {vMd : OV} (hw : wp_X8_key_0 Q x1 x2 vMd) : GW C 0 0 [bMd G hMd qMd vMd] 0 [(0, .ref hMd), (1, .int x1), (2, .int x2)] [] := by
  unfold wp_X8_key_0 at hw
  refine gw_iload_n F dX8_key_0 1 rfl ?_
  refine gw_iconst (v := (0 : Int32)) F dX8_key_1 ic_iconst_0 ?_
  refine gw_bipush (v := (63 : Int32)) F dX8_key_2 ic_bipush_63 ?_
  refine gw_callS F (ct_X8_in hw) 3 gX8_key_X8_in rfl rfl rfl hd_X8_in ⟨(Nat.le_of_ble_eq_true rfl), (Nat.le_of_ble_eq_true rfl)⟩ rfl rfl (Nat.le_of_ble_eq_true rfl) ⟨Nat.zero_le _, Nat.zero_le _⟩ [0] (bsr := [bMd G hMd qMd vMd]) rfl rfl dX8_key_4 ?_
  rintro _ _ ⟨r_1, rfl, rfl, hw⟩
  refine gw_sel [0] (bs' := [bMd G hMd qMd vMd]) rfl rfl ?_
  change GW C 0 0 _ 7 _ [.int r_1]
  refine gw_if_eq (tgt := 19) F dX8_key_7 (by decide) (fun c_2 => ?_) (fun c_2 => ?_)
  · have hw := hw.1 c_2
    refine gw_lv [0] rfl ?_
    exact lb_X8_key_19 F E hw
  · have hw := hw.2 c_2
    refine gw_iload_n F dX8_key_10 2 rfl ?_
    refine gw_iconst (v := (0 : Int32)) F dX8_key_11 ic_iconst_0 ?_
    refine gw_iconst (v := (3 : Int32)) F dX8_key_12 ic_iconst_3 ?_
    refine gw_callS F (ct_X8_in hw) 3 gX8_key_X8_in rfl rfl rfl hd_X8_in ⟨(Nat.le_of_ble_eq_true rfl), (Nat.le_of_ble_eq_true rfl)⟩ rfl rfl (Nat.le_of_ble_eq_true rfl) ⟨Nat.zero_le _, Nat.zero_le _⟩ [0] (bsr := [bMd G hMd qMd vMd]) rfl rfl dX8_key_13 ?_
    rintro _ _ ⟨r_5, rfl, rfl, hw⟩
    refine gw_sel [0] (bs' := [bMd G hMd qMd vMd]) rfl rfl ?_
    change GW C 0 0 _ 16 _ [.int r_5]
    refine gw_if_ne (tgt := 26) F dX8_key_16 (by decide) (fun c_6 => ?_) (fun c_6 => ?_)
    · have hw := hw.1 c_6
      refine gw_aload_n F dX8_key_26 0 rfl ?_
      refine gw_get F in_X8_key_RX8 0 rfl rfl 0 (by decide) lk_X8_key_7 rfl dX8_key_27 ?_
      refine gw_iconst (v := (0 : Int32)) F dX8_key_30 ic_iconst_0 ?_
      obtain ⟨h_7, hw⟩ := hw
      refine gw_iald F 1 rfl h_7 dX8_key_31 ?_
      refine gw_bipush (v := (10 : Int32)) F dX8_key_32 ic_bipush_10 ?_
      refine gw_icmp_ne (tgt := 45) F dX8_key_34 (by decide) (fun c_8 => ?_) (fun c_8 => ?_)
      · have hw := hw.1 c_8
        refine gw_aload_n F dX8_key_45 0 rfl ?_
        refine gw_aload_n F dX8_key_46 0 rfl ?_
        refine gw_get F in_X8_key_RX8 0 rfl rfl 0 (by decide) lk_X8_key_7 rfl dX8_key_47 ?_
        refine gw_callV F (ct_X8_keeps0 hw) 1 gX8_key_X8_keeps rfl rfl rfl hd_X8_keeps ⟨(Nat.le_of_ble_eq_true rfl), (Nat.le_of_ble_eq_true rfl)⟩ rfl rfl (Nat.le_of_ble_eq_true rfl) ⟨Nat.zero_le _, Nat.zero_le _⟩ [0] (bsr := []) rfl rfl (q0 := 0) rfl rfl dX8_key_50 ?_
        rintro _ _ ⟨v_9, rfl, rfl, hw⟩
        refine gw_sel [0] (bs' := [bMd G hMd qMd v_9]) rfl rfl ?_
        change GW C 0 0 _ 53 _ []
        refine gw_aload_n F dX8_key_53 0 rfl ?_
        refine gw_get F in_X8_key_RX8 0 rfl rfl 0 (by decide) lk_X8_key_7 rfl dX8_key_54 ?_
        refine gw_iconst (v := (0 : Int32)) F dX8_key_57 ic_iconst_0 ?_
        obtain ⟨h_10, hw⟩ := hw
        refine gw_iald F 1 rfl h_10 dX8_key_58 ?_
        refine gw_topi (fun i_11 e_i_11 => ?_)
        have hw := hw i_11 e_i_11
        refine gw_istore_n (lv' := [(3, .int i_11), (0, .ref hMd), (1, .int x1), (2, .int x2)]) F dX8_key_59 (by decide) rfl ?_
        refine gw_aload_n F dX8_key_60 1 rfl ?_
        refine gw_get F in_X8_key_RX8 0 rfl rfl 0 (by decide) lk_X8_key_7 rfl dX8_key_61 ?_
        refine gw_iconst (v := (0 : Int32)) F dX8_key_64 ic_iconst_0 ?_
        refine gw_dup2 F dX8_key_65 rfl rfl ?_
        obtain ⟨h_12, hw⟩ := hw
        refine gw_iald F 1 rfl h_12 dX8_key_66 ?_
        refine gw_iconst (v := (1 : Int32)) F dX8_key_67 ic_iconst_1 ?_
        refine gw_iadd F dX8_key_68 ?_
        obtain ⟨h_14, hw⟩ := hw
        obtain ⟨v_13, e_v_13⟩ : ∃ z : OV, z = sA v_9 0 (0 : Int32).toNatClampNeg ((v_9.1 0 (0 : Int32).toNatClampNeg) + (1 : Int32)) := ⟨_, rfl⟩
        have hw := hw v_13 e_v_13
        refine gw_iast (bs' := [bMd G hMd qMd v_13]) F 1 rfl h_14 dX8_key_69 (by rw [e_v_13]; rfl) ?_
        refine gw_aload_n F dX8_key_70 1 rfl ?_
        refine gw_get F in_X8_key_RX8 0 rfl rfl 0 (by decide) lk_X8_key_7 rfl dX8_key_71 ?_
        refine gw_bipush (v := (7 : Int32)) F dX8_key_74 ic_bipush_7 ?_
        refine gw_iconst (v := (4 : Int32)) F dX8_key_76 ic_iconst_4 ?_
        refine gw_iload_n F dX8_key_77 0 rfl ?_
        refine gw_imul F dX8_key_78 ?_
        refine gw_iadd F dX8_key_79 ?_
        refine gw_iload_n F dX8_key_80 2 rfl ?_
        obtain ⟨h_16, hw⟩ := hw
        obtain ⟨v_15, e_v_15⟩ : ∃ z : OV, z = sA v_13 0 ((7 : Int32) + ((4 : Int32) * i_11)).toNatClampNeg x1 := ⟨_, rfl⟩
        have hw := hw v_15 e_v_15
        refine gw_iast (bs' := [bMd G hMd qMd v_15]) F 1 rfl h_16 dX8_key_81 (by rw [e_v_15]; rfl) ?_
        refine gw_aload_n F dX8_key_82 1 rfl ?_
        refine gw_get F in_X8_key_RX8 0 rfl rfl 0 (by decide) lk_X8_key_7 rfl dX8_key_83 ?_
        refine gw_bipush (v := (7 : Int32)) F dX8_key_86 ic_bipush_7 ?_
        refine gw_iconst (v := (4 : Int32)) F dX8_key_88 ic_iconst_4 ?_
        refine gw_iload_n F dX8_key_89 0 rfl ?_
        refine gw_imul F dX8_key_90 ?_
        refine gw_iadd F dX8_key_91 ?_
        refine gw_iconst (v := (1 : Int32)) F dX8_key_92 ic_iconst_1 ?_
        refine gw_iadd F dX8_key_93 ?_
        refine gw_iload_n F dX8_key_94 3 rfl ?_
        obtain ⟨h_18, hw⟩ := hw
        obtain ⟨v_17, e_v_17⟩ : ∃ z : OV, z = sA v_15 0 (((7 : Int32) + ((4 : Int32) * i_11)) + (1 : Int32)).toNatClampNeg x2 := ⟨_, rfl⟩
        have hw := hw v_17 e_v_17
        refine gw_iast (bs' := [bMd G hMd qMd v_17]) F 1 rfl h_18 dX8_key_95 (by rw [e_v_17]; rfl) ?_
        refine gw_aload_n F dX8_key_96 1 rfl ?_
        refine gw_get F in_X8_key_RX8 0 rfl rfl 0 (by decide) lk_X8_key_7 rfl dX8_key_97 ?_
        refine gw_bipush (v := (7 : Int32)) F dX8_key_100 ic_bipush_7 ?_
        refine gw_iconst (v := (4 : Int32)) F dX8_key_102 ic_iconst_4 ?_
        refine gw_iload_n F dX8_key_103 0 rfl ?_
        refine gw_imul F dX8_key_104 ?_
        refine gw_iadd F dX8_key_105 ?_
        refine gw_iconst (v := (2 : Int32)) F dX8_key_106 ic_iconst_2 ?_
        refine gw_iadd F dX8_key_107 ?_
        refine gw_iconst (v := (-1 : Int32)) F dX8_key_108 ic_iconst_m1 ?_
        obtain ⟨h_20, hw⟩ := hw
        obtain ⟨v_19, e_v_19⟩ : ∃ z : OV, z = sA v_17 0 (((7 : Int32) + ((4 : Int32) * i_11)) + (2 : Int32)).toNatClampNeg (-1 : Int32) := ⟨_, rfl⟩
        have hw := hw v_19 e_v_19
        refine gw_iast (bs' := [bMd G hMd qMd v_19]) F 1 rfl h_20 dX8_key_109 (by rw [e_v_19]; rfl) ?_
        refine gw_aload_n F dX8_key_110 1 rfl ?_
        refine gw_get F in_X8_key_RX8 0 rfl rfl 0 (by decide) lk_X8_key_7 rfl dX8_key_111 ?_
        refine gw_bipush (v := (7 : Int32)) F dX8_key_114 ic_bipush_7 ?_
        refine gw_iconst (v := (4 : Int32)) F dX8_key_116 ic_iconst_4 ?_
        refine gw_iload_n F dX8_key_117 0 rfl ?_
        refine gw_imul F dX8_key_118 ?_
        refine gw_iadd F dX8_key_119 ?_
        refine gw_iconst (v := (3 : Int32)) F dX8_key_120 ic_iconst_3 ?_
        refine gw_iadd F dX8_key_121 ?_
        refine gw_iconst (v := (0 : Int32)) F dX8_key_122 ic_iconst_0 ?_
        obtain ⟨h_22, hw⟩ := hw
        obtain ⟨v_21, e_v_21⟩ : ∃ z : OV, z = sA v_19 0 (((7 : Int32) + ((4 : Int32) * i_11)) + (3 : Int32)).toNatClampNeg (0 : Int32) := ⟨_, rfl⟩
        have hw := hw v_21 e_v_21
        refine gw_iast (bs' := [bMd G hMd qMd v_21]) F 1 rfl h_22 dX8_key_123 (by rw [e_v_21]; rfl) ?_
        refine gw_iload_n F dX8_key_124 0 rfl ?_
        exact gw_iret F E rfl rfl (Nat.le_of_ble_eq_true rfl) (Nat.le_of_ble_eq_true rfl) dX8_key_125 ⟨_, _, rfl, rfl, hw⟩
      · have hw := hw.2 c_8
        refine gw_aload_n F dX8_key_37 0 rfl ?_
        refine gw_iconst (v := (2 : Int32)) F dX8_key_38 ic_iconst_2 ?_
        refine gw_bipush (v := (10 : Int32)) F dX8_key_39 ic_bipush_10 ?_
        refine gw_callV F (ct_X8_refuses hw) 2 gX8_key_X8_refuses rfl rfl rfl hd_X8_refuses ⟨(Nat.le_of_ble_eq_true rfl), (Nat.le_of_ble_eq_true rfl)⟩ rfl rfl (Nat.le_of_ble_eq_true rfl) ⟨Nat.zero_le _, Nat.zero_le _⟩ [0] (bsr := []) rfl rfl (q0 := 0) rfl rfl dX8_key_41 ?_
        rintro _ _ ⟨r_23, v_24, rfl, rfl, hw⟩
        refine gw_sel [0] (bs' := [bMd G hMd qMd v_24]) rfl rfl ?_
        change GW C 0 0 _ 44 _ [.int r_23]
        exact gw_iret F E rfl rfl (Nat.le_of_ble_eq_true rfl) (Nat.le_of_ble_eq_true rfl) dX8_key_44 ⟨_, _, rfl, rfl, hw⟩
    · have hw := hw.2 c_6
      refine gw_lv [0] rfl ?_
      exact lb_X8_key_19 F E hw
def wp_X8_key (Q : Int32 → OV → Prop) (x1 : Int32) (x2 : Int32) (vMd : OV) : Prop := wp_X8_key_0 Q x1 x2 vMd
theorem ct_X8_key {X : List Cond} {l : Launch} {D : va_G} {G : Nat → ClassId} {hMd : Nat} {qMd : Nat → Nat} {Q : Int32 → OV → Prop} {x1 : Int32} {x2 : Int32} {vMd : OV} (hw : wp_X8_key Q x1 x2 vMd) : CM X l yX8_key wsX8_key rm_X8_key D G [.ref hMd, .int x1, .int x2] [bMd G hMd qMd vMd] 0 0 (po_X8_key G hMd qMd Q) :=
  CM.of pn_RX8 rfl rfl (Nat.le_of_ble_eq_true rfl) rfl (fun C F E => lb_X8_key_0 F E hw)
-- X8_lock
abbrev rm_X8_lock : Room := { frames := 3, cells := 0, slots := 0, locals := 106 }
def po_X8_lock (G : Nat → ClassId) (hMd : Nat) (qMd : Nat → Nat) (Q : Int32 → OV → Prop) : Option Value → List va_W → Prop := fun o bs => ∃ (r : Int32) (vMd : OV), o = some (.int r) ∧ bs = [bMd G hMd qMd vMd] ∧ Q r vMd
theorem hd_X8_lock : yX8_lock.cls = RX8 ∧ yX8_lock.cls ≠ "java/lang/invoke/MethodHandle" ∧ yX8_lock.cls ≠ "java/lang/invoke/VarHandle" ∧ (parseMethodDescriptor yX8_lock.desc).map (fun d => d.parameters.length) = some 1 := by decide +kernel
theorem in_X8_lock_RX8 : ∀ w ∈ wsX80, w ∈ wsX8_lock := fun w h => List.mem_cons_of_mem _ (List.mem_append_left _ (List.mem_append_right _ h))
theorem lk_X8_lock_7 : Cond.fieldLink RX8 7 "KeyWavesModel" "g" "[I" ∈ wsX8_lock := List.mem_cons_of_mem _ (List.mem_append_left _ (List.mem_append_left _ (List.mem_of_getElem? (i := 0) rfl)))
def wp_X8_lock_0 (Q : Int32 → OV → Prop) (x1 : Int32) (vMd : OV) : Prop :=
  (wp_X8_in (fun (r_1 : Int32) => ((¬ r_1 = 0 → (vp_in (1 : Int32) 177 ∧ ((¬ (vMd.1 0 (1 : Int32).toNatClampNeg) = (10 : Int32) → (wp_X8_keeps0 (fun (v_5 : OV) => (vp_in (1 : Int32) 177 ∧ (∀ i_7 : Int32, i_7 = (v_5.1 0 (1 : Int32).toNatClampNeg) → (vp_in (1 : Int32) 177 ∧ (vp_in (1 : Int32) 177 ∧ ∀ v_9 : OV, v_9 = sA v_5 0 (1 : Int32).toNatClampNeg ((v_5.1 0 (1 : Int32).toNatClampNeg) + (1 : Int32)) → (vp_in ((47 : Int32) + ((3 : Int32) * i_7)) 177 ∧ ∀ v_11 : OV, v_11 = sA v_9 0 ((47 : Int32) + ((3 : Int32) * i_7)).toNatClampNeg x1 → (vp_in (((47 : Int32) + ((3 : Int32) * i_7)) + (1 : Int32)) 177 ∧ ∀ v_13 : OV, v_13 = sA v_11 0 (((47 : Int32) + ((3 : Int32) * i_7)) + (1 : Int32)).toNatClampNeg (-1 : Int32) → (vp_in (((47 : Int32) + ((3 : Int32) * i_7)) + (2 : Int32)) 177 ∧ ∀ v_15 : OV, v_15 = sA v_13 0 (((47 : Int32) + ((3 : Int32) * i_7)) + (2 : Int32)).toNatClampNeg (0 : Int32) → (Q i_7 v_15))))))))) vMd)) ∧ ((vMd.1 0 (1 : Int32).toNatClampNeg) = (10 : Int32) → (wp_X8_refuses (fun (r_17 : Int32) (v_18 : OV) => (Q r_17 v_18)) (2 : Int32) (10 : Int32) vMd))))) ∧ (r_1 = 0 → (wp_X8_refuses (fun (r_19 : Int32) (v_20 : OV) => (Q r_19 v_20)) (1 : Int32) (0 : Int32) vMd)))) x1 (0 : Int32) (63 : Int32))
set_option maxRecDepth 20000 in
theorem lb_X8_lock_0 {X : List Cond} {l : Launch} {D : va_G} {G : Nat → ClassId} {C : Cx} {bs0 : List va_W} {hMd : Nat} {qMd : Nat → Nat} {Q : Int32 → OV → Prop} (F : GF C X cX8_lock wsX8_lock RX8 rm_X8_lock 3 (some .int) D G l) (E : GE C bs0 0 0 (po_X8_lock G hMd qMd Q)) {x1 : Int32} {vMd : OV} (hw : wp_X8_lock_0 Q x1 vMd) : GW C 0 0 [bMd G hMd qMd vMd] 0 [(0, .ref hMd), (1, .int x1)] [] := by
  unfold wp_X8_lock_0 at hw
  refine gw_iload_n F dX8_lock_0 1 rfl ?_
  refine gw_iconst (v := (0 : Int32)) F dX8_lock_1 ic_iconst_0 ?_
  refine gw_bipush (v := (63 : Int32)) F dX8_lock_2 ic_bipush_63 ?_
  refine gw_callS F (ct_X8_in hw) 3 gX8_lock_X8_in rfl rfl rfl hd_X8_in ⟨(Nat.le_of_ble_eq_true rfl), (Nat.le_of_ble_eq_true rfl)⟩ rfl rfl (Nat.le_of_ble_eq_true rfl) ⟨Nat.zero_le _, Nat.zero_le _⟩ [0] (bsr := [bMd G hMd qMd vMd]) rfl rfl dX8_lock_4 ?_
  rintro _ _ ⟨r_1, rfl, rfl, hw⟩
  refine gw_sel [0] (bs' := [bMd G hMd qMd vMd]) rfl rfl ?_
  change GW C 0 0 _ 7 _ [.int r_1]
  refine gw_if_ne (tgt := 17) F dX8_lock_7 (by decide) (fun c_2 => ?_) (fun c_2 => ?_)
  · have hw := hw.1 c_2
    refine gw_aload_n F dX8_lock_17 0 rfl ?_
    refine gw_get F in_X8_lock_RX8 0 rfl rfl 0 (by decide) lk_X8_lock_7 rfl dX8_lock_18 ?_
    refine gw_iconst (v := (1 : Int32)) F dX8_lock_21 ic_iconst_1 ?_
    obtain ⟨h_3, hw⟩ := hw
    refine gw_iald F 1 rfl h_3 dX8_lock_22 ?_
    refine gw_bipush (v := (10 : Int32)) F dX8_lock_23 ic_bipush_10 ?_
    refine gw_icmp_ne (tgt := 36) F dX8_lock_25 (by decide) (fun c_4 => ?_) (fun c_4 => ?_)
    · have hw := hw.1 c_4
      refine gw_aload_n F dX8_lock_36 0 rfl ?_
      refine gw_aload_n F dX8_lock_37 0 rfl ?_
      refine gw_get F in_X8_lock_RX8 0 rfl rfl 0 (by decide) lk_X8_lock_7 rfl dX8_lock_38 ?_
      refine gw_callV F (ct_X8_keeps0 hw) 1 gX8_lock_X8_keeps rfl rfl rfl hd_X8_keeps ⟨(Nat.le_of_ble_eq_true rfl), (Nat.le_of_ble_eq_true rfl)⟩ rfl rfl (Nat.le_of_ble_eq_true rfl) ⟨Nat.zero_le _, Nat.zero_le _⟩ [0] (bsr := []) rfl rfl (q0 := 0) rfl rfl dX8_lock_41 ?_
      rintro _ _ ⟨v_5, rfl, rfl, hw⟩
      refine gw_sel [0] (bs' := [bMd G hMd qMd v_5]) rfl rfl ?_
      change GW C 0 0 _ 44 _ []
      refine gw_aload_n F dX8_lock_44 0 rfl ?_
      refine gw_get F in_X8_lock_RX8 0 rfl rfl 0 (by decide) lk_X8_lock_7 rfl dX8_lock_45 ?_
      refine gw_iconst (v := (1 : Int32)) F dX8_lock_48 ic_iconst_1 ?_
      obtain ⟨h_6, hw⟩ := hw
      refine gw_iald F 1 rfl h_6 dX8_lock_49 ?_
      refine gw_topi (fun i_7 e_i_7 => ?_)
      have hw := hw i_7 e_i_7
      refine gw_istore_n (lv' := [(2, .int i_7), (0, .ref hMd), (1, .int x1)]) F dX8_lock_50 (by decide) rfl ?_
      refine gw_aload_n F dX8_lock_51 1 rfl ?_
      refine gw_get F in_X8_lock_RX8 0 rfl rfl 0 (by decide) lk_X8_lock_7 rfl dX8_lock_52 ?_
      refine gw_iconst (v := (1 : Int32)) F dX8_lock_55 ic_iconst_1 ?_
      refine gw_dup2 F dX8_lock_56 rfl rfl ?_
      obtain ⟨h_8, hw⟩ := hw
      refine gw_iald F 1 rfl h_8 dX8_lock_57 ?_
      refine gw_iconst (v := (1 : Int32)) F dX8_lock_58 ic_iconst_1 ?_
      refine gw_iadd F dX8_lock_59 ?_
      obtain ⟨h_10, hw⟩ := hw
      obtain ⟨v_9, e_v_9⟩ : ∃ z : OV, z = sA v_5 0 (1 : Int32).toNatClampNeg ((v_5.1 0 (1 : Int32).toNatClampNeg) + (1 : Int32)) := ⟨_, rfl⟩
      have hw := hw v_9 e_v_9
      refine gw_iast (bs' := [bMd G hMd qMd v_9]) F 1 rfl h_10 dX8_lock_60 (by rw [e_v_9]; rfl) ?_
      refine gw_aload_n F dX8_lock_61 1 rfl ?_
      refine gw_get F in_X8_lock_RX8 0 rfl rfl 0 (by decide) lk_X8_lock_7 rfl dX8_lock_62 ?_
      refine gw_bipush (v := (47 : Int32)) F dX8_lock_65 ic_bipush_47 ?_
      refine gw_iconst (v := (3 : Int32)) F dX8_lock_67 ic_iconst_3 ?_
      refine gw_iload_n F dX8_lock_68 0 rfl ?_
      refine gw_imul F dX8_lock_69 ?_
      refine gw_iadd F dX8_lock_70 ?_
      refine gw_iload_n F dX8_lock_71 2 rfl ?_
      obtain ⟨h_12, hw⟩ := hw
      obtain ⟨v_11, e_v_11⟩ : ∃ z : OV, z = sA v_9 0 ((47 : Int32) + ((3 : Int32) * i_7)).toNatClampNeg x1 := ⟨_, rfl⟩
      have hw := hw v_11 e_v_11
      refine gw_iast (bs' := [bMd G hMd qMd v_11]) F 1 rfl h_12 dX8_lock_72 (by rw [e_v_11]; rfl) ?_
      refine gw_aload_n F dX8_lock_73 1 rfl ?_
      refine gw_get F in_X8_lock_RX8 0 rfl rfl 0 (by decide) lk_X8_lock_7 rfl dX8_lock_74 ?_
      refine gw_bipush (v := (47 : Int32)) F dX8_lock_77 ic_bipush_47 ?_
      refine gw_iconst (v := (3 : Int32)) F dX8_lock_79 ic_iconst_3 ?_
      refine gw_iload_n F dX8_lock_80 0 rfl ?_
      refine gw_imul F dX8_lock_81 ?_
      refine gw_iadd F dX8_lock_82 ?_
      refine gw_iconst (v := (1 : Int32)) F dX8_lock_83 ic_iconst_1 ?_
      refine gw_iadd F dX8_lock_84 ?_
      refine gw_iconst (v := (-1 : Int32)) F dX8_lock_85 ic_iconst_m1 ?_
      obtain ⟨h_14, hw⟩ := hw
      obtain ⟨v_13, e_v_13⟩ : ∃ z : OV, z = sA v_11 0 (((47 : Int32) + ((3 : Int32) * i_7)) + (1 : Int32)).toNatClampNeg (-1 : Int32) := ⟨_, rfl⟩
      have hw := hw v_13 e_v_13
      refine gw_iast (bs' := [bMd G hMd qMd v_13]) F 1 rfl h_14 dX8_lock_86 (by rw [e_v_13]; rfl) ?_
      refine gw_aload_n F dX8_lock_87 1 rfl ?_
      refine gw_get F in_X8_lock_RX8 0 rfl rfl 0 (by decide) lk_X8_lock_7 rfl dX8_lock_88 ?_
      refine gw_bipush (v := (47 : Int32)) F dX8_lock_91 ic_bipush_47 ?_
      refine gw_iconst (v := (3 : Int32)) F dX8_lock_93 ic_iconst_3 ?_
      refine gw_iload_n F dX8_lock_94 0 rfl ?_
      refine gw_imul F dX8_lock_95 ?_
      refine gw_iadd F dX8_lock_96 ?_
      refine gw_iconst (v := (2 : Int32)) F dX8_lock_97 ic_iconst_2 ?_
      refine gw_iadd F dX8_lock_98 ?_
      refine gw_iconst (v := (0 : Int32)) F dX8_lock_99 ic_iconst_0 ?_
      obtain ⟨h_16, hw⟩ := hw
      obtain ⟨v_15, e_v_15⟩ : ∃ z : OV, z = sA v_13 0 (((47 : Int32) + ((3 : Int32) * i_7)) + (2 : Int32)).toNatClampNeg (0 : Int32) := ⟨_, rfl⟩
      have hw := hw v_15 e_v_15
      refine gw_iast (bs' := [bMd G hMd qMd v_15]) F 1 rfl h_16 dX8_lock_100 (by rw [e_v_15]; rfl) ?_
      refine gw_iload_n F dX8_lock_101 0 rfl ?_
      exact gw_iret F E rfl rfl (Nat.le_of_ble_eq_true rfl) (Nat.le_of_ble_eq_true rfl) dX8_lock_102 ⟨_, _, rfl, rfl, hw⟩
    · have hw := hw.2 c_4
      refine gw_aload_n F dX8_lock_28 0 rfl ?_
      refine gw_iconst (v := (2 : Int32)) F dX8_lock_29 ic_iconst_2 ?_
      refine gw_bipush (v := (10 : Int32)) F dX8_lock_30 ic_bipush_10 ?_
      refine gw_callV F (ct_X8_refuses hw) 2 gX8_lock_X8_refuses rfl rfl rfl hd_X8_refuses ⟨(Nat.le_of_ble_eq_true rfl), (Nat.le_of_ble_eq_true rfl)⟩ rfl rfl (Nat.le_of_ble_eq_true rfl) ⟨Nat.zero_le _, Nat.zero_le _⟩ [0] (bsr := []) rfl rfl (q0 := 0) rfl rfl dX8_lock_32 ?_
      rintro _ _ ⟨r_17, v_18, rfl, rfl, hw⟩
      refine gw_sel [0] (bs' := [bMd G hMd qMd v_18]) rfl rfl ?_
      change GW C 0 0 _ 35 _ [.int r_17]
      exact gw_iret F E rfl rfl (Nat.le_of_ble_eq_true rfl) (Nat.le_of_ble_eq_true rfl) dX8_lock_35 ⟨_, _, rfl, rfl, hw⟩
  · have hw := hw.2 c_2
    refine gw_aload_n F dX8_lock_10 0 rfl ?_
    refine gw_iconst (v := (1 : Int32)) F dX8_lock_11 ic_iconst_1 ?_
    refine gw_iconst (v := (0 : Int32)) F dX8_lock_12 ic_iconst_0 ?_
    refine gw_callV F (ct_X8_refuses hw) 2 gX8_lock_X8_refuses rfl rfl rfl hd_X8_refuses ⟨(Nat.le_of_ble_eq_true rfl), (Nat.le_of_ble_eq_true rfl)⟩ rfl rfl (Nat.le_of_ble_eq_true rfl) ⟨Nat.zero_le _, Nat.zero_le _⟩ [0] (bsr := []) rfl rfl (q0 := 0) rfl rfl dX8_lock_13 ?_
    rintro _ _ ⟨r_19, v_20, rfl, rfl, hw⟩
    refine gw_sel [0] (bs' := [bMd G hMd qMd v_20]) rfl rfl ?_
    change GW C 0 0 _ 16 _ [.int r_19]
    exact gw_iret F E rfl rfl (Nat.le_of_ble_eq_true rfl) (Nat.le_of_ble_eq_true rfl) dX8_lock_16 ⟨_, _, rfl, rfl, hw⟩
def wp_X8_lock (Q : Int32 → OV → Prop) (x1 : Int32) (vMd : OV) : Prop := wp_X8_lock_0 Q x1 vMd
theorem ct_X8_lock {X : List Cond} {l : Launch} {D : va_G} {G : Nat → ClassId} {hMd : Nat} {qMd : Nat → Nat} {Q : Int32 → OV → Prop} {x1 : Int32} {vMd : OV} (hw : wp_X8_lock Q x1 vMd) : CM X l yX8_lock wsX8_lock rm_X8_lock D G [.ref hMd, .int x1] [bMd G hMd qMd vMd] 0 0 (po_X8_lock G hMd qMd Q) :=
  CM.of pn_RX8 rfl rfl (Nat.le_of_ble_eq_true rfl) rfl (fun C F E => lb_X8_lock_0 F E hw)
-- X8_cut
abbrev rm_X8_cut : Room := { frames := 5, cells := 0, slots := 0, locals := 149 }
def po_X8_cut (G : Nat → ClassId) (hMd : Nat) (qMd : Nat → Nat) (Q : Int32 → OV → Prop) : Option Value → List va_W → Prop := fun o bs => ∃ (r : Int32) (vMd : OV), o = some (.int r) ∧ bs = [bMd G hMd qMd vMd] ∧ Q r vMd
theorem hd_X8_cut : yX8_cut.cls = RX8 ∧ yX8_cut.cls ≠ "java/lang/invoke/MethodHandle" ∧ yX8_cut.cls ≠ "java/lang/invoke/VarHandle" ∧ (parseMethodDescriptor yX8_cut.desc).map (fun d => d.parameters.length) = some 2 := by decide +kernel
theorem in_X8_cut_RX8 : ∀ w ∈ wsX80, w ∈ wsX8_cut := fun w h => List.mem_cons_of_mem _ (List.mem_append_left _ (List.mem_append_right _ h))
theorem lk_X8_cut_7 : Cond.fieldLink RX8 7 "KeyWavesModel" "g" "[I" ∈ wsX8_cut := List.mem_cons_of_mem _ (List.mem_append_left _ (List.mem_append_left _ (List.mem_append_left _ (List.mem_of_getElem? (i := 0) rfl))))
def wp_X8_cut_121 (Q : Int32 → OV → Prop) (s0 : Int32) (vMd : OV) : Prop :=
  (Q s0 vMd)
set_option maxRecDepth 20000 in
theorem lb_X8_cut_121 {X : List Cond} {l : Launch} {D : va_G} {G : Nat → ClassId} {C : Cx} {bs0 : List va_W} {hMd : Nat} {qMd : Nat → Nat} {Q : Int32 → OV → Prop} (F : GF C X cX8_cut wsX8_cut RX8 rm_X8_cut 4 (some .int) D G l) (E : GE C bs0 0 0 (po_X8_cut G hMd qMd Q)) {s0 : Int32} {vMd : OV} (hw : wp_X8_cut_121 Q s0 vMd) : GW C 0 0 [bMd G hMd qMd vMd] 121 [] [.int s0] := by
  unfold wp_X8_cut_121 at hw
  exact gw_iret F E rfl rfl (Nat.le_of_ble_eq_true rfl) (Nat.le_of_ble_eq_true rfl) dX8_cut_121 ⟨_, _, rfl, rfl, hw⟩
def wp_X8_cut_0 (Q : Int32 → OV → Prop) (x1 : Int32) (x2 : Int32) (vMd : OV) : Prop :=
  (wp_X8_isKey (fun (r_1 : Int32) => ((¬ r_1 = 0 → (wp_X8_in (fun (r_3 : Int32) => ((¬ r_3 = 0 → (wp_X8_ofKey (fun (r_5 : Int32) => ((¬ r_5 = x2 → (wp_X8_keeps0 (fun (v_7 : OV) => (wp_X8_ofKey (fun (r_8 : Int32) => (wp_X8_many (fun (r_9 : Int32) => (vp_in ((7 : Int32) + ((4 : Int32) * x1)) 177 ∧ ∀ v_10 : OV, v_10 = sA v_7 0 ((7 : Int32) + ((4 : Int32) * x1)).toNatClampNeg x2 → (vp_in (((7 : Int32) + ((4 : Int32) * x1)) + (3 : Int32)) 177 ∧ (vp_in (((7 : Int32) + ((4 : Int32) * x1)) + (3 : Int32)) 177 ∧ ∀ v_13 : OV, v_13 = sA v_10 0 (((7 : Int32) + ((4 : Int32) * x1)) + (3 : Int32)).toNatClampNeg ((v_10.1 0 (((7 : Int32) + ((4 : Int32) * x1)) + (3 : Int32)).toNatClampNeg) + r_9) → (vp_in (6 : Int32) 177 ∧ (vp_in (6 : Int32) 177 ∧ ∀ v_16 : OV, v_16 = sA v_13 0 (6 : Int32).toNatClampNeg ((v_13.1 0 (6 : Int32).toNatClampNeg) + r_9) → (wp_X8_falls (fun (r_18 : Int32) (v_19 : OV) => ((0 ≤ r_18 → (wp_X8_cut_121 Q r_9 v_19)) ∧ (¬ (0 ≤ r_18) → (wp_X8_cut_121 Q (0 : Int32) v_19)))) v_16))))))) (r_8 ^^^ x2))) x1 (0 : Int32) v_7)) vMd)) ∧ (r_5 = x2 → (wp_X8_refuses (fun (r_21 : Int32) (v_22 : OV) => (Q r_21 v_22)) (5 : Int32) (0 : Int32) vMd)))) x1 (0 : Int32) vMd)) ∧ (r_3 = 0 → (wp_X8_refuses (fun (r_23 : Int32) (v_24 : OV) => (Q r_23 v_24)) (1 : Int32) (0 : Int32) vMd)))) x2 (0 : Int32) (63 : Int32))) ∧ (r_1 = 0 → (wp_X8_refuses (fun (r_25 : Int32) (v_26 : OV) => (Q r_25 v_26)) (3 : Int32) x1 vMd)))) x1 vMd)
set_option maxRecDepth 20000 in
theorem lb_X8_cut_0 {X : List Cond} {l : Launch} {D : va_G} {G : Nat → ClassId} {C : Cx} {bs0 : List va_W} {hMd : Nat} {qMd : Nat → Nat} {Q : Int32 → OV → Prop} (F : GF C X cX8_cut wsX8_cut RX8 rm_X8_cut 4 (some .int) D G l) (E : GE C bs0 0 0 (po_X8_cut G hMd qMd Q)) {x1 : Int32} {x2 : Int32} {vMd : OV} (hw : wp_X8_cut_0 Q x1 x2 vMd) : GW C 0 0 [bMd G hMd qMd vMd] 0 [(0, .ref hMd), (1, .int x1), (2, .int x2)] [] := by
  unfold wp_X8_cut_0 at hw
  refine gw_aload_n F dX8_cut_0 0 rfl ?_
  refine gw_iload_n F dX8_cut_1 1 rfl ?_
  refine gw_callV F (ct_X8_isKey hw) 1 gX8_cut_X8_isKey rfl rfl rfl hd_X8_isKey ⟨(Nat.le_of_ble_eq_true rfl), (Nat.le_of_ble_eq_true rfl)⟩ rfl rfl (Nat.le_of_ble_eq_true rfl) ⟨Nat.zero_le _, Nat.zero_le _⟩ [0] (bsr := []) rfl rfl (q0 := 0) rfl rfl dX8_cut_2 ?_
  rintro _ _ ⟨r_1, rfl, rfl, hw⟩
  refine gw_sel [0] (bs' := [bMd G hMd qMd vMd]) rfl rfl ?_
  change GW C 0 0 _ 5 _ [.int r_1]
  refine gw_if_ne (tgt := 15) F dX8_cut_5 (by decide) (fun c_2 => ?_) (fun c_2 => ?_)
  · have hw := hw.1 c_2
    refine gw_iload_n F dX8_cut_15 2 rfl ?_
    refine gw_iconst (v := (0 : Int32)) F dX8_cut_16 ic_iconst_0 ?_
    refine gw_bipush (v := (63 : Int32)) F dX8_cut_17 ic_bipush_63 ?_
    refine gw_callS F (ct_X8_in hw) 3 gX8_cut_X8_in rfl rfl rfl hd_X8_in ⟨(Nat.le_of_ble_eq_true rfl), (Nat.le_of_ble_eq_true rfl)⟩ rfl rfl (Nat.le_of_ble_eq_true rfl) ⟨Nat.zero_le _, Nat.zero_le _⟩ [0] (bsr := [bMd G hMd qMd vMd]) rfl rfl dX8_cut_19 ?_
    rintro _ _ ⟨r_3, rfl, rfl, hw⟩
    refine gw_sel [0] (bs' := [bMd G hMd qMd vMd]) rfl rfl ?_
    change GW C 0 0 _ 22 _ [.int r_3]
    refine gw_if_ne (tgt := 32) F dX8_cut_22 (by decide) (fun c_4 => ?_) (fun c_4 => ?_)
    · have hw := hw.1 c_4
      refine gw_aload_n F dX8_cut_32 0 rfl ?_
      refine gw_iload_n F dX8_cut_33 1 rfl ?_
      refine gw_iconst (v := (0 : Int32)) F dX8_cut_34 ic_iconst_0 ?_
      refine gw_callV F (ct_X8_ofKey hw) 2 gX8_cut_X8_ofKey rfl rfl rfl hd_X8_ofKey ⟨(Nat.le_of_ble_eq_true rfl), (Nat.le_of_ble_eq_true rfl)⟩ rfl rfl (Nat.le_of_ble_eq_true rfl) ⟨Nat.zero_le _, Nat.zero_le _⟩ [0] (bsr := []) rfl rfl (q0 := 0) rfl rfl dX8_cut_35 ?_
      rintro _ _ ⟨r_5, rfl, rfl, hw⟩
      refine gw_sel [0] (bs' := [bMd G hMd qMd vMd]) rfl rfl ?_
      change GW C 0 0 _ 38 _ [.int r_5]
      refine gw_iload_n F dX8_cut_38 2 rfl ?_
      refine gw_icmp_ne (tgt := 49) F dX8_cut_39 (by decide) (fun c_6 => ?_) (fun c_6 => ?_)
      · have hw := hw.1 c_6
        refine gw_aload_n F dX8_cut_49 0 rfl ?_
        refine gw_aload_n F dX8_cut_50 0 rfl ?_
        refine gw_get F in_X8_cut_RX8 0 rfl rfl 0 (by decide) lk_X8_cut_7 rfl dX8_cut_51 ?_
        refine gw_callV F (ct_X8_keeps0 hw) 1 gX8_cut_X8_keeps rfl rfl rfl hd_X8_keeps ⟨(Nat.le_of_ble_eq_true rfl), (Nat.le_of_ble_eq_true rfl)⟩ rfl rfl (Nat.le_of_ble_eq_true rfl) ⟨Nat.zero_le _, Nat.zero_le _⟩ [0] (bsr := []) rfl rfl (q0 := 0) rfl rfl dX8_cut_54 ?_
        rintro _ _ ⟨v_7, rfl, rfl, hw⟩
        refine gw_sel [0] (bs' := [bMd G hMd qMd v_7]) rfl rfl ?_
        change GW C 0 0 _ 57 _ []
        refine gw_aload_n F dX8_cut_57 0 rfl ?_
        refine gw_iload_n F dX8_cut_58 1 rfl ?_
        refine gw_iconst (v := (0 : Int32)) F dX8_cut_59 ic_iconst_0 ?_
        refine gw_callV F (ct_X8_ofKey hw) 2 gX8_cut_X8_ofKey rfl rfl rfl hd_X8_ofKey ⟨(Nat.le_of_ble_eq_true rfl), (Nat.le_of_ble_eq_true rfl)⟩ rfl rfl (Nat.le_of_ble_eq_true rfl) ⟨Nat.zero_le _, Nat.zero_le _⟩ [0] (bsr := []) rfl rfl (q0 := 0) rfl rfl dX8_cut_60 ?_
        rintro _ _ ⟨r_8, rfl, rfl, hw⟩
        refine gw_sel [0] (bs' := [bMd G hMd qMd v_7]) rfl rfl ?_
        change GW C 0 0 _ 63 _ [.int r_8]
        refine gw_iload_n F dX8_cut_63 2 rfl ?_
        refine gw_ixor F dX8_cut_64 ?_
        refine gw_callS F (ct_X8_many hw) 1 gX8_cut_X8_many rfl rfl rfl hd_X8_many ⟨(Nat.le_of_ble_eq_true rfl), (Nat.le_of_ble_eq_true rfl)⟩ rfl rfl (Nat.le_of_ble_eq_true rfl) ⟨Nat.zero_le _, Nat.zero_le _⟩ [0] (bsr := [bMd G hMd qMd v_7]) rfl rfl dX8_cut_65 ?_
        rintro _ _ ⟨r_9, rfl, rfl, hw⟩
        refine gw_sel [0] (bs' := [bMd G hMd qMd v_7]) rfl rfl ?_
        change GW C 0 0 _ 68 _ [.int r_9]
        refine gw_istore_n (lv' := [(3, .int r_9), (0, .ref hMd), (1, .int x1), (2, .int x2)]) F dX8_cut_68 (by decide) rfl ?_
        refine gw_aload_n F dX8_cut_69 1 rfl ?_
        refine gw_get F in_X8_cut_RX8 0 rfl rfl 0 (by decide) lk_X8_cut_7 rfl dX8_cut_70 ?_
        refine gw_bipush (v := (7 : Int32)) F dX8_cut_73 ic_bipush_7 ?_
        refine gw_iconst (v := (4 : Int32)) F dX8_cut_75 ic_iconst_4 ?_
        refine gw_iload_n F dX8_cut_76 2 rfl ?_
        refine gw_imul F dX8_cut_77 ?_
        refine gw_iadd F dX8_cut_78 ?_
        refine gw_iload_n F dX8_cut_79 3 rfl ?_
        obtain ⟨h_11, hw⟩ := hw
        obtain ⟨v_10, e_v_10⟩ : ∃ z : OV, z = sA v_7 0 ((7 : Int32) + ((4 : Int32) * x1)).toNatClampNeg x2 := ⟨_, rfl⟩
        have hw := hw v_10 e_v_10
        refine gw_iast (bs' := [bMd G hMd qMd v_10]) F 1 rfl h_11 dX8_cut_80 (by rw [e_v_10]; rfl) ?_
        refine gw_aload_n F dX8_cut_81 1 rfl ?_
        refine gw_get F in_X8_cut_RX8 0 rfl rfl 0 (by decide) lk_X8_cut_7 rfl dX8_cut_82 ?_
        refine gw_bipush (v := (7 : Int32)) F dX8_cut_85 ic_bipush_7 ?_
        refine gw_iconst (v := (4 : Int32)) F dX8_cut_87 ic_iconst_4 ?_
        refine gw_iload_n F dX8_cut_88 2 rfl ?_
        refine gw_imul F dX8_cut_89 ?_
        refine gw_iadd F dX8_cut_90 ?_
        refine gw_iconst (v := (3 : Int32)) F dX8_cut_91 ic_iconst_3 ?_
        refine gw_iadd F dX8_cut_92 ?_
        refine gw_dup2 F dX8_cut_93 rfl rfl ?_
        obtain ⟨h_12, hw⟩ := hw
        refine gw_iald F 1 rfl h_12 dX8_cut_94 ?_
        refine gw_iload_n F dX8_cut_95 0 rfl ?_
        refine gw_iadd F dX8_cut_96 ?_
        obtain ⟨h_14, hw⟩ := hw
        obtain ⟨v_13, e_v_13⟩ : ∃ z : OV, z = sA v_10 0 (((7 : Int32) + ((4 : Int32) * x1)) + (3 : Int32)).toNatClampNeg ((v_10.1 0 (((7 : Int32) + ((4 : Int32) * x1)) + (3 : Int32)).toNatClampNeg) + r_9) := ⟨_, rfl⟩
        have hw := hw v_13 e_v_13
        refine gw_iast (bs' := [bMd G hMd qMd v_13]) F 1 rfl h_14 dX8_cut_97 (by rw [e_v_13]; rfl) ?_
        refine gw_aload_n F dX8_cut_98 1 rfl ?_
        refine gw_get F in_X8_cut_RX8 0 rfl rfl 0 (by decide) lk_X8_cut_7 rfl dX8_cut_99 ?_
        refine gw_bipush (v := (6 : Int32)) F dX8_cut_102 ic_bipush_6 ?_
        refine gw_dup2 F dX8_cut_104 rfl rfl ?_
        obtain ⟨h_15, hw⟩ := hw
        refine gw_iald F 1 rfl h_15 dX8_cut_105 ?_
        refine gw_iload_n F dX8_cut_106 0 rfl ?_
        refine gw_iadd F dX8_cut_107 ?_
        obtain ⟨h_17, hw⟩ := hw
        obtain ⟨v_16, e_v_16⟩ : ∃ z : OV, z = sA v_13 0 (6 : Int32).toNatClampNeg ((v_13.1 0 (6 : Int32).toNatClampNeg) + r_9) := ⟨_, rfl⟩
        have hw := hw v_16 e_v_16
        refine gw_iast (bs' := [bMd G hMd qMd v_16]) F 1 rfl h_17 dX8_cut_108 (by rw [e_v_16]; rfl) ?_
        refine gw_aload_n F dX8_cut_109 1 rfl ?_
        refine gw_callV F (ct_X8_falls hw) 0 gX8_cut_X8_falls rfl rfl rfl hd_X8_falls ⟨(Nat.le_of_ble_eq_true rfl), (Nat.le_of_ble_eq_true rfl)⟩ rfl rfl (Nat.le_of_ble_eq_true rfl) ⟨Nat.zero_le _, Nat.zero_le _⟩ [0] (bsr := []) rfl rfl (q0 := 0) rfl rfl dX8_cut_110 ?_
        rintro _ _ ⟨r_18, v_19, rfl, rfl, hw⟩
        refine gw_sel [0] (bs' := [bMd G hMd qMd v_19]) rfl rfl ?_
        change GW C 0 0 _ 113 _ [.int r_18]
        refine gw_if_ge (tgt := 120) F dX8_cut_113 (by decide) (fun c_20 => ?_) (fun c_20 => ?_)
        · have hw := hw.1 c_20
          refine gw_iload_n F dX8_cut_120 0 rfl ?_
          refine gw_lv [] rfl ?_
          exact lb_X8_cut_121 F E hw
        · have hw := hw.2 c_20
          refine gw_iconst (v := (0 : Int32)) F dX8_cut_116 ic_iconst_0 ?_
          refine gw_goto (tgt := 121) F dX8_cut_117 (by decide) ?_
          refine gw_lv [] rfl ?_
          exact lb_X8_cut_121 F E hw
      · have hw := hw.2 c_6
        refine gw_aload_n F dX8_cut_42 0 rfl ?_
        refine gw_iconst (v := (5 : Int32)) F dX8_cut_43 ic_iconst_5 ?_
        refine gw_iconst (v := (0 : Int32)) F dX8_cut_44 ic_iconst_0 ?_
        refine gw_callV F (ct_X8_refuses hw) 2 gX8_cut_X8_refuses rfl rfl rfl hd_X8_refuses ⟨(Nat.le_of_ble_eq_true rfl), (Nat.le_of_ble_eq_true rfl)⟩ rfl rfl (Nat.le_of_ble_eq_true rfl) ⟨Nat.zero_le _, Nat.zero_le _⟩ [0] (bsr := []) rfl rfl (q0 := 0) rfl rfl dX8_cut_45 ?_
        rintro _ _ ⟨r_21, v_22, rfl, rfl, hw⟩
        refine gw_sel [0] (bs' := [bMd G hMd qMd v_22]) rfl rfl ?_
        change GW C 0 0 _ 48 _ [.int r_21]
        exact gw_iret F E rfl rfl (Nat.le_of_ble_eq_true rfl) (Nat.le_of_ble_eq_true rfl) dX8_cut_48 ⟨_, _, rfl, rfl, hw⟩
    · have hw := hw.2 c_4
      refine gw_aload_n F dX8_cut_25 0 rfl ?_
      refine gw_iconst (v := (1 : Int32)) F dX8_cut_26 ic_iconst_1 ?_
      refine gw_iconst (v := (0 : Int32)) F dX8_cut_27 ic_iconst_0 ?_
      refine gw_callV F (ct_X8_refuses hw) 2 gX8_cut_X8_refuses rfl rfl rfl hd_X8_refuses ⟨(Nat.le_of_ble_eq_true rfl), (Nat.le_of_ble_eq_true rfl)⟩ rfl rfl (Nat.le_of_ble_eq_true rfl) ⟨Nat.zero_le _, Nat.zero_le _⟩ [0] (bsr := []) rfl rfl (q0 := 0) rfl rfl dX8_cut_28 ?_
      rintro _ _ ⟨r_23, v_24, rfl, rfl, hw⟩
      refine gw_sel [0] (bs' := [bMd G hMd qMd v_24]) rfl rfl ?_
      change GW C 0 0 _ 31 _ [.int r_23]
      exact gw_iret F E rfl rfl (Nat.le_of_ble_eq_true rfl) (Nat.le_of_ble_eq_true rfl) dX8_cut_31 ⟨_, _, rfl, rfl, hw⟩
  · have hw := hw.2 c_2
    refine gw_aload_n F dX8_cut_8 0 rfl ?_
    refine gw_iconst (v := (3 : Int32)) F dX8_cut_9 ic_iconst_3 ?_
    refine gw_iload_n F dX8_cut_10 1 rfl ?_
    refine gw_callV F (ct_X8_refuses hw) 2 gX8_cut_X8_refuses rfl rfl rfl hd_X8_refuses ⟨(Nat.le_of_ble_eq_true rfl), (Nat.le_of_ble_eq_true rfl)⟩ rfl rfl (Nat.le_of_ble_eq_true rfl) ⟨Nat.zero_le _, Nat.zero_le _⟩ [0] (bsr := []) rfl rfl (q0 := 0) rfl rfl dX8_cut_11 ?_
    rintro _ _ ⟨r_25, v_26, rfl, rfl, hw⟩
    refine gw_sel [0] (bs' := [bMd G hMd qMd v_26]) rfl rfl ?_
    change GW C 0 0 _ 14 _ [.int r_25]
    exact gw_iret F E rfl rfl (Nat.le_of_ble_eq_true rfl) (Nat.le_of_ble_eq_true rfl) dX8_cut_14 ⟨_, _, rfl, rfl, hw⟩
def wp_X8_cut (Q : Int32 → OV → Prop) (x1 : Int32) (x2 : Int32) (vMd : OV) : Prop := wp_X8_cut_0 Q x1 x2 vMd
theorem ct_X8_cut {X : List Cond} {l : Launch} {D : va_G} {G : Nat → ClassId} {hMd : Nat} {qMd : Nat → Nat} {Q : Int32 → OV → Prop} {x1 : Int32} {x2 : Int32} {vMd : OV} (hw : wp_X8_cut Q x1 x2 vMd) : CM X l yX8_cut wsX8_cut rm_X8_cut D G [.ref hMd, .int x1, .int x2] [bMd G hMd qMd vMd] 0 0 (po_X8_cut G hMd qMd Q) :=
  CM.of pn_RX8 rfl rfl (Nat.le_of_ble_eq_true rfl) rfl (fun C F E => lb_X8_cut_0 F E hw)
-- X8_barredMany
abbrev rm_X8_barredMany : Room := { frames := 1, cells := 0, slots := 0, locals := 60 }
def po_X8_barredMany (G : Nat → ClassId) (hMd : Nat) (qMd : Nat → Nat) (vMd : OV) (Q : Int32 → Prop) : Option Value → List va_W → Prop := fun o bs => ∃ (r : Int32), o = some (.int r) ∧ bs = [bMd G hMd qMd vMd] ∧ Q r
theorem hd_X8_barredMany : yX8_barredMany.cls = RX8 ∧ yX8_barredMany.cls ≠ "java/lang/invoke/MethodHandle" ∧ yX8_barredMany.cls ≠ "java/lang/invoke/VarHandle" ∧ (parseMethodDescriptor yX8_barredMany.desc).map (fun d => d.parameters.length) = some 0 := by decide +kernel
theorem in_X8_barredMany_RX8 : ∀ w ∈ wsX80, w ∈ wsX8_barredMany := fun w h => List.mem_cons_of_mem _ (List.mem_append_left _ (List.mem_append_right _ h))
theorem lk_X8_barredMany_7 : Cond.fieldLink RX8 7 "KeyWavesModel" "g" "[I" ∈ wsX8_barredMany := List.mem_cons_of_mem _ (List.mem_append_left _ (List.mem_append_left _ (List.mem_of_getElem? (i := 0) rfl)))
def wp_X8_barredMany_4 (Q : Int32 → Prop) (K4 : Int32 → Int32 → Prop) (vMd : OV) (x1 x2 : Int32) : Prop :=
  (((100 : Int32) ≤ x2 → (Q x1)) ∧ (¬ ((100 : Int32) ≤ x2) → (vp_in ((77 : Int32) + x2) 177 ∧ (∀ i_3 : Int32, i_3 = (x1 + (vMd.1 0 ((77 : Int32) + x2).toNatClampNeg)) → (∀ i_4 : Int32, i_4 = x2 + (1 : Int32) → (K4 i_3 i_4))))))
set_option maxRecDepth 20000 in
theorem lb_X8_barredMany_4 {X : List Cond} {l : Launch} {D : va_G} {G : Nat → ClassId} {C : Cx} {bs0 : List va_W} {hMd : Nat} {qMd : Nat → Nat} {Q : Int32 → Prop} {K4 : Int32 → Int32 → Prop} {vMd : OV} (F : GF C X cX8_barredMany wsX8_barredMany RX8 rm_X8_barredMany 3 (some .int) D G l) (E : GE C bs0 0 0 (po_X8_barredMany G hMd qMd vMd Q)) (hK4 : ∀ (x1 x2 : Int32), K4 x1 x2 → GW C 0 0 [bMd G hMd qMd vMd] 4 [(0, .ref hMd), (1, .int x1), (2, .int x2)] []) {x1 x2 : Int32} (hw : wp_X8_barredMany_4 Q K4 vMd x1 x2) : GW C 0 0 [bMd G hMd qMd vMd] 4 [(0, .ref hMd), (1, .int x1), (2, .int x2)] [] := by
  unfold wp_X8_barredMany_4 at hw
  refine gw_iload_n F dX8_barredMany_4 2 rfl ?_
  refine gw_bipush (v := (100 : Int32)) F dX8_barredMany_5 ic_bipush_100 ?_
  refine gw_icmp_ge (tgt := 28) F dX8_barredMany_7 (by decide) (fun c_1 => ?_) (fun c_1 => ?_)
  · have hw := hw.1 c_1
    refine gw_iload_n F dX8_barredMany_28 1 rfl ?_
    exact gw_iret F E rfl rfl (Nat.le_of_ble_eq_true rfl) (Nat.le_of_ble_eq_true rfl) dX8_barredMany_29 ⟨_, rfl, rfl, hw⟩
  · have hw := hw.2 c_1
    refine gw_iload_n F dX8_barredMany_10 1 rfl ?_
    refine gw_aload_n F dX8_barredMany_11 0 rfl ?_
    refine gw_get F in_X8_barredMany_RX8 0 rfl rfl 0 (by decide) lk_X8_barredMany_7 rfl dX8_barredMany_12 ?_
    refine gw_bipush (v := (77 : Int32)) F dX8_barredMany_15 ic_bipush_77 ?_
    refine gw_iload_n F dX8_barredMany_17 2 rfl ?_
    refine gw_iadd F dX8_barredMany_18 ?_
    obtain ⟨h_2, hw⟩ := hw
    refine gw_iald F 1 rfl h_2 dX8_barredMany_19 ?_
    refine gw_iadd F dX8_barredMany_20 ?_
    refine gw_topi (fun i_3 e_i_3 => ?_)
    have hw := hw i_3 e_i_3
    refine gw_istore_n (lv' := [(1, .int i_3), (0, .ref hMd), (2, .int x2)]) F dX8_barredMany_21 (by decide) rfl ?_
    obtain ⟨i_4, e_i_4⟩ : ∃ z : Int32, z = x2 + (1 : Int32) := ⟨_, rfl⟩
    have hw := hw i_4 e_i_4
    refine gw_iinc (v := i_4) (lv' := [(2, .int i_4), (1, .int i_3), (0, .ref hMd)]) F dX8_barredMany_22 2 rfl (by rw [e_i_4]; rfl) (by decide) rfl ?_
    refine gw_goto (tgt := 4) F dX8_barredMany_25 (by decide) ?_
    refine gw_lv [2, 1, 0] rfl ?_
    exact hK4 _ _ hw
def wp_X8_barredMany_4_loop (Q : Int32 → Prop) (vMd : OV) : Nat → Int32 → Int32 → Prop
  | 0, _, _ => False
  | n + 1, x1, x2 => wp_X8_barredMany_4 Q (wp_X8_barredMany_4_loop Q vMd n) vMd x1 x2
theorem lp_X8_barredMany_4 {X : List Cond} {l : Launch} {D : va_G} {G : Nat → ClassId} {C : Cx} {bs0 : List va_W} {hMd : Nat} {qMd : Nat → Nat} {Q : Int32 → Prop} {vMd : OV} (F : GF C X cX8_barredMany wsX8_barredMany RX8 rm_X8_barredMany 3 (some .int) D G l) (E : GE C bs0 0 0 (po_X8_barredMany G hMd qMd vMd Q)) : ∀ (n : Nat) (x1 x2 : Int32), wp_X8_barredMany_4_loop Q vMd n x1 x2 → GW C 0 0 [bMd G hMd qMd vMd] 4 [(0, .ref hMd), (1, .int x1), (2, .int x2)] [] := by
  intro n
  induction n with
  | zero => intro x1 x2 hw; exact False.elim hw
  | succ n ih => intro x1 x2 hw; exact lb_X8_barredMany_4 (K4 := wp_X8_barredMany_4_loop Q vMd n) F E ih hw
def wp_X8_barredMany_0 (Q : Int32 → Prop) (vMd : OV) : Prop :=
  (∃ n_5 : Nat, wp_X8_barredMany_4_loop Q vMd n_5 (0 : Int32) (0 : Int32))
set_option maxRecDepth 20000 in
theorem lb_X8_barredMany_0 {X : List Cond} {l : Launch} {D : va_G} {G : Nat → ClassId} {C : Cx} {bs0 : List va_W} {hMd : Nat} {qMd : Nat → Nat} {Q : Int32 → Prop} {vMd : OV} (F : GF C X cX8_barredMany wsX8_barredMany RX8 rm_X8_barredMany 3 (some .int) D G l) (E : GE C bs0 0 0 (po_X8_barredMany G hMd qMd vMd Q)) (hw : wp_X8_barredMany_0 Q vMd ) : GW C 0 0 [bMd G hMd qMd vMd] 0 [(0, .ref hMd)] [] := by
  unfold wp_X8_barredMany_0 at hw
  refine gw_iconst (v := (0 : Int32)) F dX8_barredMany_0 ic_iconst_0 ?_
  refine gw_istore_n (lv' := [(1, .int (0 : Int32)), (0, .ref hMd)]) F dX8_barredMany_1 (by decide) rfl ?_
  refine gw_iconst (v := (0 : Int32)) F dX8_barredMany_2 ic_iconst_0 ?_
  refine gw_istore_n (lv' := [(2, .int (0 : Int32)), (1, .int (0 : Int32)), (0, .ref hMd)]) F dX8_barredMany_3 (by decide) rfl ?_
  refine gw_lv [2, 1, 0] rfl ?_
  obtain ⟨n_5, hw⟩ := hw
  exact lp_X8_barredMany_4 F E n_5 _ _ hw
def wp_X8_barredMany (Q : Int32 → Prop) (vMd : OV) : Prop := wp_X8_barredMany_0 Q vMd
theorem ct_X8_barredMany {X : List Cond} {l : Launch} {D : va_G} {G : Nat → ClassId} {hMd : Nat} {qMd : Nat → Nat} {Q : Int32 → Prop} {vMd : OV} (hw : wp_X8_barredMany Q vMd) : CM X l yX8_barredMany wsX8_barredMany rm_X8_barredMany D G [.ref hMd] [bMd G hMd qMd vMd] 0 0 (po_X8_barredMany G hMd qMd vMd Q) :=
  CM.of pn_RX8 rfl rfl (Nat.le_of_ble_eq_true rfl) rfl (fun C F E => lb_X8_barredMany_0 F E hw)
-- X8_bar
abbrev rm_X8_bar : Room := { frames := 5, cells := 0, slots := 0, locals := 149 }
def po_X8_bar (G : Nat → ClassId) (hMd : Nat) (qMd : Nat → Nat) (Q : Int32 → OV → Prop) : Option Value → List va_W → Prop := fun o bs => ∃ (r : Int32) (vMd : OV), o = some (.int r) ∧ bs = [bMd G hMd qMd vMd] ∧ Q r vMd
theorem hd_X8_bar : yX8_bar.cls = RX8 ∧ yX8_bar.cls ≠ "java/lang/invoke/MethodHandle" ∧ yX8_bar.cls ≠ "java/lang/invoke/VarHandle" ∧ (parseMethodDescriptor yX8_bar.desc).map (fun d => d.parameters.length) = some 3 := by decide +kernel
theorem in_X8_bar_RX8 : ∀ w ∈ wsX80, w ∈ wsX8_bar := fun w h => List.mem_cons_of_mem _ (List.mem_append_left _ (List.mem_append_right _ h))
theorem lk_X8_bar_7 : Cond.fieldLink RX8 7 "KeyWavesModel" "g" "[I" ∈ wsX8_bar := List.mem_cons_of_mem _ (List.mem_append_left _ (List.mem_append_left _ (List.mem_append_left _ (List.mem_of_getElem? (i := 0) rfl))))
def wp_X8_bar_106 (Q : Int32 → OV → Prop) (s0 : Int32) (vMd : OV) : Prop :=
  (Q s0 vMd)
set_option maxRecDepth 20000 in
theorem lb_X8_bar_106 {X : List Cond} {l : Launch} {D : va_G} {G : Nat → ClassId} {C : Cx} {bs0 : List va_W} {hMd : Nat} {qMd : Nat → Nat} {Q : Int32 → OV → Prop} (F : GF C X cX8_bar wsX8_bar RX8 rm_X8_bar 5 (some .int) D G l) (E : GE C bs0 0 0 (po_X8_bar G hMd qMd Q)) {s0 : Int32} {vMd : OV} (hw : wp_X8_bar_106 Q s0 vMd) : GW C 0 0 [bMd G hMd qMd vMd] 106 [] [.int s0] := by
  unfold wp_X8_bar_106 at hw
  exact gw_iret F E rfl rfl (Nat.le_of_ble_eq_true rfl) (Nat.le_of_ble_eq_true rfl) dX8_bar_106 ⟨_, _, rfl, rfl, hw⟩
def wp_X8_bar_39 (Q : Int32 → OV → Prop) (x1 x2 s0 : Int32) (vMd : OV) : Prop :=
  (vp_in (((77 : Int32) + ((10 : Int32) * x1)) + x2) 177 ∧ ((¬ (vMd.1 0 (((77 : Int32) + ((10 : Int32) * x1)) + x2).toNatClampNeg) = s0 → (wp_X8_keeps0 (fun (v_8 : OV) => (vp_in (((77 : Int32) + ((10 : Int32) * x1)) + x2) 177 ∧ ∀ v_9 : OV, v_9 = sA v_8 0 (((77 : Int32) + ((10 : Int32) * x1)) + x2).toNatClampNeg s0 → (wp_X8_falls (fun (r_11 : Int32) (v_12 : OV) => ((0 ≤ r_11 → (wp_X8_barredMany (fun (r_14 : Int32) => (wp_X8_bar_106 Q r_14 v_12)) v_12)) ∧ (¬ (0 ≤ r_11) → (wp_X8_bar_106 Q (0 : Int32) v_12)))) v_9))) vMd)) ∧ ((vMd.1 0 (((77 : Int32) + ((10 : Int32) * x1)) + x2).toNatClampNeg) = s0 → (wp_X8_refuses (fun (r_15 : Int32) (v_16 : OV) => (Q r_15 v_16)) (5 : Int32) (0 : Int32) vMd))))
set_option maxRecDepth 20000 in
theorem lb_X8_bar_39 {X : List Cond} {l : Launch} {D : va_G} {G : Nat → ClassId} {C : Cx} {bs0 : List va_W} {hMd : Nat} {qMd : Nat → Nat} {Q : Int32 → OV → Prop} (F : GF C X cX8_bar wsX8_bar RX8 rm_X8_bar 5 (some .int) D G l) (E : GE C bs0 0 0 (po_X8_bar G hMd qMd Q)) {x1 x2 s0 : Int32} {vMd : OV} (hw : wp_X8_bar_39 Q x1 x2 s0 vMd) : GW C 0 0 [bMd G hMd qMd vMd] 39 [(0, .ref hMd), (1, .int x1), (2, .int x2)] [.int s0] := by
  unfold wp_X8_bar_39 at hw
  refine gw_istore (lv' := [(4, .int s0), (0, .ref hMd), (1, .int x1), (2, .int x2)]) F dX8_bar_39 (by decide) rfl ?_
  refine gw_aload_n F dX8_bar_41 1 rfl ?_
  refine gw_get F in_X8_bar_RX8 0 rfl rfl 0 (by decide) lk_X8_bar_7 rfl dX8_bar_42 ?_
  refine gw_bipush (v := (77 : Int32)) F dX8_bar_45 ic_bipush_77 ?_
  refine gw_bipush (v := (10 : Int32)) F dX8_bar_47 ic_bipush_10 ?_
  refine gw_iload_n F dX8_bar_49 2 rfl ?_
  refine gw_imul F dX8_bar_50 ?_
  refine gw_iadd F dX8_bar_51 ?_
  refine gw_iload_n F dX8_bar_52 3 rfl ?_
  refine gw_iadd F dX8_bar_53 ?_
  obtain ⟨h_6, hw⟩ := hw
  refine gw_iald F 1 rfl h_6 dX8_bar_54 ?_
  refine gw_iload F dX8_bar_55 0 rfl ?_
  refine gw_icmp_ne (tgt := 67) F dX8_bar_57 (by decide) (fun c_7 => ?_) (fun c_7 => ?_)
  · have hw := hw.1 c_7
    refine gw_aload_n F dX8_bar_67 1 rfl ?_
    refine gw_aload_n F dX8_bar_68 1 rfl ?_
    refine gw_get F in_X8_bar_RX8 0 rfl rfl 0 (by decide) lk_X8_bar_7 rfl dX8_bar_69 ?_
    refine gw_callV F (ct_X8_keeps0 hw) 1 gX8_bar_X8_keeps rfl rfl rfl hd_X8_keeps ⟨(Nat.le_of_ble_eq_true rfl), (Nat.le_of_ble_eq_true rfl)⟩ rfl rfl (Nat.le_of_ble_eq_true rfl) ⟨Nat.zero_le _, Nat.zero_le _⟩ [0] (bsr := []) rfl rfl (q0 := 0) rfl rfl dX8_bar_72 ?_
    rintro _ _ ⟨v_8, rfl, rfl, hw⟩
    refine gw_sel [0] (bs' := [bMd G hMd qMd v_8]) rfl rfl ?_
    change GW C 0 0 _ 75 _ []
    refine gw_aload_n F dX8_bar_75 1 rfl ?_
    refine gw_get F in_X8_bar_RX8 0 rfl rfl 0 (by decide) lk_X8_bar_7 rfl dX8_bar_76 ?_
    refine gw_bipush (v := (77 : Int32)) F dX8_bar_79 ic_bipush_77 ?_
    refine gw_bipush (v := (10 : Int32)) F dX8_bar_81 ic_bipush_10 ?_
    refine gw_iload_n F dX8_bar_83 2 rfl ?_
    refine gw_imul F dX8_bar_84 ?_
    refine gw_iadd F dX8_bar_85 ?_
    refine gw_iload_n F dX8_bar_86 3 rfl ?_
    refine gw_iadd F dX8_bar_87 ?_
    refine gw_iload F dX8_bar_88 0 rfl ?_
    obtain ⟨h_10, hw⟩ := hw
    obtain ⟨v_9, e_v_9⟩ : ∃ z : OV, z = sA v_8 0 (((77 : Int32) + ((10 : Int32) * x1)) + x2).toNatClampNeg s0 := ⟨_, rfl⟩
    have hw := hw v_9 e_v_9
    refine gw_iast (bs' := [bMd G hMd qMd v_9]) F 1 rfl h_10 dX8_bar_90 (by rw [e_v_9]; rfl) ?_
    refine gw_aload_n F dX8_bar_91 1 rfl ?_
    refine gw_callV F (ct_X8_falls hw) 0 gX8_bar_X8_falls rfl rfl rfl hd_X8_falls ⟨(Nat.le_of_ble_eq_true rfl), (Nat.le_of_ble_eq_true rfl)⟩ rfl rfl (Nat.le_of_ble_eq_true rfl) ⟨Nat.zero_le _, Nat.zero_le _⟩ [0] (bsr := []) rfl rfl (q0 := 0) rfl rfl dX8_bar_92 ?_
    rintro _ _ ⟨r_11, v_12, rfl, rfl, hw⟩
    refine gw_sel [0] (bs' := [bMd G hMd qMd v_12]) rfl rfl ?_
    change GW C 0 0 _ 95 _ [.int r_11]
    refine gw_if_ge (tgt := 102) F dX8_bar_95 (by decide) (fun c_13 => ?_) (fun c_13 => ?_)
    · have hw := hw.1 c_13
      refine gw_aload_n F dX8_bar_102 1 rfl ?_
      refine gw_callV F (ct_X8_barredMany hw) 0 gX8_bar_X8_barredMany rfl rfl rfl hd_X8_barredMany ⟨(Nat.le_of_ble_eq_true rfl), (Nat.le_of_ble_eq_true rfl)⟩ rfl rfl (Nat.le_of_ble_eq_true rfl) ⟨Nat.zero_le _, Nat.zero_le _⟩ [0] (bsr := []) rfl rfl (q0 := 0) rfl rfl dX8_bar_103 ?_
      rintro _ _ ⟨r_14, rfl, rfl, hw⟩
      refine gw_sel [0] (bs' := [bMd G hMd qMd v_12]) rfl rfl ?_
      change GW C 0 0 _ 106 _ [.int r_14]
      refine gw_lv [] rfl ?_
      exact lb_X8_bar_106 F E hw
    · have hw := hw.2 c_13
      refine gw_iconst (v := (0 : Int32)) F dX8_bar_98 ic_iconst_0 ?_
      refine gw_goto (tgt := 106) F dX8_bar_99 (by decide) ?_
      refine gw_lv [] rfl ?_
      exact lb_X8_bar_106 F E hw
  · have hw := hw.2 c_7
    refine gw_aload_n F dX8_bar_60 1 rfl ?_
    refine gw_iconst (v := (5 : Int32)) F dX8_bar_61 ic_iconst_5 ?_
    refine gw_iconst (v := (0 : Int32)) F dX8_bar_62 ic_iconst_0 ?_
    refine gw_callV F (ct_X8_refuses hw) 2 gX8_bar_X8_refuses rfl rfl rfl hd_X8_refuses ⟨(Nat.le_of_ble_eq_true rfl), (Nat.le_of_ble_eq_true rfl)⟩ rfl rfl (Nat.le_of_ble_eq_true rfl) ⟨Nat.zero_le _, Nat.zero_le _⟩ [0] (bsr := []) rfl rfl (q0 := 0) rfl rfl dX8_bar_63 ?_
    rintro _ _ ⟨r_15, v_16, rfl, rfl, hw⟩
    refine gw_sel [0] (bs' := [bMd G hMd qMd v_16]) rfl rfl ?_
    change GW C 0 0 _ 66 _ [.int r_15]
    exact gw_iret F E rfl rfl (Nat.le_of_ble_eq_true rfl) (Nat.le_of_ble_eq_true rfl) dX8_bar_66 ⟨_, _, rfl, rfl, hw⟩
def wp_X8_bar_0 (Q : Int32 → OV → Prop) (x1 : Int32) (x2 : Int32) (x3 : Int32) (vMd : OV) : Prop :=
  (wp_X8_isKey (fun (r_1 : Int32) => ((¬ r_1 = 0 → (wp_X8_isLock (fun (r_3 : Int32) => ((¬ r_3 = 0 → ((x3 = 0 → (wp_X8_bar_39 Q x1 x2 (0 : Int32) vMd)) ∧ (¬ (x3 = 0) → (wp_X8_bar_39 Q x1 x2 (1 : Int32) vMd)))) ∧ (r_3 = 0 → (wp_X8_refuses (fun (r_17 : Int32) (v_18 : OV) => (Q r_17 v_18)) (4 : Int32) x2 vMd)))) x2 vMd)) ∧ (r_1 = 0 → (wp_X8_refuses (fun (r_19 : Int32) (v_20 : OV) => (Q r_19 v_20)) (3 : Int32) x1 vMd)))) x1 vMd)
set_option maxRecDepth 20000 in
theorem lb_X8_bar_0 {X : List Cond} {l : Launch} {D : va_G} {G : Nat → ClassId} {C : Cx} {bs0 : List va_W} {hMd : Nat} {qMd : Nat → Nat} {Q : Int32 → OV → Prop} (F : GF C X cX8_bar wsX8_bar RX8 rm_X8_bar 5 (some .int) D G l) (E : GE C bs0 0 0 (po_X8_bar G hMd qMd Q)) {x1 : Int32} {x2 : Int32} {x3 : Int32} {vMd : OV} (hw : wp_X8_bar_0 Q x1 x2 x3 vMd) : GW C 0 0 [bMd G hMd qMd vMd] 0 [(0, .ref hMd), (1, .int x1), (2, .int x2), (3, .int x3)] [] := by
  unfold wp_X8_bar_0 at hw
  refine gw_aload_n F dX8_bar_0 0 rfl ?_
  refine gw_iload_n F dX8_bar_1 1 rfl ?_
  refine gw_callV F (ct_X8_isKey hw) 1 gX8_bar_X8_isKey rfl rfl rfl hd_X8_isKey ⟨(Nat.le_of_ble_eq_true rfl), (Nat.le_of_ble_eq_true rfl)⟩ rfl rfl (Nat.le_of_ble_eq_true rfl) ⟨Nat.zero_le _, Nat.zero_le _⟩ [0] (bsr := []) rfl rfl (q0 := 0) rfl rfl dX8_bar_2 ?_
  rintro _ _ ⟨r_1, rfl, rfl, hw⟩
  refine gw_sel [0] (bs' := [bMd G hMd qMd vMd]) rfl rfl ?_
  change GW C 0 0 _ 5 _ [.int r_1]
  refine gw_if_ne (tgt := 15) F dX8_bar_5 (by decide) (fun c_2 => ?_) (fun c_2 => ?_)
  · have hw := hw.1 c_2
    refine gw_aload_n F dX8_bar_15 0 rfl ?_
    refine gw_iload_n F dX8_bar_16 2 rfl ?_
    refine gw_callV F (ct_X8_isLock hw) 1 gX8_bar_X8_isLock rfl rfl rfl hd_X8_isLock ⟨(Nat.le_of_ble_eq_true rfl), (Nat.le_of_ble_eq_true rfl)⟩ rfl rfl (Nat.le_of_ble_eq_true rfl) ⟨Nat.zero_le _, Nat.zero_le _⟩ [0] (bsr := []) rfl rfl (q0 := 0) rfl rfl dX8_bar_17 ?_
    rintro _ _ ⟨r_3, rfl, rfl, hw⟩
    refine gw_sel [0] (bs' := [bMd G hMd qMd vMd]) rfl rfl ?_
    change GW C 0 0 _ 20 _ [.int r_3]
    refine gw_if_ne (tgt := 30) F dX8_bar_20 (by decide) (fun c_4 => ?_) (fun c_4 => ?_)
    · have hw := hw.1 c_4
      refine gw_iload_n F dX8_bar_30 3 rfl ?_
      refine gw_if_eq (tgt := 38) F dX8_bar_31 (by decide) (fun c_5 => ?_) (fun c_5 => ?_)
      · have hw := hw.1 c_5
        refine gw_iconst (v := (0 : Int32)) F dX8_bar_38 ic_iconst_0 ?_
        refine gw_lv [0, 1, 2] rfl ?_
        exact lb_X8_bar_39 F E hw
      · have hw := hw.2 c_5
        refine gw_iconst (v := (1 : Int32)) F dX8_bar_34 ic_iconst_1 ?_
        refine gw_goto (tgt := 39) F dX8_bar_35 (by decide) ?_
        refine gw_lv [0, 1, 2] rfl ?_
        exact lb_X8_bar_39 F E hw
    · have hw := hw.2 c_4
      refine gw_aload_n F dX8_bar_23 0 rfl ?_
      refine gw_iconst (v := (4 : Int32)) F dX8_bar_24 ic_iconst_4 ?_
      refine gw_iload_n F dX8_bar_25 2 rfl ?_
      refine gw_callV F (ct_X8_refuses hw) 2 gX8_bar_X8_refuses rfl rfl rfl hd_X8_refuses ⟨(Nat.le_of_ble_eq_true rfl), (Nat.le_of_ble_eq_true rfl)⟩ rfl rfl (Nat.le_of_ble_eq_true rfl) ⟨Nat.zero_le _, Nat.zero_le _⟩ [0] (bsr := []) rfl rfl (q0 := 0) rfl rfl dX8_bar_26 ?_
      rintro _ _ ⟨r_17, v_18, rfl, rfl, hw⟩
      refine gw_sel [0] (bs' := [bMd G hMd qMd v_18]) rfl rfl ?_
      change GW C 0 0 _ 29 _ [.int r_17]
      exact gw_iret F E rfl rfl (Nat.le_of_ble_eq_true rfl) (Nat.le_of_ble_eq_true rfl) dX8_bar_29 ⟨_, _, rfl, rfl, hw⟩
  · have hw := hw.2 c_2
    refine gw_aload_n F dX8_bar_8 0 rfl ?_
    refine gw_iconst (v := (3 : Int32)) F dX8_bar_9 ic_iconst_3 ?_
    refine gw_iload_n F dX8_bar_10 1 rfl ?_
    refine gw_callV F (ct_X8_refuses hw) 2 gX8_bar_X8_refuses rfl rfl rfl hd_X8_refuses ⟨(Nat.le_of_ble_eq_true rfl), (Nat.le_of_ble_eq_true rfl)⟩ rfl rfl (Nat.le_of_ble_eq_true rfl) ⟨Nat.zero_le _, Nat.zero_le _⟩ [0] (bsr := []) rfl rfl (q0 := 0) rfl rfl dX8_bar_11 ?_
    rintro _ _ ⟨r_19, v_20, rfl, rfl, hw⟩
    refine gw_sel [0] (bs' := [bMd G hMd qMd v_20]) rfl rfl ?_
    change GW C 0 0 _ 14 _ [.int r_19]
    exact gw_iret F E rfl rfl (Nat.le_of_ble_eq_true rfl) (Nat.le_of_ble_eq_true rfl) dX8_bar_14 ⟨_, _, rfl, rfl, hw⟩
def wp_X8_bar (Q : Int32 → OV → Prop) (x1 : Int32) (x2 : Int32) (x3 : Int32) (vMd : OV) : Prop := wp_X8_bar_0 Q x1 x2 x3 vMd
theorem ct_X8_bar {X : List Cond} {l : Launch} {D : va_G} {G : Nat → ClassId} {hMd : Nat} {qMd : Nat → Nat} {Q : Int32 → OV → Prop} {x1 : Int32} {x2 : Int32} {x3 : Int32} {vMd : OV} (hw : wp_X8_bar Q x1 x2 x3 vMd) : CM X l yX8_bar wsX8_bar rm_X8_bar D G [.ref hMd, .int x1, .int x2, .int x3] [bMd G hMd qMd vMd] 0 0 (po_X8_bar G hMd qMd Q) :=
  CM.of pn_RX8 rfl rfl (Nat.le_of_ble_eq_true rfl) rfl (fun C F E => lb_X8_bar_0 F E hw)
-- X8_slack
abbrev rm_X8_slack : Room := { frames := 5, cells := 0, slots := 0, locals := 149 }
def po_X8_slack (G : Nat → ClassId) (hMd : Nat) (qMd : Nat → Nat) (Q : Int32 → OV → Prop) : Option Value → List va_W → Prop := fun o bs => ∃ (r : Int32) (vMd : OV), o = some (.int r) ∧ bs = [bMd G hMd qMd vMd] ∧ Q r vMd
theorem hd_X8_slack : yX8_slack.cls = RX8 ∧ yX8_slack.cls ≠ "java/lang/invoke/MethodHandle" ∧ yX8_slack.cls ≠ "java/lang/invoke/VarHandle" ∧ (parseMethodDescriptor yX8_slack.desc).map (fun d => d.parameters.length) = some 1 := by decide +kernel
theorem in_X8_slack_RX8 : ∀ w ∈ wsX80, w ∈ wsX8_slack := fun w h => List.mem_cons_of_mem _ (List.mem_append_left _ (List.mem_append_right _ h))
theorem lk_X8_slack_7 : Cond.fieldLink RX8 7 "KeyWavesModel" "g" "[I" ∈ wsX8_slack := List.mem_cons_of_mem _ (List.mem_append_left _ (List.mem_append_left _ (List.mem_append_left _ (List.mem_of_getElem? (i := 0) rfl))))
def wp_X8_slack_0 (Q : Int32 → OV → Prop) (x1 : Int32) (vMd : OV) : Prop :=
  (wp_X8_in (fun (r_1 : Int32) => ((¬ r_1 = 0 → (vp_in (2 : Int32) 177 ∧ ((¬ x1 = (vMd.1 0 (2 : Int32).toNatClampNeg) → (wp_X8_keeps0 (fun (v_5 : OV) => (vp_in (2 : Int32) 177 ∧ ∀ v_6 : OV, v_6 = sA v_5 0 (2 : Int32).toNatClampNeg x1 → (wp_X8_falls (fun (r_8 : Int32) (v_9 : OV) => (Q r_8 v_9)) v_6))) vMd)) ∧ (x1 = (vMd.1 0 (2 : Int32).toNatClampNeg) → (wp_X8_refuses (fun (r_10 : Int32) (v_11 : OV) => (Q r_10 v_11)) (5 : Int32) (0 : Int32) vMd))))) ∧ (r_1 = 0 → (wp_X8_refuses (fun (r_12 : Int32) (v_13 : OV) => (Q r_12 v_13)) (1 : Int32) (0 : Int32) vMd)))) x1 (0 : Int32) (6 : Int32))
set_option maxRecDepth 20000 in
theorem lb_X8_slack_0 {X : List Cond} {l : Launch} {D : va_G} {G : Nat → ClassId} {C : Cx} {bs0 : List va_W} {hMd : Nat} {qMd : Nat → Nat} {Q : Int32 → OV → Prop} (F : GF C X cX8_slack wsX8_slack RX8 rm_X8_slack 2 (some .int) D G l) (E : GE C bs0 0 0 (po_X8_slack G hMd qMd Q)) {x1 : Int32} {vMd : OV} (hw : wp_X8_slack_0 Q x1 vMd) : GW C 0 0 [bMd G hMd qMd vMd] 0 [(0, .ref hMd), (1, .int x1)] [] := by
  unfold wp_X8_slack_0 at hw
  refine gw_iload_n F dX8_slack_0 1 rfl ?_
  refine gw_iconst (v := (0 : Int32)) F dX8_slack_1 ic_iconst_0 ?_
  refine gw_bipush (v := (6 : Int32)) F dX8_slack_2 ic_bipush_6 ?_
  refine gw_callS F (ct_X8_in hw) 3 gX8_slack_X8_in rfl rfl rfl hd_X8_in ⟨(Nat.le_of_ble_eq_true rfl), (Nat.le_of_ble_eq_true rfl)⟩ rfl rfl (Nat.le_of_ble_eq_true rfl) ⟨Nat.zero_le _, Nat.zero_le _⟩ [0] (bsr := [bMd G hMd qMd vMd]) rfl rfl dX8_slack_4 ?_
  rintro _ _ ⟨r_1, rfl, rfl, hw⟩
  refine gw_sel [0] (bs' := [bMd G hMd qMd vMd]) rfl rfl ?_
  change GW C 0 0 _ 7 _ [.int r_1]
  refine gw_if_ne (tgt := 17) F dX8_slack_7 (by decide) (fun c_2 => ?_) (fun c_2 => ?_)
  · have hw := hw.1 c_2
    refine gw_iload_n F dX8_slack_17 1 rfl ?_
    refine gw_aload_n F dX8_slack_18 0 rfl ?_
    refine gw_get F in_X8_slack_RX8 0 rfl rfl 0 (by decide) lk_X8_slack_7 rfl dX8_slack_19 ?_
    refine gw_iconst (v := (2 : Int32)) F dX8_slack_22 ic_iconst_2 ?_
    obtain ⟨h_3, hw⟩ := hw
    refine gw_iald F 1 rfl h_3 dX8_slack_23 ?_
    refine gw_icmp_ne (tgt := 34) F dX8_slack_24 (by decide) (fun c_4 => ?_) (fun c_4 => ?_)
    · have hw := hw.1 c_4
      refine gw_aload_n F dX8_slack_34 0 rfl ?_
      refine gw_aload_n F dX8_slack_35 0 rfl ?_
      refine gw_get F in_X8_slack_RX8 0 rfl rfl 0 (by decide) lk_X8_slack_7 rfl dX8_slack_36 ?_
      refine gw_callV F (ct_X8_keeps0 hw) 1 gX8_slack_X8_keeps rfl rfl rfl hd_X8_keeps ⟨(Nat.le_of_ble_eq_true rfl), (Nat.le_of_ble_eq_true rfl)⟩ rfl rfl (Nat.le_of_ble_eq_true rfl) ⟨Nat.zero_le _, Nat.zero_le _⟩ [0] (bsr := []) rfl rfl (q0 := 0) rfl rfl dX8_slack_39 ?_
      rintro _ _ ⟨v_5, rfl, rfl, hw⟩
      refine gw_sel [0] (bs' := [bMd G hMd qMd v_5]) rfl rfl ?_
      change GW C 0 0 _ 42 _ []
      refine gw_aload_n F dX8_slack_42 0 rfl ?_
      refine gw_get F in_X8_slack_RX8 0 rfl rfl 0 (by decide) lk_X8_slack_7 rfl dX8_slack_43 ?_
      refine gw_iconst (v := (2 : Int32)) F dX8_slack_46 ic_iconst_2 ?_
      refine gw_iload_n F dX8_slack_47 1 rfl ?_
      obtain ⟨h_7, hw⟩ := hw
      obtain ⟨v_6, e_v_6⟩ : ∃ z : OV, z = sA v_5 0 (2 : Int32).toNatClampNeg x1 := ⟨_, rfl⟩
      have hw := hw v_6 e_v_6
      refine gw_iast (bs' := [bMd G hMd qMd v_6]) F 1 rfl h_7 dX8_slack_48 (by rw [e_v_6]; rfl) ?_
      refine gw_aload_n F dX8_slack_49 0 rfl ?_
      refine gw_callV F (ct_X8_falls hw) 0 gX8_slack_X8_falls rfl rfl rfl hd_X8_falls ⟨(Nat.le_of_ble_eq_true rfl), (Nat.le_of_ble_eq_true rfl)⟩ rfl rfl (Nat.le_of_ble_eq_true rfl) ⟨Nat.zero_le _, Nat.zero_le _⟩ [0] (bsr := []) rfl rfl (q0 := 0) rfl rfl dX8_slack_50 ?_
      rintro _ _ ⟨r_8, v_9, rfl, rfl, hw⟩
      refine gw_sel [0] (bs' := [bMd G hMd qMd v_9]) rfl rfl ?_
      change GW C 0 0 _ 53 _ [.int r_8]
      exact gw_iret F E rfl rfl (Nat.le_of_ble_eq_true rfl) (Nat.le_of_ble_eq_true rfl) dX8_slack_53 ⟨_, _, rfl, rfl, hw⟩
    · have hw := hw.2 c_4
      refine gw_aload_n F dX8_slack_27 0 rfl ?_
      refine gw_iconst (v := (5 : Int32)) F dX8_slack_28 ic_iconst_5 ?_
      refine gw_iconst (v := (0 : Int32)) F dX8_slack_29 ic_iconst_0 ?_
      refine gw_callV F (ct_X8_refuses hw) 2 gX8_slack_X8_refuses rfl rfl rfl hd_X8_refuses ⟨(Nat.le_of_ble_eq_true rfl), (Nat.le_of_ble_eq_true rfl)⟩ rfl rfl (Nat.le_of_ble_eq_true rfl) ⟨Nat.zero_le _, Nat.zero_le _⟩ [0] (bsr := []) rfl rfl (q0 := 0) rfl rfl dX8_slack_30 ?_
      rintro _ _ ⟨r_10, v_11, rfl, rfl, hw⟩
      refine gw_sel [0] (bs' := [bMd G hMd qMd v_11]) rfl rfl ?_
      change GW C 0 0 _ 33 _ [.int r_10]
      exact gw_iret F E rfl rfl (Nat.le_of_ble_eq_true rfl) (Nat.le_of_ble_eq_true rfl) dX8_slack_33 ⟨_, _, rfl, rfl, hw⟩
  · have hw := hw.2 c_2
    refine gw_aload_n F dX8_slack_10 0 rfl ?_
    refine gw_iconst (v := (1 : Int32)) F dX8_slack_11 ic_iconst_1 ?_
    refine gw_iconst (v := (0 : Int32)) F dX8_slack_12 ic_iconst_0 ?_
    refine gw_callV F (ct_X8_refuses hw) 2 gX8_slack_X8_refuses rfl rfl rfl hd_X8_refuses ⟨(Nat.le_of_ble_eq_true rfl), (Nat.le_of_ble_eq_true rfl)⟩ rfl rfl (Nat.le_of_ble_eq_true rfl) ⟨Nat.zero_le _, Nat.zero_le _⟩ [0] (bsr := []) rfl rfl (q0 := 0) rfl rfl dX8_slack_13 ?_
    rintro _ _ ⟨r_12, v_13, rfl, rfl, hw⟩
    refine gw_sel [0] (bs' := [bMd G hMd qMd v_13]) rfl rfl ?_
    change GW C 0 0 _ 16 _ [.int r_12]
    exact gw_iret F E rfl rfl (Nat.le_of_ble_eq_true rfl) (Nat.le_of_ble_eq_true rfl) dX8_slack_16 ⟨_, _, rfl, rfl, hw⟩
def wp_X8_slack (Q : Int32 → OV → Prop) (x1 : Int32) (vMd : OV) : Prop := wp_X8_slack_0 Q x1 vMd
theorem ct_X8_slack {X : List Cond} {l : Launch} {D : va_G} {G : Nat → ClassId} {hMd : Nat} {qMd : Nat → Nat} {Q : Int32 → OV → Prop} {x1 : Int32} {vMd : OV} (hw : wp_X8_slack Q x1 vMd) : CM X l yX8_slack wsX8_slack rm_X8_slack D G [.ref hMd, .int x1] [bMd G hMd qMd vMd] 0 0 (po_X8_slack G hMd qMd Q) :=
  CM.of pn_RX8 rfl rfl (Nat.le_of_ble_eq_true rfl) rfl (fun C F E => lb_X8_slack_0 F E hw)
-- X8_put
abbrev rm_X8_put : Room := { frames := 4, cells := 0, slots := 0, locals := 126 }
def po_X8_put (G : Nat → ClassId) (hMd : Nat) (qMd : Nat → Nat) (Q : Int32 → OV → Prop) : Option Value → List va_W → Prop := fun o bs => ∃ (r : Int32) (vMd : OV), o = some (.int r) ∧ bs = [bMd G hMd qMd vMd] ∧ Q r vMd
theorem hd_X8_put : yX8_put.cls = RX8 ∧ yX8_put.cls ≠ "java/lang/invoke/MethodHandle" ∧ yX8_put.cls ≠ "java/lang/invoke/VarHandle" ∧ (parseMethodDescriptor yX8_put.desc).map (fun d => d.parameters.length) = some 2 := by decide +kernel
theorem in_X8_put_RX8 : ∀ w ∈ wsX80, w ∈ wsX8_put := fun w h => List.mem_cons_of_mem _ (List.mem_append_left _ (List.mem_append_right _ h))
theorem lk_X8_put_7 : Cond.fieldLink RX8 7 "KeyWavesModel" "g" "[I" ∈ wsX8_put := List.mem_cons_of_mem _ (List.mem_append_left _ (List.mem_append_left _ (List.mem_append_left _ (List.mem_of_getElem? (i := 0) rfl))))
def wp_X8_put_0 (Q : Int32 → OV → Prop) (x1 : Int32) (x2 : Int32) (vMd : OV) : Prop :=
  (wp_X8_isKey (fun (r_1 : Int32) => ((¬ r_1 = 0 → (wp_X8_isLock (fun (r_3 : Int32) => ((¬ r_3 = 0 → (wp_X8_ofKey (fun (r_5 : Int32) => ((r_5 < 0 → (wp_X8_ofLock (fun (r_7 : Int32) => ((r_7 < 0 → (wp_X8_isFit (fun (r_9 : Int32) => ((¬ r_9 = 0 → (wp_X8_keeps0 (fun (v_11 : OV) => (wp_X8_puts (fun (v_12 : OV) => (wp_X8_openMany (fun (r_13 : Int32) => (Q r_13 v_12)) v_12)) x1 x2 v_11)) vMd)) ∧ (r_9 = 0 → (wp_X8_lacks (fun (r_14 : Int32) => (wp_X8_refuses (fun (r_15 : Int32) (v_16 : OV) => (Q r_15 v_16)) (6 : Int32) r_14 vMd)) x1 x2 vMd)))) x1 x2 vMd)) ∧ (¬ (r_7 < 0) → (wp_X8_ofLock (fun (r_17 : Int32) => (wp_X8_refuses (fun (r_18 : Int32) (v_19 : OV) => (Q r_18 v_19)) (7 : Int32) r_17 vMd)) x2 (1 : Int32) vMd)))) x2 (1 : Int32) vMd)) ∧ (¬ (r_5 < 0) → (wp_X8_ofKey (fun (r_20 : Int32) => (wp_X8_refuses (fun (r_21 : Int32) (v_22 : OV) => (Q r_21 v_22)) (8 : Int32) r_20 vMd)) x1 (2 : Int32) vMd)))) x1 (2 : Int32) vMd)) ∧ (r_3 = 0 → (wp_X8_refuses (fun (r_23 : Int32) (v_24 : OV) => (Q r_23 v_24)) (4 : Int32) x2 vMd)))) x2 vMd)) ∧ (r_1 = 0 → (wp_X8_refuses (fun (r_25 : Int32) (v_26 : OV) => (Q r_25 v_26)) (3 : Int32) x1 vMd)))) x1 vMd)
set_option maxRecDepth 20000 in
theorem lb_X8_put_0 {X : List Cond} {l : Launch} {D : va_G} {G : Nat → ClassId} {C : Cx} {bs0 : List va_W} {hMd : Nat} {qMd : Nat → Nat} {Q : Int32 → OV → Prop} (F : GF C X cX8_put wsX8_put RX8 rm_X8_put 3 (some .int) D G l) (E : GE C bs0 0 0 (po_X8_put G hMd qMd Q)) {x1 : Int32} {x2 : Int32} {vMd : OV} (hw : wp_X8_put_0 Q x1 x2 vMd) : GW C 0 0 [bMd G hMd qMd vMd] 0 [(0, .ref hMd), (1, .int x1), (2, .int x2)] [] := by
  unfold wp_X8_put_0 at hw
  refine gw_aload_n F dX8_put_0 0 rfl ?_
  refine gw_iload_n F dX8_put_1 1 rfl ?_
  refine gw_callV F (ct_X8_isKey hw) 1 gX8_put_X8_isKey rfl rfl rfl hd_X8_isKey ⟨(Nat.le_of_ble_eq_true rfl), (Nat.le_of_ble_eq_true rfl)⟩ rfl rfl (Nat.le_of_ble_eq_true rfl) ⟨Nat.zero_le _, Nat.zero_le _⟩ [0] (bsr := []) rfl rfl (q0 := 0) rfl rfl dX8_put_2 ?_
  rintro _ _ ⟨r_1, rfl, rfl, hw⟩
  refine gw_sel [0] (bs' := [bMd G hMd qMd vMd]) rfl rfl ?_
  change GW C 0 0 _ 5 _ [.int r_1]
  refine gw_if_ne (tgt := 15) F dX8_put_5 (by decide) (fun c_2 => ?_) (fun c_2 => ?_)
  · have hw := hw.1 c_2
    refine gw_aload_n F dX8_put_15 0 rfl ?_
    refine gw_iload_n F dX8_put_16 2 rfl ?_
    refine gw_callV F (ct_X8_isLock hw) 1 gX8_put_X8_isLock rfl rfl rfl hd_X8_isLock ⟨(Nat.le_of_ble_eq_true rfl), (Nat.le_of_ble_eq_true rfl)⟩ rfl rfl (Nat.le_of_ble_eq_true rfl) ⟨Nat.zero_le _, Nat.zero_le _⟩ [0] (bsr := []) rfl rfl (q0 := 0) rfl rfl dX8_put_17 ?_
    rintro _ _ ⟨r_3, rfl, rfl, hw⟩
    refine gw_sel [0] (bs' := [bMd G hMd qMd vMd]) rfl rfl ?_
    change GW C 0 0 _ 20 _ [.int r_3]
    refine gw_if_ne (tgt := 30) F dX8_put_20 (by decide) (fun c_4 => ?_) (fun c_4 => ?_)
    · have hw := hw.1 c_4
      refine gw_aload_n F dX8_put_30 0 rfl ?_
      refine gw_iload_n F dX8_put_31 1 rfl ?_
      refine gw_iconst (v := (2 : Int32)) F dX8_put_32 ic_iconst_2 ?_
      refine gw_callV F (ct_X8_ofKey hw) 2 gX8_put_X8_ofKey rfl rfl rfl hd_X8_ofKey ⟨(Nat.le_of_ble_eq_true rfl), (Nat.le_of_ble_eq_true rfl)⟩ rfl rfl (Nat.le_of_ble_eq_true rfl) ⟨Nat.zero_le _, Nat.zero_le _⟩ [0] (bsr := []) rfl rfl (q0 := 0) rfl rfl dX8_put_33 ?_
      rintro _ _ ⟨r_5, rfl, rfl, hw⟩
      refine gw_sel [0] (bs' := [bMd G hMd qMd vMd]) rfl rfl ?_
      change GW C 0 0 _ 36 _ [.int r_5]
      refine gw_if_lt (tgt := 52) F dX8_put_36 (by decide) (fun c_6 => ?_) (fun c_6 => ?_)
      · have hw := hw.1 c_6
        refine gw_aload_n F dX8_put_52 0 rfl ?_
        refine gw_iload_n F dX8_put_53 2 rfl ?_
        refine gw_iconst (v := (1 : Int32)) F dX8_put_54 ic_iconst_1 ?_
        refine gw_callV F (ct_X8_ofLock hw) 2 gX8_put_X8_ofLock rfl rfl rfl hd_X8_ofLock ⟨(Nat.le_of_ble_eq_true rfl), (Nat.le_of_ble_eq_true rfl)⟩ rfl rfl (Nat.le_of_ble_eq_true rfl) ⟨Nat.zero_le _, Nat.zero_le _⟩ [0] (bsr := []) rfl rfl (q0 := 0) rfl rfl dX8_put_55 ?_
        rintro _ _ ⟨r_7, rfl, rfl, hw⟩
        refine gw_sel [0] (bs' := [bMd G hMd qMd vMd]) rfl rfl ?_
        change GW C 0 0 _ 58 _ [.int r_7]
        refine gw_if_lt (tgt := 74) F dX8_put_58 (by decide) (fun c_8 => ?_) (fun c_8 => ?_)
        · have hw := hw.1 c_8
          refine gw_aload_n F dX8_put_74 0 rfl ?_
          refine gw_iload_n F dX8_put_75 1 rfl ?_
          refine gw_iload_n F dX8_put_76 2 rfl ?_
          refine gw_callV F (ct_X8_isFit hw) 2 gX8_put_X8_isFit rfl rfl rfl hd_X8_isFit ⟨(Nat.le_of_ble_eq_true rfl), (Nat.le_of_ble_eq_true rfl)⟩ rfl rfl (Nat.le_of_ble_eq_true rfl) ⟨Nat.zero_le _, Nat.zero_le _⟩ [0] (bsr := []) rfl rfl (q0 := 0) rfl rfl dX8_put_77 ?_
          rintro _ _ ⟨r_9, rfl, rfl, hw⟩
          refine gw_sel [0] (bs' := [bMd G hMd qMd vMd]) rfl rfl ?_
          change GW C 0 0 _ 80 _ [.int r_9]
          refine gw_if_ne (tgt := 96) F dX8_put_80 (by decide) (fun c_10 => ?_) (fun c_10 => ?_)
          · have hw := hw.1 c_10
            refine gw_aload_n F dX8_put_96 0 rfl ?_
            refine gw_aload_n F dX8_put_97 0 rfl ?_
            refine gw_get F in_X8_put_RX8 0 rfl rfl 0 (by decide) lk_X8_put_7 rfl dX8_put_98 ?_
            refine gw_callV F (ct_X8_keeps0 hw) 1 gX8_put_X8_keeps rfl rfl rfl hd_X8_keeps ⟨(Nat.le_of_ble_eq_true rfl), (Nat.le_of_ble_eq_true rfl)⟩ rfl rfl (Nat.le_of_ble_eq_true rfl) ⟨Nat.zero_le _, Nat.zero_le _⟩ [0] (bsr := []) rfl rfl (q0 := 0) rfl rfl dX8_put_101 ?_
            rintro _ _ ⟨v_11, rfl, rfl, hw⟩
            refine gw_sel [0] (bs' := [bMd G hMd qMd v_11]) rfl rfl ?_
            change GW C 0 0 _ 104 _ []
            refine gw_aload_n F dX8_put_104 0 rfl ?_
            refine gw_iload_n F dX8_put_105 1 rfl ?_
            refine gw_iload_n F dX8_put_106 2 rfl ?_
            refine gw_callV F (ct_X8_puts hw) 2 gX8_put_X8_puts rfl rfl rfl hd_X8_puts ⟨(Nat.le_of_ble_eq_true rfl), (Nat.le_of_ble_eq_true rfl)⟩ rfl rfl (Nat.le_of_ble_eq_true rfl) ⟨Nat.zero_le _, Nat.zero_le _⟩ [0] (bsr := []) rfl rfl (q0 := 0) rfl rfl dX8_put_107 ?_
            rintro _ _ ⟨v_12, rfl, rfl, hw⟩
            refine gw_sel [0] (bs' := [bMd G hMd qMd v_12]) rfl rfl ?_
            change GW C 0 0 _ 110 _ []
            refine gw_aload_n F dX8_put_110 0 rfl ?_
            refine gw_callV F (ct_X8_openMany hw) 0 gX8_put_X8_openMany rfl rfl rfl hd_X8_openMany ⟨(Nat.le_of_ble_eq_true rfl), (Nat.le_of_ble_eq_true rfl)⟩ rfl rfl (Nat.le_of_ble_eq_true rfl) ⟨Nat.zero_le _, Nat.zero_le _⟩ [0] (bsr := []) rfl rfl (q0 := 0) rfl rfl dX8_put_111 ?_
            rintro _ _ ⟨r_13, rfl, rfl, hw⟩
            refine gw_sel [0] (bs' := [bMd G hMd qMd v_12]) rfl rfl ?_
            change GW C 0 0 _ 114 _ [.int r_13]
            exact gw_iret F E rfl rfl (Nat.le_of_ble_eq_true rfl) (Nat.le_of_ble_eq_true rfl) dX8_put_114 ⟨_, _, rfl, rfl, hw⟩
          · have hw := hw.2 c_10
            refine gw_aload_n F dX8_put_83 0 rfl ?_
            refine gw_bipush (v := (6 : Int32)) F dX8_put_84 ic_bipush_6 ?_
            refine gw_aload_n F dX8_put_86 0 rfl ?_
            refine gw_iload_n F dX8_put_87 1 rfl ?_
            refine gw_iload_n F dX8_put_88 2 rfl ?_
            refine gw_callV F (ct_X8_lacks hw) 2 gX8_put_X8_lacks rfl rfl rfl hd_X8_lacks ⟨(Nat.le_of_ble_eq_true rfl), (Nat.le_of_ble_eq_true rfl)⟩ rfl rfl (Nat.le_of_ble_eq_true rfl) ⟨Nat.zero_le _, Nat.zero_le _⟩ [0] (bsr := []) rfl rfl (q0 := 0) rfl rfl dX8_put_89 ?_
            rintro _ _ ⟨r_14, rfl, rfl, hw⟩
            refine gw_sel [0] (bs' := [bMd G hMd qMd vMd]) rfl rfl ?_
            change GW C 0 0 _ 92 _ [.int r_14, .int (6 : Int32), .ref hMd]
            refine gw_callV F (ct_X8_refuses hw) 2 gX8_put_X8_refuses rfl rfl rfl hd_X8_refuses ⟨(Nat.le_of_ble_eq_true rfl), (Nat.le_of_ble_eq_true rfl)⟩ rfl rfl (Nat.le_of_ble_eq_true rfl) ⟨Nat.zero_le _, Nat.zero_le _⟩ [0] (bsr := []) rfl rfl (q0 := 0) rfl rfl dX8_put_92 ?_
            rintro _ _ ⟨r_15, v_16, rfl, rfl, hw⟩
            refine gw_sel [0] (bs' := [bMd G hMd qMd v_16]) rfl rfl ?_
            change GW C 0 0 _ 95 _ [.int r_15]
            exact gw_iret F E rfl rfl (Nat.le_of_ble_eq_true rfl) (Nat.le_of_ble_eq_true rfl) dX8_put_95 ⟨_, _, rfl, rfl, hw⟩
        · have hw := hw.2 c_8
          refine gw_aload_n F dX8_put_61 0 rfl ?_
          refine gw_bipush (v := (7 : Int32)) F dX8_put_62 ic_bipush_7 ?_
          refine gw_aload_n F dX8_put_64 0 rfl ?_
          refine gw_iload_n F dX8_put_65 2 rfl ?_
          refine gw_iconst (v := (1 : Int32)) F dX8_put_66 ic_iconst_1 ?_
          refine gw_callV F (ct_X8_ofLock hw) 2 gX8_put_X8_ofLock rfl rfl rfl hd_X8_ofLock ⟨(Nat.le_of_ble_eq_true rfl), (Nat.le_of_ble_eq_true rfl)⟩ rfl rfl (Nat.le_of_ble_eq_true rfl) ⟨Nat.zero_le _, Nat.zero_le _⟩ [0] (bsr := []) rfl rfl (q0 := 0) rfl rfl dX8_put_67 ?_
          rintro _ _ ⟨r_17, rfl, rfl, hw⟩
          refine gw_sel [0] (bs' := [bMd G hMd qMd vMd]) rfl rfl ?_
          change GW C 0 0 _ 70 _ [.int r_17, .int (7 : Int32), .ref hMd]
          refine gw_callV F (ct_X8_refuses hw) 2 gX8_put_X8_refuses rfl rfl rfl hd_X8_refuses ⟨(Nat.le_of_ble_eq_true rfl), (Nat.le_of_ble_eq_true rfl)⟩ rfl rfl (Nat.le_of_ble_eq_true rfl) ⟨Nat.zero_le _, Nat.zero_le _⟩ [0] (bsr := []) rfl rfl (q0 := 0) rfl rfl dX8_put_70 ?_
          rintro _ _ ⟨r_18, v_19, rfl, rfl, hw⟩
          refine gw_sel [0] (bs' := [bMd G hMd qMd v_19]) rfl rfl ?_
          change GW C 0 0 _ 73 _ [.int r_18]
          exact gw_iret F E rfl rfl (Nat.le_of_ble_eq_true rfl) (Nat.le_of_ble_eq_true rfl) dX8_put_73 ⟨_, _, rfl, rfl, hw⟩
      · have hw := hw.2 c_6
        refine gw_aload_n F dX8_put_39 0 rfl ?_
        refine gw_bipush (v := (8 : Int32)) F dX8_put_40 ic_bipush_8 ?_
        refine gw_aload_n F dX8_put_42 0 rfl ?_
        refine gw_iload_n F dX8_put_43 1 rfl ?_
        refine gw_iconst (v := (2 : Int32)) F dX8_put_44 ic_iconst_2 ?_
        refine gw_callV F (ct_X8_ofKey hw) 2 gX8_put_X8_ofKey rfl rfl rfl hd_X8_ofKey ⟨(Nat.le_of_ble_eq_true rfl), (Nat.le_of_ble_eq_true rfl)⟩ rfl rfl (Nat.le_of_ble_eq_true rfl) ⟨Nat.zero_le _, Nat.zero_le _⟩ [0] (bsr := []) rfl rfl (q0 := 0) rfl rfl dX8_put_45 ?_
        rintro _ _ ⟨r_20, rfl, rfl, hw⟩
        refine gw_sel [0] (bs' := [bMd G hMd qMd vMd]) rfl rfl ?_
        change GW C 0 0 _ 48 _ [.int r_20, .int (8 : Int32), .ref hMd]
        refine gw_callV F (ct_X8_refuses hw) 2 gX8_put_X8_refuses rfl rfl rfl hd_X8_refuses ⟨(Nat.le_of_ble_eq_true rfl), (Nat.le_of_ble_eq_true rfl)⟩ rfl rfl (Nat.le_of_ble_eq_true rfl) ⟨Nat.zero_le _, Nat.zero_le _⟩ [0] (bsr := []) rfl rfl (q0 := 0) rfl rfl dX8_put_48 ?_
        rintro _ _ ⟨r_21, v_22, rfl, rfl, hw⟩
        refine gw_sel [0] (bs' := [bMd G hMd qMd v_22]) rfl rfl ?_
        change GW C 0 0 _ 51 _ [.int r_21]
        exact gw_iret F E rfl rfl (Nat.le_of_ble_eq_true rfl) (Nat.le_of_ble_eq_true rfl) dX8_put_51 ⟨_, _, rfl, rfl, hw⟩
    · have hw := hw.2 c_4
      refine gw_aload_n F dX8_put_23 0 rfl ?_
      refine gw_iconst (v := (4 : Int32)) F dX8_put_24 ic_iconst_4 ?_
      refine gw_iload_n F dX8_put_25 2 rfl ?_
      refine gw_callV F (ct_X8_refuses hw) 2 gX8_put_X8_refuses rfl rfl rfl hd_X8_refuses ⟨(Nat.le_of_ble_eq_true rfl), (Nat.le_of_ble_eq_true rfl)⟩ rfl rfl (Nat.le_of_ble_eq_true rfl) ⟨Nat.zero_le _, Nat.zero_le _⟩ [0] (bsr := []) rfl rfl (q0 := 0) rfl rfl dX8_put_26 ?_
      rintro _ _ ⟨r_23, v_24, rfl, rfl, hw⟩
      refine gw_sel [0] (bs' := [bMd G hMd qMd v_24]) rfl rfl ?_
      change GW C 0 0 _ 29 _ [.int r_23]
      exact gw_iret F E rfl rfl (Nat.le_of_ble_eq_true rfl) (Nat.le_of_ble_eq_true rfl) dX8_put_29 ⟨_, _, rfl, rfl, hw⟩
  · have hw := hw.2 c_2
    refine gw_aload_n F dX8_put_8 0 rfl ?_
    refine gw_iconst (v := (3 : Int32)) F dX8_put_9 ic_iconst_3 ?_
    refine gw_iload_n F dX8_put_10 1 rfl ?_
    refine gw_callV F (ct_X8_refuses hw) 2 gX8_put_X8_refuses rfl rfl rfl hd_X8_refuses ⟨(Nat.le_of_ble_eq_true rfl), (Nat.le_of_ble_eq_true rfl)⟩ rfl rfl (Nat.le_of_ble_eq_true rfl) ⟨Nat.zero_le _, Nat.zero_le _⟩ [0] (bsr := []) rfl rfl (q0 := 0) rfl rfl dX8_put_11 ?_
    rintro _ _ ⟨r_25, v_26, rfl, rfl, hw⟩
    refine gw_sel [0] (bs' := [bMd G hMd qMd v_26]) rfl rfl ?_
    change GW C 0 0 _ 14 _ [.int r_25]
    exact gw_iret F E rfl rfl (Nat.le_of_ble_eq_true rfl) (Nat.le_of_ble_eq_true rfl) dX8_put_14 ⟨_, _, rfl, rfl, hw⟩
def wp_X8_put (Q : Int32 → OV → Prop) (x1 : Int32) (x2 : Int32) (vMd : OV) : Prop := wp_X8_put_0 Q x1 x2 vMd
theorem ct_X8_put {X : List Cond} {l : Launch} {D : va_G} {G : Nat → ClassId} {hMd : Nat} {qMd : Nat → Nat} {Q : Int32 → OV → Prop} {x1 : Int32} {x2 : Int32} {vMd : OV} (hw : wp_X8_put Q x1 x2 vMd) : CM X l yX8_put wsX8_put rm_X8_put D G [.ref hMd, .int x1, .int x2] [bMd G hMd qMd vMd] 0 0 (po_X8_put G hMd qMd Q) :=
  CM.of pn_RX8 rfl rfl (Nat.le_of_ble_eq_true rfl) rfl (fun C F E => lb_X8_put_0 F E hw)
-- X8_take
abbrev rm_X8_take : Room := { frames := 3, cells := 0, slots := 0, locals := 106 }
def po_X8_take (G : Nat → ClassId) (hMd : Nat) (qMd : Nat → Nat) (Q : Int32 → OV → Prop) : Option Value → List va_W → Prop := fun o bs => ∃ (r : Int32) (vMd : OV), o = some (.int r) ∧ bs = [bMd G hMd qMd vMd] ∧ Q r vMd
theorem hd_X8_take : yX8_take.cls = RX8 ∧ yX8_take.cls ≠ "java/lang/invoke/MethodHandle" ∧ yX8_take.cls ≠ "java/lang/invoke/VarHandle" ∧ (parseMethodDescriptor yX8_take.desc).map (fun d => d.parameters.length) = some 1 := by decide +kernel
theorem in_X8_take_RX8 : ∀ w ∈ wsX80, w ∈ wsX8_take := fun w h => List.mem_cons_of_mem _ (List.mem_append_left _ (List.mem_append_right _ h))
theorem lk_X8_take_7 : Cond.fieldLink RX8 7 "KeyWavesModel" "g" "[I" ∈ wsX8_take := List.mem_cons_of_mem _ (List.mem_append_left _ (List.mem_append_left _ (List.mem_append_left _ (List.mem_of_getElem? (i := 0) rfl))))
def wp_X8_take_0 (Q : Int32 → OV → Prop) (x1 : Int32) (vMd : OV) : Prop :=
  (wp_X8_isKey (fun (r_1 : Int32) => ((¬ r_1 = 0 → (wp_X8_ofKey (fun (r_3 : Int32) => ((0 ≤ r_3 → (wp_X8_keeps0 (fun (v_5 : OV) => (wp_X8_lets (fun (v_6 : OV) => (Q r_3 v_6)) x1 r_3 v_5)) vMd)) ∧ (¬ (0 ≤ r_3) → (wp_X8_refuses (fun (r_7 : Int32) (v_8 : OV) => (Q r_7 v_8)) (9 : Int32) x1 vMd)))) x1 (2 : Int32) vMd)) ∧ (r_1 = 0 → (wp_X8_refuses (fun (r_9 : Int32) (v_10 : OV) => (Q r_9 v_10)) (3 : Int32) x1 vMd)))) x1 vMd)
set_option maxRecDepth 20000 in
theorem lb_X8_take_0 {X : List Cond} {l : Launch} {D : va_G} {G : Nat → ClassId} {C : Cx} {bs0 : List va_W} {hMd : Nat} {qMd : Nat → Nat} {Q : Int32 → OV → Prop} (F : GF C X cX8_take wsX8_take RX8 rm_X8_take 3 (some .int) D G l) (E : GE C bs0 0 0 (po_X8_take G hMd qMd Q)) {x1 : Int32} {vMd : OV} (hw : wp_X8_take_0 Q x1 vMd) : GW C 0 0 [bMd G hMd qMd vMd] 0 [(0, .ref hMd), (1, .int x1)] [] := by
  unfold wp_X8_take_0 at hw
  refine gw_aload_n F dX8_take_0 0 rfl ?_
  refine gw_iload_n F dX8_take_1 1 rfl ?_
  refine gw_callV F (ct_X8_isKey hw) 1 gX8_take_X8_isKey rfl rfl rfl hd_X8_isKey ⟨(Nat.le_of_ble_eq_true rfl), (Nat.le_of_ble_eq_true rfl)⟩ rfl rfl (Nat.le_of_ble_eq_true rfl) ⟨Nat.zero_le _, Nat.zero_le _⟩ [0] (bsr := []) rfl rfl (q0 := 0) rfl rfl dX8_take_2 ?_
  rintro _ _ ⟨r_1, rfl, rfl, hw⟩
  refine gw_sel [0] (bs' := [bMd G hMd qMd vMd]) rfl rfl ?_
  change GW C 0 0 _ 5 _ [.int r_1]
  refine gw_if_ne (tgt := 15) F dX8_take_5 (by decide) (fun c_2 => ?_) (fun c_2 => ?_)
  · have hw := hw.1 c_2
    refine gw_aload_n F dX8_take_15 0 rfl ?_
    refine gw_iload_n F dX8_take_16 1 rfl ?_
    refine gw_iconst (v := (2 : Int32)) F dX8_take_17 ic_iconst_2 ?_
    refine gw_callV F (ct_X8_ofKey hw) 2 gX8_take_X8_ofKey rfl rfl rfl hd_X8_ofKey ⟨(Nat.le_of_ble_eq_true rfl), (Nat.le_of_ble_eq_true rfl)⟩ rfl rfl (Nat.le_of_ble_eq_true rfl) ⟨Nat.zero_le _, Nat.zero_le _⟩ [0] (bsr := []) rfl rfl (q0 := 0) rfl rfl dX8_take_18 ?_
    rintro _ _ ⟨r_3, rfl, rfl, hw⟩
    refine gw_sel [0] (bs' := [bMd G hMd qMd vMd]) rfl rfl ?_
    change GW C 0 0 _ 21 _ [.int r_3]
    refine gw_istore_n (lv' := [(2, .int r_3), (0, .ref hMd), (1, .int x1)]) F dX8_take_21 (by decide) rfl ?_
    refine gw_iload_n F dX8_take_22 0 rfl ?_
    refine gw_if_ge (tgt := 34) F dX8_take_23 (by decide) (fun c_4 => ?_) (fun c_4 => ?_)
    · have hw := hw.1 c_4
      refine gw_aload_n F dX8_take_34 1 rfl ?_
      refine gw_aload_n F dX8_take_35 1 rfl ?_
      refine gw_get F in_X8_take_RX8 0 rfl rfl 0 (by decide) lk_X8_take_7 rfl dX8_take_36 ?_
      refine gw_callV F (ct_X8_keeps0 hw) 1 gX8_take_X8_keeps rfl rfl rfl hd_X8_keeps ⟨(Nat.le_of_ble_eq_true rfl), (Nat.le_of_ble_eq_true rfl)⟩ rfl rfl (Nat.le_of_ble_eq_true rfl) ⟨Nat.zero_le _, Nat.zero_le _⟩ [0] (bsr := []) rfl rfl (q0 := 0) rfl rfl dX8_take_39 ?_
      rintro _ _ ⟨v_5, rfl, rfl, hw⟩
      refine gw_sel [0] (bs' := [bMd G hMd qMd v_5]) rfl rfl ?_
      change GW C 0 0 _ 42 _ []
      refine gw_aload_n F dX8_take_42 1 rfl ?_
      refine gw_iload_n F dX8_take_43 2 rfl ?_
      refine gw_iload_n F dX8_take_44 0 rfl ?_
      refine gw_callV F (ct_X8_lets hw) 2 gX8_take_X8_lets rfl rfl rfl hd_X8_lets ⟨(Nat.le_of_ble_eq_true rfl), (Nat.le_of_ble_eq_true rfl)⟩ rfl rfl (Nat.le_of_ble_eq_true rfl) ⟨Nat.zero_le _, Nat.zero_le _⟩ [0] (bsr := []) rfl rfl (q0 := 0) rfl rfl dX8_take_45 ?_
      rintro _ _ ⟨v_6, rfl, rfl, hw⟩
      refine gw_sel [0] (bs' := [bMd G hMd qMd v_6]) rfl rfl ?_
      change GW C 0 0 _ 48 _ []
      refine gw_iload_n F dX8_take_48 0 rfl ?_
      exact gw_iret F E rfl rfl (Nat.le_of_ble_eq_true rfl) (Nat.le_of_ble_eq_true rfl) dX8_take_49 ⟨_, _, rfl, rfl, hw⟩
    · have hw := hw.2 c_4
      refine gw_aload_n F dX8_take_26 1 rfl ?_
      refine gw_bipush (v := (9 : Int32)) F dX8_take_27 ic_bipush_9 ?_
      refine gw_iload_n F dX8_take_29 2 rfl ?_
      refine gw_callV F (ct_X8_refuses hw) 2 gX8_take_X8_refuses rfl rfl rfl hd_X8_refuses ⟨(Nat.le_of_ble_eq_true rfl), (Nat.le_of_ble_eq_true rfl)⟩ rfl rfl (Nat.le_of_ble_eq_true rfl) ⟨Nat.zero_le _, Nat.zero_le _⟩ [0] (bsr := []) rfl rfl (q0 := 0) rfl rfl dX8_take_30 ?_
      rintro _ _ ⟨r_7, v_8, rfl, rfl, hw⟩
      refine gw_sel [0] (bs' := [bMd G hMd qMd v_8]) rfl rfl ?_
      change GW C 0 0 _ 33 _ [.int r_7]
      exact gw_iret F E rfl rfl (Nat.le_of_ble_eq_true rfl) (Nat.le_of_ble_eq_true rfl) dX8_take_33 ⟨_, _, rfl, rfl, hw⟩
  · have hw := hw.2 c_2
    refine gw_aload_n F dX8_take_8 0 rfl ?_
    refine gw_iconst (v := (3 : Int32)) F dX8_take_9 ic_iconst_3 ?_
    refine gw_iload_n F dX8_take_10 1 rfl ?_
    refine gw_callV F (ct_X8_refuses hw) 2 gX8_take_X8_refuses rfl rfl rfl hd_X8_refuses ⟨(Nat.le_of_ble_eq_true rfl), (Nat.le_of_ble_eq_true rfl)⟩ rfl rfl (Nat.le_of_ble_eq_true rfl) ⟨Nat.zero_le _, Nat.zero_le _⟩ [0] (bsr := []) rfl rfl (q0 := 0) rfl rfl dX8_take_11 ?_
    rintro _ _ ⟨r_9, v_10, rfl, rfl, hw⟩
    refine gw_sel [0] (bs' := [bMd G hMd qMd v_10]) rfl rfl ?_
    change GW C 0 0 _ 14 _ [.int r_9]
    exact gw_iret F E rfl rfl (Nat.le_of_ble_eq_true rfl) (Nat.le_of_ble_eq_true rfl) dX8_take_14 ⟨_, _, rfl, rfl, hw⟩
def wp_X8_take (Q : Int32 → OV → Prop) (x1 : Int32) (vMd : OV) : Prop := wp_X8_take_0 Q x1 vMd
theorem ct_X8_take {X : List Cond} {l : Launch} {D : va_G} {G : Nat → ClassId} {hMd : Nat} {qMd : Nat → Nat} {Q : Int32 → OV → Prop} {x1 : Int32} {vMd : OV} (hw : wp_X8_take Q x1 vMd) : CM X l yX8_take wsX8_take rm_X8_take D G [.ref hMd, .int x1] [bMd G hMd qMd vMd] 0 0 (po_X8_take G hMd qMd Q) :=
  CM.of pn_RX8 rfl rfl (Nat.le_of_ble_eq_true rfl) rfl (fun C F E => lb_X8_take_0 F E hw)
-- X8_levels
abbrev rm_X8_levels : Room := { frames := 4, cells := 0, slots := 0, locals := 126 }
def po_X8_levels (G : Nat → ClassId) (hMd : Nat) (qMd : Nat → Nat) (Q : Int32 → OV → Prop) : Option Value → List va_W → Prop := fun o bs => ∃ (r : Int32) (vMd : OV), o = some (.int r) ∧ bs = [bMd G hMd qMd vMd] ∧ Q r vMd
theorem hd_X8_levels : yX8_levels.cls = RX8 ∧ yX8_levels.cls ≠ "java/lang/invoke/MethodHandle" ∧ yX8_levels.cls ≠ "java/lang/invoke/VarHandle" ∧ (parseMethodDescriptor yX8_levels.desc).map (fun d => d.parameters.length) = some 0 := by decide +kernel
theorem in_X8_levels_RX8 : ∀ w ∈ wsX80, w ∈ wsX8_levels := fun w h => List.mem_cons_of_mem _ (List.mem_append_left _ (List.mem_append_right _ h))
theorem lk_X8_levels_125 : Cond.fieldLink RX8 125 "KeyWavesModel" "last" "I" ∈ wsX8_levels := List.mem_cons_of_mem _ (List.mem_append_left _ (List.mem_append_left _ (List.mem_of_getElem? (i := 2) rfl)))
theorem lk_X8_levels_7 : Cond.fieldLink RX8 7 "KeyWavesModel" "g" "[I" ∈ wsX8_levels := List.mem_cons_of_mem _ (List.mem_append_left _ (List.mem_append_left _ (List.mem_of_getElem? (i := 1) rfl)))
theorem lk_X8_levels_36 : Cond.fieldLink RX8 36 "KeyWavesModel" "level" "[I" ∈ wsX8_levels := List.mem_cons_of_mem _ (List.mem_append_left _ (List.mem_append_left _ (List.mem_of_getElem? (i := 0) rfl)))
def wp_X8_levels_191 (Q : Int32 → OV → Prop) (s0 : Int32) (vMd : OV) : Prop :=
  (narrow .boolean (.int s0) = .int s0 ∧ Q s0 vMd)
set_option maxRecDepth 20000 in
theorem lb_X8_levels_191 {X : List Cond} {l : Launch} {D : va_G} {G : Nat → ClassId} {C : Cx} {bs0 : List va_W} {hMd : Nat} {qMd : Nat → Nat} {Q : Int32 → OV → Prop} (F : GF C X cX8_levels wsX8_levels RX8 rm_X8_levels 5 (some .boolean) D G l) (E : GE C bs0 0 0 (po_X8_levels G hMd qMd Q)) {s0 : Int32} {vMd : OV} (hw : wp_X8_levels_191 Q s0 vMd) : GW C 0 0 [bMd G hMd qMd vMd] 191 [] [.int s0] := by
  unfold wp_X8_levels_191 at hw
  obtain ⟨hn, hw⟩ := hw
  exact gw_iret F E rfl hn (Nat.le_of_ble_eq_true rfl) (Nat.le_of_ble_eq_true rfl) dX8_levels_191 ⟨_, _, rfl, rfl, hw⟩
def wp_X8_levels_167 (Q : Int32 → OV → Prop) (K51 : Int32 → OV → Prop) (K59 : Int32 → Int32 → OV → Prop) (x1 x2 : Int32) (vMd : OV) : Prop :=
  (∀ i_12 : Int32, i_12 = x2 + (1 : Int32) → (K59 x1 i_12 vMd))
set_option maxRecDepth 20000 in
theorem lb_X8_levels_167 {X : List Cond} {l : Launch} {D : va_G} {G : Nat → ClassId} {C : Cx} {bs0 : List va_W} {hMd : Nat} {qMd : Nat → Nat} {Q : Int32 → OV → Prop} {K51 : Int32 → OV → Prop} {K59 : Int32 → Int32 → OV → Prop} (F : GF C X cX8_levels wsX8_levels RX8 rm_X8_levels 5 (some .boolean) D G l) (E : GE C bs0 0 0 (po_X8_levels G hMd qMd Q)) (hK51 : ∀ (x1 : Int32) (vMd : OV), K51 x1 vMd → GW C 0 0 [bMd G hMd qMd vMd] 51 [(0, .ref hMd), (1, .int x1)] []) (hK59 : ∀ (x1 x2 : Int32) (vMd : OV), K59 x1 x2 vMd → GW C 0 0 [bMd G hMd qMd vMd] 59 [(0, .ref hMd), (1, .int x1), (2, .int x2)] []) {x1 x2 : Int32} {vMd : OV} (hw : wp_X8_levels_167 Q K51 K59 x1 x2 vMd) : GW C 0 0 [bMd G hMd qMd vMd] 167 [(0, .ref hMd), (1, .int x1), (2, .int x2)] [] := by
  unfold wp_X8_levels_167 at hw
  obtain ⟨i_12, e_i_12⟩ : ∃ z : Int32, z = x2 + (1 : Int32) := ⟨_, rfl⟩
  have hw := hw i_12 e_i_12
  refine gw_iinc (v := i_12) (lv' := [(2, .int i_12), (0, .ref hMd), (1, .int x1)]) F dX8_levels_167 2 rfl (by rw [e_i_12]; rfl) (by decide) rfl ?_
  refine gw_goto (tgt := 59) F dX8_levels_170 (by decide) ?_
  refine gw_lv [1, 2, 0] rfl ?_
  exact hK59 _ _ _ hw
def wp_X8_levels_161 (Q : Int32 → OV → Prop) (K51 : Int32 → OV → Prop) (K59 : Int32 → Int32 → OV → Prop) (K84 : Int32 → Int32 → Int32 → OV → Prop) (x1 x2 x3 : Int32) (vMd : OV) : Prop :=
  (∀ i_19 : Int32, i_19 = x3 + (1 : Int32) → (K84 x1 x2 i_19 vMd))
set_option maxRecDepth 20000 in
theorem lb_X8_levels_161 {X : List Cond} {l : Launch} {D : va_G} {G : Nat → ClassId} {C : Cx} {bs0 : List va_W} {hMd : Nat} {qMd : Nat → Nat} {Q : Int32 → OV → Prop} {K51 : Int32 → OV → Prop} {K59 : Int32 → Int32 → OV → Prop} {K84 : Int32 → Int32 → Int32 → OV → Prop} (F : GF C X cX8_levels wsX8_levels RX8 rm_X8_levels 5 (some .boolean) D G l) (E : GE C bs0 0 0 (po_X8_levels G hMd qMd Q)) (hK51 : ∀ (x1 : Int32) (vMd : OV), K51 x1 vMd → GW C 0 0 [bMd G hMd qMd vMd] 51 [(0, .ref hMd), (1, .int x1)] []) (hK59 : ∀ (x1 x2 : Int32) (vMd : OV), K59 x1 x2 vMd → GW C 0 0 [bMd G hMd qMd vMd] 59 [(0, .ref hMd), (1, .int x1), (2, .int x2)] []) (hK84 : ∀ (x1 x2 x3 : Int32) (vMd : OV), K84 x1 x2 x3 vMd → GW C 0 0 [bMd G hMd qMd vMd] 84 [(0, .ref hMd), (1, .int x1), (2, .int x2), (3, .int x3)] []) {x1 x2 x3 : Int32} {vMd : OV} (hw : wp_X8_levels_161 Q K51 K59 K84 x1 x2 x3 vMd) : GW C 0 0 [bMd G hMd qMd vMd] 161 [(0, .ref hMd), (1, .int x1), (2, .int x2), (3, .int x3)] [] := by
  unfold wp_X8_levels_161 at hw
  obtain ⟨i_19, e_i_19⟩ : ∃ z : Int32, z = x3 + (1 : Int32) := ⟨_, rfl⟩
  have hw := hw i_19 e_i_19
  refine gw_iinc (v := i_19) (lv' := [(3, .int i_19), (0, .ref hMd), (1, .int x1), (2, .int x2)]) F dX8_levels_161 3 rfl (by rw [e_i_19]; rfl) (by decide) rfl ?_
  refine gw_goto (tgt := 84) F dX8_levels_164 (by decide) ?_
  refine gw_lv [1, 2, 3, 0] rfl ?_
  exact hK84 _ _ _ _ hw
def wp_X8_levels_135 (Q : Int32 → OV → Prop) (K51 : Int32 → OV → Prop) (K59 : Int32 → Int32 → OV → Prop) (K84 : Int32 → Int32 → Int32 → OV → Prop) (x1 x2 x3 s1 : Int32) (vMd : OV) : Prop :=
  (∀ v_23 : OV, v_23 = sI vMd 20 s1 → (wp_X8_levels_161 Q K51 K59 K84 x1 x2 x3 v_23))
set_option maxRecDepth 20000 in
theorem lb_X8_levels_135 {X : List Cond} {l : Launch} {D : va_G} {G : Nat → ClassId} {C : Cx} {bs0 : List va_W} {hMd : Nat} {qMd : Nat → Nat} {Q : Int32 → OV → Prop} {K51 : Int32 → OV → Prop} {K59 : Int32 → Int32 → OV → Prop} {K84 : Int32 → Int32 → Int32 → OV → Prop} (F : GF C X cX8_levels wsX8_levels RX8 rm_X8_levels 5 (some .boolean) D G l) (E : GE C bs0 0 0 (po_X8_levels G hMd qMd Q)) (hK51 : ∀ (x1 : Int32) (vMd : OV), K51 x1 vMd → GW C 0 0 [bMd G hMd qMd vMd] 51 [(0, .ref hMd), (1, .int x1)] []) (hK59 : ∀ (x1 x2 : Int32) (vMd : OV), K59 x1 x2 vMd → GW C 0 0 [bMd G hMd qMd vMd] 59 [(0, .ref hMd), (1, .int x1), (2, .int x2)] []) (hK84 : ∀ (x1 x2 x3 : Int32) (vMd : OV), K84 x1 x2 x3 vMd → GW C 0 0 [bMd G hMd qMd vMd] 84 [(0, .ref hMd), (1, .int x1), (2, .int x2), (3, .int x3)] []) {x1 x2 x3 s1 : Int32} {vMd : OV} (hw : wp_X8_levels_135 Q K51 K59 K84 x1 x2 x3 s1 vMd) : GW C 0 0 [bMd G hMd qMd vMd] 135 [(0, .ref hMd), (1, .int x1), (2, .int x2), (3, .int x3)] [.int s1, .ref hMd] := by
  unfold wp_X8_levels_135 at hw
  obtain ⟨v_23, e_v_23⟩ : ∃ z : OV, z = sI vMd 20 s1 := ⟨_, rfl⟩
  have hw := hw v_23 e_v_23
  refine gw_put (bs' := [bMd G hMd qMd v_23]) F in_X8_levels_RX8 tyX8 tyX8_ok nmX8 0 rfl rfl 20 (by decide) lk_X8_levels_125 rfl rfl rfl (Nat.le_of_ble_eq_true rfl) dX8_levels_135 (by rw [e_v_23]; rfl) ?_
  refine gw_goto (tgt := 161) F dX8_levels_138 (by decide) ?_
  exact lb_X8_levels_161 F E hK51 hK59 hK84 hw
def wp_X8_levels_84 (Q : Int32 → OV → Prop) (K51 : Int32 → OV → Prop) (K59 : Int32 → Int32 → OV → Prop) (K84 : Int32 → Int32 → Int32 → OV → Prop) (x1 x2 x3 : Int32) (vMd : OV) : Prop :=
  (vp_in (1 : Int32) 177 ∧ (((vMd.1 0 (1 : Int32).toNatClampNeg) ≤ x3 → (wp_X8_levels_167 Q K51 K59 x1 x2 vMd)) ∧ (¬ ((vMd.1 0 (1 : Int32).toNatClampNeg) ≤ x3) → (wp_X8_isFit (fun (r_13 : Int32) => ((¬ r_13 = 0 → (wp_X8_ofLock (fun (r_15 : Int32) => ((0 ≤ r_15 → (vp_in r_15 10 ∧ ((0 ≤ (vMd.1 18 r_15.toNatClampNeg) → (wp_X8_levels_161 Q K51 K59 K84 x1 x2 x3 vMd)) ∧ (¬ (0 ≤ (vMd.1 18 r_15.toNatClampNeg)) → (vp_in r_15 10 ∧ ∀ v_20 : OV, v_20 = sA vMd 18 r_15.toNatClampNeg (x1 + (1 : Int32)) → (wp_X8_levels_161 Q K51 K59 K84 x1 x2 x3 v_20)))))) ∧ (¬ (0 ≤ r_15) → ((0 ≤ (vMd.2 20) → (wp_X8_levels_135 Q K51 K59 K84 x1 x2 x3 (vMd.2 20) vMd)) ∧ (¬ (0 ≤ (vMd.2 20)) → (wp_X8_levels_135 Q K51 K59 K84 x1 x2 x3 x1 vMd)))))) x3 (1 : Int32) vMd)) ∧ (r_13 = 0 → (wp_X8_levels_161 Q K51 K59 K84 x1 x2 x3 vMd)))) x2 x3 vMd))))
set_option maxRecDepth 20000 in
theorem lb_X8_levels_84 {X : List Cond} {l : Launch} {D : va_G} {G : Nat → ClassId} {C : Cx} {bs0 : List va_W} {hMd : Nat} {qMd : Nat → Nat} {Q : Int32 → OV → Prop} {K51 : Int32 → OV → Prop} {K59 : Int32 → Int32 → OV → Prop} {K84 : Int32 → Int32 → Int32 → OV → Prop} (F : GF C X cX8_levels wsX8_levels RX8 rm_X8_levels 5 (some .boolean) D G l) (E : GE C bs0 0 0 (po_X8_levels G hMd qMd Q)) (hK51 : ∀ (x1 : Int32) (vMd : OV), K51 x1 vMd → GW C 0 0 [bMd G hMd qMd vMd] 51 [(0, .ref hMd), (1, .int x1)] []) (hK59 : ∀ (x1 x2 : Int32) (vMd : OV), K59 x1 x2 vMd → GW C 0 0 [bMd G hMd qMd vMd] 59 [(0, .ref hMd), (1, .int x1), (2, .int x2)] []) (hK84 : ∀ (x1 x2 x3 : Int32) (vMd : OV), K84 x1 x2 x3 vMd → GW C 0 0 [bMd G hMd qMd vMd] 84 [(0, .ref hMd), (1, .int x1), (2, .int x2), (3, .int x3)] []) {x1 x2 x3 : Int32} {vMd : OV} (hw : wp_X8_levels_84 Q K51 K59 K84 x1 x2 x3 vMd) : GW C 0 0 [bMd G hMd qMd vMd] 84 [(0, .ref hMd), (1, .int x1), (2, .int x2), (3, .int x3)] [] := by
  unfold wp_X8_levels_84 at hw
  refine gw_iload_n F dX8_levels_84 3 rfl ?_
  refine gw_aload_n F dX8_levels_85 0 rfl ?_
  refine gw_get F in_X8_levels_RX8 0 rfl rfl 0 (by decide) lk_X8_levels_7 rfl dX8_levels_86 ?_
  refine gw_iconst (v := (1 : Int32)) F dX8_levels_89 ic_iconst_1 ?_
  obtain ⟨h_10, hw⟩ := hw
  refine gw_iald F 1 rfl h_10 dX8_levels_90 ?_
  refine gw_icmp_ge (tgt := 167) F dX8_levels_91 (by decide) (fun c_11 => ?_) (fun c_11 => ?_)
  · have hw := hw.1 c_11
    refine gw_lv [0, 1, 2] rfl ?_
    exact lb_X8_levels_167 F E hK51 hK59 hw
  · have hw := hw.2 c_11
    refine gw_aload_n F dX8_levels_94 0 rfl ?_
    refine gw_iload_n F dX8_levels_95 2 rfl ?_
    refine gw_iload_n F dX8_levels_96 3 rfl ?_
    refine gw_callV F (ct_X8_isFit hw) 2 gX8_levels_X8_isFit rfl rfl rfl hd_X8_isFit ⟨(Nat.le_of_ble_eq_true rfl), (Nat.le_of_ble_eq_true rfl)⟩ rfl rfl (Nat.le_of_ble_eq_true rfl) ⟨Nat.zero_le _, Nat.zero_le _⟩ [0] (bsr := []) rfl rfl (q0 := 0) rfl rfl dX8_levels_97 ?_
    rintro _ _ ⟨r_13, rfl, rfl, hw⟩
    refine gw_sel [0] (bs' := [bMd G hMd qMd vMd]) rfl rfl ?_
    change GW C 0 0 _ 100 _ [.int r_13]
    refine gw_if_ne (tgt := 106) F dX8_levels_100 (by decide) (fun c_14 => ?_) (fun c_14 => ?_)
    · have hw := hw.1 c_14
      refine gw_aload_n F dX8_levels_106 0 rfl ?_
      refine gw_iload_n F dX8_levels_107 3 rfl ?_
      refine gw_iconst (v := (1 : Int32)) F dX8_levels_108 ic_iconst_1 ?_
      refine gw_callV F (ct_X8_ofLock hw) 2 gX8_levels_X8_ofLock rfl rfl rfl hd_X8_ofLock ⟨(Nat.le_of_ble_eq_true rfl), (Nat.le_of_ble_eq_true rfl)⟩ rfl rfl (Nat.le_of_ble_eq_true rfl) ⟨Nat.zero_le _, Nat.zero_le _⟩ [0] (bsr := []) rfl rfl (q0 := 0) rfl rfl dX8_levels_109 ?_
      rintro _ _ ⟨r_15, rfl, rfl, hw⟩
      refine gw_sel [0] (bs' := [bMd G hMd qMd vMd]) rfl rfl ?_
      change GW C 0 0 _ 112 _ [.int r_15]
      refine gw_istore (lv' := [(4, .int r_15), (0, .ref hMd), (1, .int x1), (2, .int x2), (3, .int x3)]) F dX8_levels_112 (by decide) rfl ?_
      refine gw_iload F dX8_levels_114 0 rfl ?_
      refine gw_if_ge (tgt := 141) F dX8_levels_116 (by decide) (fun c_16 => ?_) (fun c_16 => ?_)
      · have hw := hw.1 c_16
        refine gw_aload_n F dX8_levels_141 1 rfl ?_
        refine gw_get F in_X8_levels_RX8 0 rfl rfl 18 (by decide) lk_X8_levels_36 rfl dX8_levels_142 ?_
        refine gw_iload F dX8_levels_145 0 rfl ?_
        obtain ⟨h_17, hw⟩ := hw
        refine gw_iald F 8 rfl h_17 dX8_levels_147 ?_
        refine gw_if_ge (tgt := 161) F dX8_levels_148 (by decide) (fun c_18 => ?_) (fun c_18 => ?_)
        · have hw := hw.1 c_18
          refine gw_lv [1, 2, 3, 4] rfl ?_
          exact lb_X8_levels_161 F E hK51 hK59 hK84 hw
        · have hw := hw.2 c_18
          refine gw_aload_n F dX8_levels_151 1 rfl ?_
          refine gw_get F in_X8_levels_RX8 0 rfl rfl 18 (by decide) lk_X8_levels_36 rfl dX8_levels_152 ?_
          refine gw_iload F dX8_levels_155 0 rfl ?_
          refine gw_iload_n F dX8_levels_157 2 rfl ?_
          refine gw_iconst (v := (1 : Int32)) F dX8_levels_158 ic_iconst_1 ?_
          refine gw_iadd F dX8_levels_159 ?_
          obtain ⟨h_21, hw⟩ := hw
          obtain ⟨v_20, e_v_20⟩ : ∃ z : OV, z = sA vMd 18 r_15.toNatClampNeg (x1 + (1 : Int32)) := ⟨_, rfl⟩
          have hw := hw v_20 e_v_20
          refine gw_iast (bs' := [bMd G hMd qMd v_20]) F 8 rfl h_21 dX8_levels_160 (by rw [e_v_20]; rfl) ?_
          refine gw_lv [1, 2, 3, 4] rfl ?_
          exact lb_X8_levels_161 F E hK51 hK59 hK84 hw
      · have hw := hw.2 c_16
        refine gw_aload_n F dX8_levels_119 1 rfl ?_
        refine gw_aload_n F dX8_levels_120 1 rfl ?_
        refine gw_get F in_X8_levels_RX8 0 rfl rfl 20 (by decide) lk_X8_levels_125 rfl dX8_levels_121 ?_
        refine gw_if_ge (tgt := 131) F dX8_levels_124 (by decide) (fun c_22 => ?_) (fun c_22 => ?_)
        · have hw := hw.1 c_22
          refine gw_aload_n F dX8_levels_131 1 rfl ?_
          refine gw_get F in_X8_levels_RX8 0 rfl rfl 20 (by decide) lk_X8_levels_125 rfl dX8_levels_132 ?_
          refine gw_lv [1, 2, 3, 4] rfl ?_
          exact lb_X8_levels_135 F E hK51 hK59 hK84 hw
        · have hw := hw.2 c_22
          refine gw_iload_n F dX8_levels_127 2 rfl ?_
          refine gw_goto (tgt := 135) F dX8_levels_128 (by decide) ?_
          refine gw_lv [1, 2, 3, 4] rfl ?_
          exact lb_X8_levels_135 F E hK51 hK59 hK84 hw
    · have hw := hw.2 c_14
      refine gw_goto (tgt := 161) F dX8_levels_103 (by decide) ?_
      exact lb_X8_levels_161 F E hK51 hK59 hK84 hw
def wp_X8_levels_84_loop (Q : Int32 → OV → Prop) (K51 : Int32 → OV → Prop) (K59 : Int32 → Int32 → OV → Prop) : Nat → Int32 → Int32 → Int32 → OV → Prop
  | 0, _, _, _, _ => False
  | n + 1, x1, x2, x3, vMd => wp_X8_levels_84 Q K51 K59 (wp_X8_levels_84_loop Q K51 K59 n) x1 x2 x3 vMd
theorem lp_X8_levels_84 {X : List Cond} {l : Launch} {D : va_G} {G : Nat → ClassId} {C : Cx} {bs0 : List va_W} {hMd : Nat} {qMd : Nat → Nat} {Q : Int32 → OV → Prop} {K51 : Int32 → OV → Prop} {K59 : Int32 → Int32 → OV → Prop} (F : GF C X cX8_levels wsX8_levels RX8 rm_X8_levels 5 (some .boolean) D G l) (E : GE C bs0 0 0 (po_X8_levels G hMd qMd Q)) (hK51 : ∀ (x1 : Int32) (vMd : OV), K51 x1 vMd → GW C 0 0 [bMd G hMd qMd vMd] 51 [(0, .ref hMd), (1, .int x1)] []) (hK59 : ∀ (x1 x2 : Int32) (vMd : OV), K59 x1 x2 vMd → GW C 0 0 [bMd G hMd qMd vMd] 59 [(0, .ref hMd), (1, .int x1), (2, .int x2)] []) : ∀ (n : Nat) (x1 x2 x3 : Int32) (vMd : OV), wp_X8_levels_84_loop Q K51 K59 n x1 x2 x3 vMd → GW C 0 0 [bMd G hMd qMd vMd] 84 [(0, .ref hMd), (1, .int x1), (2, .int x2), (3, .int x3)] [] := by
  intro n
  induction n with
  | zero => intro x1 x2 x3 vMd hw; exact False.elim hw
  | succ n ih => intro x1 x2 x3 vMd hw; exact lb_X8_levels_84 (K84 := wp_X8_levels_84_loop Q K51 K59 n) F E hK51 hK59 ih hw
def wp_X8_levels_59 (Q : Int32 → OV → Prop) (K51 : Int32 → OV → Prop) (K59 : Int32 → Int32 → OV → Prop) (x1 x2 : Int32) (vMd : OV) : Prop :=
  (vp_in (0 : Int32) 177 ∧ (((vMd.1 0 (0 : Int32).toNatClampNeg) ≤ x2 → (∀ i_7 : Int32, i_7 = x1 + (1 : Int32) → (K51 i_7 vMd))) ∧ (¬ ((vMd.1 0 (0 : Int32).toNatClampNeg) ≤ x2) → (vp_in x2 10 ∧ (((vMd.1 18 x2.toNatClampNeg) = x1 → (∃ n_24 : Nat, wp_X8_levels_84_loop Q K51 K59 n_24 x1 x2 (0 : Int32) vMd)) ∧ (¬ ((vMd.1 18 x2.toNatClampNeg) = x1) → (wp_X8_levels_167 Q K51 K59 x1 x2 vMd)))))))
set_option maxRecDepth 20000 in
theorem lb_X8_levels_59 {X : List Cond} {l : Launch} {D : va_G} {G : Nat → ClassId} {C : Cx} {bs0 : List va_W} {hMd : Nat} {qMd : Nat → Nat} {Q : Int32 → OV → Prop} {K51 : Int32 → OV → Prop} {K59 : Int32 → Int32 → OV → Prop} (F : GF C X cX8_levels wsX8_levels RX8 rm_X8_levels 5 (some .boolean) D G l) (E : GE C bs0 0 0 (po_X8_levels G hMd qMd Q)) (hK51 : ∀ (x1 : Int32) (vMd : OV), K51 x1 vMd → GW C 0 0 [bMd G hMd qMd vMd] 51 [(0, .ref hMd), (1, .int x1)] []) (hK59 : ∀ (x1 x2 : Int32) (vMd : OV), K59 x1 x2 vMd → GW C 0 0 [bMd G hMd qMd vMd] 59 [(0, .ref hMd), (1, .int x1), (2, .int x2)] []) {x1 x2 : Int32} {vMd : OV} (hw : wp_X8_levels_59 Q K51 K59 x1 x2 vMd) : GW C 0 0 [bMd G hMd qMd vMd] 59 [(0, .ref hMd), (1, .int x1), (2, .int x2)] [] := by
  unfold wp_X8_levels_59 at hw
  refine gw_iload_n F dX8_levels_59 2 rfl ?_
  refine gw_aload_n F dX8_levels_60 0 rfl ?_
  refine gw_get F in_X8_levels_RX8 0 rfl rfl 0 (by decide) lk_X8_levels_7 rfl dX8_levels_61 ?_
  refine gw_iconst (v := (0 : Int32)) F dX8_levels_64 ic_iconst_0 ?_
  obtain ⟨h_5, hw⟩ := hw
  refine gw_iald F 1 rfl h_5 dX8_levels_65 ?_
  refine gw_icmp_ge (tgt := 173) F dX8_levels_66 (by decide) (fun c_6 => ?_) (fun c_6 => ?_)
  · have hw := hw.1 c_6
    obtain ⟨i_7, e_i_7⟩ : ∃ z : Int32, z = x1 + (1 : Int32) := ⟨_, rfl⟩
    have hw := hw i_7 e_i_7
    refine gw_iinc (v := i_7) (lv' := [(1, .int i_7), (0, .ref hMd), (2, .int x2)]) F dX8_levels_173 1 rfl (by rw [e_i_7]; rfl) (by decide) rfl ?_
    refine gw_goto (tgt := 51) F dX8_levels_176 (by decide) ?_
    refine gw_lv [1, 0] rfl ?_
    exact hK51 _ _ hw
  · have hw := hw.2 c_6
    refine gw_aload_n F dX8_levels_69 0 rfl ?_
    refine gw_get F in_X8_levels_RX8 0 rfl rfl 18 (by decide) lk_X8_levels_36 rfl dX8_levels_70 ?_
    refine gw_iload_n F dX8_levels_73 2 rfl ?_
    obtain ⟨h_8, hw⟩ := hw
    refine gw_iald F 8 rfl h_8 dX8_levels_74 ?_
    refine gw_iload_n F dX8_levels_75 1 rfl ?_
    refine gw_icmp_eq (tgt := 82) F dX8_levels_76 (by decide) (fun c_9 => ?_) (fun c_9 => ?_)
    · have hw := hw.1 c_9
      refine gw_iconst (v := (0 : Int32)) F dX8_levels_82 ic_iconst_0 ?_
      refine gw_istore_n (lv' := [(3, .int (0 : Int32)), (0, .ref hMd), (1, .int x1), (2, .int x2)]) F dX8_levels_83 (by decide) rfl ?_
      refine gw_lv [1, 2, 3, 0] rfl ?_
      obtain ⟨n_24, hw⟩ := hw
      exact lp_X8_levels_84 F E hK51 hK59 n_24 _ _ _ _ hw
    · have hw := hw.2 c_9
      refine gw_goto (tgt := 167) F dX8_levels_79 (by decide) ?_
      exact lb_X8_levels_167 F E hK51 hK59 hw
def wp_X8_levels_59_loop (Q : Int32 → OV → Prop) (K51 : Int32 → OV → Prop) : Nat → Int32 → Int32 → OV → Prop
  | 0, _, _, _ => False
  | n + 1, x1, x2, vMd => wp_X8_levels_59 Q K51 (wp_X8_levels_59_loop Q K51 n) x1 x2 vMd
theorem lp_X8_levels_59 {X : List Cond} {l : Launch} {D : va_G} {G : Nat → ClassId} {C : Cx} {bs0 : List va_W} {hMd : Nat} {qMd : Nat → Nat} {Q : Int32 → OV → Prop} {K51 : Int32 → OV → Prop} (F : GF C X cX8_levels wsX8_levels RX8 rm_X8_levels 5 (some .boolean) D G l) (E : GE C bs0 0 0 (po_X8_levels G hMd qMd Q)) (hK51 : ∀ (x1 : Int32) (vMd : OV), K51 x1 vMd → GW C 0 0 [bMd G hMd qMd vMd] 51 [(0, .ref hMd), (1, .int x1)] []) : ∀ (n : Nat) (x1 x2 : Int32) (vMd : OV), wp_X8_levels_59_loop Q K51 n x1 x2 vMd → GW C 0 0 [bMd G hMd qMd vMd] 59 [(0, .ref hMd), (1, .int x1), (2, .int x2)] [] := by
  intro n
  induction n with
  | zero => intro x1 x2 vMd hw; exact False.elim hw
  | succ n ih => intro x1 x2 vMd hw; exact lb_X8_levels_59 (K59 := wp_X8_levels_59_loop Q K51 n) F E hK51 ih hw
def wp_X8_levels_51 (Q : Int32 → OV → Prop) (K51 : Int32 → OV → Prop) (x1 : Int32) (vMd : OV) : Prop :=
  (((10 : Int32) ≤ x1 → (((vMd.2 20) < 0 → (wp_X8_levels_191 Q (0 : Int32) vMd)) ∧ (¬ ((vMd.2 20) < 0) → (wp_X8_levels_191 Q (1 : Int32) vMd)))) ∧ (¬ ((10 : Int32) ≤ x1) → (∃ n_25 : Nat, wp_X8_levels_59_loop Q K51 n_25 x1 (0 : Int32) vMd)))
set_option maxRecDepth 20000 in
theorem lb_X8_levels_51 {X : List Cond} {l : Launch} {D : va_G} {G : Nat → ClassId} {C : Cx} {bs0 : List va_W} {hMd : Nat} {qMd : Nat → Nat} {Q : Int32 → OV → Prop} {K51 : Int32 → OV → Prop} (F : GF C X cX8_levels wsX8_levels RX8 rm_X8_levels 5 (some .boolean) D G l) (E : GE C bs0 0 0 (po_X8_levels G hMd qMd Q)) (hK51 : ∀ (x1 : Int32) (vMd : OV), K51 x1 vMd → GW C 0 0 [bMd G hMd qMd vMd] 51 [(0, .ref hMd), (1, .int x1)] []) {x1 : Int32} {vMd : OV} (hw : wp_X8_levels_51 Q K51 x1 vMd) : GW C 0 0 [bMd G hMd qMd vMd] 51 [(0, .ref hMd), (1, .int x1)] [] := by
  unfold wp_X8_levels_51 at hw
  refine gw_iload_n F dX8_levels_51 1 rfl ?_
  refine gw_bipush (v := (10 : Int32)) F dX8_levels_52 ic_bipush_10 ?_
  refine gw_icmp_ge (tgt := 179) F dX8_levels_54 (by decide) (fun c_3 => ?_) (fun c_3 => ?_)
  · have hw := hw.1 c_3
    refine gw_aload_n F dX8_levels_179 0 rfl ?_
    refine gw_get F in_X8_levels_RX8 0 rfl rfl 20 (by decide) lk_X8_levels_125 rfl dX8_levels_180 ?_
    refine gw_if_lt (tgt := 190) F dX8_levels_183 (by decide) (fun c_4 => ?_) (fun c_4 => ?_)
    · have hw := hw.1 c_4
      refine gw_iconst (v := (0 : Int32)) F dX8_levels_190 ic_iconst_0 ?_
      refine gw_lv [] rfl ?_
      exact lb_X8_levels_191 F E hw
    · have hw := hw.2 c_4
      refine gw_iconst (v := (1 : Int32)) F dX8_levels_186 ic_iconst_1 ?_
      refine gw_goto (tgt := 191) F dX8_levels_187 (by decide) ?_
      refine gw_lv [] rfl ?_
      exact lb_X8_levels_191 F E hw
  · have hw := hw.2 c_3
    refine gw_iconst (v := (0 : Int32)) F dX8_levels_57 ic_iconst_0 ?_
    refine gw_istore_n (lv' := [(2, .int (0 : Int32)), (0, .ref hMd), (1, .int x1)]) F dX8_levels_58 (by decide) rfl ?_
    refine gw_lv [1, 2, 0] rfl ?_
    obtain ⟨n_25, hw⟩ := hw
    exact lp_X8_levels_59 F E hK51 n_25 _ _ _ hw
def wp_X8_levels_51_loop (Q : Int32 → OV → Prop) : Nat → Int32 → OV → Prop
  | 0, _, _ => False
  | n + 1, x1, vMd => wp_X8_levels_51 Q (wp_X8_levels_51_loop Q n) x1 vMd
theorem lp_X8_levels_51 {X : List Cond} {l : Launch} {D : va_G} {G : Nat → ClassId} {C : Cx} {bs0 : List va_W} {hMd : Nat} {qMd : Nat → Nat} {Q : Int32 → OV → Prop} (F : GF C X cX8_levels wsX8_levels RX8 rm_X8_levels 5 (some .boolean) D G l) (E : GE C bs0 0 0 (po_X8_levels G hMd qMd Q)) : ∀ (n : Nat) (x1 : Int32) (vMd : OV), wp_X8_levels_51_loop Q n x1 vMd → GW C 0 0 [bMd G hMd qMd vMd] 51 [(0, .ref hMd), (1, .int x1)] [] := by
  intro n
  induction n with
  | zero => intro x1 vMd hw; exact False.elim hw
  | succ n ih => intro x1 vMd hw; exact lb_X8_levels_51 (K51 := wp_X8_levels_51_loop Q n) F E ih hw
def wp_X8_levels_37 (Q : Int32 → OV → Prop) (K2 : Int32 → OV → Prop) (x1 s1 s2 : Int32) (vMd : OV) : Prop :=
  (vp_in s1 10 ∧ ∀ v_29 : OV, v_29 = sA vMd 18 s1.toNatClampNeg s2 → (∀ i_31 : Int32, i_31 = x1 + (1 : Int32) → (K2 i_31 v_29)))
set_option maxRecDepth 20000 in
theorem lb_X8_levels_37 {X : List Cond} {l : Launch} {D : va_G} {G : Nat → ClassId} {C : Cx} {bs0 : List va_W} {hMd : Nat} {qMd : Nat → Nat} {Q : Int32 → OV → Prop} {K2 : Int32 → OV → Prop} (F : GF C X cX8_levels wsX8_levels RX8 rm_X8_levels 5 (some .boolean) D G l) (E : GE C bs0 0 0 (po_X8_levels G hMd qMd Q)) (hK2 : ∀ (x1 : Int32) (vMd : OV), K2 x1 vMd → GW C 0 0 [bMd G hMd qMd vMd] 2 [(0, .ref hMd), (1, .int x1)] []) {x1 s1 s2 : Int32} {vMd : OV} (hw : wp_X8_levels_37 Q K2 x1 s1 s2 vMd) : GW C 0 0 [bMd G hMd qMd vMd] 37 [(0, .ref hMd), (1, .int x1)] [.int s2, .int s1, .ref (qMd 18)] := by
  unfold wp_X8_levels_37 at hw
  obtain ⟨h_30, hw⟩ := hw
  obtain ⟨v_29, e_v_29⟩ : ∃ z : OV, z = sA vMd 18 s1.toNatClampNeg s2 := ⟨_, rfl⟩
  have hw := hw v_29 e_v_29
  refine gw_iast (bs' := [bMd G hMd qMd v_29]) F 8 rfl h_30 dX8_levels_37 (by rw [e_v_29]; rfl) ?_
  obtain ⟨i_31, e_i_31⟩ : ∃ z : Int32, z = x1 + (1 : Int32) := ⟨_, rfl⟩
  have hw := hw i_31 e_i_31
  refine gw_iinc (v := i_31) (lv' := [(1, .int i_31), (0, .ref hMd)]) F dX8_levels_38 1 rfl (by rw [e_i_31]; rfl) (by decide) rfl ?_
  refine gw_goto (tgt := 2) F dX8_levels_41 (by decide) ?_
  refine gw_lv [1, 0] rfl ?_
  exact hK2 _ _ hw
def wp_X8_levels_36 (Q : Int32 → OV → Prop) (K2 : Int32 → OV → Prop) (x1 s1 : Int32) (vMd : OV) : Prop :=
  (wp_X8_levels_37 Q K2 x1 s1 (-1 : Int32) vMd)
set_option maxRecDepth 20000 in
theorem lb_X8_levels_36 {X : List Cond} {l : Launch} {D : va_G} {G : Nat → ClassId} {C : Cx} {bs0 : List va_W} {hMd : Nat} {qMd : Nat → Nat} {Q : Int32 → OV → Prop} {K2 : Int32 → OV → Prop} (F : GF C X cX8_levels wsX8_levels RX8 rm_X8_levels 5 (some .boolean) D G l) (E : GE C bs0 0 0 (po_X8_levels G hMd qMd Q)) (hK2 : ∀ (x1 : Int32) (vMd : OV), K2 x1 vMd → GW C 0 0 [bMd G hMd qMd vMd] 2 [(0, .ref hMd), (1, .int x1)] []) {x1 s1 : Int32} {vMd : OV} (hw : wp_X8_levels_36 Q K2 x1 s1 vMd) : GW C 0 0 [bMd G hMd qMd vMd] 36 [(0, .ref hMd), (1, .int x1)] [.int s1, .ref (qMd 18)] := by
  unfold wp_X8_levels_36 at hw
  refine gw_iconst (v := (-1 : Int32)) F dX8_levels_36 ic_iconst_m1 ?_
  exact lb_X8_levels_37 F E hK2 hw
def wp_X8_levels_2 (Q : Int32 → OV → Prop) (K2 : Int32 → OV → Prop) (x1 : Int32) (vMd : OV) : Prop :=
  (((10 : Int32) ≤ x1 → (∀ v_2 : OV, v_2 = sI vMd 20 (-1 : Int32) → (∃ n_26 : Nat, wp_X8_levels_51_loop Q n_26 (0 : Int32) v_2))) ∧ (¬ ((10 : Int32) ≤ x1) → (vp_in (0 : Int32) 177 ∧ (((vMd.1 0 (0 : Int32).toNatClampNeg) ≤ x1 → (wp_X8_levels_36 Q K2 x1 x1 vMd)) ∧ (¬ ((vMd.1 0 (0 : Int32).toNatClampNeg) ≤ x1) → (wp_X8_ofKey (fun (r_32 : Int32) => ((0 ≤ r_32 → (wp_X8_levels_36 Q K2 x1 x1 vMd)) ∧ (¬ (0 ≤ r_32) → (wp_X8_levels_37 Q K2 x1 x1 (0 : Int32) vMd)))) x1 (2 : Int32) vMd))))))
set_option maxRecDepth 20000 in
theorem lb_X8_levels_2 {X : List Cond} {l : Launch} {D : va_G} {G : Nat → ClassId} {C : Cx} {bs0 : List va_W} {hMd : Nat} {qMd : Nat → Nat} {Q : Int32 → OV → Prop} {K2 : Int32 → OV → Prop} (F : GF C X cX8_levels wsX8_levels RX8 rm_X8_levels 5 (some .boolean) D G l) (E : GE C bs0 0 0 (po_X8_levels G hMd qMd Q)) (hK2 : ∀ (x1 : Int32) (vMd : OV), K2 x1 vMd → GW C 0 0 [bMd G hMd qMd vMd] 2 [(0, .ref hMd), (1, .int x1)] []) {x1 : Int32} {vMd : OV} (hw : wp_X8_levels_2 Q K2 x1 vMd) : GW C 0 0 [bMd G hMd qMd vMd] 2 [(0, .ref hMd), (1, .int x1)] [] := by
  unfold wp_X8_levels_2 at hw
  refine gw_iload_n F dX8_levels_2 1 rfl ?_
  refine gw_bipush (v := (10 : Int32)) F dX8_levels_3 ic_bipush_10 ?_
  refine gw_icmp_ge (tgt := 44) F dX8_levels_5 (by decide) (fun c_1 => ?_) (fun c_1 => ?_)
  · have hw := hw.1 c_1
    refine gw_aload_n F dX8_levels_44 0 rfl ?_
    refine gw_iconst (v := (-1 : Int32)) F dX8_levels_45 ic_iconst_m1 ?_
    obtain ⟨v_2, e_v_2⟩ : ∃ z : OV, z = sI vMd 20 (-1 : Int32) := ⟨_, rfl⟩
    have hw := hw v_2 e_v_2
    refine gw_put (bs' := [bMd G hMd qMd v_2]) F in_X8_levels_RX8 tyX8 tyX8_ok nmX8 0 rfl rfl 20 (by decide) lk_X8_levels_125 rfl rfl rfl (Nat.le_of_ble_eq_true rfl) dX8_levels_46 (by rw [e_v_2]; rfl) ?_
    refine gw_iconst (v := (0 : Int32)) F dX8_levels_49 ic_iconst_0 ?_
    refine gw_istore_n (lv' := [(1, .int (0 : Int32)), (0, .ref hMd)]) F dX8_levels_50 (by decide) rfl ?_
    refine gw_lv [1, 0] rfl ?_
    obtain ⟨n_26, hw⟩ := hw
    exact lp_X8_levels_51 F E n_26 _ _ hw
  · have hw := hw.2 c_1
    refine gw_aload_n F dX8_levels_8 0 rfl ?_
    refine gw_get F in_X8_levels_RX8 0 rfl rfl 18 (by decide) lk_X8_levels_36 rfl dX8_levels_9 ?_
    refine gw_iload_n F dX8_levels_12 1 rfl ?_
    refine gw_iload_n F dX8_levels_13 1 rfl ?_
    refine gw_aload_n F dX8_levels_14 0 rfl ?_
    refine gw_get F in_X8_levels_RX8 0 rfl rfl 0 (by decide) lk_X8_levels_7 rfl dX8_levels_15 ?_
    refine gw_iconst (v := (0 : Int32)) F dX8_levels_18 ic_iconst_0 ?_
    obtain ⟨h_27, hw⟩ := hw
    refine gw_iald F 1 rfl h_27 dX8_levels_19 ?_
    refine gw_icmp_ge (tgt := 36) F dX8_levels_20 (by decide) (fun c_28 => ?_) (fun c_28 => ?_)
    · have hw := hw.1 c_28
      exact lb_X8_levels_36 F E hK2 hw
    · have hw := hw.2 c_28
      refine gw_aload_n F dX8_levels_23 0 rfl ?_
      refine gw_iload_n F dX8_levels_24 1 rfl ?_
      refine gw_iconst (v := (2 : Int32)) F dX8_levels_25 ic_iconst_2 ?_
      refine gw_callV F (ct_X8_ofKey hw) 2 gX8_levels_X8_ofKey rfl rfl rfl hd_X8_ofKey ⟨(Nat.le_of_ble_eq_true rfl), (Nat.le_of_ble_eq_true rfl)⟩ rfl rfl (Nat.le_of_ble_eq_true rfl) ⟨Nat.zero_le _, Nat.zero_le _⟩ [0] (bsr := []) rfl rfl (q0 := 0) rfl rfl dX8_levels_26 ?_
      rintro _ _ ⟨r_32, rfl, rfl, hw⟩
      refine gw_sel [0] (bs' := [bMd G hMd qMd vMd]) rfl rfl ?_
      change GW C 0 0 _ 29 _ [.int r_32, .int x1, .ref (qMd 18)]
      refine gw_if_ge (tgt := 36) F dX8_levels_29 (by decide) (fun c_33 => ?_) (fun c_33 => ?_)
      · have hw := hw.1 c_33
        exact lb_X8_levels_36 F E hK2 hw
      · have hw := hw.2 c_33
        refine gw_iconst (v := (0 : Int32)) F dX8_levels_32 ic_iconst_0 ?_
        refine gw_goto (tgt := 37) F dX8_levels_33 (by decide) ?_
        exact lb_X8_levels_37 F E hK2 hw
def wp_X8_levels_2_loop (Q : Int32 → OV → Prop) : Nat → Int32 → OV → Prop
  | 0, _, _ => False
  | n + 1, x1, vMd => wp_X8_levels_2 Q (wp_X8_levels_2_loop Q n) x1 vMd
theorem lp_X8_levels_2 {X : List Cond} {l : Launch} {D : va_G} {G : Nat → ClassId} {C : Cx} {bs0 : List va_W} {hMd : Nat} {qMd : Nat → Nat} {Q : Int32 → OV → Prop} (F : GF C X cX8_levels wsX8_levels RX8 rm_X8_levels 5 (some .boolean) D G l) (E : GE C bs0 0 0 (po_X8_levels G hMd qMd Q)) : ∀ (n : Nat) (x1 : Int32) (vMd : OV), wp_X8_levels_2_loop Q n x1 vMd → GW C 0 0 [bMd G hMd qMd vMd] 2 [(0, .ref hMd), (1, .int x1)] [] := by
  intro n
  induction n with
  | zero => intro x1 vMd hw; exact False.elim hw
  | succ n ih => intro x1 vMd hw; exact lb_X8_levels_2 (K2 := wp_X8_levels_2_loop Q n) F E ih hw
def wp_X8_levels_0 (Q : Int32 → OV → Prop) (vMd : OV) : Prop :=
  (∃ n_34 : Nat, wp_X8_levels_2_loop Q n_34 (0 : Int32) vMd)
set_option maxRecDepth 20000 in
theorem lb_X8_levels_0 {X : List Cond} {l : Launch} {D : va_G} {G : Nat → ClassId} {C : Cx} {bs0 : List va_W} {hMd : Nat} {qMd : Nat → Nat} {Q : Int32 → OV → Prop} (F : GF C X cX8_levels wsX8_levels RX8 rm_X8_levels 5 (some .boolean) D G l) (E : GE C bs0 0 0 (po_X8_levels G hMd qMd Q)) {vMd : OV} (hw : wp_X8_levels_0 Q vMd) : GW C 0 0 [bMd G hMd qMd vMd] 0 [(0, .ref hMd)] [] := by
  unfold wp_X8_levels_0 at hw
  refine gw_iconst (v := (0 : Int32)) F dX8_levels_0 ic_iconst_0 ?_
  refine gw_istore_n (lv' := [(1, .int (0 : Int32)), (0, .ref hMd)]) F dX8_levels_1 (by decide) rfl ?_
  refine gw_lv [1, 0] rfl ?_
  obtain ⟨n_34, hw⟩ := hw
  exact lp_X8_levels_2 F E n_34 _ _ hw
def wp_X8_levels (Q : Int32 → OV → Prop) (vMd : OV) : Prop := wp_X8_levels_0 Q vMd
theorem ct_X8_levels {X : List Cond} {l : Launch} {D : va_G} {G : Nat → ClassId} {hMd : Nat} {qMd : Nat → Nat} {Q : Int32 → OV → Prop} {vMd : OV} (hw : wp_X8_levels Q vMd) : CM X l yX8_levels wsX8_levels rm_X8_levels D G [.ref hMd] [bMd G hMd qMd vMd] 0 0 (po_X8_levels G hMd qMd Q) :=
  CM.of pn_RX8 rfl rfl (Nat.le_of_ble_eq_true rfl) rfl (fun C F E => lb_X8_levels_0 F E hw)
-- X8_takes
def rm_X8_takes (n : Nat) : Room := { frames := 4 + n, cells := 0, slots := 0, locals := 126 + n * 24 }
def po_X8_takes (G : Nat → ClassId) (hMd : Nat) (qMd : Nat → Nat) (Q : Int32 → OV → Prop) : Option Value → List va_W → Prop := fun o bs => ∃ (r : Int32) (vMd : OV), o = some (.int r) ∧ bs = [bMd G hMd qMd vMd] ∧ Q r vMd
theorem hd_X8_takes : yX8_takes.cls = RX8 ∧ yX8_takes.cls ≠ "java/lang/invoke/MethodHandle" ∧ yX8_takes.cls ≠ "java/lang/invoke/VarHandle" ∧ (parseMethodDescriptor yX8_takes.desc).map (fun d => d.parameters.length) = some 1 := by decide +kernel
theorem in_X8_takes_RX8 : ∀ w ∈ wsX80, w ∈ wsX8_takes := fun w h => List.mem_cons_of_mem _ (List.mem_append_left _ (List.mem_append_right _ h))
theorem lk_X8_takes_7 : Cond.fieldLink RX8 7 "KeyWavesModel" "g" "[I" ∈ wsX8_takes := List.mem_cons_of_mem _ (List.mem_append_left _ (List.mem_append_left _ (List.mem_append_left _ (List.mem_of_getElem? (i := 0) rfl))))
theorem lk_X8_takes_39 : Cond.fieldLink RX8 39 "KeyWavesModel" "isGivenUp" "[Z" ∈ wsX8_takes := List.mem_cons_of_mem _ (List.mem_append_left _ (List.mem_append_left _ (List.mem_append_left _ (List.mem_of_getElem? (i := 3) rfl))))
theorem lk_X8_takes_36 : Cond.fieldLink RX8 36 "KeyWavesModel" "level" "[I" ∈ wsX8_takes := List.mem_cons_of_mem _ (List.mem_append_left _ (List.mem_append_left _ (List.mem_append_left _ (List.mem_of_getElem? (i := 1) rfl))))
theorem lk_X8_takes_125 : Cond.fieldLink RX8 125 "KeyWavesModel" "last" "I" ∈ wsX8_takes := List.mem_cons_of_mem _ (List.mem_append_left _ (List.mem_append_left _ (List.mem_append_left _ (List.mem_of_getElem? (i := 2) rfl))))
def wp_X8_takes_105 (Q : Int32 → OV → Prop) (Rc : (Int32 → OV → Prop) → Int32 → OV → Prop) (K2 : Int32 → Int32 → OV → Prop) (x1 x2 : Int32) (vMd : OV) : Prop :=
  (∀ i_11 : Int32, i_11 = x2 + (1 : Int32) → (K2 x1 i_11 vMd))
set_option maxRecDepth 20000 in
theorem lb_X8_takes_105 {X : List Cond} {l : Launch} {D : va_G} {G : Nat → ClassId} {C : Cx} {bs0 : List va_W} {n9 : Nat} {hMd : Nat} {qMd : Nat → Nat} {Q : Int32 → OV → Prop} {Rc : (Int32 → OV → Prop) → Int32 → OV → Prop} {K2 : Int32 → Int32 → OV → Prop} (F : GF C X cX8_takes wsX8_takes RX8 (rm_X8_takes (n9 + 1)) 5 (some .boolean) D G l) (E : GE C bs0 0 0 (po_X8_takes G hMd qMd Q)) (hRc : ∀ (Q0 : Int32 → OV → Prop) (y1 : Int32) (vMd : OV), Rc Q0 y1 vMd → CM X l yX8_takes wsX8_takes (rm_X8_takes n9) D G [.ref hMd, .int y1] [bMd G hMd qMd vMd] 0 0 (po_X8_takes G hMd qMd Q0)) (hK2 : ∀ (x1 x2 : Int32) (vMd : OV), K2 x1 x2 vMd → GW C 0 0 [bMd G hMd qMd vMd] 2 [(0, .ref hMd), (1, .int x1), (2, .int x2)] []) {x1 x2 : Int32} {vMd : OV} (hw : wp_X8_takes_105 Q Rc K2 x1 x2 vMd) : GW C 0 0 [bMd G hMd qMd vMd] 105 [(0, .ref hMd), (1, .int x1), (2, .int x2)] [] := by
  unfold wp_X8_takes_105 at hw
  obtain ⟨i_11, e_i_11⟩ : ∃ z : Int32, z = x2 + (1 : Int32) := ⟨_, rfl⟩
  have hw := hw i_11 e_i_11
  refine gw_iinc (v := i_11) (lv' := [(2, .int i_11), (0, .ref hMd), (1, .int x1)]) F dX8_takes_105 2 rfl (by rw [e_i_11]; rfl) (by decide) rfl ?_
  refine gw_goto (tgt := 2) F dX8_takes_108 (by decide) ?_
  refine gw_lv [1, 2, 0] rfl ?_
  exact hK2 _ _ _ hw
def wp_X8_takes_87 (Q : Int32 → OV → Prop) (Rc : (Int32 → OV → Prop) → Int32 → OV → Prop) (K2 : Int32 → Int32 → OV → Prop) (x1 x2 s0 : Int32) (vMd : OV) : Prop :=
  ((¬ s0 = 0 → (wp_X8_puts (fun (v_10 : OV) => (Q (1 : Int32) v_10)) x1 x2 vMd)) ∧ (s0 = 0 → (wp_X8_takes_105 Q Rc K2 x1 x2 vMd)))
set_option maxRecDepth 20000 in
theorem lb_X8_takes_87 {X : List Cond} {l : Launch} {D : va_G} {G : Nat → ClassId} {C : Cx} {bs0 : List va_W} {n9 : Nat} {hMd : Nat} {qMd : Nat → Nat} {Q : Int32 → OV → Prop} {Rc : (Int32 → OV → Prop) → Int32 → OV → Prop} {K2 : Int32 → Int32 → OV → Prop} (F : GF C X cX8_takes wsX8_takes RX8 (rm_X8_takes (n9 + 1)) 5 (some .boolean) D G l) (E : GE C bs0 0 0 (po_X8_takes G hMd qMd Q)) (hRc : ∀ (Q0 : Int32 → OV → Prop) (y1 : Int32) (vMd : OV), Rc Q0 y1 vMd → CM X l yX8_takes wsX8_takes (rm_X8_takes n9) D G [.ref hMd, .int y1] [bMd G hMd qMd vMd] 0 0 (po_X8_takes G hMd qMd Q0)) (hK2 : ∀ (x1 x2 : Int32) (vMd : OV), K2 x1 x2 vMd → GW C 0 0 [bMd G hMd qMd vMd] 2 [(0, .ref hMd), (1, .int x1), (2, .int x2)] []) {x1 x2 s0 : Int32} {vMd : OV} (hw : wp_X8_takes_87 Q Rc K2 x1 x2 s0 vMd) : GW C 0 0 [bMd G hMd qMd vMd] 87 [(0, .ref hMd), (1, .int x1), (2, .int x2)] [.int s0] := by
  unfold wp_X8_takes_87 at hw
  refine gw_istore (lv' := [(4, .int s0), (0, .ref hMd), (1, .int x1), (2, .int x2)]) F dX8_takes_87 (by decide) rfl ?_
  refine gw_iload F dX8_takes_89 0 rfl ?_
  refine gw_if_ne (tgt := 97) F dX8_takes_91 (by decide) (fun c_9 => ?_) (fun c_9 => ?_)
  · have hw := hw.1 c_9
    refine gw_aload_n F dX8_takes_97 1 rfl ?_
    refine gw_iload_n F dX8_takes_98 2 rfl ?_
    refine gw_iload_n F dX8_takes_99 3 rfl ?_
    refine gw_callV F (ct_X8_puts hw) 2 gX8_takes_X8_puts rfl rfl rfl hd_X8_puts ⟨by simp only [rm_X8_takes, rm_X8_puts]; omega, by simp only [rm_X8_takes, rm_X8_puts]; omega⟩ rfl rfl (Nat.le_of_ble_eq_true rfl) ⟨Nat.zero_le _, Nat.zero_le _⟩ [0] (bsr := []) rfl rfl (q0 := 0) rfl rfl dX8_takes_100 ?_
    rintro _ _ ⟨v_10, rfl, rfl, hw⟩
    refine gw_sel [0] (bs' := [bMd G hMd qMd v_10]) rfl rfl ?_
    change GW C 0 0 _ 103 _ []
    refine gw_iconst (v := (1 : Int32)) F dX8_takes_103 ic_iconst_1 ?_
    exact gw_iret F E rfl rfl (Nat.le_of_ble_eq_true rfl) (Nat.le_of_ble_eq_true rfl) dX8_takes_104 ⟨_, _, rfl, rfl, hw⟩
  · have hw := hw.2 c_9
    refine gw_goto (tgt := 105) F dX8_takes_94 (by decide) ?_
    refine gw_lv [1, 2, 3] rfl ?_
    exact lb_X8_takes_105 F E hRc hK2 hw
def wp_X8_takes_82 (Q : Int32 → OV → Prop) (Rc : (Int32 → OV → Prop) → Int32 → OV → Prop) (K2 : Int32 → Int32 → OV → Prop) (x1 x2 : Int32) (vMd : OV) : Prop :=
  (wp_X8_takes_87 Q Rc K2 x1 x2 (1 : Int32) vMd)
set_option maxRecDepth 20000 in
theorem lb_X8_takes_82 {X : List Cond} {l : Launch} {D : va_G} {G : Nat → ClassId} {C : Cx} {bs0 : List va_W} {n9 : Nat} {hMd : Nat} {qMd : Nat → Nat} {Q : Int32 → OV → Prop} {Rc : (Int32 → OV → Prop) → Int32 → OV → Prop} {K2 : Int32 → Int32 → OV → Prop} (F : GF C X cX8_takes wsX8_takes RX8 (rm_X8_takes (n9 + 1)) 5 (some .boolean) D G l) (E : GE C bs0 0 0 (po_X8_takes G hMd qMd Q)) (hRc : ∀ (Q0 : Int32 → OV → Prop) (y1 : Int32) (vMd : OV), Rc Q0 y1 vMd → CM X l yX8_takes wsX8_takes (rm_X8_takes n9) D G [.ref hMd, .int y1] [bMd G hMd qMd vMd] 0 0 (po_X8_takes G hMd qMd Q0)) (hK2 : ∀ (x1 x2 : Int32) (vMd : OV), K2 x1 x2 vMd → GW C 0 0 [bMd G hMd qMd vMd] 2 [(0, .ref hMd), (1, .int x1), (2, .int x2)] []) {x1 x2 : Int32} {vMd : OV} (hw : wp_X8_takes_82 Q Rc K2 x1 x2 vMd) : GW C 0 0 [bMd G hMd qMd vMd] 82 [(0, .ref hMd), (1, .int x1), (2, .int x2)] [] := by
  unfold wp_X8_takes_82 at hw
  refine gw_iconst (v := (1 : Int32)) F dX8_takes_82 ic_iconst_1 ?_
  refine gw_goto (tgt := 87) F dX8_takes_83 (by decide) ?_
  exact lb_X8_takes_87 F E hRc hK2 hw
def wp_X8_takes_86 (Q : Int32 → OV → Prop) (Rc : (Int32 → OV → Prop) → Int32 → OV → Prop) (K2 : Int32 → Int32 → OV → Prop) (x1 x2 : Int32) (vMd : OV) : Prop :=
  (wp_X8_takes_87 Q Rc K2 x1 x2 (0 : Int32) vMd)
set_option maxRecDepth 20000 in
theorem lb_X8_takes_86 {X : List Cond} {l : Launch} {D : va_G} {G : Nat → ClassId} {C : Cx} {bs0 : List va_W} {n9 : Nat} {hMd : Nat} {qMd : Nat → Nat} {Q : Int32 → OV → Prop} {Rc : (Int32 → OV → Prop) → Int32 → OV → Prop} {K2 : Int32 → Int32 → OV → Prop} (F : GF C X cX8_takes wsX8_takes RX8 (rm_X8_takes (n9 + 1)) 5 (some .boolean) D G l) (E : GE C bs0 0 0 (po_X8_takes G hMd qMd Q)) (hRc : ∀ (Q0 : Int32 → OV → Prop) (y1 : Int32) (vMd : OV), Rc Q0 y1 vMd → CM X l yX8_takes wsX8_takes (rm_X8_takes n9) D G [.ref hMd, .int y1] [bMd G hMd qMd vMd] 0 0 (po_X8_takes G hMd qMd Q0)) (hK2 : ∀ (x1 x2 : Int32) (vMd : OV), K2 x1 x2 vMd → GW C 0 0 [bMd G hMd qMd vMd] 2 [(0, .ref hMd), (1, .int x1), (2, .int x2)] []) {x1 x2 : Int32} {vMd : OV} (hw : wp_X8_takes_86 Q Rc K2 x1 x2 vMd) : GW C 0 0 [bMd G hMd qMd vMd] 86 [(0, .ref hMd), (1, .int x1), (2, .int x2)] [] := by
  unfold wp_X8_takes_86 at hw
  refine gw_iconst (v := (0 : Int32)) F dX8_takes_86 ic_iconst_0 ?_
  exact lb_X8_takes_87 F E hRc hK2 hw
def wp_X8_takes_2 (Q : Int32 → OV → Prop) (Rc : (Int32 → OV → Prop) → Int32 → OV → Prop) (K2 : Int32 → Int32 → OV → Prop) (x1 x2 : Int32) (vMd : OV) : Prop :=
  (vp_in (1 : Int32) 177 ∧ (((vMd.1 0 (1 : Int32).toNatClampNeg) ≤ x2 → (vp_in x1 10 ∧ ∀ v_3 : OV, v_3 = sA vMd 19 x1.toNatClampNeg (vp_nar .boolean (1 : Int32)) → (Q (0 : Int32) v_3))) ∧ (¬ ((vMd.1 0 (1 : Int32).toNatClampNeg) ≤ x2) → (wp_X8_isFit (fun (r_5 : Int32) => ((¬ r_5 = 0 → (wp_X8_ofLock (fun (r_7 : Int32) => ((r_7 < 0 → (wp_X8_takes_82 Q Rc K2 x1 x2 vMd)) ∧ (¬ (r_7 < 0) → (vp_in r_7 10 ∧ (vp_in x1 10 ∧ ((¬ (vMd.1 18 r_7.toNatClampNeg) = ((vMd.1 18 x1.toNatClampNeg) + (1 : Int32)) → (wp_X8_takes_86 Q Rc K2 x1 x2 vMd)) ∧ ((vMd.1 18 r_7.toNatClampNeg) = ((vMd.1 18 x1.toNatClampNeg) + (1 : Int32)) → (vp_in r_7 10 ∧ (((vMd.2 20) < (vMd.1 18 r_7.toNatClampNeg) → (wp_X8_takes_86 Q Rc K2 x1 x2 vMd)) ∧ (¬ ((vMd.2 20) < (vMd.1 18 r_7.toNatClampNeg)) → (vp_in r_7 10 ∧ ((¬ (vMd.1 19 r_7.toNatClampNeg) = 0 → (wp_X8_takes_86 Q Rc K2 x1 x2 vMd)) ∧ ((vMd.1 19 r_7.toNatClampNeg) = 0 → (Rc (fun (r_19 : Int32) (v_20 : OV) => ((r_19 = 0 → (wp_X8_takes_86 Q Rc K2 x1 x2 v_20)) ∧ (¬ (r_19 = 0) → (wp_X8_takes_82 Q Rc K2 x1 x2 v_20)))) r_7 vMd)))))))))))))) x2 (1 : Int32) vMd)) ∧ (r_5 = 0 → (wp_X8_takes_105 Q Rc K2 x1 x2 vMd)))) x1 x2 vMd))))
set_option maxRecDepth 20000 in
theorem lb_X8_takes_2 {X : List Cond} {l : Launch} {D : va_G} {G : Nat → ClassId} {C : Cx} {bs0 : List va_W} {n9 : Nat} {hMd : Nat} {qMd : Nat → Nat} {Q : Int32 → OV → Prop} {Rc : (Int32 → OV → Prop) → Int32 → OV → Prop} {K2 : Int32 → Int32 → OV → Prop} (F : GF C X cX8_takes wsX8_takes RX8 (rm_X8_takes (n9 + 1)) 5 (some .boolean) D G l) (E : GE C bs0 0 0 (po_X8_takes G hMd qMd Q)) (hRc : ∀ (Q0 : Int32 → OV → Prop) (y1 : Int32) (vMd : OV), Rc Q0 y1 vMd → CM X l yX8_takes wsX8_takes (rm_X8_takes n9) D G [.ref hMd, .int y1] [bMd G hMd qMd vMd] 0 0 (po_X8_takes G hMd qMd Q0)) (hK2 : ∀ (x1 x2 : Int32) (vMd : OV), K2 x1 x2 vMd → GW C 0 0 [bMd G hMd qMd vMd] 2 [(0, .ref hMd), (1, .int x1), (2, .int x2)] []) {x1 x2 : Int32} {vMd : OV} (hw : wp_X8_takes_2 Q Rc K2 x1 x2 vMd) : GW C 0 0 [bMd G hMd qMd vMd] 2 [(0, .ref hMd), (1, .int x1), (2, .int x2)] [] := by
  unfold wp_X8_takes_2 at hw
  refine gw_iload_n F dX8_takes_2 2 rfl ?_
  refine gw_aload_n F dX8_takes_3 0 rfl ?_
  refine gw_get F in_X8_takes_RX8 0 rfl rfl 0 (by decide) lk_X8_takes_7 rfl dX8_takes_4 ?_
  refine gw_iconst (v := (1 : Int32)) F dX8_takes_7 ic_iconst_1 ?_
  obtain ⟨h_1, hw⟩ := hw
  refine gw_iald F 1 rfl h_1 dX8_takes_8 ?_
  refine gw_icmp_ge (tgt := 111) F dX8_takes_9 (by decide) (fun c_2 => ?_) (fun c_2 => ?_)
  · have hw := hw.1 c_2
    refine gw_aload_n F dX8_takes_111 0 rfl ?_
    refine gw_get F in_X8_takes_RX8 0 rfl rfl 19 (by decide) lk_X8_takes_39 rfl dX8_takes_112 ?_
    refine gw_iload_n F dX8_takes_115 1 rfl ?_
    refine gw_iconst (v := (1 : Int32)) F dX8_takes_116 ic_iconst_1 ?_
    obtain ⟨h_4, hw⟩ := hw
    obtain ⟨v_3, e_v_3⟩ : ∃ z : OV, z = sA vMd 19 x1.toNatClampNeg (vp_nar .boolean (1 : Int32)) := ⟨_, rfl⟩
    have hw := hw v_3 e_v_3
    refine gw_zast (bs' := [bMd G hMd qMd v_3]) F 9 rfl h_4 dX8_takes_117 (by rw [e_v_3]; rfl) ?_
    refine gw_iconst (v := (0 : Int32)) F dX8_takes_118 ic_iconst_0 ?_
    exact gw_iret F E rfl rfl (Nat.le_of_ble_eq_true rfl) (Nat.le_of_ble_eq_true rfl) dX8_takes_119 ⟨_, _, rfl, rfl, hw⟩
  · have hw := hw.2 c_2
    refine gw_aload_n F dX8_takes_12 0 rfl ?_
    refine gw_iload_n F dX8_takes_13 1 rfl ?_
    refine gw_iload_n F dX8_takes_14 2 rfl ?_
    refine gw_callV F (ct_X8_isFit hw) 2 gX8_takes_X8_isFit rfl rfl rfl hd_X8_isFit ⟨by simp only [rm_X8_takes, rm_X8_isFit]; omega, by simp only [rm_X8_takes, rm_X8_isFit]; omega⟩ rfl rfl (Nat.le_of_ble_eq_true rfl) ⟨Nat.zero_le _, Nat.zero_le _⟩ [0] (bsr := []) rfl rfl (q0 := 0) rfl rfl dX8_takes_15 ?_
    rintro _ _ ⟨r_5, rfl, rfl, hw⟩
    refine gw_sel [0] (bs' := [bMd G hMd qMd vMd]) rfl rfl ?_
    change GW C 0 0 _ 18 _ [.int r_5]
    refine gw_if_ne (tgt := 24) F dX8_takes_18 (by decide) (fun c_6 => ?_) (fun c_6 => ?_)
    · have hw := hw.1 c_6
      refine gw_aload_n F dX8_takes_24 0 rfl ?_
      refine gw_iload_n F dX8_takes_25 2 rfl ?_
      refine gw_iconst (v := (1 : Int32)) F dX8_takes_26 ic_iconst_1 ?_
      refine gw_callV F (ct_X8_ofLock hw) 2 gX8_takes_X8_ofLock rfl rfl rfl hd_X8_ofLock ⟨by simp only [rm_X8_takes, rm_X8_ofLock]; omega, by simp only [rm_X8_takes, rm_X8_ofLock]; omega⟩ rfl rfl (Nat.le_of_ble_eq_true rfl) ⟨Nat.zero_le _, Nat.zero_le _⟩ [0] (bsr := []) rfl rfl (q0 := 0) rfl rfl dX8_takes_27 ?_
      rintro _ _ ⟨r_7, rfl, rfl, hw⟩
      refine gw_sel [0] (bs' := [bMd G hMd qMd vMd]) rfl rfl ?_
      change GW C 0 0 _ 30 _ [.int r_7]
      refine gw_istore_n (lv' := [(3, .int r_7), (0, .ref hMd), (1, .int x1), (2, .int x2)]) F dX8_takes_30 (by decide) rfl ?_
      refine gw_iload_n F dX8_takes_31 0 rfl ?_
      refine gw_if_lt (tgt := 82) F dX8_takes_32 (by decide) (fun c_8 => ?_) (fun c_8 => ?_)
      · have hw := hw.1 c_8
        refine gw_lv [1, 2, 3] rfl ?_
        exact lb_X8_takes_82 F E hRc hK2 hw
      · have hw := hw.2 c_8
        refine gw_aload_n F dX8_takes_35 1 rfl ?_
        refine gw_get F in_X8_takes_RX8 0 rfl rfl 18 (by decide) lk_X8_takes_36 rfl dX8_takes_36 ?_
        refine gw_iload_n F dX8_takes_39 0 rfl ?_
        obtain ⟨h_12, hw⟩ := hw
        refine gw_iald F 8 rfl h_12 dX8_takes_40 ?_
        refine gw_aload_n F dX8_takes_41 1 rfl ?_
        refine gw_get F in_X8_takes_RX8 0 rfl rfl 18 (by decide) lk_X8_takes_36 rfl dX8_takes_42 ?_
        refine gw_iload_n F dX8_takes_45 2 rfl ?_
        obtain ⟨h_13, hw⟩ := hw
        refine gw_iald F 8 rfl h_13 dX8_takes_46 ?_
        refine gw_iconst (v := (1 : Int32)) F dX8_takes_47 ic_iconst_1 ?_
        refine gw_iadd F dX8_takes_48 ?_
        refine gw_icmp_ne (tgt := 86) F dX8_takes_49 (by decide) (fun c_14 => ?_) (fun c_14 => ?_)
        · have hw := hw.1 c_14
          refine gw_lv [1, 2, 3] rfl ?_
          exact lb_X8_takes_86 F E hRc hK2 hw
        · have hw := hw.2 c_14
          refine gw_aload_n F dX8_takes_52 1 rfl ?_
          refine gw_get F in_X8_takes_RX8 0 rfl rfl 18 (by decide) lk_X8_takes_36 rfl dX8_takes_53 ?_
          refine gw_iload_n F dX8_takes_56 0 rfl ?_
          obtain ⟨h_15, hw⟩ := hw
          refine gw_iald F 8 rfl h_15 dX8_takes_57 ?_
          refine gw_aload_n F dX8_takes_58 1 rfl ?_
          refine gw_get F in_X8_takes_RX8 0 rfl rfl 20 (by decide) lk_X8_takes_125 rfl dX8_takes_59 ?_
          refine gw_icmp_gt (tgt := 86) F dX8_takes_62 (by decide) (fun c_16 => ?_) (fun c_16 => ?_)
          · have hw := hw.1 c_16
            refine gw_lv [1, 2, 3] rfl ?_
            exact lb_X8_takes_86 F E hRc hK2 hw
          · have hw := hw.2 c_16
            refine gw_aload_n F dX8_takes_65 1 rfl ?_
            refine gw_get F in_X8_takes_RX8 0 rfl rfl 19 (by decide) lk_X8_takes_39 rfl dX8_takes_66 ?_
            refine gw_iload_n F dX8_takes_69 0 rfl ?_
            obtain ⟨h_17, hw⟩ := hw
            refine gw_zald F 9 rfl h_17 dX8_takes_70 ?_
            refine gw_if_ne (tgt := 86) F dX8_takes_71 (by decide) (fun c_18 => ?_) (fun c_18 => ?_)
            · have hw := hw.1 c_18
              refine gw_lv [1, 2, 3] rfl ?_
              exact lb_X8_takes_86 F E hRc hK2 hw
            · have hw := hw.2 c_18
              refine gw_aload_n F dX8_takes_74 1 rfl ?_
              refine gw_iload_n F dX8_takes_75 0 rfl ?_
              refine gw_callV F (hRc _ _ _ hw) 1 gX8_takes_X8_takes rfl rfl rfl hd_X8_takes ⟨by simp only [rm_X8_takes]; omega, by simp only [rm_X8_takes]; omega⟩ rfl rfl (Nat.le_of_ble_eq_true rfl) ⟨Nat.zero_le _, Nat.zero_le _⟩ [0] (bsr := []) rfl rfl (q0 := 0) rfl rfl dX8_takes_76 ?_
              rintro _ _ ⟨r_19, v_20, rfl, rfl, hw⟩
              refine gw_sel [0] (bs' := [bMd G hMd qMd v_20]) rfl rfl ?_
              change GW C 0 0 _ 79 _ [.int r_19]
              refine gw_if_eq (tgt := 86) F dX8_takes_79 (by decide) (fun c_21 => ?_) (fun c_21 => ?_)
              · have hw := hw.1 c_21
                refine gw_lv [1, 2, 3] rfl ?_
                exact lb_X8_takes_86 F E hRc hK2 hw
              · have hw := hw.2 c_21
                refine gw_lv [1, 2, 3] rfl ?_
                exact lb_X8_takes_82 F E hRc hK2 hw
    · have hw := hw.2 c_6
      refine gw_goto (tgt := 105) F dX8_takes_21 (by decide) ?_
      exact lb_X8_takes_105 F E hRc hK2 hw
def wp_X8_takes_2_loop (Q : Int32 → OV → Prop) (Rc : (Int32 → OV → Prop) → Int32 → OV → Prop) : Nat → Int32 → Int32 → OV → Prop
  | 0, _, _, _ => False
  | n + 1, x1, x2, vMd => wp_X8_takes_2 Q Rc (wp_X8_takes_2_loop Q Rc n) x1 x2 vMd
theorem lp_X8_takes_2 {X : List Cond} {l : Launch} {D : va_G} {G : Nat → ClassId} {C : Cx} {bs0 : List va_W} {n9 : Nat} {hMd : Nat} {qMd : Nat → Nat} {Q : Int32 → OV → Prop} {Rc : (Int32 → OV → Prop) → Int32 → OV → Prop} (F : GF C X cX8_takes wsX8_takes RX8 (rm_X8_takes (n9 + 1)) 5 (some .boolean) D G l) (E : GE C bs0 0 0 (po_X8_takes G hMd qMd Q)) (hRc : ∀ (Q0 : Int32 → OV → Prop) (y1 : Int32) (vMd : OV), Rc Q0 y1 vMd → CM X l yX8_takes wsX8_takes (rm_X8_takes n9) D G [.ref hMd, .int y1] [bMd G hMd qMd vMd] 0 0 (po_X8_takes G hMd qMd Q0)) : ∀ (n : Nat) (x1 x2 : Int32) (vMd : OV), wp_X8_takes_2_loop Q Rc n x1 x2 vMd → GW C 0 0 [bMd G hMd qMd vMd] 2 [(0, .ref hMd), (1, .int x1), (2, .int x2)] [] := by
  intro n
  induction n with
  | zero => intro x1 x2 vMd hw; exact False.elim hw
  | succ n ih => intro x1 x2 vMd hw; exact lb_X8_takes_2 (K2 := wp_X8_takes_2_loop Q Rc n) F E hRc ih hw
def wp_X8_takes_0 (Q : Int32 → OV → Prop) (Rc : (Int32 → OV → Prop) → Int32 → OV → Prop) (x1 : Int32) (vMd : OV) : Prop :=
  (∃ n_22 : Nat, wp_X8_takes_2_loop Q Rc n_22 x1 (0 : Int32) vMd)
set_option maxRecDepth 20000 in
theorem lb_X8_takes_0 {X : List Cond} {l : Launch} {D : va_G} {G : Nat → ClassId} {C : Cx} {bs0 : List va_W} {n9 : Nat} {hMd : Nat} {qMd : Nat → Nat} {Q : Int32 → OV → Prop} {Rc : (Int32 → OV → Prop) → Int32 → OV → Prop} (F : GF C X cX8_takes wsX8_takes RX8 (rm_X8_takes (n9 + 1)) 5 (some .boolean) D G l) (E : GE C bs0 0 0 (po_X8_takes G hMd qMd Q)) (hRc : ∀ (Q0 : Int32 → OV → Prop) (y1 : Int32) (vMd : OV), Rc Q0 y1 vMd → CM X l yX8_takes wsX8_takes (rm_X8_takes n9) D G [.ref hMd, .int y1] [bMd G hMd qMd vMd] 0 0 (po_X8_takes G hMd qMd Q0)) {x1 : Int32} {vMd : OV} (hw : wp_X8_takes_0 Q Rc x1 vMd) : GW C 0 0 [bMd G hMd qMd vMd] 0 [(0, .ref hMd), (1, .int x1)] [] := by
  unfold wp_X8_takes_0 at hw
  refine gw_iconst (v := (0 : Int32)) F dX8_takes_0 ic_iconst_0 ?_
  refine gw_istore_n (lv' := [(2, .int (0 : Int32)), (0, .ref hMd), (1, .int x1)]) F dX8_takes_1 (by decide) rfl ?_
  refine gw_lv [1, 2, 0] rfl ?_
  obtain ⟨n_22, hw⟩ := hw
  exact lp_X8_takes_2 F E hRc n_22 _ _ _ hw
def wp_X8_takes : Nat → (Int32 → OV → Prop) → Int32 → OV → Prop
  | 0, _, _, _ => False
  | n + 1, Q, x1, vMd => wp_X8_takes_0 Q (wp_X8_takes n) x1 vMd
theorem ct9_X8_takes {X : List Cond} {l : Launch} {D : va_G} {G : Nat → ClassId} {hMd : Nat} {qMd : Nat → Nat} : ∀ (n : Nat) (Q : Int32 → OV → Prop) (x1 : Int32) (vMd : OV) (hw : wp_X8_takes n Q x1 vMd), CM X l yX8_takes wsX8_takes (rm_X8_takes n) D G [.ref hMd, .int x1] [bMd G hMd qMd vMd] 0 0 (po_X8_takes G hMd qMd Q) := by
  intro n
  induction n with
  | zero => intro Q x1 vMd hw; exact False.elim hw
  | succ n ih => intro Q x1 vMd hw; exact CM.of pn_RX8 rfl rfl (Nat.le_of_ble_eq_true rfl) rfl (fun C F E => lb_X8_takes_0 F E (fun Q0 x1 vMd h => ih Q0 x1 vMd h) hw)
theorem ct_X8_takes {X : List Cond} {l : Launch} {D : va_G} {G : Nat → ClassId} {hMd : Nat} {qMd : Nat → Nat} {n : Nat} {Q : Int32 → OV → Prop} {x1 : Int32} {vMd : OV} (hw : wp_X8_takes n Q x1 vMd) : CM X l yX8_takes wsX8_takes (rm_X8_takes n) D G [.ref hMd, .int x1] [bMd G hMd qMd vMd] 0 0 (po_X8_takes G hMd qMd Q) := ct9_X8_takes n Q x1 vMd hw
-- X8_adds0
abbrev rm_X8_adds0 : Room := { frames := 17, cells := 0, slots := 0, locals := 438 }
def po_X8_adds0 (G : Nat → ClassId) (hMd : Nat) (qMd : Nat → Nat) (Q : Int32 → OV → Prop) : Option Value → List va_W → Prop := fun o bs => ∃ (r : Int32) (vMd : OV), o = some (.int r) ∧ bs = [bMd G hMd qMd vMd] ∧ Q r vMd
theorem hd_X8_adds0 : yX8_adds0.cls = RX8 ∧ yX8_adds0.cls ≠ "java/lang/invoke/MethodHandle" ∧ yX8_adds0.cls ≠ "java/lang/invoke/VarHandle" ∧ (parseMethodDescriptor yX8_adds0.desc).map (fun d => d.parameters.length) = some 0 := by decide +kernel
theorem in_X8_adds0_RX8 : ∀ w ∈ wsX80, w ∈ wsX8_adds0 := fun w h => List.mem_cons_of_mem _ (List.mem_append_left _ (List.mem_append_right _ h))
theorem lk_X8_adds0_7 : Cond.fieldLink RX8 7 "KeyWavesModel" "g" "[I" ∈ wsX8_adds0 := List.mem_cons_of_mem _ (List.mem_append_left _ (List.mem_append_left _ (List.mem_append_left _ (List.mem_of_getElem? (i := 1) rfl))))
theorem lk_X8_adds0_36 : Cond.fieldLink RX8 36 "KeyWavesModel" "level" "[I" ∈ wsX8_adds0 := List.mem_cons_of_mem _ (List.mem_append_left _ (List.mem_append_left _ (List.mem_append_left _ (List.mem_of_getElem? (i := 2) rfl))))
theorem lk_X8_adds0_39 : Cond.fieldLink RX8 39 "KeyWavesModel" "isGivenUp" "[Z" ∈ wsX8_adds0 := List.mem_cons_of_mem _ (List.mem_append_left _ (List.mem_append_left _ (List.mem_append_left _ (List.mem_of_getElem? (i := 0) rfl))))
def wp_X8_adds0_67 (Q : Int32 → OV → Prop) (K34 : Int32 → Int32 → OV → Prop) (x2 s0 s1 : Int32) (vMd : OV) : Prop :=
  (∀ i_9 : Int32, i_9 = (s0 + s1) → (∀ i_10 : Int32, i_10 = x2 + (1 : Int32) → (K34 i_9 i_10 vMd)))
set_option maxRecDepth 20000 in
theorem lb_X8_adds0_67 {X : List Cond} {l : Launch} {D : va_G} {G : Nat → ClassId} {C : Cx} {bs0 : List va_W} {hMd : Nat} {qMd : Nat → Nat} {Q : Int32 → OV → Prop} {K34 : Int32 → Int32 → OV → Prop} (F : GF C X cX8_adds0 wsX8_adds0 RX8 rm_X8_adds0 3 (some .int) D G l) (E : GE C bs0 0 0 (po_X8_adds0 G hMd qMd Q)) (hK34 : ∀ (x1 x2 : Int32) (vMd : OV), K34 x1 x2 vMd → GW C 0 0 [bMd G hMd qMd vMd] 34 [(0, .ref hMd), (1, .int x1), (2, .int x2)] []) {x2 s0 s1 : Int32} {vMd : OV} (hw : wp_X8_adds0_67 Q K34 x2 s0 s1 vMd) : GW C 0 0 [bMd G hMd qMd vMd] 67 [(0, .ref hMd), (2, .int x2)] [.int s1, .int s0] := by
  unfold wp_X8_adds0_67 at hw
  refine gw_iadd F dX8_adds0_67 ?_
  refine gw_topi (fun i_9 e_i_9 => ?_)
  have hw := hw i_9 e_i_9
  refine gw_istore_n (lv' := [(1, .int i_9), (0, .ref hMd), (2, .int x2)]) F dX8_adds0_68 (by decide) rfl ?_
  obtain ⟨i_10, e_i_10⟩ : ∃ z : Int32, z = x2 + (1 : Int32) := ⟨_, rfl⟩
  have hw := hw i_10 e_i_10
  refine gw_iinc (v := i_10) (lv' := [(2, .int i_10), (1, .int i_9), (0, .ref hMd)]) F dX8_adds0_69 2 rfl (by rw [e_i_10]; rfl) (by decide) rfl ?_
  refine gw_goto (tgt := 34) F dX8_adds0_72 (by decide) ?_
  refine gw_lv [2, 1, 0] rfl ?_
  exact hK34 _ _ _ hw
def wp_X8_adds0_66 (Q : Int32 → OV → Prop) (K34 : Int32 → Int32 → OV → Prop) (x2 s0 : Int32) (vMd : OV) : Prop :=
  (wp_X8_adds0_67 Q K34 x2 s0 (0 : Int32) vMd)
set_option maxRecDepth 20000 in
theorem lb_X8_adds0_66 {X : List Cond} {l : Launch} {D : va_G} {G : Nat → ClassId} {C : Cx} {bs0 : List va_W} {hMd : Nat} {qMd : Nat → Nat} {Q : Int32 → OV → Prop} {K34 : Int32 → Int32 → OV → Prop} (F : GF C X cX8_adds0 wsX8_adds0 RX8 rm_X8_adds0 3 (some .int) D G l) (E : GE C bs0 0 0 (po_X8_adds0 G hMd qMd Q)) (hK34 : ∀ (x1 x2 : Int32) (vMd : OV), K34 x1 x2 vMd → GW C 0 0 [bMd G hMd qMd vMd] 34 [(0, .ref hMd), (1, .int x1), (2, .int x2)] []) {x2 s0 : Int32} {vMd : OV} (hw : wp_X8_adds0_66 Q K34 x2 s0 vMd) : GW C 0 0 [bMd G hMd qMd vMd] 66 [(0, .ref hMd), (2, .int x2)] [.int s0] := by
  unfold wp_X8_adds0_66 at hw
  refine gw_iconst (v := (0 : Int32)) F dX8_adds0_66 ic_iconst_0 ?_
  exact lb_X8_adds0_67 F E hK34 hw
def wp_X8_adds0_34 (Q : Int32 → OV → Prop) (K34 : Int32 → Int32 → OV → Prop) (x1 x2 : Int32) (vMd : OV) : Prop :=
  (vp_in (0 : Int32) 177 ∧ (((vMd.1 0 (0 : Int32).toNatClampNeg) ≤ x2 → (Q x1 vMd)) ∧ (¬ ((vMd.1 0 (0 : Int32).toNatClampNeg) ≤ x2) → (vp_in x2 10 ∧ ((¬ (vMd.1 18 x2.toNatClampNeg) = 0 → (wp_X8_adds0_66 Q K34 x2 x1 vMd)) ∧ ((vMd.1 18 x2.toNatClampNeg) = 0 → (wp_X8_takes 12 (fun (r_11 : Int32) (v_12 : OV) => ((r_11 = 0 → (wp_X8_adds0_66 Q K34 x2 x1 v_12)) ∧ (¬ (r_11 = 0) → (wp_X8_adds0_67 Q K34 x2 x1 (1 : Int32) v_12)))) x2 vMd)))))))
set_option maxRecDepth 20000 in
theorem lb_X8_adds0_34 {X : List Cond} {l : Launch} {D : va_G} {G : Nat → ClassId} {C : Cx} {bs0 : List va_W} {hMd : Nat} {qMd : Nat → Nat} {Q : Int32 → OV → Prop} {K34 : Int32 → Int32 → OV → Prop} (F : GF C X cX8_adds0 wsX8_adds0 RX8 rm_X8_adds0 3 (some .int) D G l) (E : GE C bs0 0 0 (po_X8_adds0 G hMd qMd Q)) (hK34 : ∀ (x1 x2 : Int32) (vMd : OV), K34 x1 x2 vMd → GW C 0 0 [bMd G hMd qMd vMd] 34 [(0, .ref hMd), (1, .int x1), (2, .int x2)] []) {x1 x2 : Int32} {vMd : OV} (hw : wp_X8_adds0_34 Q K34 x1 x2 vMd) : GW C 0 0 [bMd G hMd qMd vMd] 34 [(0, .ref hMd), (1, .int x1), (2, .int x2)] [] := by
  unfold wp_X8_adds0_34 at hw
  refine gw_iload_n F dX8_adds0_34 2 rfl ?_
  refine gw_aload_n F dX8_adds0_35 0 rfl ?_
  refine gw_get F in_X8_adds0_RX8 0 rfl rfl 0 (by decide) lk_X8_adds0_7 rfl dX8_adds0_36 ?_
  refine gw_iconst (v := (0 : Int32)) F dX8_adds0_39 ic_iconst_0 ?_
  obtain ⟨h_5, hw⟩ := hw
  refine gw_iald F 1 rfl h_5 dX8_adds0_40 ?_
  refine gw_icmp_ge (tgt := 75) F dX8_adds0_41 (by decide) (fun c_6 => ?_) (fun c_6 => ?_)
  · have hw := hw.1 c_6
    refine gw_iload_n F dX8_adds0_75 1 rfl ?_
    exact gw_iret F E rfl rfl (Nat.le_of_ble_eq_true rfl) (Nat.le_of_ble_eq_true rfl) dX8_adds0_76 ⟨_, _, rfl, rfl, hw⟩
  · have hw := hw.2 c_6
    refine gw_iload_n F dX8_adds0_44 1 rfl ?_
    refine gw_aload_n F dX8_adds0_45 0 rfl ?_
    refine gw_get F in_X8_adds0_RX8 0 rfl rfl 18 (by decide) lk_X8_adds0_36 rfl dX8_adds0_46 ?_
    refine gw_iload_n F dX8_adds0_49 2 rfl ?_
    obtain ⟨h_7, hw⟩ := hw
    refine gw_iald F 8 rfl h_7 dX8_adds0_50 ?_
    refine gw_if_ne (tgt := 66) F dX8_adds0_51 (by decide) (fun c_8 => ?_) (fun c_8 => ?_)
    · have hw := hw.1 c_8
      refine gw_lv [0, 2] rfl ?_
      exact lb_X8_adds0_66 F E hK34 hw
    · have hw := hw.2 c_8
      refine gw_aload_n F dX8_adds0_54 0 rfl ?_
      refine gw_iload_n F dX8_adds0_55 2 rfl ?_
      refine gw_callV F (ct_X8_takes hw) 1 gX8_adds0_X8_takes rfl rfl rfl hd_X8_takes ⟨(Nat.le_of_ble_eq_true rfl), (Nat.le_of_ble_eq_true rfl)⟩ rfl rfl (Nat.le_of_ble_eq_true rfl) ⟨Nat.zero_le _, Nat.zero_le _⟩ [0] (bsr := []) rfl rfl (q0 := 0) rfl rfl dX8_adds0_56 ?_
      rintro _ _ ⟨r_11, v_12, rfl, rfl, hw⟩
      refine gw_sel [0] (bs' := [bMd G hMd qMd v_12]) rfl rfl ?_
      change GW C 0 0 _ 59 _ [.int r_11, .int x1]
      refine gw_if_eq (tgt := 66) F dX8_adds0_59 (by decide) (fun c_13 => ?_) (fun c_13 => ?_)
      · have hw := hw.1 c_13
        refine gw_lv [0, 2] rfl ?_
        exact lb_X8_adds0_66 F E hK34 hw
      · have hw := hw.2 c_13
        refine gw_iconst (v := (1 : Int32)) F dX8_adds0_62 ic_iconst_1 ?_
        refine gw_goto (tgt := 67) F dX8_adds0_63 (by decide) ?_
        refine gw_lv [0, 2] rfl ?_
        exact lb_X8_adds0_67 F E hK34 hw
def wp_X8_adds0_34_loop (Q : Int32 → OV → Prop) : Nat → Int32 → Int32 → OV → Prop
  | 0, _, _, _ => False
  | n + 1, x1, x2, vMd => wp_X8_adds0_34 Q (wp_X8_adds0_34_loop Q n) x1 x2 vMd
theorem lp_X8_adds0_34 {X : List Cond} {l : Launch} {D : va_G} {G : Nat → ClassId} {C : Cx} {bs0 : List va_W} {hMd : Nat} {qMd : Nat → Nat} {Q : Int32 → OV → Prop} (F : GF C X cX8_adds0 wsX8_adds0 RX8 rm_X8_adds0 3 (some .int) D G l) (E : GE C bs0 0 0 (po_X8_adds0 G hMd qMd Q)) : ∀ (n : Nat) (x1 x2 : Int32) (vMd : OV), wp_X8_adds0_34_loop Q n x1 x2 vMd → GW C 0 0 [bMd G hMd qMd vMd] 34 [(0, .ref hMd), (1, .int x1), (2, .int x2)] [] := by
  intro n
  induction n with
  | zero => intro x1 x2 vMd hw; exact False.elim hw
  | succ n ih => intro x1 x2 vMd hw; exact lb_X8_adds0_34 (K34 := wp_X8_adds0_34_loop Q n) F E ih hw
def wp_X8_adds0_13 (Q : Int32 → OV → Prop) (K13 : Int32 → Int32 → OV → Prop) (x1 x2 : Int32) (vMd : OV) : Prop :=
  (((10 : Int32) ≤ x2 → (∃ n_14 : Nat, wp_X8_adds0_34_loop Q n_14 x1 (0 : Int32) vMd)) ∧ (¬ ((10 : Int32) ≤ x2) → (vp_in x2 10 ∧ ∀ v_15 : OV, v_15 = sA vMd 19 x2.toNatClampNeg (vp_nar .boolean (0 : Int32)) → (∀ i_17 : Int32, i_17 = x2 + (1 : Int32) → (K13 x1 i_17 v_15)))))
set_option maxRecDepth 20000 in
theorem lb_X8_adds0_13 {X : List Cond} {l : Launch} {D : va_G} {G : Nat → ClassId} {C : Cx} {bs0 : List va_W} {hMd : Nat} {qMd : Nat → Nat} {Q : Int32 → OV → Prop} {K13 : Int32 → Int32 → OV → Prop} (F : GF C X cX8_adds0 wsX8_adds0 RX8 rm_X8_adds0 3 (some .int) D G l) (E : GE C bs0 0 0 (po_X8_adds0 G hMd qMd Q)) (hK13 : ∀ (x1 x2 : Int32) (vMd : OV), K13 x1 x2 vMd → GW C 0 0 [bMd G hMd qMd vMd] 13 [(0, .ref hMd), (1, .int x1), (2, .int x2)] []) {x1 x2 : Int32} {vMd : OV} (hw : wp_X8_adds0_13 Q K13 x1 x2 vMd) : GW C 0 0 [bMd G hMd qMd vMd] 13 [(0, .ref hMd), (1, .int x1), (2, .int x2)] [] := by
  unfold wp_X8_adds0_13 at hw
  refine gw_iload_n F dX8_adds0_13 2 rfl ?_
  refine gw_bipush (v := (10 : Int32)) F dX8_adds0_14 ic_bipush_10 ?_
  refine gw_icmp_ge (tgt := 32) F dX8_adds0_16 (by decide) (fun c_4 => ?_) (fun c_4 => ?_)
  · have hw := hw.1 c_4
    refine gw_iconst (v := (0 : Int32)) F dX8_adds0_32 ic_iconst_0 ?_
    refine gw_istore_n (lv' := [(2, .int (0 : Int32)), (0, .ref hMd), (1, .int x1)]) F dX8_adds0_33 (by decide) rfl ?_
    refine gw_lv [1, 2, 0] rfl ?_
    obtain ⟨n_14, hw⟩ := hw
    exact lp_X8_adds0_34 F E n_14 _ _ _ hw
  · have hw := hw.2 c_4
    refine gw_aload_n F dX8_adds0_19 0 rfl ?_
    refine gw_get F in_X8_adds0_RX8 0 rfl rfl 19 (by decide) lk_X8_adds0_39 rfl dX8_adds0_20 ?_
    refine gw_iload_n F dX8_adds0_23 2 rfl ?_
    refine gw_iconst (v := (0 : Int32)) F dX8_adds0_24 ic_iconst_0 ?_
    obtain ⟨h_16, hw⟩ := hw
    obtain ⟨v_15, e_v_15⟩ : ∃ z : OV, z = sA vMd 19 x2.toNatClampNeg (vp_nar .boolean (0 : Int32)) := ⟨_, rfl⟩
    have hw := hw v_15 e_v_15
    refine gw_zast (bs' := [bMd G hMd qMd v_15]) F 9 rfl h_16 dX8_adds0_25 (by rw [e_v_15]; rfl) ?_
    obtain ⟨i_17, e_i_17⟩ : ∃ z : Int32, z = x2 + (1 : Int32) := ⟨_, rfl⟩
    have hw := hw i_17 e_i_17
    refine gw_iinc (v := i_17) (lv' := [(2, .int i_17), (0, .ref hMd), (1, .int x1)]) F dX8_adds0_26 2 rfl (by rw [e_i_17]; rfl) (by decide) rfl ?_
    refine gw_goto (tgt := 13) F dX8_adds0_29 (by decide) ?_
    refine gw_lv [1, 2, 0] rfl ?_
    exact hK13 _ _ _ hw
def wp_X8_adds0_13_loop (Q : Int32 → OV → Prop) : Nat → Int32 → Int32 → OV → Prop
  | 0, _, _, _ => False
  | n + 1, x1, x2, vMd => wp_X8_adds0_13 Q (wp_X8_adds0_13_loop Q n) x1 x2 vMd
theorem lp_X8_adds0_13 {X : List Cond} {l : Launch} {D : va_G} {G : Nat → ClassId} {C : Cx} {bs0 : List va_W} {hMd : Nat} {qMd : Nat → Nat} {Q : Int32 → OV → Prop} (F : GF C X cX8_adds0 wsX8_adds0 RX8 rm_X8_adds0 3 (some .int) D G l) (E : GE C bs0 0 0 (po_X8_adds0 G hMd qMd Q)) : ∀ (n : Nat) (x1 x2 : Int32) (vMd : OV), wp_X8_adds0_13_loop Q n x1 x2 vMd → GW C 0 0 [bMd G hMd qMd vMd] 13 [(0, .ref hMd), (1, .int x1), (2, .int x2)] [] := by
  intro n
  induction n with
  | zero => intro x1 x2 vMd hw; exact False.elim hw
  | succ n ih => intro x1 x2 vMd hw; exact lb_X8_adds0_13 (K13 := wp_X8_adds0_13_loop Q n) F E ih hw
def wp_X8_adds0_0 (Q : Int32 → OV → Prop) (vMd : OV) : Prop :=
  (wp_X8_levels (fun (r_1 : Int32) (v_2 : OV) => ((¬ r_1 = 0 → (∃ n_18 : Nat, wp_X8_adds0_13_loop Q n_18 (0 : Int32) (0 : Int32) v_2)) ∧ (r_1 = 0 → (Q (0 : Int32) v_2)))) vMd)
set_option maxRecDepth 20000 in
theorem lb_X8_adds0_0 {X : List Cond} {l : Launch} {D : va_G} {G : Nat → ClassId} {C : Cx} {bs0 : List va_W} {hMd : Nat} {qMd : Nat → Nat} {Q : Int32 → OV → Prop} (F : GF C X cX8_adds0 wsX8_adds0 RX8 rm_X8_adds0 3 (some .int) D G l) (E : GE C bs0 0 0 (po_X8_adds0 G hMd qMd Q)) {vMd : OV} (hw : wp_X8_adds0_0 Q vMd) : GW C 0 0 [bMd G hMd qMd vMd] 0 [(0, .ref hMd)] [] := by
  unfold wp_X8_adds0_0 at hw
  refine gw_aload_n F dX8_adds0_0 0 rfl ?_
  refine gw_callV F (ct_X8_levels hw) 0 gX8_adds0_X8_levels rfl rfl rfl hd_X8_levels ⟨(Nat.le_of_ble_eq_true rfl), (Nat.le_of_ble_eq_true rfl)⟩ rfl rfl (Nat.le_of_ble_eq_true rfl) ⟨Nat.zero_le _, Nat.zero_le _⟩ [0] (bsr := []) rfl rfl (q0 := 0) rfl rfl dX8_adds0_1 ?_
  rintro _ _ ⟨r_1, v_2, rfl, rfl, hw⟩
  refine gw_sel [0] (bs' := [bMd G hMd qMd v_2]) rfl rfl ?_
  change GW C 0 0 _ 4 _ [.int r_1]
  refine gw_if_ne (tgt := 9) F dX8_adds0_4 (by decide) (fun c_3 => ?_) (fun c_3 => ?_)
  · have hw := hw.1 c_3
    refine gw_iconst (v := (0 : Int32)) F dX8_adds0_9 ic_iconst_0 ?_
    refine gw_istore_n (lv' := [(1, .int (0 : Int32)), (0, .ref hMd)]) F dX8_adds0_10 (by decide) rfl ?_
    refine gw_iconst (v := (0 : Int32)) F dX8_adds0_11 ic_iconst_0 ?_
    refine gw_istore_n (lv' := [(2, .int (0 : Int32)), (1, .int (0 : Int32)), (0, .ref hMd)]) F dX8_adds0_12 (by decide) rfl ?_
    refine gw_lv [2, 1, 0] rfl ?_
    obtain ⟨n_18, hw⟩ := hw
    exact lp_X8_adds0_13 F E n_18 _ _ _ hw
  · have hw := hw.2 c_3
    refine gw_iconst (v := (0 : Int32)) F dX8_adds0_7 ic_iconst_0 ?_
    exact gw_iret F E rfl rfl (Nat.le_of_ble_eq_true rfl) (Nat.le_of_ble_eq_true rfl) dX8_adds0_8 ⟨_, _, rfl, rfl, hw⟩
def wp_X8_adds0 (Q : Int32 → OV → Prop) (vMd : OV) : Prop := wp_X8_adds0_0 Q vMd
theorem ct_X8_adds0 {X : List Cond} {l : Launch} {D : va_G} {G : Nat → ClassId} {hMd : Nat} {qMd : Nat → Nat} {Q : Int32 → OV → Prop} {vMd : OV} (hw : wp_X8_adds0 Q vMd) : CM X l yX8_adds0 wsX8_adds0 rm_X8_adds0 D G [.ref hMd] [bMd G hMd qMd vMd] 0 0 (po_X8_adds0 G hMd qMd Q) :=
  CM.of pn_RX8 rfl rfl (Nat.le_of_ble_eq_true rfl) rfl (fun C F E => lb_X8_adds0_0 F E hw)
-- X8_wave
abbrev rm_X8_wave : Room := { frames := 18, cells := 0, slots := 0, locals := 460 }
def po_X8_wave (G : Nat → ClassId) (hMd : Nat) (qMd : Nat → Nat) (Q : Int32 → OV → Prop) : Option Value → List va_W → Prop := fun o bs => ∃ (r : Int32) (vMd : OV), o = some (.int r) ∧ bs = [bMd G hMd qMd vMd] ∧ Q r vMd
theorem hd_X8_wave : yX8_wave.cls = RX8 ∧ yX8_wave.cls ≠ "java/lang/invoke/MethodHandle" ∧ yX8_wave.cls ≠ "java/lang/invoke/VarHandle" ∧ (parseMethodDescriptor yX8_wave.desc).map (fun d => d.parameters.length) = some 0 := by decide +kernel
theorem in_X8_wave_RX8 : ∀ w ∈ wsX80, w ∈ wsX8_wave := fun w h => List.mem_cons_of_mem _ (List.mem_append_left _ (List.mem_append_right _ h))
theorem lk_X8_wave_7 : Cond.fieldLink RX8 7 "KeyWavesModel" "g" "[I" ∈ wsX8_wave := List.mem_cons_of_mem _ (List.mem_append_left _ (List.mem_append_left _ (List.mem_append_left _ (List.mem_of_getElem? (i := 0) rfl))))
def wp_X8_wave_0 (Q : Int32 → OV → Prop) (vMd : OV) : Prop :=
  (wp_X8_levels (fun (r_1 : Int32) (v_2 : OV) => ((¬ r_1 = 0 → (wp_X8_keeps0 (fun (v_4 : OV) => (wp_X8_adds0 (fun (r_5 : Int32) (v_6 : OV) => (vp_in (3 : Int32) 177 ∧ (vp_in (3 : Int32) 177 ∧ ∀ v_8 : OV, v_8 = sA v_6 0 (3 : Int32).toNatClampNeg ((v_6.1 0 (3 : Int32).toNatClampNeg) + (1 : Int32)) → (vp_in (4 : Int32) 177 ∧ (vp_in (4 : Int32) 177 ∧ ∀ v_11 : OV, v_11 = sA v_8 0 (4 : Int32).toNatClampNeg ((v_8.1 0 (4 : Int32).toNatClampNeg) + r_5) → (Q r_5 v_11)))))) v_4)) v_2)) ∧ (r_1 = 0 → (wp_X8_openMany (fun (r_13 : Int32) => (wp_X8_refuses (fun (r_14 : Int32) (v_15 : OV) => (Q r_14 v_15)) (10 : Int32) r_13 v_2)) v_2)))) vMd)
set_option maxRecDepth 20000 in
theorem lb_X8_wave_0 {X : List Cond} {l : Launch} {D : va_G} {G : Nat → ClassId} {C : Cx} {bs0 : List va_W} {hMd : Nat} {qMd : Nat → Nat} {Q : Int32 → OV → Prop} (F : GF C X cX8_wave wsX8_wave RX8 rm_X8_wave 2 (some .int) D G l) (E : GE C bs0 0 0 (po_X8_wave G hMd qMd Q)) {vMd : OV} (hw : wp_X8_wave_0 Q vMd) : GW C 0 0 [bMd G hMd qMd vMd] 0 [(0, .ref hMd)] [] := by
  unfold wp_X8_wave_0 at hw
  refine gw_aload_n F dX8_wave_0 0 rfl ?_
  refine gw_callV F (ct_X8_levels hw) 0 gX8_wave_X8_levels rfl rfl rfl hd_X8_levels ⟨(Nat.le_of_ble_eq_true rfl), (Nat.le_of_ble_eq_true rfl)⟩ rfl rfl (Nat.le_of_ble_eq_true rfl) ⟨Nat.zero_le _, Nat.zero_le _⟩ [0] (bsr := []) rfl rfl (q0 := 0) rfl rfl dX8_wave_1 ?_
  rintro _ _ ⟨r_1, v_2, rfl, rfl, hw⟩
  refine gw_sel [0] (bs' := [bMd G hMd qMd v_2]) rfl rfl ?_
  change GW C 0 0 _ 4 _ [.int r_1]
  refine gw_if_ne (tgt := 18) F dX8_wave_4 (by decide) (fun c_3 => ?_) (fun c_3 => ?_)
  · have hw := hw.1 c_3
    refine gw_aload_n F dX8_wave_18 0 rfl ?_
    refine gw_aload_n F dX8_wave_19 0 rfl ?_
    refine gw_get F in_X8_wave_RX8 0 rfl rfl 0 (by decide) lk_X8_wave_7 rfl dX8_wave_20 ?_
    refine gw_callV F (ct_X8_keeps0 hw) 1 gX8_wave_X8_keeps rfl rfl rfl hd_X8_keeps ⟨(Nat.le_of_ble_eq_true rfl), (Nat.le_of_ble_eq_true rfl)⟩ rfl rfl (Nat.le_of_ble_eq_true rfl) ⟨Nat.zero_le _, Nat.zero_le _⟩ [0] (bsr := []) rfl rfl (q0 := 0) rfl rfl dX8_wave_23 ?_
    rintro _ _ ⟨v_4, rfl, rfl, hw⟩
    refine gw_sel [0] (bs' := [bMd G hMd qMd v_4]) rfl rfl ?_
    change GW C 0 0 _ 26 _ []
    refine gw_aload_n F dX8_wave_26 0 rfl ?_
    refine gw_callV F (ct_X8_adds0 hw) 0 gX8_wave_X8_adds0 rfl rfl rfl hd_X8_adds0 ⟨(Nat.le_of_ble_eq_true rfl), (Nat.le_of_ble_eq_true rfl)⟩ rfl rfl (Nat.le_of_ble_eq_true rfl) ⟨Nat.zero_le _, Nat.zero_le _⟩ [0] (bsr := []) rfl rfl (q0 := 0) rfl rfl dX8_wave_27 ?_
    rintro _ _ ⟨r_5, v_6, rfl, rfl, hw⟩
    refine gw_sel [0] (bs' := [bMd G hMd qMd v_6]) rfl rfl ?_
    change GW C 0 0 _ 30 _ [.int r_5]
    refine gw_istore_n (lv' := [(1, .int r_5), (0, .ref hMd)]) F dX8_wave_30 (by decide) rfl ?_
    refine gw_aload_n F dX8_wave_31 1 rfl ?_
    refine gw_get F in_X8_wave_RX8 0 rfl rfl 0 (by decide) lk_X8_wave_7 rfl dX8_wave_32 ?_
    refine gw_iconst (v := (3 : Int32)) F dX8_wave_35 ic_iconst_3 ?_
    refine gw_dup2 F dX8_wave_36 rfl rfl ?_
    obtain ⟨h_7, hw⟩ := hw
    refine gw_iald F 1 rfl h_7 dX8_wave_37 ?_
    refine gw_iconst (v := (1 : Int32)) F dX8_wave_38 ic_iconst_1 ?_
    refine gw_iadd F dX8_wave_39 ?_
    obtain ⟨h_9, hw⟩ := hw
    obtain ⟨v_8, e_v_8⟩ : ∃ z : OV, z = sA v_6 0 (3 : Int32).toNatClampNeg ((v_6.1 0 (3 : Int32).toNatClampNeg) + (1 : Int32)) := ⟨_, rfl⟩
    have hw := hw v_8 e_v_8
    refine gw_iast (bs' := [bMd G hMd qMd v_8]) F 1 rfl h_9 dX8_wave_40 (by rw [e_v_8]; rfl) ?_
    refine gw_aload_n F dX8_wave_41 1 rfl ?_
    refine gw_get F in_X8_wave_RX8 0 rfl rfl 0 (by decide) lk_X8_wave_7 rfl dX8_wave_42 ?_
    refine gw_iconst (v := (4 : Int32)) F dX8_wave_45 ic_iconst_4 ?_
    refine gw_dup2 F dX8_wave_46 rfl rfl ?_
    obtain ⟨h_10, hw⟩ := hw
    refine gw_iald F 1 rfl h_10 dX8_wave_47 ?_
    refine gw_iload_n F dX8_wave_48 0 rfl ?_
    refine gw_iadd F dX8_wave_49 ?_
    obtain ⟨h_12, hw⟩ := hw
    obtain ⟨v_11, e_v_11⟩ : ∃ z : OV, z = sA v_8 0 (4 : Int32).toNatClampNeg ((v_8.1 0 (4 : Int32).toNatClampNeg) + r_5) := ⟨_, rfl⟩
    have hw := hw v_11 e_v_11
    refine gw_iast (bs' := [bMd G hMd qMd v_11]) F 1 rfl h_12 dX8_wave_50 (by rw [e_v_11]; rfl) ?_
    refine gw_iload_n F dX8_wave_51 0 rfl ?_
    exact gw_iret F E rfl rfl (Nat.le_of_ble_eq_true rfl) (Nat.le_of_ble_eq_true rfl) dX8_wave_52 ⟨_, _, rfl, rfl, hw⟩
  · have hw := hw.2 c_3
    refine gw_aload_n F dX8_wave_7 0 rfl ?_
    refine gw_bipush (v := (10 : Int32)) F dX8_wave_8 ic_bipush_10 ?_
    refine gw_aload_n F dX8_wave_10 0 rfl ?_
    refine gw_callV F (ct_X8_openMany hw) 0 gX8_wave_X8_openMany rfl rfl rfl hd_X8_openMany ⟨(Nat.le_of_ble_eq_true rfl), (Nat.le_of_ble_eq_true rfl)⟩ rfl rfl (Nat.le_of_ble_eq_true rfl) ⟨Nat.zero_le _, Nat.zero_le _⟩ [0] (bsr := []) rfl rfl (q0 := 0) rfl rfl dX8_wave_11 ?_
    rintro _ _ ⟨r_13, rfl, rfl, hw⟩
    refine gw_sel [0] (bs' := [bMd G hMd qMd v_2]) rfl rfl ?_
    change GW C 0 0 _ 14 _ [.int r_13, .int (10 : Int32), .ref hMd]
    refine gw_callV F (ct_X8_refuses hw) 2 gX8_wave_X8_refuses rfl rfl rfl hd_X8_refuses ⟨(Nat.le_of_ble_eq_true rfl), (Nat.le_of_ble_eq_true rfl)⟩ rfl rfl (Nat.le_of_ble_eq_true rfl) ⟨Nat.zero_le _, Nat.zero_le _⟩ [0] (bsr := []) rfl rfl (q0 := 0) rfl rfl dX8_wave_14 ?_
    rintro _ _ ⟨r_14, v_15, rfl, rfl, hw⟩
    refine gw_sel [0] (bs' := [bMd G hMd qMd v_15]) rfl rfl ?_
    change GW C 0 0 _ 17 _ [.int r_14]
    exact gw_iret F E rfl rfl (Nat.le_of_ble_eq_true rfl) (Nat.le_of_ble_eq_true rfl) dX8_wave_17 ⟨_, _, rfl, rfl, hw⟩
def wp_X8_wave (Q : Int32 → OV → Prop) (vMd : OV) : Prop := wp_X8_wave_0 Q vMd
theorem ct_X8_wave {X : List Cond} {l : Launch} {D : va_G} {G : Nat → ClassId} {hMd : Nat} {qMd : Nat → Nat} {Q : Int32 → OV → Prop} {vMd : OV} (hw : wp_X8_wave Q vMd) : CM X l yX8_wave wsX8_wave rm_X8_wave D G [.ref hMd] [bMd G hMd qMd vMd] 0 0 (po_X8_wave G hMd qMd Q) :=
  CM.of pn_RX8 rfl rfl (Nat.le_of_ble_eq_true rfl) rfl (fun C F E => lb_X8_wave_0 F E hw)
-- X8_fitsOf
abbrev rm_X8_fitsOf : Room := { frames := 4, cells := 0, slots := 0, locals := 126 }
def po_X8_fitsOf (G : Nat → ClassId) (hMd : Nat) (qMd : Nat → Nat) (vMd : OV) (Q : Int32 → Prop) : Option Value → List va_W → Prop := fun o bs => ∃ (r : Int32), o = some (.int r) ∧ bs = [bMd G hMd qMd vMd] ∧ Q r
theorem hd_X8_fitsOf : yX8_fitsOf.cls = RX8 ∧ yX8_fitsOf.cls ≠ "java/lang/invoke/MethodHandle" ∧ yX8_fitsOf.cls ≠ "java/lang/invoke/VarHandle" ∧ (parseMethodDescriptor yX8_fitsOf.desc).map (fun d => d.parameters.length) = some 1 := by decide +kernel
theorem in_X8_fitsOf_RX8 : ∀ w ∈ wsX80, w ∈ wsX8_fitsOf := fun w h => List.mem_cons_of_mem _ (List.mem_append_left _ (List.mem_append_right _ h))
theorem lk_X8_fitsOf_7 : Cond.fieldLink RX8 7 "KeyWavesModel" "g" "[I" ∈ wsX8_fitsOf := List.mem_cons_of_mem _ (List.mem_append_left _ (List.mem_append_left _ (List.mem_of_getElem? (i := 0) rfl)))
def wp_X8_fitsOf_29 (Q : Int32 → Prop) (K4 : Int32 → Int32 → Int32 → Prop) (vMd : OV) (x1 x3 s0 s1 : Int32) : Prop :=
  (∀ i_5 : Int32, i_5 = (s0 + s1) → (∀ i_6 : Int32, i_6 = x3 + (1 : Int32) → (K4 x1 i_5 i_6)))
set_option maxRecDepth 20000 in
theorem lb_X8_fitsOf_29 {X : List Cond} {l : Launch} {D : va_G} {G : Nat → ClassId} {C : Cx} {bs0 : List va_W} {hMd : Nat} {qMd : Nat → Nat} {Q : Int32 → Prop} {K4 : Int32 → Int32 → Int32 → Prop} {vMd : OV} (F : GF C X cX8_fitsOf wsX8_fitsOf RX8 rm_X8_fitsOf 4 (some .int) D G l) (E : GE C bs0 0 0 (po_X8_fitsOf G hMd qMd vMd Q)) (hK4 : ∀ (x1 x2 x3 : Int32), K4 x1 x2 x3 → GW C 0 0 [bMd G hMd qMd vMd] 4 [(0, .ref hMd), (1, .int x1), (2, .int x2), (3, .int x3)] []) {x1 x3 s0 s1 : Int32} (hw : wp_X8_fitsOf_29 Q K4 vMd x1 x3 s0 s1) : GW C 0 0 [bMd G hMd qMd vMd] 29 [(0, .ref hMd), (1, .int x1), (3, .int x3)] [.int s1, .int s0] := by
  unfold wp_X8_fitsOf_29 at hw
  refine gw_iadd F dX8_fitsOf_29 ?_
  refine gw_topi (fun i_5 e_i_5 => ?_)
  have hw := hw i_5 e_i_5
  refine gw_istore_n (lv' := [(2, .int i_5), (0, .ref hMd), (1, .int x1), (3, .int x3)]) F dX8_fitsOf_30 (by decide) rfl ?_
  obtain ⟨i_6, e_i_6⟩ : ∃ z : Int32, z = x3 + (1 : Int32) := ⟨_, rfl⟩
  have hw := hw i_6 e_i_6
  refine gw_iinc (v := i_6) (lv' := [(3, .int i_6), (2, .int i_5), (0, .ref hMd), (1, .int x1)]) F dX8_fitsOf_31 3 rfl (by rw [e_i_6]; rfl) (by decide) rfl ?_
  refine gw_goto (tgt := 4) F dX8_fitsOf_34 (by decide) ?_
  refine gw_lv [2, 3, 1, 0] rfl ?_
  exact hK4 _ _ _ hw
def wp_X8_fitsOf_4 (Q : Int32 → Prop) (K4 : Int32 → Int32 → Int32 → Prop) (vMd : OV) (x1 x2 x3 : Int32) : Prop :=
  (vp_in (1 : Int32) 177 ∧ (((vMd.1 0 (1 : Int32).toNatClampNeg) ≤ x3 → (Q x2)) ∧ (¬ ((vMd.1 0 (1 : Int32).toNatClampNeg) ≤ x3) → (wp_X8_isFit (fun (r_3 : Int32) => ((r_3 = 0 → (wp_X8_fitsOf_29 Q K4 vMd x1 x3 x2 (0 : Int32))) ∧ (¬ (r_3 = 0) → (wp_X8_fitsOf_29 Q K4 vMd x1 x3 x2 (1 : Int32))))) x1 x3 vMd))))
set_option maxRecDepth 20000 in
theorem lb_X8_fitsOf_4 {X : List Cond} {l : Launch} {D : va_G} {G : Nat → ClassId} {C : Cx} {bs0 : List va_W} {hMd : Nat} {qMd : Nat → Nat} {Q : Int32 → Prop} {K4 : Int32 → Int32 → Int32 → Prop} {vMd : OV} (F : GF C X cX8_fitsOf wsX8_fitsOf RX8 rm_X8_fitsOf 4 (some .int) D G l) (E : GE C bs0 0 0 (po_X8_fitsOf G hMd qMd vMd Q)) (hK4 : ∀ (x1 x2 x3 : Int32), K4 x1 x2 x3 → GW C 0 0 [bMd G hMd qMd vMd] 4 [(0, .ref hMd), (1, .int x1), (2, .int x2), (3, .int x3)] []) {x1 x2 x3 : Int32} (hw : wp_X8_fitsOf_4 Q K4 vMd x1 x2 x3) : GW C 0 0 [bMd G hMd qMd vMd] 4 [(0, .ref hMd), (1, .int x1), (2, .int x2), (3, .int x3)] [] := by
  unfold wp_X8_fitsOf_4 at hw
  refine gw_iload_n F dX8_fitsOf_4 3 rfl ?_
  refine gw_aload_n F dX8_fitsOf_5 0 rfl ?_
  refine gw_get F in_X8_fitsOf_RX8 0 rfl rfl 0 (by decide) lk_X8_fitsOf_7 rfl dX8_fitsOf_6 ?_
  refine gw_iconst (v := (1 : Int32)) F dX8_fitsOf_9 ic_iconst_1 ?_
  obtain ⟨h_1, hw⟩ := hw
  refine gw_iald F 1 rfl h_1 dX8_fitsOf_10 ?_
  refine gw_icmp_ge (tgt := 37) F dX8_fitsOf_11 (by decide) (fun c_2 => ?_) (fun c_2 => ?_)
  · have hw := hw.1 c_2
    refine gw_iload_n F dX8_fitsOf_37 2 rfl ?_
    exact gw_iret F E rfl rfl (Nat.le_of_ble_eq_true rfl) (Nat.le_of_ble_eq_true rfl) dX8_fitsOf_38 ⟨_, rfl, rfl, hw⟩
  · have hw := hw.2 c_2
    refine gw_iload_n F dX8_fitsOf_14 2 rfl ?_
    refine gw_aload_n F dX8_fitsOf_15 0 rfl ?_
    refine gw_iload_n F dX8_fitsOf_16 1 rfl ?_
    refine gw_iload_n F dX8_fitsOf_17 3 rfl ?_
    refine gw_callV F (ct_X8_isFit hw) 2 gX8_fitsOf_X8_isFit rfl rfl rfl hd_X8_isFit ⟨(Nat.le_of_ble_eq_true rfl), (Nat.le_of_ble_eq_true rfl)⟩ rfl rfl (Nat.le_of_ble_eq_true rfl) ⟨Nat.zero_le _, Nat.zero_le _⟩ [0] (bsr := []) rfl rfl (q0 := 0) rfl rfl dX8_fitsOf_18 ?_
    rintro _ _ ⟨r_3, rfl, rfl, hw⟩
    refine gw_sel [0] (bs' := [bMd G hMd qMd vMd]) rfl rfl ?_
    change GW C 0 0 _ 21 _ [.int r_3, .int x2]
    refine gw_if_eq (tgt := 28) F dX8_fitsOf_21 (by decide) (fun c_4 => ?_) (fun c_4 => ?_)
    · have hw := hw.1 c_4
      refine gw_iconst (v := (0 : Int32)) F dX8_fitsOf_28 ic_iconst_0 ?_
      refine gw_lv [0, 1, 3] rfl ?_
      exact lb_X8_fitsOf_29 F E hK4 hw
    · have hw := hw.2 c_4
      refine gw_iconst (v := (1 : Int32)) F dX8_fitsOf_24 ic_iconst_1 ?_
      refine gw_goto (tgt := 29) F dX8_fitsOf_25 (by decide) ?_
      refine gw_lv [0, 1, 3] rfl ?_
      exact lb_X8_fitsOf_29 F E hK4 hw
def wp_X8_fitsOf_4_loop (Q : Int32 → Prop) (vMd : OV) : Nat → Int32 → Int32 → Int32 → Prop
  | 0, _, _, _ => False
  | n + 1, x1, x2, x3 => wp_X8_fitsOf_4 Q (wp_X8_fitsOf_4_loop Q vMd n) vMd x1 x2 x3
theorem lp_X8_fitsOf_4 {X : List Cond} {l : Launch} {D : va_G} {G : Nat → ClassId} {C : Cx} {bs0 : List va_W} {hMd : Nat} {qMd : Nat → Nat} {Q : Int32 → Prop} {vMd : OV} (F : GF C X cX8_fitsOf wsX8_fitsOf RX8 rm_X8_fitsOf 4 (some .int) D G l) (E : GE C bs0 0 0 (po_X8_fitsOf G hMd qMd vMd Q)) : ∀ (n : Nat) (x1 x2 x3 : Int32), wp_X8_fitsOf_4_loop Q vMd n x1 x2 x3 → GW C 0 0 [bMd G hMd qMd vMd] 4 [(0, .ref hMd), (1, .int x1), (2, .int x2), (3, .int x3)] [] := by
  intro n
  induction n with
  | zero => intro x1 x2 x3 hw; exact False.elim hw
  | succ n ih => intro x1 x2 x3 hw; exact lb_X8_fitsOf_4 (K4 := wp_X8_fitsOf_4_loop Q vMd n) F E ih hw
def wp_X8_fitsOf_0 (Q : Int32 → Prop) (vMd : OV) (x1 : Int32) : Prop :=
  (∃ n_7 : Nat, wp_X8_fitsOf_4_loop Q vMd n_7 x1 (0 : Int32) (0 : Int32))
set_option maxRecDepth 20000 in
theorem lb_X8_fitsOf_0 {X : List Cond} {l : Launch} {D : va_G} {G : Nat → ClassId} {C : Cx} {bs0 : List va_W} {hMd : Nat} {qMd : Nat → Nat} {Q : Int32 → Prop} {vMd : OV} (F : GF C X cX8_fitsOf wsX8_fitsOf RX8 rm_X8_fitsOf 4 (some .int) D G l) (E : GE C bs0 0 0 (po_X8_fitsOf G hMd qMd vMd Q)) {x1 : Int32} (hw : wp_X8_fitsOf_0 Q vMd x1) : GW C 0 0 [bMd G hMd qMd vMd] 0 [(0, .ref hMd), (1, .int x1)] [] := by
  unfold wp_X8_fitsOf_0 at hw
  refine gw_iconst (v := (0 : Int32)) F dX8_fitsOf_0 ic_iconst_0 ?_
  refine gw_istore_n (lv' := [(2, .int (0 : Int32)), (0, .ref hMd), (1, .int x1)]) F dX8_fitsOf_1 (by decide) rfl ?_
  refine gw_iconst (v := (0 : Int32)) F dX8_fitsOf_2 ic_iconst_0 ?_
  refine gw_istore_n (lv' := [(3, .int (0 : Int32)), (2, .int (0 : Int32)), (0, .ref hMd), (1, .int x1)]) F dX8_fitsOf_3 (by decide) rfl ?_
  refine gw_lv [2, 3, 1, 0] rfl ?_
  obtain ⟨n_7, hw⟩ := hw
  exact lp_X8_fitsOf_4 F E n_7 _ _ _ hw
def wp_X8_fitsOf (Q : Int32 → Prop) (x1 : Int32) (vMd : OV) : Prop := wp_X8_fitsOf_0 Q vMd x1
theorem ct_X8_fitsOf {X : List Cond} {l : Launch} {D : va_G} {G : Nat → ClassId} {hMd : Nat} {qMd : Nat → Nat} {Q : Int32 → Prop} {x1 : Int32} {vMd : OV} (hw : wp_X8_fitsOf Q x1 vMd) : CM X l yX8_fitsOf wsX8_fitsOf rm_X8_fitsOf D G [.ref hMd, .int x1] [bMd G hMd qMd vMd] 0 0 (po_X8_fitsOf G hMd qMd vMd Q) :=
  CM.of pn_RX8 rfl rfl (Nat.le_of_ble_eq_true rfl) rfl (fun C F E => lb_X8_fitsOf_0 F E hw)
-- X8_levelOf
abbrev rm_X8_levelOf : Room := { frames := 5, cells := 0, slots := 0, locals := 150 }
def po_X8_levelOf (G : Nat → ClassId) (hMd : Nat) (qMd : Nat → Nat) (Q : Int32 → OV → Prop) : Option Value → List va_W → Prop := fun o bs => ∃ (r : Int32) (vMd : OV), o = some (.int r) ∧ bs = [bMd G hMd qMd vMd] ∧ Q r vMd
theorem hd_X8_levelOf : yX8_levelOf.cls = RX8 ∧ yX8_levelOf.cls ≠ "java/lang/invoke/MethodHandle" ∧ yX8_levelOf.cls ≠ "java/lang/invoke/VarHandle" ∧ (parseMethodDescriptor yX8_levelOf.desc).map (fun d => d.parameters.length) = some 1 := by decide +kernel
theorem in_X8_levelOf_RX8 : ∀ w ∈ wsX80, w ∈ wsX8_levelOf := fun w h => List.mem_cons_of_mem _ (List.mem_append_left _ (List.mem_append_right _ h))
theorem lk_X8_levelOf_36 : Cond.fieldLink RX8 36 "KeyWavesModel" "level" "[I" ∈ wsX8_levelOf := List.mem_cons_of_mem _ (List.mem_append_left _ (List.mem_append_left _ (List.mem_append_left _ (List.mem_of_getElem? (i := 0) rfl))))
def wp_X8_levelOf_28 (Q : Int32 → OV → Prop) (s0 : Int32) (vMd : OV) : Prop :=
  (Q s0 vMd)
set_option maxRecDepth 20000 in
theorem lb_X8_levelOf_28 {X : List Cond} {l : Launch} {D : va_G} {G : Nat → ClassId} {C : Cx} {bs0 : List va_W} {hMd : Nat} {qMd : Nat → Nat} {Q : Int32 → OV → Prop} (F : GF C X cX8_levelOf wsX8_levelOf RX8 rm_X8_levelOf 3 (some .int) D G l) (E : GE C bs0 0 0 (po_X8_levelOf G hMd qMd Q)) {s0 : Int32} {vMd : OV} (hw : wp_X8_levelOf_28 Q s0 vMd) : GW C 0 0 [bMd G hMd qMd vMd] 28 [] [.int s0] := by
  unfold wp_X8_levelOf_28 at hw
  exact gw_iret F E rfl rfl (Nat.le_of_ble_eq_true rfl) (Nat.le_of_ble_eq_true rfl) dX8_levelOf_28 ⟨_, _, rfl, rfl, hw⟩
def wp_X8_levelOf_18 (Q : Int32 → OV → Prop) (x1 : Int32) (vMd : OV) : Prop :=
  (vp_in x1 10 ∧ (wp_X8_levelOf_28 Q (vMd.1 18 x1.toNatClampNeg) vMd))
set_option maxRecDepth 20000 in
theorem lb_X8_levelOf_18 {X : List Cond} {l : Launch} {D : va_G} {G : Nat → ClassId} {C : Cx} {bs0 : List va_W} {hMd : Nat} {qMd : Nat → Nat} {Q : Int32 → OV → Prop} (F : GF C X cX8_levelOf wsX8_levelOf RX8 rm_X8_levelOf 3 (some .int) D G l) (E : GE C bs0 0 0 (po_X8_levelOf G hMd qMd Q)) {x1 : Int32} {vMd : OV} (hw : wp_X8_levelOf_18 Q x1 vMd) : GW C 0 0 [bMd G hMd qMd vMd] 18 [(0, .ref hMd), (1, .int x1)] [] := by
  unfold wp_X8_levelOf_18 at hw
  refine gw_aload_n F dX8_levelOf_18 0 rfl ?_
  refine gw_get F in_X8_levelOf_RX8 0 rfl rfl 18 (by decide) lk_X8_levelOf_36 rfl dX8_levelOf_19 ?_
  refine gw_iload_n F dX8_levelOf_22 1 rfl ?_
  obtain ⟨h_4, hw⟩ := hw
  refine gw_iald F 8 rfl h_4 dX8_levelOf_23 ?_
  refine gw_goto (tgt := 28) F dX8_levelOf_24 (by decide) ?_
  refine gw_lv [] rfl ?_
  exact lb_X8_levelOf_28 F E hw
def wp_X8_levelOf_0 (Q : Int32 → OV → Prop) (x1 : Int32) (vMd : OV) : Prop :=
  (wp_X8_levels (fun (r_1 : Int32) (v_2 : OV) => ((¬ r_1 = 0 → (wp_X8_levelOf_18 Q x1 v_2)) ∧ (r_1 = 0 → (vp_in x1 10 ∧ (((v_2.1 18 x1.toNatClampNeg) < 0 → (wp_X8_levelOf_28 Q (-1 : Int32) v_2)) ∧ (¬ ((v_2.1 18 x1.toNatClampNeg) < 0) → (wp_X8_levelOf_18 Q x1 v_2))))))) vMd)
set_option maxRecDepth 20000 in
theorem lb_X8_levelOf_0 {X : List Cond} {l : Launch} {D : va_G} {G : Nat → ClassId} {C : Cx} {bs0 : List va_W} {hMd : Nat} {qMd : Nat → Nat} {Q : Int32 → OV → Prop} (F : GF C X cX8_levelOf wsX8_levelOf RX8 rm_X8_levelOf 3 (some .int) D G l) (E : GE C bs0 0 0 (po_X8_levelOf G hMd qMd Q)) {x1 : Int32} {vMd : OV} (hw : wp_X8_levelOf_0 Q x1 vMd) : GW C 0 0 [bMd G hMd qMd vMd] 0 [(0, .ref hMd), (1, .int x1)] [] := by
  unfold wp_X8_levelOf_0 at hw
  refine gw_aload_n F dX8_levelOf_0 0 rfl ?_
  refine gw_callV F (ct_X8_levels hw) 0 gX8_levelOf_X8_levels rfl rfl rfl hd_X8_levels ⟨(Nat.le_of_ble_eq_true rfl), (Nat.le_of_ble_eq_true rfl)⟩ rfl rfl (Nat.le_of_ble_eq_true rfl) ⟨Nat.zero_le _, Nat.zero_le _⟩ [0] (bsr := []) rfl rfl (q0 := 0) rfl rfl dX8_levelOf_1 ?_
  rintro _ _ ⟨r_1, v_2, rfl, rfl, hw⟩
  refine gw_sel [0] (bs' := [bMd G hMd qMd v_2]) rfl rfl ?_
  change GW C 0 0 _ 4 _ [.int r_1]
  refine gw_istore_n (lv' := [(2, .int r_1), (0, .ref hMd), (1, .int x1)]) F dX8_levelOf_4 (by decide) rfl ?_
  refine gw_iload_n F dX8_levelOf_5 0 rfl ?_
  refine gw_if_ne (tgt := 18) F dX8_levelOf_6 (by decide) (fun c_3 => ?_) (fun c_3 => ?_)
  · have hw := hw.1 c_3
    refine gw_lv [1, 2] rfl ?_
    exact lb_X8_levelOf_18 F E hw
  · have hw := hw.2 c_3
    refine gw_aload_n F dX8_levelOf_9 1 rfl ?_
    refine gw_get F in_X8_levelOf_RX8 0 rfl rfl 18 (by decide) lk_X8_levelOf_36 rfl dX8_levelOf_10 ?_
    refine gw_iload_n F dX8_levelOf_13 2 rfl ?_
    obtain ⟨h_5, hw⟩ := hw
    refine gw_iald F 8 rfl h_5 dX8_levelOf_14 ?_
    refine gw_if_lt (tgt := 27) F dX8_levelOf_15 (by decide) (fun c_6 => ?_) (fun c_6 => ?_)
    · have hw := hw.1 c_6
      refine gw_iconst (v := (-1 : Int32)) F dX8_levelOf_27 ic_iconst_m1 ?_
      refine gw_lv [] rfl ?_
      exact lb_X8_levelOf_28 F E hw
    · have hw := hw.2 c_6
      refine gw_lv [1, 2] rfl ?_
      exact lb_X8_levelOf_18 F E hw
def wp_X8_levelOf (Q : Int32 → OV → Prop) (x1 : Int32) (vMd : OV) : Prop := wp_X8_levelOf_0 Q x1 vMd
theorem ct_X8_levelOf {X : List Cond} {l : Launch} {D : va_G} {G : Nat → ClassId} {hMd : Nat} {qMd : Nat → Nat} {Q : Int32 → OV → Prop} {x1 : Int32} {vMd : OV} (hw : wp_X8_levelOf Q x1 vMd) : CM X l yX8_levelOf wsX8_levelOf rm_X8_levelOf D G [.ref hMd, .int x1] [bMd G hMd qMd vMd] 0 0 (po_X8_levelOf G hMd qMd Q) :=
  CM.of pn_RX8 rfl rfl (Nat.le_of_ble_eq_true rfl) rfl (fun C F E => lb_X8_levelOf_0 F E hw)
-- X8_keyOf
abbrev rm_X8_keyOf : Room := { frames := 6, cells := 0, slots := 0, locals := 172 }
def po_X8_keyOf (G : Nat → ClassId) (hMd : Nat) (qMd : Nat → Nat) (Q : Int32 → OV → Prop) : Option Value → List va_W → Prop := fun o bs => ∃ (r : Int32) (vMd : OV), o = some (.int r) ∧ bs = [bMd G hMd qMd vMd] ∧ Q r vMd
theorem hd_X8_keyOf : yX8_keyOf.cls = RX8 ∧ yX8_keyOf.cls ≠ "java/lang/invoke/MethodHandle" ∧ yX8_keyOf.cls ≠ "java/lang/invoke/VarHandle" ∧ (parseMethodDescriptor yX8_keyOf.desc).map (fun d => d.parameters.length) = some 2 := by decide +kernel
def wp_X8_keyOf_27 (Q : Int32 → OV → Prop) (x1 x2 s1 : Int32) (vMd : OV) : Prop :=
  (wp_X8_fails (fun (r_5 : Int32) (v_6 : OV) => ((r_5 = 0 → (((x2).toInt < 3 ∨ 5 < (x2).toInt → (wp_X8_ofKey (fun (r_9 : Int32) => (Q r_9 v_6)) x1 x2 v_6)) ∧ ((x2).toInt = 3 → (wp_X8_levelOf (fun (r_10 : Int32) (v_11 : OV) => (Q r_10 v_11)) x1 v_6)) ∧ ((x2).toInt = 4 → (wp_X8_fitsOf (fun (r_12 : Int32) => (Q r_12 v_6)) x1 v_6)) ∧ ((x2).toInt = 5 → (wp_X8_ofKey (fun (r_13 : Int32) => (Q r_13 v_6)) x1 (3 : Int32) v_6)))) ∧ (¬ (r_5 = 0) → (Q (0 : Int32) v_6)))) s1 vMd)
set_option maxRecDepth 20000 in
theorem lb_X8_keyOf_27 {X : List Cond} {l : Launch} {D : va_G} {G : Nat → ClassId} {C : Cx} {bs0 : List va_W} {hMd : Nat} {qMd : Nat → Nat} {Q : Int32 → OV → Prop} (F : GF C X cX8_keyOf wsX8_keyOf RX8 rm_X8_keyOf 3 (some .int) D G l) (E : GE C bs0 0 0 (po_X8_keyOf G hMd qMd Q)) {x1 x2 s1 : Int32} {vMd : OV} (hw : wp_X8_keyOf_27 Q x1 x2 s1 vMd) : GW C 0 0 [bMd G hMd qMd vMd] 27 [(0, .ref hMd), (1, .int x1), (2, .int x2)] [.int s1, .ref hMd] := by
  unfold wp_X8_keyOf_27 at hw
  refine gw_callV F (ct_X8_fails hw) 1 gX8_keyOf_X8_fails rfl rfl rfl hd_X8_fails ⟨(Nat.le_of_ble_eq_true rfl), (Nat.le_of_ble_eq_true rfl)⟩ rfl rfl (Nat.le_of_ble_eq_true rfl) ⟨Nat.zero_le _, Nat.zero_le _⟩ [0] (bsr := []) rfl rfl (q0 := 0) rfl rfl dX8_keyOf_27 ?_
  rintro _ _ ⟨r_5, v_6, rfl, rfl, hw⟩
  refine gw_sel [0] (bs' := [bMd G hMd qMd v_6]) rfl rfl ?_
  change GW C 0 0 _ 30 _ [.int r_5]
  refine gw_if_eq (tgt := 35) F dX8_keyOf_30 (by decide) (fun c_7 => ?_) (fun c_7 => ?_)
  · have hw := hw.1 c_7
    refine gw_iload_n F dX8_keyOf_35 2 rfl ?_
    rcases tb_3_5 x2 with c_8 | c_8 | c_8 | c_8
    · have hw := hw.1 c_8
      refine gw_tout (tgt := 83) F dX8_keyOf_36 c_8 (by decide) ?_
      refine gw_aload_n F dX8_keyOf_83 0 rfl ?_
      refine gw_iload_n F dX8_keyOf_84 1 rfl ?_
      refine gw_iload_n F dX8_keyOf_85 2 rfl ?_
      refine gw_callV F (ct_X8_ofKey hw) 2 gX8_keyOf_X8_ofKey rfl rfl rfl hd_X8_ofKey ⟨(Nat.le_of_ble_eq_true rfl), (Nat.le_of_ble_eq_true rfl)⟩ rfl rfl (Nat.le_of_ble_eq_true rfl) ⟨Nat.zero_le _, Nat.zero_le _⟩ [0] (bsr := []) rfl rfl (q0 := 0) rfl rfl dX8_keyOf_86 ?_
      rintro _ _ ⟨r_9, rfl, rfl, hw⟩
      refine gw_sel [0] (bs' := [bMd G hMd qMd v_6]) rfl rfl ?_
      change GW C 0 0 _ 89 _ [.int r_9]
      exact gw_iret F E rfl rfl (Nat.le_of_ble_eq_true rfl) (Nat.le_of_ble_eq_true rfl) dX8_keyOf_89 ⟨_, _, rfl, rfl, hw⟩
    · have hw := hw.2.1 c_8
      refine gw_tin (j := 3) (off := 28) (tgt := 64) F dX8_keyOf_36 c_8 (by decide) (by decide) rfl (by decide) ?_
      refine gw_aload_n F dX8_keyOf_64 0 rfl ?_
      refine gw_iload_n F dX8_keyOf_65 1 rfl ?_
      refine gw_callV F (ct_X8_levelOf hw) 1 gX8_keyOf_X8_levelOf rfl rfl rfl hd_X8_levelOf ⟨(Nat.le_of_ble_eq_true rfl), (Nat.le_of_ble_eq_true rfl)⟩ rfl rfl (Nat.le_of_ble_eq_true rfl) ⟨Nat.zero_le _, Nat.zero_le _⟩ [0] (bsr := []) rfl rfl (q0 := 0) rfl rfl dX8_keyOf_66 ?_
      rintro _ _ ⟨r_10, v_11, rfl, rfl, hw⟩
      refine gw_sel [0] (bs' := [bMd G hMd qMd v_11]) rfl rfl ?_
      change GW C 0 0 _ 69 _ [.int r_10]
      exact gw_iret F E rfl rfl (Nat.le_of_ble_eq_true rfl) (Nat.le_of_ble_eq_true rfl) dX8_keyOf_69 ⟨_, _, rfl, rfl, hw⟩
    · have hw := hw.2.2.1 c_8
      refine gw_tin (j := 4) (off := 34) (tgt := 70) F dX8_keyOf_36 c_8 (by decide) (by decide) rfl (by decide) ?_
      refine gw_aload_n F dX8_keyOf_70 0 rfl ?_
      refine gw_iload_n F dX8_keyOf_71 1 rfl ?_
      refine gw_callV F (ct_X8_fitsOf hw) 1 gX8_keyOf_X8_fitsOf rfl rfl rfl hd_X8_fitsOf ⟨(Nat.le_of_ble_eq_true rfl), (Nat.le_of_ble_eq_true rfl)⟩ rfl rfl (Nat.le_of_ble_eq_true rfl) ⟨Nat.zero_le _, Nat.zero_le _⟩ [0] (bsr := []) rfl rfl (q0 := 0) rfl rfl dX8_keyOf_72 ?_
      rintro _ _ ⟨r_12, rfl, rfl, hw⟩
      refine gw_sel [0] (bs' := [bMd G hMd qMd v_6]) rfl rfl ?_
      change GW C 0 0 _ 75 _ [.int r_12]
      exact gw_iret F E rfl rfl (Nat.le_of_ble_eq_true rfl) (Nat.le_of_ble_eq_true rfl) dX8_keyOf_75 ⟨_, _, rfl, rfl, hw⟩
    · have hw := hw.2.2.2 c_8
      refine gw_tin (j := 5) (off := 40) (tgt := 76) F dX8_keyOf_36 c_8 (by decide) (by decide) rfl (by decide) ?_
      refine gw_aload_n F dX8_keyOf_76 0 rfl ?_
      refine gw_iload_n F dX8_keyOf_77 1 rfl ?_
      refine gw_iconst (v := (3 : Int32)) F dX8_keyOf_78 ic_iconst_3 ?_
      refine gw_callV F (ct_X8_ofKey hw) 2 gX8_keyOf_X8_ofKey rfl rfl rfl hd_X8_ofKey ⟨(Nat.le_of_ble_eq_true rfl), (Nat.le_of_ble_eq_true rfl)⟩ rfl rfl (Nat.le_of_ble_eq_true rfl) ⟨Nat.zero_le _, Nat.zero_le _⟩ [0] (bsr := []) rfl rfl (q0 := 0) rfl rfl dX8_keyOf_79 ?_
      rintro _ _ ⟨r_13, rfl, rfl, hw⟩
      refine gw_sel [0] (bs' := [bMd G hMd qMd v_6]) rfl rfl ?_
      change GW C 0 0 _ 82 _ [.int r_13]
      exact gw_iret F E rfl rfl (Nat.le_of_ble_eq_true rfl) (Nat.le_of_ble_eq_true rfl) dX8_keyOf_82 ⟨_, _, rfl, rfl, hw⟩
  · have hw := hw.2 c_7
    refine gw_iconst (v := (0 : Int32)) F dX8_keyOf_33 ic_iconst_0 ?_
    exact gw_iret F E rfl rfl (Nat.le_of_ble_eq_true rfl) (Nat.le_of_ble_eq_true rfl) dX8_keyOf_34 ⟨_, _, rfl, rfl, hw⟩
def wp_X8_keyOf_0 (Q : Int32 → OV → Prop) (x1 : Int32) (x2 : Int32) (vMd : OV) : Prop :=
  (wp_X8_isKey (fun (r_1 : Int32) => ((¬ r_1 = 0 → (wp_X8_in (fun (r_3 : Int32) => ((r_3 = 0 → (wp_X8_keyOf_27 Q x1 x2 (2 : Int32) vMd)) ∧ (¬ (r_3 = 0) → (wp_X8_keyOf_27 Q x1 x2 (0 : Int32) vMd)))) x2 (0 : Int32) (5 : Int32))) ∧ (r_1 = 0 → (wp_X8_keyOf_27 Q x1 x2 (1 : Int32) vMd)))) x1 vMd)
set_option maxRecDepth 20000 in
theorem lb_X8_keyOf_0 {X : List Cond} {l : Launch} {D : va_G} {G : Nat → ClassId} {C : Cx} {bs0 : List va_W} {hMd : Nat} {qMd : Nat → Nat} {Q : Int32 → OV → Prop} (F : GF C X cX8_keyOf wsX8_keyOf RX8 rm_X8_keyOf 3 (some .int) D G l) (E : GE C bs0 0 0 (po_X8_keyOf G hMd qMd Q)) {x1 : Int32} {x2 : Int32} {vMd : OV} (hw : wp_X8_keyOf_0 Q x1 x2 vMd) : GW C 0 0 [bMd G hMd qMd vMd] 0 [(0, .ref hMd), (1, .int x1), (2, .int x2)] [] := by
  unfold wp_X8_keyOf_0 at hw
  refine gw_aload_n F dX8_keyOf_0 0 rfl ?_
  refine gw_aload_n F dX8_keyOf_1 0 rfl ?_
  refine gw_iload_n F dX8_keyOf_2 1 rfl ?_
  refine gw_callV F (ct_X8_isKey hw) 1 gX8_keyOf_X8_isKey rfl rfl rfl hd_X8_isKey ⟨(Nat.le_of_ble_eq_true rfl), (Nat.le_of_ble_eq_true rfl)⟩ rfl rfl (Nat.le_of_ble_eq_true rfl) ⟨Nat.zero_le _, Nat.zero_le _⟩ [0] (bsr := []) rfl rfl (q0 := 0) rfl rfl dX8_keyOf_3 ?_
  rintro _ _ ⟨r_1, rfl, rfl, hw⟩
  refine gw_sel [0] (bs' := [bMd G hMd qMd vMd]) rfl rfl ?_
  change GW C 0 0 _ 6 _ [.int r_1, .ref hMd]
  refine gw_if_ne (tgt := 13) F dX8_keyOf_6 (by decide) (fun c_2 => ?_) (fun c_2 => ?_)
  · have hw := hw.1 c_2
    refine gw_iload_n F dX8_keyOf_13 2 rfl ?_
    refine gw_iconst (v := (0 : Int32)) F dX8_keyOf_14 ic_iconst_0 ?_
    refine gw_iconst (v := (5 : Int32)) F dX8_keyOf_15 ic_iconst_5 ?_
    refine gw_callS F (ct_X8_in hw) 3 gX8_keyOf_X8_in rfl rfl rfl hd_X8_in ⟨(Nat.le_of_ble_eq_true rfl), (Nat.le_of_ble_eq_true rfl)⟩ rfl rfl (Nat.le_of_ble_eq_true rfl) ⟨Nat.zero_le _, Nat.zero_le _⟩ [0] (bsr := [bMd G hMd qMd vMd]) rfl rfl dX8_keyOf_16 ?_
    rintro _ _ ⟨r_3, rfl, rfl, hw⟩
    refine gw_sel [0] (bs' := [bMd G hMd qMd vMd]) rfl rfl ?_
    change GW C 0 0 _ 19 _ [.int r_3, .ref hMd]
    refine gw_if_eq (tgt := 26) F dX8_keyOf_19 (by decide) (fun c_4 => ?_) (fun c_4 => ?_)
    · have hw := hw.1 c_4
      refine gw_iconst (v := (2 : Int32)) F dX8_keyOf_26 ic_iconst_2 ?_
      exact lb_X8_keyOf_27 F E hw
    · have hw := hw.2 c_4
      refine gw_iconst (v := (0 : Int32)) F dX8_keyOf_22 ic_iconst_0 ?_
      refine gw_goto (tgt := 27) F dX8_keyOf_23 (by decide) ?_
      exact lb_X8_keyOf_27 F E hw
  · have hw := hw.2 c_2
    refine gw_iconst (v := (1 : Int32)) F dX8_keyOf_9 ic_iconst_1 ?_
    refine gw_goto (tgt := 27) F dX8_keyOf_10 (by decide) ?_
    exact lb_X8_keyOf_27 F E hw
def wp_X8_keyOf (Q : Int32 → OV → Prop) (x1 : Int32) (x2 : Int32) (vMd : OV) : Prop := wp_X8_keyOf_0 Q x1 x2 vMd
theorem ct_X8_keyOf {X : List Cond} {l : Launch} {D : va_G} {G : Nat → ClassId} {hMd : Nat} {qMd : Nat → Nat} {Q : Int32 → OV → Prop} {x1 : Int32} {x2 : Int32} {vMd : OV} (hw : wp_X8_keyOf Q x1 x2 vMd) : CM X l yX8_keyOf wsX8_keyOf rm_X8_keyOf D G [.ref hMd, .int x1, .int x2] [bMd G hMd qMd vMd] 0 0 (po_X8_keyOf G hMd qMd Q) :=
  CM.of pn_RX8 rfl rfl (Nat.le_of_ble_eq_true rfl) rfl (fun C F E => lb_X8_keyOf_0 F E hw)
-- X8_lockOf
abbrev rm_X8_lockOf : Room := { frames := 4, cells := 0, slots := 0, locals := 126 }
def po_X8_lockOf (G : Nat → ClassId) (hMd : Nat) (qMd : Nat → Nat) (Q : Int32 → OV → Prop) : Option Value → List va_W → Prop := fun o bs => ∃ (r : Int32) (vMd : OV), o = some (.int r) ∧ bs = [bMd G hMd qMd vMd] ∧ Q r vMd
theorem hd_X8_lockOf : yX8_lockOf.cls = RX8 ∧ yX8_lockOf.cls ≠ "java/lang/invoke/MethodHandle" ∧ yX8_lockOf.cls ≠ "java/lang/invoke/VarHandle" ∧ (parseMethodDescriptor yX8_lockOf.desc).map (fun d => d.parameters.length) = some 2 := by decide +kernel
theorem in_X8_lockOf_RX8 : ∀ w ∈ wsX80, w ∈ wsX8_lockOf := fun w h => List.mem_cons_of_mem _ (List.mem_append_left _ (List.mem_append_right _ h))
theorem lk_X8_lockOf_7 : Cond.fieldLink RX8 7 "KeyWavesModel" "g" "[I" ∈ wsX8_lockOf := List.mem_cons_of_mem _ (List.mem_append_left _ (List.mem_append_left _ (List.mem_append_left _ (List.mem_of_getElem? (i := 0) rfl))))
def wp_X8_lockOf_88 (Q : Int32 → OV → Prop) (K61 : Int32 → Int32 → Int32 → OV → Prop) (x1 x4 s0 s1 : Int32) (vMd : OV) : Prop :=
  (∀ i_13 : Int32, i_13 = (s0 + s1) → (∀ i_14 : Int32, i_14 = x4 + (1 : Int32) → (K61 x1 i_13 i_14 vMd)))
set_option maxRecDepth 20000 in
theorem lb_X8_lockOf_88 {X : List Cond} {l : Launch} {D : va_G} {G : Nat → ClassId} {C : Cx} {bs0 : List va_W} {hMd : Nat} {qMd : Nat → Nat} {Q : Int32 → OV → Prop} {K61 : Int32 → Int32 → Int32 → OV → Prop} (F : GF C X cX8_lockOf wsX8_lockOf RX8 rm_X8_lockOf 5 (some .int) D G l) (E : GE C bs0 0 0 (po_X8_lockOf G hMd qMd Q)) (hK61 : ∀ (x1 x3 x4 : Int32) (vMd : OV), K61 x1 x3 x4 vMd → GW C 0 0 [bMd G hMd qMd vMd] 61 [(0, .ref hMd), (1, .int x1), (3, .int x3), (4, .int x4)] []) {x1 x4 s0 s1 : Int32} {vMd : OV} (hw : wp_X8_lockOf_88 Q K61 x1 x4 s0 s1 vMd) : GW C 0 0 [bMd G hMd qMd vMd] 88 [(0, .ref hMd), (1, .int x1), (4, .int x4)] [.int s1, .int s0] := by
  unfold wp_X8_lockOf_88 at hw
  refine gw_iadd F dX8_lockOf_88 ?_
  refine gw_topi (fun i_13 e_i_13 => ?_)
  have hw := hw i_13 e_i_13
  refine gw_istore_n (lv' := [(3, .int i_13), (0, .ref hMd), (1, .int x1), (4, .int x4)]) F dX8_lockOf_89 (by decide) rfl ?_
  obtain ⟨i_14, e_i_14⟩ : ∃ z : Int32, z = x4 + (1 : Int32) := ⟨_, rfl⟩
  have hw := hw i_14 e_i_14
  refine gw_iinc (v := i_14) (lv' := [(4, .int i_14), (3, .int i_13), (0, .ref hMd), (1, .int x1)]) F dX8_lockOf_90 3 rfl (by rw [e_i_14]; rfl) (by decide) rfl ?_
  refine gw_goto (tgt := 61) F dX8_lockOf_93 (by decide) ?_
  refine gw_lv [2, 3, 1, 0] rfl ?_
  exact hK61 _ _ _ _ hw
def wp_X8_lockOf_61 (Q : Int32 → OV → Prop) (K61 : Int32 → Int32 → Int32 → OV → Prop) (x1 x3 x4 : Int32) (vMd : OV) : Prop :=
  (vp_in (0 : Int32) 177 ∧ (((vMd.1 0 (0 : Int32).toNatClampNeg) ≤ x4 → (Q x3 vMd)) ∧ (¬ ((vMd.1 0 (0 : Int32).toNatClampNeg) ≤ x4) → (wp_X8_isFit (fun (r_11 : Int32) => ((r_11 = 0 → (wp_X8_lockOf_88 Q K61 x1 x4 x3 (0 : Int32) vMd)) ∧ (¬ (r_11 = 0) → (wp_X8_lockOf_88 Q K61 x1 x4 x3 (1 : Int32) vMd)))) x4 x1 vMd))))
set_option maxRecDepth 20000 in
theorem lb_X8_lockOf_61 {X : List Cond} {l : Launch} {D : va_G} {G : Nat → ClassId} {C : Cx} {bs0 : List va_W} {hMd : Nat} {qMd : Nat → Nat} {Q : Int32 → OV → Prop} {K61 : Int32 → Int32 → Int32 → OV → Prop} (F : GF C X cX8_lockOf wsX8_lockOf RX8 rm_X8_lockOf 5 (some .int) D G l) (E : GE C bs0 0 0 (po_X8_lockOf G hMd qMd Q)) (hK61 : ∀ (x1 x3 x4 : Int32) (vMd : OV), K61 x1 x3 x4 vMd → GW C 0 0 [bMd G hMd qMd vMd] 61 [(0, .ref hMd), (1, .int x1), (3, .int x3), (4, .int x4)] []) {x1 x3 x4 : Int32} {vMd : OV} (hw : wp_X8_lockOf_61 Q K61 x1 x3 x4 vMd) : GW C 0 0 [bMd G hMd qMd vMd] 61 [(0, .ref hMd), (1, .int x1), (3, .int x3), (4, .int x4)] [] := by
  unfold wp_X8_lockOf_61 at hw
  refine gw_iload F dX8_lockOf_61 3 rfl ?_
  refine gw_aload_n F dX8_lockOf_63 0 rfl ?_
  refine gw_get F in_X8_lockOf_RX8 0 rfl rfl 0 (by decide) lk_X8_lockOf_7 rfl dX8_lockOf_64 ?_
  refine gw_iconst (v := (0 : Int32)) F dX8_lockOf_67 ic_iconst_0 ?_
  obtain ⟨h_9, hw⟩ := hw
  refine gw_iald F 1 rfl h_9 dX8_lockOf_68 ?_
  refine gw_icmp_ge (tgt := 96) F dX8_lockOf_69 (by decide) (fun c_10 => ?_) (fun c_10 => ?_)
  · have hw := hw.1 c_10
    refine gw_iload_n F dX8_lockOf_96 2 rfl ?_
    exact gw_iret F E rfl rfl (Nat.le_of_ble_eq_true rfl) (Nat.le_of_ble_eq_true rfl) dX8_lockOf_97 ⟨_, _, rfl, rfl, hw⟩
  · have hw := hw.2 c_10
    refine gw_iload_n F dX8_lockOf_72 2 rfl ?_
    refine gw_aload_n F dX8_lockOf_73 0 rfl ?_
    refine gw_iload F dX8_lockOf_74 3 rfl ?_
    refine gw_iload_n F dX8_lockOf_76 1 rfl ?_
    refine gw_callV F (ct_X8_isFit hw) 2 gX8_lockOf_X8_isFit rfl rfl rfl hd_X8_isFit ⟨(Nat.le_of_ble_eq_true rfl), (Nat.le_of_ble_eq_true rfl)⟩ rfl rfl (Nat.le_of_ble_eq_true rfl) ⟨Nat.zero_le _, Nat.zero_le _⟩ [0] (bsr := []) rfl rfl (q0 := 0) rfl rfl dX8_lockOf_77 ?_
    rintro _ _ ⟨r_11, rfl, rfl, hw⟩
    refine gw_sel [0] (bs' := [bMd G hMd qMd vMd]) rfl rfl ?_
    change GW C 0 0 _ 80 _ [.int r_11, .int x3]
    refine gw_if_eq (tgt := 87) F dX8_lockOf_80 (by decide) (fun c_12 => ?_) (fun c_12 => ?_)
    · have hw := hw.1 c_12
      refine gw_iconst (v := (0 : Int32)) F dX8_lockOf_87 ic_iconst_0 ?_
      refine gw_lv [0, 1, 3] rfl ?_
      exact lb_X8_lockOf_88 F E hK61 hw
    · have hw := hw.2 c_12
      refine gw_iconst (v := (1 : Int32)) F dX8_lockOf_83 ic_iconst_1 ?_
      refine gw_goto (tgt := 88) F dX8_lockOf_84 (by decide) ?_
      refine gw_lv [0, 1, 3] rfl ?_
      exact lb_X8_lockOf_88 F E hK61 hw
def wp_X8_lockOf_61_loop (Q : Int32 → OV → Prop) : Nat → Int32 → Int32 → Int32 → OV → Prop
  | 0, _, _, _, _ => False
  | n + 1, x1, x3, x4, vMd => wp_X8_lockOf_61 Q (wp_X8_lockOf_61_loop Q n) x1 x3 x4 vMd
theorem lp_X8_lockOf_61 {X : List Cond} {l : Launch} {D : va_G} {G : Nat → ClassId} {C : Cx} {bs0 : List va_W} {hMd : Nat} {qMd : Nat → Nat} {Q : Int32 → OV → Prop} (F : GF C X cX8_lockOf wsX8_lockOf RX8 rm_X8_lockOf 5 (some .int) D G l) (E : GE C bs0 0 0 (po_X8_lockOf G hMd qMd Q)) : ∀ (n : Nat) (x1 x3 x4 : Int32) (vMd : OV), wp_X8_lockOf_61_loop Q n x1 x3 x4 vMd → GW C 0 0 [bMd G hMd qMd vMd] 61 [(0, .ref hMd), (1, .int x1), (3, .int x3), (4, .int x4)] [] := by
  intro n
  induction n with
  | zero => intro x1 x3 x4 vMd hw; exact False.elim hw
  | succ n ih => intro x1 x3 x4 vMd hw; exact lb_X8_lockOf_61 (K61 := wp_X8_lockOf_61_loop Q n) F E ih hw
def wp_X8_lockOf_52 (Q : Int32 → OV → Prop) (s1 s2 : Int32) (vMd : OV) : Prop :=
  (wp_X8_ofLock (fun (r_17 : Int32) => (Q r_17 vMd)) s1 s2 vMd)
set_option maxRecDepth 20000 in
theorem lb_X8_lockOf_52 {X : List Cond} {l : Launch} {D : va_G} {G : Nat → ClassId} {C : Cx} {bs0 : List va_W} {hMd : Nat} {qMd : Nat → Nat} {Q : Int32 → OV → Prop} (F : GF C X cX8_lockOf wsX8_lockOf RX8 rm_X8_lockOf 5 (some .int) D G l) (E : GE C bs0 0 0 (po_X8_lockOf G hMd qMd Q)) {s1 s2 : Int32} {vMd : OV} (hw : wp_X8_lockOf_52 Q s1 s2 vMd) : GW C 0 0 [bMd G hMd qMd vMd] 52 [] [.int s2, .int s1, .ref hMd] := by
  unfold wp_X8_lockOf_52 at hw
  refine gw_callV F (ct_X8_ofLock hw) 2 gX8_lockOf_X8_ofLock rfl rfl rfl hd_X8_ofLock ⟨(Nat.le_of_ble_eq_true rfl), (Nat.le_of_ble_eq_true rfl)⟩ rfl rfl (Nat.le_of_ble_eq_true rfl) ⟨Nat.zero_le _, Nat.zero_le _⟩ [0] (bsr := []) rfl rfl (q0 := 0) rfl rfl dX8_lockOf_52 ?_
  rintro _ _ ⟨r_17, rfl, rfl, hw⟩
  refine gw_sel [0] (bs' := [bMd G hMd qMd vMd]) rfl rfl ?_
  change GW C 0 0 _ 55 _ [.int r_17]
  exact gw_iret F E rfl rfl (Nat.le_of_ble_eq_true rfl) (Nat.le_of_ble_eq_true rfl) dX8_lockOf_55 ⟨_, _, rfl, rfl, hw⟩
def wp_X8_lockOf_27 (Q : Int32 → OV → Prop) (x1 x2 s1 : Int32) (vMd : OV) : Prop :=
  (wp_X8_fails (fun (r_5 : Int32) (v_6 : OV) => ((r_5 = 0 → ((x2 = (2 : Int32) → (∃ n_15 : Nat, wp_X8_lockOf_61_loop Q n_15 x1 (0 : Int32) (0 : Int32) v_6)) ∧ (¬ (x2 = (2 : Int32)) → ((¬ x2 = (3 : Int32) → (wp_X8_lockOf_52 Q x1 x2 v_6)) ∧ (x2 = (3 : Int32) → (wp_X8_lockOf_52 Q x1 (2 : Int32) v_6)))))) ∧ (¬ (r_5 = 0) → (Q (0 : Int32) v_6)))) s1 vMd)
set_option maxRecDepth 20000 in
theorem lb_X8_lockOf_27 {X : List Cond} {l : Launch} {D : va_G} {G : Nat → ClassId} {C : Cx} {bs0 : List va_W} {hMd : Nat} {qMd : Nat → Nat} {Q : Int32 → OV → Prop} (F : GF C X cX8_lockOf wsX8_lockOf RX8 rm_X8_lockOf 5 (some .int) D G l) (E : GE C bs0 0 0 (po_X8_lockOf G hMd qMd Q)) {x1 x2 s1 : Int32} {vMd : OV} (hw : wp_X8_lockOf_27 Q x1 x2 s1 vMd) : GW C 0 0 [bMd G hMd qMd vMd] 27 [(0, .ref hMd), (1, .int x1), (2, .int x2)] [.int s1, .ref hMd] := by
  unfold wp_X8_lockOf_27 at hw
  refine gw_callV F (ct_X8_fails hw) 1 gX8_lockOf_X8_fails rfl rfl rfl hd_X8_fails ⟨(Nat.le_of_ble_eq_true rfl), (Nat.le_of_ble_eq_true rfl)⟩ rfl rfl (Nat.le_of_ble_eq_true rfl) ⟨Nat.zero_le _, Nat.zero_le _⟩ [0] (bsr := []) rfl rfl (q0 := 0) rfl rfl dX8_lockOf_27 ?_
  rintro _ _ ⟨r_5, v_6, rfl, rfl, hw⟩
  refine gw_sel [0] (bs' := [bMd G hMd qMd v_6]) rfl rfl ?_
  change GW C 0 0 _ 30 _ [.int r_5]
  refine gw_if_eq (tgt := 35) F dX8_lockOf_30 (by decide) (fun c_7 => ?_) (fun c_7 => ?_)
  · have hw := hw.1 c_7
    refine gw_iload_n F dX8_lockOf_35 2 rfl ?_
    refine gw_iconst (v := (2 : Int32)) F dX8_lockOf_36 ic_iconst_2 ?_
    refine gw_icmp_eq (tgt := 56) F dX8_lockOf_37 (by decide) (fun c_8 => ?_) (fun c_8 => ?_)
    · have hw := hw.1 c_8
      refine gw_iconst (v := (0 : Int32)) F dX8_lockOf_56 ic_iconst_0 ?_
      refine gw_istore_n (lv' := [(3, .int (0 : Int32)), (0, .ref hMd), (1, .int x1), (2, .int x2)]) F dX8_lockOf_57 (by decide) rfl ?_
      refine gw_iconst (v := (0 : Int32)) F dX8_lockOf_58 ic_iconst_0 ?_
      refine gw_istore (lv' := [(4, .int (0 : Int32)), (3, .int (0 : Int32)), (0, .ref hMd), (1, .int x1), (2, .int x2)]) F dX8_lockOf_59 (by decide) rfl ?_
      refine gw_lv [2, 3, 1, 0] rfl ?_
      obtain ⟨n_15, hw⟩ := hw
      exact lp_X8_lockOf_61 F E n_15 _ _ _ _ hw
    · have hw := hw.2 c_8
      refine gw_aload_n F dX8_lockOf_40 0 rfl ?_
      refine gw_iload_n F dX8_lockOf_41 1 rfl ?_
      refine gw_iload_n F dX8_lockOf_42 2 rfl ?_
      refine gw_iconst (v := (3 : Int32)) F dX8_lockOf_43 ic_iconst_3 ?_
      refine gw_icmp_ne (tgt := 51) F dX8_lockOf_44 (by decide) (fun c_16 => ?_) (fun c_16 => ?_)
      · have hw := hw.1 c_16
        refine gw_iload_n F dX8_lockOf_51 2 rfl ?_
        refine gw_lv [] rfl ?_
        exact lb_X8_lockOf_52 F E hw
      · have hw := hw.2 c_16
        refine gw_iconst (v := (2 : Int32)) F dX8_lockOf_47 ic_iconst_2 ?_
        refine gw_goto (tgt := 52) F dX8_lockOf_48 (by decide) ?_
        refine gw_lv [] rfl ?_
        exact lb_X8_lockOf_52 F E hw
  · have hw := hw.2 c_7
    refine gw_iconst (v := (0 : Int32)) F dX8_lockOf_33 ic_iconst_0 ?_
    exact gw_iret F E rfl rfl (Nat.le_of_ble_eq_true rfl) (Nat.le_of_ble_eq_true rfl) dX8_lockOf_34 ⟨_, _, rfl, rfl, hw⟩
def wp_X8_lockOf_0 (Q : Int32 → OV → Prop) (x1 : Int32) (x2 : Int32) (vMd : OV) : Prop :=
  (wp_X8_isLock (fun (r_1 : Int32) => ((¬ r_1 = 0 → (wp_X8_in (fun (r_3 : Int32) => ((r_3 = 0 → (wp_X8_lockOf_27 Q x1 x2 (2 : Int32) vMd)) ∧ (¬ (r_3 = 0) → (wp_X8_lockOf_27 Q x1 x2 (0 : Int32) vMd)))) x2 (0 : Int32) (3 : Int32))) ∧ (r_1 = 0 → (wp_X8_lockOf_27 Q x1 x2 (1 : Int32) vMd)))) x1 vMd)
set_option maxRecDepth 20000 in
theorem lb_X8_lockOf_0 {X : List Cond} {l : Launch} {D : va_G} {G : Nat → ClassId} {C : Cx} {bs0 : List va_W} {hMd : Nat} {qMd : Nat → Nat} {Q : Int32 → OV → Prop} (F : GF C X cX8_lockOf wsX8_lockOf RX8 rm_X8_lockOf 5 (some .int) D G l) (E : GE C bs0 0 0 (po_X8_lockOf G hMd qMd Q)) {x1 : Int32} {x2 : Int32} {vMd : OV} (hw : wp_X8_lockOf_0 Q x1 x2 vMd) : GW C 0 0 [bMd G hMd qMd vMd] 0 [(0, .ref hMd), (1, .int x1), (2, .int x2)] [] := by
  unfold wp_X8_lockOf_0 at hw
  refine gw_aload_n F dX8_lockOf_0 0 rfl ?_
  refine gw_aload_n F dX8_lockOf_1 0 rfl ?_
  refine gw_iload_n F dX8_lockOf_2 1 rfl ?_
  refine gw_callV F (ct_X8_isLock hw) 1 gX8_lockOf_X8_isLock rfl rfl rfl hd_X8_isLock ⟨(Nat.le_of_ble_eq_true rfl), (Nat.le_of_ble_eq_true rfl)⟩ rfl rfl (Nat.le_of_ble_eq_true rfl) ⟨Nat.zero_le _, Nat.zero_le _⟩ [0] (bsr := []) rfl rfl (q0 := 0) rfl rfl dX8_lockOf_3 ?_
  rintro _ _ ⟨r_1, rfl, rfl, hw⟩
  refine gw_sel [0] (bs' := [bMd G hMd qMd vMd]) rfl rfl ?_
  change GW C 0 0 _ 6 _ [.int r_1, .ref hMd]
  refine gw_if_ne (tgt := 13) F dX8_lockOf_6 (by decide) (fun c_2 => ?_) (fun c_2 => ?_)
  · have hw := hw.1 c_2
    refine gw_iload_n F dX8_lockOf_13 2 rfl ?_
    refine gw_iconst (v := (0 : Int32)) F dX8_lockOf_14 ic_iconst_0 ?_
    refine gw_iconst (v := (3 : Int32)) F dX8_lockOf_15 ic_iconst_3 ?_
    refine gw_callS F (ct_X8_in hw) 3 gX8_lockOf_X8_in rfl rfl rfl hd_X8_in ⟨(Nat.le_of_ble_eq_true rfl), (Nat.le_of_ble_eq_true rfl)⟩ rfl rfl (Nat.le_of_ble_eq_true rfl) ⟨Nat.zero_le _, Nat.zero_le _⟩ [0] (bsr := [bMd G hMd qMd vMd]) rfl rfl dX8_lockOf_16 ?_
    rintro _ _ ⟨r_3, rfl, rfl, hw⟩
    refine gw_sel [0] (bs' := [bMd G hMd qMd vMd]) rfl rfl ?_
    change GW C 0 0 _ 19 _ [.int r_3, .ref hMd]
    refine gw_if_eq (tgt := 26) F dX8_lockOf_19 (by decide) (fun c_4 => ?_) (fun c_4 => ?_)
    · have hw := hw.1 c_4
      refine gw_iconst (v := (2 : Int32)) F dX8_lockOf_26 ic_iconst_2 ?_
      exact lb_X8_lockOf_27 F E hw
    · have hw := hw.2 c_4
      refine gw_iconst (v := (0 : Int32)) F dX8_lockOf_22 ic_iconst_0 ?_
      refine gw_goto (tgt := 27) F dX8_lockOf_23 (by decide) ?_
      exact lb_X8_lockOf_27 F E hw
  · have hw := hw.2 c_2
    refine gw_iconst (v := (1 : Int32)) F dX8_lockOf_9 ic_iconst_1 ?_
    refine gw_goto (tgt := 27) F dX8_lockOf_10 (by decide) ?_
    exact lb_X8_lockOf_27 F E hw
def wp_X8_lockOf (Q : Int32 → OV → Prop) (x1 : Int32) (x2 : Int32) (vMd : OV) : Prop := wp_X8_lockOf_0 Q x1 x2 vMd
theorem ct_X8_lockOf {X : List Cond} {l : Launch} {D : va_G} {G : Nat → ClassId} {hMd : Nat} {qMd : Nat → Nat} {Q : Int32 → OV → Prop} {x1 : Int32} {x2 : Int32} {vMd : OV} (hw : wp_X8_lockOf Q x1 x2 vMd) : CM X l yX8_lockOf wsX8_lockOf rm_X8_lockOf D G [.ref hMd, .int x1, .int x2] [bMd G hMd qMd vMd] 0 0 (po_X8_lockOf G hMd qMd Q) :=
  CM.of pn_RX8 rfl rfl (Nat.le_of_ble_eq_true rfl) rfl (fun C F E => lb_X8_lockOf_0 F E hw)
-- X8_isNoPair
abbrev rm_X8_isNoPair : Room := { frames := 3, cells := 0, slots := 0, locals := 103 }
def po_X8_isNoPair (G : Nat → ClassId) (hMd : Nat) (qMd : Nat → Nat) (Q : Int32 → OV → Prop) : Option Value → List va_W → Prop := fun o bs => ∃ (r : Int32) (vMd : OV), o = some (.int r) ∧ bs = [bMd G hMd qMd vMd] ∧ Q r vMd
theorem hd_X8_isNoPair : yX8_isNoPair.cls = RX8 ∧ yX8_isNoPair.cls ≠ "java/lang/invoke/MethodHandle" ∧ yX8_isNoPair.cls ≠ "java/lang/invoke/VarHandle" ∧ (parseMethodDescriptor yX8_isNoPair.desc).map (fun d => d.parameters.length) = some 2 := by decide +kernel
def wp_X8_isNoPair_22 (Q : Int32 → OV → Prop) (s1 : Int32) (vMd : OV) : Prop :=
  (wp_X8_fails (fun (r_3 : Int32) (v_4 : OV) => (narrow .boolean (.int r_3) = .int r_3 ∧ Q r_3 v_4)) s1 vMd)
set_option maxRecDepth 20000 in
theorem lb_X8_isNoPair_22 {X : List Cond} {l : Launch} {D : va_G} {G : Nat → ClassId} {C : Cx} {bs0 : List va_W} {hMd : Nat} {qMd : Nat → Nat} {Q : Int32 → OV → Prop} (F : GF C X cX8_isNoPair wsX8_isNoPair RX8 rm_X8_isNoPair 3 (some .boolean) D G l) (E : GE C bs0 0 0 (po_X8_isNoPair G hMd qMd Q)) {s1 : Int32} {vMd : OV} (hw : wp_X8_isNoPair_22 Q s1 vMd) : GW C 0 0 [bMd G hMd qMd vMd] 22 [] [.int s1, .ref hMd] := by
  unfold wp_X8_isNoPair_22 at hw
  refine gw_callV F (ct_X8_fails hw) 1 gX8_isNoPair_X8_fails rfl rfl rfl hd_X8_fails ⟨(Nat.le_of_ble_eq_true rfl), (Nat.le_of_ble_eq_true rfl)⟩ rfl rfl (Nat.le_of_ble_eq_true rfl) ⟨Nat.zero_le _, Nat.zero_le _⟩ [0] (bsr := []) rfl rfl (q0 := 0) rfl rfl dX8_isNoPair_22 ?_
  rintro _ _ ⟨r_3, v_4, rfl, rfl, hw⟩
  refine gw_sel [0] (bs' := [bMd G hMd qMd v_4]) rfl rfl ?_
  change GW C 0 0 _ 25 _ [.int r_3]
  obtain ⟨hn, hw⟩ := hw
  exact gw_iret F E rfl hn (Nat.le_of_ble_eq_true rfl) (Nat.le_of_ble_eq_true rfl) dX8_isNoPair_25 ⟨_, _, rfl, rfl, hw⟩
def wp_X8_isNoPair_21 (Q : Int32 → OV → Prop) (vMd : OV) : Prop :=
  (wp_X8_isNoPair_22 Q (1 : Int32) vMd)
set_option maxRecDepth 20000 in
theorem lb_X8_isNoPair_21 {X : List Cond} {l : Launch} {D : va_G} {G : Nat → ClassId} {C : Cx} {bs0 : List va_W} {hMd : Nat} {qMd : Nat → Nat} {Q : Int32 → OV → Prop} (F : GF C X cX8_isNoPair wsX8_isNoPair RX8 rm_X8_isNoPair 3 (some .boolean) D G l) (E : GE C bs0 0 0 (po_X8_isNoPair G hMd qMd Q)) {vMd : OV} (hw : wp_X8_isNoPair_21 Q vMd) : GW C 0 0 [bMd G hMd qMd vMd] 21 [] [.ref hMd] := by
  unfold wp_X8_isNoPair_21 at hw
  refine gw_iconst (v := (1 : Int32)) F dX8_isNoPair_21 ic_iconst_1 ?_
  exact lb_X8_isNoPair_22 F E hw
def wp_X8_isNoPair_0 (Q : Int32 → OV → Prop) (x1 : Int32) (x2 : Int32) (vMd : OV) : Prop :=
  (wp_X8_isKey (fun (r_1 : Int32) => ((r_1 = 0 → (wp_X8_isNoPair_21 Q vMd)) ∧ (¬ (r_1 = 0) → (wp_X8_isLock (fun (r_5 : Int32) => ((r_5 = 0 → (wp_X8_isNoPair_21 Q vMd)) ∧ (¬ (r_5 = 0) → (wp_X8_isNoPair_22 Q (0 : Int32) vMd)))) x2 vMd)))) x1 vMd)
set_option maxRecDepth 20000 in
theorem lb_X8_isNoPair_0 {X : List Cond} {l : Launch} {D : va_G} {G : Nat → ClassId} {C : Cx} {bs0 : List va_W} {hMd : Nat} {qMd : Nat → Nat} {Q : Int32 → OV → Prop} (F : GF C X cX8_isNoPair wsX8_isNoPair RX8 rm_X8_isNoPair 3 (some .boolean) D G l) (E : GE C bs0 0 0 (po_X8_isNoPair G hMd qMd Q)) {x1 : Int32} {x2 : Int32} {vMd : OV} (hw : wp_X8_isNoPair_0 Q x1 x2 vMd) : GW C 0 0 [bMd G hMd qMd vMd] 0 [(0, .ref hMd), (1, .int x1), (2, .int x2)] [] := by
  unfold wp_X8_isNoPair_0 at hw
  refine gw_aload_n F dX8_isNoPair_0 0 rfl ?_
  refine gw_aload_n F dX8_isNoPair_1 0 rfl ?_
  refine gw_iload_n F dX8_isNoPair_2 1 rfl ?_
  refine gw_callV F (ct_X8_isKey hw) 1 gX8_isNoPair_X8_isKey rfl rfl rfl hd_X8_isKey ⟨(Nat.le_of_ble_eq_true rfl), (Nat.le_of_ble_eq_true rfl)⟩ rfl rfl (Nat.le_of_ble_eq_true rfl) ⟨Nat.zero_le _, Nat.zero_le _⟩ [0] (bsr := []) rfl rfl (q0 := 0) rfl rfl dX8_isNoPair_3 ?_
  rintro _ _ ⟨r_1, rfl, rfl, hw⟩
  refine gw_sel [0] (bs' := [bMd G hMd qMd vMd]) rfl rfl ?_
  change GW C 0 0 _ 6 _ [.int r_1, .ref hMd]
  refine gw_if_eq (tgt := 21) F dX8_isNoPair_6 (by decide) (fun c_2 => ?_) (fun c_2 => ?_)
  · have hw := hw.1 c_2
    refine gw_lv [] rfl ?_
    exact lb_X8_isNoPair_21 F E hw
  · have hw := hw.2 c_2
    refine gw_aload_n F dX8_isNoPair_9 0 rfl ?_
    refine gw_iload_n F dX8_isNoPair_10 2 rfl ?_
    refine gw_callV F (ct_X8_isLock hw) 1 gX8_isNoPair_X8_isLock rfl rfl rfl hd_X8_isLock ⟨(Nat.le_of_ble_eq_true rfl), (Nat.le_of_ble_eq_true rfl)⟩ rfl rfl (Nat.le_of_ble_eq_true rfl) ⟨Nat.zero_le _, Nat.zero_le _⟩ [0] (bsr := []) rfl rfl (q0 := 0) rfl rfl dX8_isNoPair_11 ?_
    rintro _ _ ⟨r_5, rfl, rfl, hw⟩
    refine gw_sel [0] (bs' := [bMd G hMd qMd vMd]) rfl rfl ?_
    change GW C 0 0 _ 14 _ [.int r_5, .ref hMd]
    refine gw_if_eq (tgt := 21) F dX8_isNoPair_14 (by decide) (fun c_6 => ?_) (fun c_6 => ?_)
    · have hw := hw.1 c_6
      refine gw_lv [] rfl ?_
      exact lb_X8_isNoPair_21 F E hw
    · have hw := hw.2 c_6
      refine gw_iconst (v := (0 : Int32)) F dX8_isNoPair_17 ic_iconst_0 ?_
      refine gw_goto (tgt := 22) F dX8_isNoPair_18 (by decide) ?_
      refine gw_lv [] rfl ?_
      exact lb_X8_isNoPair_22 F E hw
def wp_X8_isNoPair (Q : Int32 → OV → Prop) (x1 : Int32) (x2 : Int32) (vMd : OV) : Prop := wp_X8_isNoPair_0 Q x1 x2 vMd
theorem ct_X8_isNoPair {X : List Cond} {l : Launch} {D : va_G} {G : Nat → ClassId} {hMd : Nat} {qMd : Nat → Nat} {Q : Int32 → OV → Prop} {x1 : Int32} {x2 : Int32} {vMd : OV} (hw : wp_X8_isNoPair Q x1 x2 vMd) : CM X l yX8_isNoPair wsX8_isNoPair rm_X8_isNoPair D G [.ref hMd, .int x1, .int x2] [bMd G hMd qMd vMd] 0 0 (po_X8_isNoPair G hMd qMd Q) :=
  CM.of pn_RX8 rfl rfl (Nat.le_of_ble_eq_true rfl) rfl (fun C F E => lb_X8_isNoPair_0 F E hw)
-- X8_fits
abbrev rm_X8_fits : Room := { frames := 4, cells := 0, slots := 0, locals := 126 }
def po_X8_fits (G : Nat → ClassId) (hMd : Nat) (qMd : Nat → Nat) (Q : Int32 → OV → Prop) : Option Value → List va_W → Prop := fun o bs => ∃ (r : Int32) (vMd : OV), o = some (.int r) ∧ bs = [bMd G hMd qMd vMd] ∧ Q r vMd
theorem hd_X8_fits : yX8_fits.cls = RX8 ∧ yX8_fits.cls ≠ "java/lang/invoke/MethodHandle" ∧ yX8_fits.cls ≠ "java/lang/invoke/VarHandle" ∧ (parseMethodDescriptor yX8_fits.desc).map (fun d => d.parameters.length) = some 2 := by decide +kernel
def wp_X8_fits_23 (Q : Int32 → OV → Prop) (s0 : Int32) (vMd : OV) : Prop :=
  (narrow .boolean (.int s0) = .int s0 ∧ Q s0 vMd)
set_option maxRecDepth 20000 in
theorem lb_X8_fits_23 {X : List Cond} {l : Launch} {D : va_G} {G : Nat → ClassId} {C : Cx} {bs0 : List va_W} {hMd : Nat} {qMd : Nat → Nat} {Q : Int32 → OV → Prop} (F : GF C X cX8_fits wsX8_fits RX8 rm_X8_fits 3 (some .boolean) D G l) (E : GE C bs0 0 0 (po_X8_fits G hMd qMd Q)) {s0 : Int32} {vMd : OV} (hw : wp_X8_fits_23 Q s0 vMd) : GW C 0 0 [bMd G hMd qMd vMd] 23 [] [.int s0] := by
  unfold wp_X8_fits_23 at hw
  obtain ⟨hn, hw⟩ := hw
  exact gw_iret F E rfl hn (Nat.le_of_ble_eq_true rfl) (Nat.le_of_ble_eq_true rfl) dX8_fits_23 ⟨_, _, rfl, rfl, hw⟩
def wp_X8_fits_22 (Q : Int32 → OV → Prop) (vMd : OV) : Prop :=
  (wp_X8_fits_23 Q (0 : Int32) vMd)
set_option maxRecDepth 20000 in
theorem lb_X8_fits_22 {X : List Cond} {l : Launch} {D : va_G} {G : Nat → ClassId} {C : Cx} {bs0 : List va_W} {hMd : Nat} {qMd : Nat → Nat} {Q : Int32 → OV → Prop} (F : GF C X cX8_fits wsX8_fits RX8 rm_X8_fits 3 (some .boolean) D G l) (E : GE C bs0 0 0 (po_X8_fits G hMd qMd Q)) {vMd : OV} (hw : wp_X8_fits_22 Q vMd) : GW C 0 0 [bMd G hMd qMd vMd] 22 [] [] := by
  unfold wp_X8_fits_22 at hw
  refine gw_iconst (v := (0 : Int32)) F dX8_fits_22 ic_iconst_0 ?_
  exact lb_X8_fits_23 F E hw
def wp_X8_fits_0 (Q : Int32 → OV → Prop) (x1 : Int32) (x2 : Int32) (vMd : OV) : Prop :=
  (wp_X8_isNoPair (fun (r_1 : Int32) (v_2 : OV) => ((¬ r_1 = 0 → (wp_X8_fits_22 Q v_2)) ∧ (r_1 = 0 → (wp_X8_isFit (fun (r_4 : Int32) => ((r_4 = 0 → (wp_X8_fits_22 Q v_2)) ∧ (¬ (r_4 = 0) → (wp_X8_fits_23 Q (1 : Int32) v_2)))) x1 x2 v_2)))) x1 x2 vMd)
set_option maxRecDepth 20000 in
theorem lb_X8_fits_0 {X : List Cond} {l : Launch} {D : va_G} {G : Nat → ClassId} {C : Cx} {bs0 : List va_W} {hMd : Nat} {qMd : Nat → Nat} {Q : Int32 → OV → Prop} (F : GF C X cX8_fits wsX8_fits RX8 rm_X8_fits 3 (some .boolean) D G l) (E : GE C bs0 0 0 (po_X8_fits G hMd qMd Q)) {x1 : Int32} {x2 : Int32} {vMd : OV} (hw : wp_X8_fits_0 Q x1 x2 vMd) : GW C 0 0 [bMd G hMd qMd vMd] 0 [(0, .ref hMd), (1, .int x1), (2, .int x2)] [] := by
  unfold wp_X8_fits_0 at hw
  refine gw_aload_n F dX8_fits_0 0 rfl ?_
  refine gw_iload_n F dX8_fits_1 1 rfl ?_
  refine gw_iload_n F dX8_fits_2 2 rfl ?_
  refine gw_callV F (ct_X8_isNoPair hw) 2 gX8_fits_X8_isNoPair rfl rfl rfl hd_X8_isNoPair ⟨(Nat.le_of_ble_eq_true rfl), (Nat.le_of_ble_eq_true rfl)⟩ rfl rfl (Nat.le_of_ble_eq_true rfl) ⟨Nat.zero_le _, Nat.zero_le _⟩ [0] (bsr := []) rfl rfl (q0 := 0) rfl rfl dX8_fits_3 ?_
  rintro _ _ ⟨r_1, v_2, rfl, rfl, hw⟩
  refine gw_sel [0] (bs' := [bMd G hMd qMd v_2]) rfl rfl ?_
  change GW C 0 0 _ 6 _ [.int r_1]
  refine gw_if_ne (tgt := 22) F dX8_fits_6 (by decide) (fun c_3 => ?_) (fun c_3 => ?_)
  · have hw := hw.1 c_3
    refine gw_lv [] rfl ?_
    exact lb_X8_fits_22 F E hw
  · have hw := hw.2 c_3
    refine gw_aload_n F dX8_fits_9 0 rfl ?_
    refine gw_iload_n F dX8_fits_10 1 rfl ?_
    refine gw_iload_n F dX8_fits_11 2 rfl ?_
    refine gw_callV F (ct_X8_isFit hw) 2 gX8_fits_X8_isFit rfl rfl rfl hd_X8_isFit ⟨(Nat.le_of_ble_eq_true rfl), (Nat.le_of_ble_eq_true rfl)⟩ rfl rfl (Nat.le_of_ble_eq_true rfl) ⟨Nat.zero_le _, Nat.zero_le _⟩ [0] (bsr := []) rfl rfl (q0 := 0) rfl rfl dX8_fits_12 ?_
    rintro _ _ ⟨r_4, rfl, rfl, hw⟩
    refine gw_sel [0] (bs' := [bMd G hMd qMd v_2]) rfl rfl ?_
    change GW C 0 0 _ 15 _ [.int r_4]
    refine gw_if_eq (tgt := 22) F dX8_fits_15 (by decide) (fun c_5 => ?_) (fun c_5 => ?_)
    · have hw := hw.1 c_5
      refine gw_lv [] rfl ?_
      exact lb_X8_fits_22 F E hw
    · have hw := hw.2 c_5
      refine gw_iconst (v := (1 : Int32)) F dX8_fits_18 ic_iconst_1 ?_
      refine gw_goto (tgt := 23) F dX8_fits_19 (by decide) ?_
      refine gw_lv [] rfl ?_
      exact lb_X8_fits_23 F E hw
def wp_X8_fits (Q : Int32 → OV → Prop) (x1 : Int32) (x2 : Int32) (vMd : OV) : Prop := wp_X8_fits_0 Q x1 x2 vMd
theorem ct_X8_fits {X : List Cond} {l : Launch} {D : va_G} {G : Nat → ClassId} {hMd : Nat} {qMd : Nat → Nat} {Q : Int32 → OV → Prop} {x1 : Int32} {x2 : Int32} {vMd : OV} (hw : wp_X8_fits Q x1 x2 vMd) : CM X l yX8_fits wsX8_fits rm_X8_fits D G [.ref hMd, .int x1, .int x2] [bMd G hMd qMd vMd] 0 0 (po_X8_fits G hMd qMd Q) :=
  CM.of pn_RX8 rfl rfl (Nat.le_of_ble_eq_true rfl) rfl (fun C F E => lb_X8_fits_0 F E hw)
-- X8_isBarred
abbrev rm_X8_isBarred : Room := { frames := 4, cells := 0, slots := 0, locals := 125 }
def po_X8_isBarred (G : Nat → ClassId) (hMd : Nat) (qMd : Nat → Nat) (Q : Int32 → OV → Prop) : Option Value → List va_W → Prop := fun o bs => ∃ (r : Int32) (vMd : OV), o = some (.int r) ∧ bs = [bMd G hMd qMd vMd] ∧ Q r vMd
theorem hd_X8_isBarred : yX8_isBarred.cls = RX8 ∧ yX8_isBarred.cls ≠ "java/lang/invoke/MethodHandle" ∧ yX8_isBarred.cls ≠ "java/lang/invoke/VarHandle" ∧ (parseMethodDescriptor yX8_isBarred.desc).map (fun d => d.parameters.length) = some 2 := by decide +kernel
theorem in_X8_isBarred_RX8 : ∀ w ∈ wsX80, w ∈ wsX8_isBarred := fun w h => List.mem_cons_of_mem _ (List.mem_append_left _ (List.mem_append_right _ h))
theorem lk_X8_isBarred_7 : Cond.fieldLink RX8 7 "KeyWavesModel" "g" "[I" ∈ wsX8_isBarred := List.mem_cons_of_mem _ (List.mem_append_left _ (List.mem_append_left _ (List.mem_of_getElem? (i := 0) rfl)))
def wp_X8_isBarred_32 (Q : Int32 → OV → Prop) (s0 : Int32) (vMd : OV) : Prop :=
  (narrow .boolean (.int s0) = .int s0 ∧ Q s0 vMd)
set_option maxRecDepth 20000 in
theorem lb_X8_isBarred_32 {X : List Cond} {l : Launch} {D : va_G} {G : Nat → ClassId} {C : Cx} {bs0 : List va_W} {hMd : Nat} {qMd : Nat → Nat} {Q : Int32 → OV → Prop} (F : GF C X cX8_isBarred wsX8_isBarred RX8 rm_X8_isBarred 3 (some .boolean) D G l) (E : GE C bs0 0 0 (po_X8_isBarred G hMd qMd Q)) {s0 : Int32} {vMd : OV} (hw : wp_X8_isBarred_32 Q s0 vMd) : GW C 0 0 [bMd G hMd qMd vMd] 32 [] [.int s0] := by
  unfold wp_X8_isBarred_32 at hw
  obtain ⟨hn, hw⟩ := hw
  exact gw_iret F E rfl hn (Nat.le_of_ble_eq_true rfl) (Nat.le_of_ble_eq_true rfl) dX8_isBarred_32 ⟨_, _, rfl, rfl, hw⟩
def wp_X8_isBarred_31 (Q : Int32 → OV → Prop) (vMd : OV) : Prop :=
  (wp_X8_isBarred_32 Q (0 : Int32) vMd)
set_option maxRecDepth 20000 in
theorem lb_X8_isBarred_31 {X : List Cond} {l : Launch} {D : va_G} {G : Nat → ClassId} {C : Cx} {bs0 : List va_W} {hMd : Nat} {qMd : Nat → Nat} {Q : Int32 → OV → Prop} (F : GF C X cX8_isBarred wsX8_isBarred RX8 rm_X8_isBarred 3 (some .boolean) D G l) (E : GE C bs0 0 0 (po_X8_isBarred G hMd qMd Q)) {vMd : OV} (hw : wp_X8_isBarred_31 Q vMd) : GW C 0 0 [bMd G hMd qMd vMd] 31 [] [] := by
  unfold wp_X8_isBarred_31 at hw
  refine gw_iconst (v := (0 : Int32)) F dX8_isBarred_31 ic_iconst_0 ?_
  exact lb_X8_isBarred_32 F E hw
def wp_X8_isBarred_0 (Q : Int32 → OV → Prop) (x1 : Int32) (x2 : Int32) (vMd : OV) : Prop :=
  (wp_X8_isNoPair (fun (r_1 : Int32) (v_2 : OV) => ((¬ r_1 = 0 → (wp_X8_isBarred_31 Q v_2)) ∧ (r_1 = 0 → (vp_in (((77 : Int32) + ((10 : Int32) * x1)) + x2) 177 ∧ ((¬ (v_2.1 0 (((77 : Int32) + ((10 : Int32) * x1)) + x2).toNatClampNeg) = (1 : Int32) → (wp_X8_isBarred_31 Q v_2)) ∧ ((v_2.1 0 (((77 : Int32) + ((10 : Int32) * x1)) + x2).toNatClampNeg) = (1 : Int32) → (wp_X8_isBarred_32 Q (1 : Int32) v_2))))))) x1 x2 vMd)
set_option maxRecDepth 20000 in
theorem lb_X8_isBarred_0 {X : List Cond} {l : Launch} {D : va_G} {G : Nat → ClassId} {C : Cx} {bs0 : List va_W} {hMd : Nat} {qMd : Nat → Nat} {Q : Int32 → OV → Prop} (F : GF C X cX8_isBarred wsX8_isBarred RX8 rm_X8_isBarred 3 (some .boolean) D G l) (E : GE C bs0 0 0 (po_X8_isBarred G hMd qMd Q)) {x1 : Int32} {x2 : Int32} {vMd : OV} (hw : wp_X8_isBarred_0 Q x1 x2 vMd) : GW C 0 0 [bMd G hMd qMd vMd] 0 [(0, .ref hMd), (1, .int x1), (2, .int x2)] [] := by
  unfold wp_X8_isBarred_0 at hw
  refine gw_aload_n F dX8_isBarred_0 0 rfl ?_
  refine gw_iload_n F dX8_isBarred_1 1 rfl ?_
  refine gw_iload_n F dX8_isBarred_2 2 rfl ?_
  refine gw_callV F (ct_X8_isNoPair hw) 2 gX8_isBarred_X8_isNoPair rfl rfl rfl hd_X8_isNoPair ⟨(Nat.le_of_ble_eq_true rfl), (Nat.le_of_ble_eq_true rfl)⟩ rfl rfl (Nat.le_of_ble_eq_true rfl) ⟨Nat.zero_le _, Nat.zero_le _⟩ [0] (bsr := []) rfl rfl (q0 := 0) rfl rfl dX8_isBarred_3 ?_
  rintro _ _ ⟨r_1, v_2, rfl, rfl, hw⟩
  refine gw_sel [0] (bs' := [bMd G hMd qMd v_2]) rfl rfl ?_
  change GW C 0 0 _ 6 _ [.int r_1]
  refine gw_if_ne (tgt := 31) F dX8_isBarred_6 (by decide) (fun c_3 => ?_) (fun c_3 => ?_)
  · have hw := hw.1 c_3
    refine gw_lv [] rfl ?_
    exact lb_X8_isBarred_31 F E hw
  · have hw := hw.2 c_3
    refine gw_aload_n F dX8_isBarred_9 0 rfl ?_
    refine gw_get F in_X8_isBarred_RX8 0 rfl rfl 0 (by decide) lk_X8_isBarred_7 rfl dX8_isBarred_10 ?_
    refine gw_bipush (v := (77 : Int32)) F dX8_isBarred_13 ic_bipush_77 ?_
    refine gw_bipush (v := (10 : Int32)) F dX8_isBarred_15 ic_bipush_10 ?_
    refine gw_iload_n F dX8_isBarred_17 1 rfl ?_
    refine gw_imul F dX8_isBarred_18 ?_
    refine gw_iadd F dX8_isBarred_19 ?_
    refine gw_iload_n F dX8_isBarred_20 2 rfl ?_
    refine gw_iadd F dX8_isBarred_21 ?_
    obtain ⟨h_4, hw⟩ := hw
    refine gw_iald F 1 rfl h_4 dX8_isBarred_22 ?_
    refine gw_iconst (v := (1 : Int32)) F dX8_isBarred_23 ic_iconst_1 ?_
    refine gw_icmp_ne (tgt := 31) F dX8_isBarred_24 (by decide) (fun c_5 => ?_) (fun c_5 => ?_)
    · have hw := hw.1 c_5
      refine gw_lv [] rfl ?_
      exact lb_X8_isBarred_31 F E hw
    · have hw := hw.2 c_5
      refine gw_iconst (v := (1 : Int32)) F dX8_isBarred_27 ic_iconst_1 ?_
      refine gw_goto (tgt := 32) F dX8_isBarred_28 (by decide) ?_
      refine gw_lv [] rfl ?_
      exact lb_X8_isBarred_32 F E hw
def wp_X8_isBarred (Q : Int32 → OV → Prop) (x1 : Int32) (x2 : Int32) (vMd : OV) : Prop := wp_X8_isBarred_0 Q x1 x2 vMd
theorem ct_X8_isBarred {X : List Cond} {l : Launch} {D : va_G} {G : Nat → ClassId} {hMd : Nat} {qMd : Nat → Nat} {Q : Int32 → OV → Prop} {x1 : Int32} {x2 : Int32} {vMd : OV} (hw : wp_X8_isBarred Q x1 x2 vMd) : CM X l yX8_isBarred wsX8_isBarred rm_X8_isBarred D G [.ref hMd, .int x1, .int x2] [bMd G hMd qMd vMd] 0 0 (po_X8_isBarred G hMd qMd Q) :=
  CM.of pn_RX8 rfl rfl (Nat.le_of_ble_eq_true rfl) rfl (fun C F E => lb_X8_isBarred_0 F E hw)
-- X8_costOf
abbrev rm_X8_costOf : Room := { frames := 3, cells := 0, slots := 0, locals := 104 }
def po_X8_costOf (G : Nat → ClassId) (hMd : Nat) (qMd : Nat → Nat) (vMd : OV) (Q : Int32 → Prop) : Option Value → List va_W → Prop := fun o bs => ∃ (r : Int32), o = some (.int r) ∧ bs = [bMd G hMd qMd vMd] ∧ Q r
theorem hd_X8_costOf : yX8_costOf.cls = RX8 ∧ yX8_costOf.cls ≠ "java/lang/invoke/MethodHandle" ∧ yX8_costOf.cls ≠ "java/lang/invoke/VarHandle" ∧ (parseMethodDescriptor yX8_costOf.desc).map (fun d => d.parameters.length) = some 2 := by decide +kernel
theorem in_X8_costOf_RX8 : ∀ w ∈ wsX80, w ∈ wsX8_costOf := fun w h => List.mem_cons_of_mem _ (List.mem_append_left _ (List.mem_append_right _ h))
theorem lk_X8_costOf_7 : Cond.fieldLink RX8 7 "KeyWavesModel" "g" "[I" ∈ wsX8_costOf := List.mem_cons_of_mem _ (List.mem_append_left _ (List.mem_append_left _ (List.mem_of_getElem? (i := 0) rfl)))
def wp_X8_costOf_49 (Q : Int32 → Prop) (vMd : OV) (s0 s1 : Int32) : Prop :=
  (Q (s0 + s1))
set_option maxRecDepth 20000 in
theorem lb_X8_costOf_49 {X : List Cond} {l : Launch} {D : va_G} {G : Nat → ClassId} {C : Cx} {bs0 : List va_W} {hMd : Nat} {qMd : Nat → Nat} {Q : Int32 → Prop} {vMd : OV} (F : GF C X cX8_costOf wsX8_costOf RX8 rm_X8_costOf 4 (some .int) D G l) (E : GE C bs0 0 0 (po_X8_costOf G hMd qMd vMd Q)) {s0 s1 : Int32} (hw : wp_X8_costOf_49 Q vMd s0 s1) : GW C 0 0 [bMd G hMd qMd vMd] 49 [] [.int s1, .int s0] := by
  unfold wp_X8_costOf_49 at hw
  refine gw_iadd F dX8_costOf_49 ?_
  exact gw_iret F E rfl rfl (Nat.le_of_ble_eq_true rfl) (Nat.le_of_ble_eq_true rfl) dX8_costOf_50 ⟨_, rfl, rfl, hw⟩
def wp_X8_costOf_0 (Q : Int32 → Prop) (vMd : OV) (x1 : Int32) (x2 : Int32) : Prop :=
  (wp_X8_ofKey (fun (r_1 : Int32) => (wp_X8_ofLock (fun (r_2 : Int32) => (wp_X8_many (fun (r_3 : Int32) => (wp_X8_ofLock (fun (r_4 : Int32) => (wp_X8_many (fun (r_5 : Int32) => (vp_in (2 : Int32) 177 ∧ (∀ i_7 : Int32, i_7 = ((r_3 - r_5) - (vMd.1 0 (2 : Int32).toNatClampNeg)) → (wp_X8_lacks (fun (r_8 : Int32) => ((i_7 ≤ 0 → (wp_X8_costOf_49 Q vMd r_8 (0 : Int32))) ∧ (¬ (i_7 ≤ 0) → (wp_X8_costOf_49 Q vMd r_8 i_7)))) x1 x2 vMd)))) r_4)) x2 (0 : Int32) vMd)) (r_1 ||| r_2))) x2 (0 : Int32) vMd)) x1 (0 : Int32) vMd)
set_option maxRecDepth 20000 in
theorem lb_X8_costOf_0 {X : List Cond} {l : Launch} {D : va_G} {G : Nat → ClassId} {C : Cx} {bs0 : List va_W} {hMd : Nat} {qMd : Nat → Nat} {Q : Int32 → Prop} {vMd : OV} (F : GF C X cX8_costOf wsX8_costOf RX8 rm_X8_costOf 4 (some .int) D G l) (E : GE C bs0 0 0 (po_X8_costOf G hMd qMd vMd Q)) {x1 : Int32} {x2 : Int32} (hw : wp_X8_costOf_0 Q vMd x1 x2) : GW C 0 0 [bMd G hMd qMd vMd] 0 [(0, .ref hMd), (1, .int x1), (2, .int x2)] [] := by
  unfold wp_X8_costOf_0 at hw
  refine gw_aload_n F dX8_costOf_0 0 rfl ?_
  refine gw_iload_n F dX8_costOf_1 1 rfl ?_
  refine gw_iconst (v := (0 : Int32)) F dX8_costOf_2 ic_iconst_0 ?_
  refine gw_callV F (ct_X8_ofKey hw) 2 gX8_costOf_X8_ofKey rfl rfl rfl hd_X8_ofKey ⟨(Nat.le_of_ble_eq_true rfl), (Nat.le_of_ble_eq_true rfl)⟩ rfl rfl (Nat.le_of_ble_eq_true rfl) ⟨Nat.zero_le _, Nat.zero_le _⟩ [0] (bsr := []) rfl rfl (q0 := 0) rfl rfl dX8_costOf_3 ?_
  rintro _ _ ⟨r_1, rfl, rfl, hw⟩
  refine gw_sel [0] (bs' := [bMd G hMd qMd vMd]) rfl rfl ?_
  change GW C 0 0 _ 6 _ [.int r_1]
  refine gw_aload_n F dX8_costOf_6 0 rfl ?_
  refine gw_iload_n F dX8_costOf_7 2 rfl ?_
  refine gw_iconst (v := (0 : Int32)) F dX8_costOf_8 ic_iconst_0 ?_
  refine gw_callV F (ct_X8_ofLock hw) 2 gX8_costOf_X8_ofLock rfl rfl rfl hd_X8_ofLock ⟨(Nat.le_of_ble_eq_true rfl), (Nat.le_of_ble_eq_true rfl)⟩ rfl rfl (Nat.le_of_ble_eq_true rfl) ⟨Nat.zero_le _, Nat.zero_le _⟩ [0] (bsr := []) rfl rfl (q0 := 0) rfl rfl dX8_costOf_9 ?_
  rintro _ _ ⟨r_2, rfl, rfl, hw⟩
  refine gw_sel [0] (bs' := [bMd G hMd qMd vMd]) rfl rfl ?_
  change GW C 0 0 _ 12 _ [.int r_2, .int r_1]
  refine gw_ior F dX8_costOf_12 ?_
  refine gw_callS F (ct_X8_many hw) 1 gX8_costOf_X8_many rfl rfl rfl hd_X8_many ⟨(Nat.le_of_ble_eq_true rfl), (Nat.le_of_ble_eq_true rfl)⟩ rfl rfl (Nat.le_of_ble_eq_true rfl) ⟨Nat.zero_le _, Nat.zero_le _⟩ [0] (bsr := [bMd G hMd qMd vMd]) rfl rfl dX8_costOf_13 ?_
  rintro _ _ ⟨r_3, rfl, rfl, hw⟩
  refine gw_sel [0] (bs' := [bMd G hMd qMd vMd]) rfl rfl ?_
  change GW C 0 0 _ 16 _ [.int r_3]
  refine gw_aload_n F dX8_costOf_16 0 rfl ?_
  refine gw_iload_n F dX8_costOf_17 2 rfl ?_
  refine gw_iconst (v := (0 : Int32)) F dX8_costOf_18 ic_iconst_0 ?_
  refine gw_callV F (ct_X8_ofLock hw) 2 gX8_costOf_X8_ofLock rfl rfl rfl hd_X8_ofLock ⟨(Nat.le_of_ble_eq_true rfl), (Nat.le_of_ble_eq_true rfl)⟩ rfl rfl (Nat.le_of_ble_eq_true rfl) ⟨Nat.zero_le _, Nat.zero_le _⟩ [0] (bsr := []) rfl rfl (q0 := 0) rfl rfl dX8_costOf_19 ?_
  rintro _ _ ⟨r_4, rfl, rfl, hw⟩
  refine gw_sel [0] (bs' := [bMd G hMd qMd vMd]) rfl rfl ?_
  change GW C 0 0 _ 22 _ [.int r_4, .int r_3]
  refine gw_callS F (ct_X8_many hw) 1 gX8_costOf_X8_many rfl rfl rfl hd_X8_many ⟨(Nat.le_of_ble_eq_true rfl), (Nat.le_of_ble_eq_true rfl)⟩ rfl rfl (Nat.le_of_ble_eq_true rfl) ⟨Nat.zero_le _, Nat.zero_le _⟩ [0] (bsr := [bMd G hMd qMd vMd]) rfl rfl dX8_costOf_22 ?_
  rintro _ _ ⟨r_5, rfl, rfl, hw⟩
  refine gw_sel [0] (bs' := [bMd G hMd qMd vMd]) rfl rfl ?_
  change GW C 0 0 _ 25 _ [.int r_5, .int r_3]
  refine gw_isub F dX8_costOf_25 ?_
  refine gw_aload_n F dX8_costOf_26 0 rfl ?_
  refine gw_get F in_X8_costOf_RX8 0 rfl rfl 0 (by decide) lk_X8_costOf_7 rfl dX8_costOf_27 ?_
  refine gw_iconst (v := (2 : Int32)) F dX8_costOf_30 ic_iconst_2 ?_
  obtain ⟨h_6, hw⟩ := hw
  refine gw_iald F 1 rfl h_6 dX8_costOf_31 ?_
  refine gw_isub F dX8_costOf_32 ?_
  refine gw_topi (fun i_7 e_i_7 => ?_)
  have hw := hw i_7 e_i_7
  refine gw_istore_n (lv' := [(3, .int i_7), (0, .ref hMd), (1, .int x1), (2, .int x2)]) F dX8_costOf_33 (by decide) rfl ?_
  refine gw_aload_n F dX8_costOf_34 1 rfl ?_
  refine gw_iload_n F dX8_costOf_35 2 rfl ?_
  refine gw_iload_n F dX8_costOf_36 3 rfl ?_
  refine gw_callV F (ct_X8_lacks hw) 2 gX8_costOf_X8_lacks rfl rfl rfl hd_X8_lacks ⟨(Nat.le_of_ble_eq_true rfl), (Nat.le_of_ble_eq_true rfl)⟩ rfl rfl (Nat.le_of_ble_eq_true rfl) ⟨Nat.zero_le _, Nat.zero_le _⟩ [0] (bsr := []) rfl rfl (q0 := 0) rfl rfl dX8_costOf_37 ?_
  rintro _ _ ⟨r_8, rfl, rfl, hw⟩
  refine gw_sel [0] (bs' := [bMd G hMd qMd vMd]) rfl rfl ?_
  change GW C 0 0 _ 40 _ [.int r_8]
  refine gw_iload_n F dX8_costOf_40 0 rfl ?_
  refine gw_if_le (tgt := 48) F dX8_costOf_41 (by decide) (fun c_9 => ?_) (fun c_9 => ?_)
  · have hw := hw.1 c_9
    refine gw_iconst (v := (0 : Int32)) F dX8_costOf_48 ic_iconst_0 ?_
    refine gw_lv [] rfl ?_
    exact lb_X8_costOf_49 F E hw
  · have hw := hw.2 c_9
    refine gw_iload_n F dX8_costOf_44 0 rfl ?_
    refine gw_goto (tgt := 49) F dX8_costOf_45 (by decide) ?_
    refine gw_lv [] rfl ?_
    exact lb_X8_costOf_49 F E hw
def wp_X8_costOf (Q : Int32 → Prop) (x1 : Int32) (x2 : Int32) (vMd : OV) : Prop := wp_X8_costOf_0 Q vMd x1 x2
theorem ct_X8_costOf {X : List Cond} {l : Launch} {D : va_G} {G : Nat → ClassId} {hMd : Nat} {qMd : Nat → Nat} {Q : Int32 → Prop} {x1 : Int32} {x2 : Int32} {vMd : OV} (hw : wp_X8_costOf Q x1 x2 vMd) : CM X l yX8_costOf wsX8_costOf rm_X8_costOf D G [.ref hMd, .int x1, .int x2] [bMd G hMd qMd vMd] 0 0 (po_X8_costOf G hMd qMd vMd Q) :=
  CM.of pn_RX8 rfl rfl (Nat.le_of_ble_eq_true rfl) rfl (fun C F E => lb_X8_costOf_0 F E hw)
-- X8_costFor
abbrev rm_X8_costFor : Room := { frames := 4, cells := 0, slots := 0, locals := 127 }
def po_X8_costFor (G : Nat → ClassId) (hMd : Nat) (qMd : Nat → Nat) (Q : Int32 → OV → Prop) : Option Value → List va_W → Prop := fun o bs => ∃ (r : Int32) (vMd : OV), o = some (.int r) ∧ bs = [bMd G hMd qMd vMd] ∧ Q r vMd
theorem hd_X8_costFor : yX8_costFor.cls = RX8 ∧ yX8_costFor.cls ≠ "java/lang/invoke/MethodHandle" ∧ yX8_costFor.cls ≠ "java/lang/invoke/VarHandle" ∧ (parseMethodDescriptor yX8_costFor.desc).map (fun d => d.parameters.length) = some 2 := by decide +kernel
def wp_X8_costFor_19 (Q : Int32 → OV → Prop) (s0 : Int32) (vMd : OV) : Prop :=
  (Q s0 vMd)
set_option maxRecDepth 20000 in
theorem lb_X8_costFor_19 {X : List Cond} {l : Launch} {D : va_G} {G : Nat → ClassId} {C : Cx} {bs0 : List va_W} {hMd : Nat} {qMd : Nat → Nat} {Q : Int32 → OV → Prop} (F : GF C X cX8_costFor wsX8_costFor RX8 rm_X8_costFor 3 (some .int) D G l) (E : GE C bs0 0 0 (po_X8_costFor G hMd qMd Q)) {s0 : Int32} {vMd : OV} (hw : wp_X8_costFor_19 Q s0 vMd) : GW C 0 0 [bMd G hMd qMd vMd] 19 [] [.int s0] := by
  unfold wp_X8_costFor_19 at hw
  exact gw_iret F E rfl rfl (Nat.le_of_ble_eq_true rfl) (Nat.le_of_ble_eq_true rfl) dX8_costFor_19 ⟨_, _, rfl, rfl, hw⟩
def wp_X8_costFor_0 (Q : Int32 → OV → Prop) (x1 : Int32) (x2 : Int32) (vMd : OV) : Prop :=
  (wp_X8_isNoPair (fun (r_1 : Int32) (v_2 : OV) => ((r_1 = 0 → (wp_X8_costOf (fun (r_4 : Int32) => (wp_X8_costFor_19 Q r_4 v_2)) x1 x2 v_2)) ∧ (¬ (r_1 = 0) → (wp_X8_costFor_19 Q (0 : Int32) v_2)))) x1 x2 vMd)
set_option maxRecDepth 20000 in
theorem lb_X8_costFor_0 {X : List Cond} {l : Launch} {D : va_G} {G : Nat → ClassId} {C : Cx} {bs0 : List va_W} {hMd : Nat} {qMd : Nat → Nat} {Q : Int32 → OV → Prop} (F : GF C X cX8_costFor wsX8_costFor RX8 rm_X8_costFor 3 (some .int) D G l) (E : GE C bs0 0 0 (po_X8_costFor G hMd qMd Q)) {x1 : Int32} {x2 : Int32} {vMd : OV} (hw : wp_X8_costFor_0 Q x1 x2 vMd) : GW C 0 0 [bMd G hMd qMd vMd] 0 [(0, .ref hMd), (1, .int x1), (2, .int x2)] [] := by
  unfold wp_X8_costFor_0 at hw
  refine gw_aload_n F dX8_costFor_0 0 rfl ?_
  refine gw_iload_n F dX8_costFor_1 1 rfl ?_
  refine gw_iload_n F dX8_costFor_2 2 rfl ?_
  refine gw_callV F (ct_X8_isNoPair hw) 2 gX8_costFor_X8_isNoPair rfl rfl rfl hd_X8_isNoPair ⟨(Nat.le_of_ble_eq_true rfl), (Nat.le_of_ble_eq_true rfl)⟩ rfl rfl (Nat.le_of_ble_eq_true rfl) ⟨Nat.zero_le _, Nat.zero_le _⟩ [0] (bsr := []) rfl rfl (q0 := 0) rfl rfl dX8_costFor_3 ?_
  rintro _ _ ⟨r_1, v_2, rfl, rfl, hw⟩
  refine gw_sel [0] (bs' := [bMd G hMd qMd v_2]) rfl rfl ?_
  change GW C 0 0 _ 6 _ [.int r_1]
  refine gw_if_eq (tgt := 13) F dX8_costFor_6 (by decide) (fun c_3 => ?_) (fun c_3 => ?_)
  · have hw := hw.1 c_3
    refine gw_aload_n F dX8_costFor_13 0 rfl ?_
    refine gw_iload_n F dX8_costFor_14 1 rfl ?_
    refine gw_iload_n F dX8_costFor_15 2 rfl ?_
    refine gw_callV F (ct_X8_costOf hw) 2 gX8_costFor_X8_costOf rfl rfl rfl hd_X8_costOf ⟨(Nat.le_of_ble_eq_true rfl), (Nat.le_of_ble_eq_true rfl)⟩ rfl rfl (Nat.le_of_ble_eq_true rfl) ⟨Nat.zero_le _, Nat.zero_le _⟩ [0] (bsr := []) rfl rfl (q0 := 0) rfl rfl dX8_costFor_16 ?_
    rintro _ _ ⟨r_4, rfl, rfl, hw⟩
    refine gw_sel [0] (bs' := [bMd G hMd qMd v_2]) rfl rfl ?_
    change GW C 0 0 _ 19 _ [.int r_4]
    refine gw_lv [] rfl ?_
    exact lb_X8_costFor_19 F E hw
  · have hw := hw.2 c_3
    refine gw_iconst (v := (0 : Int32)) F dX8_costFor_9 ic_iconst_0 ?_
    refine gw_goto (tgt := 19) F dX8_costFor_10 (by decide) ?_
    refine gw_lv [] rfl ?_
    exact lb_X8_costFor_19 F E hw
def wp_X8_costFor (Q : Int32 → OV → Prop) (x1 : Int32) (x2 : Int32) (vMd : OV) : Prop := wp_X8_costFor_0 Q x1 x2 vMd
theorem ct_X8_costFor {X : List Cond} {l : Launch} {D : va_G} {G : Nat → ClassId} {hMd : Nat} {qMd : Nat → Nat} {Q : Int32 → OV → Prop} {x1 : Int32} {x2 : Int32} {vMd : OV} (hw : wp_X8_costFor Q x1 x2 vMd) : CM X l yX8_costFor wsX8_costFor rm_X8_costFor D G [.ref hMd, .int x1, .int x2] [bMd G hMd qMd vMd] 0 0 (po_X8_costFor G hMd qMd Q) :=
  CM.of pn_RX8 rfl rfl (Nat.le_of_ble_eq_true rfl) rfl (fun C F E => lb_X8_costFor_0 F E hw)
-- X8_cheapest
abbrev rm_X8_cheapest : Room := { frames := 4, cells := 0, slots := 0, locals := 127 }
def po_X8_cheapest (G : Nat → ClassId) (hMd : Nat) (qMd : Nat → Nat) (Q : Int32 → OV → Prop) : Option Value → List va_W → Prop := fun o bs => ∃ (r : Int32) (vMd : OV), o = some (.int r) ∧ bs = [bMd G hMd qMd vMd] ∧ Q r vMd
theorem hd_X8_cheapest : yX8_cheapest.cls = RX8 ∧ yX8_cheapest.cls ≠ "java/lang/invoke/MethodHandle" ∧ yX8_cheapest.cls ≠ "java/lang/invoke/VarHandle" ∧ (parseMethodDescriptor yX8_cheapest.desc).map (fun d => d.parameters.length) = some 2 := by decide +kernel
theorem in_X8_cheapest_RX8 : ∀ w ∈ wsX80, w ∈ wsX8_cheapest := fun w h => List.mem_cons_of_mem _ (List.mem_append_left _ (List.mem_append_right _ h))
theorem lk_X8_cheapest_7 : Cond.fieldLink RX8 7 "KeyWavesModel" "g" "[I" ∈ wsX8_cheapest := List.mem_cons_of_mem _ (List.mem_append_left _ (List.mem_append_left _ (List.mem_append_left _ (List.mem_of_getElem? (i := 0) rfl))))
theorem lk_X8_cheapest_46 : Cond.fieldLink RX8 46 "KeyWavesModel" "code" "I" ∈ wsX8_cheapest := List.mem_cons_of_mem _ (List.mem_append_left _ (List.mem_append_left _ (List.mem_append_left _ (List.mem_of_getElem? (i := 1) rfl))))
def wp_X8_cheapest_150 (Q : Int32 → OV → Prop) (K24 : Int32 → Int32 → Int32 → OV → Prop) (x1 x2 x3 : Int32) (vMd : OV) : Prop :=
  (∀ i_14 : Int32, i_14 = x3 + (1 : Int32) → (K24 x1 x2 i_14 vMd))
set_option maxRecDepth 20000 in
theorem lb_X8_cheapest_150 {X : List Cond} {l : Launch} {D : va_G} {G : Nat → ClassId} {C : Cx} {bs0 : List va_W} {hMd : Nat} {qMd : Nat → Nat} {Q : Int32 → OV → Prop} {K24 : Int32 → Int32 → Int32 → OV → Prop} (F : GF C X cX8_cheapest wsX8_cheapest RX8 rm_X8_cheapest 7 (some .int) D G l) (E : GE C bs0 0 0 (po_X8_cheapest G hMd qMd Q)) (hK24 : ∀ (x1 x2 x3 : Int32) (vMd : OV), K24 x1 x2 x3 vMd → GW C 0 0 [bMd G hMd qMd vMd] 24 [(0, .ref hMd), (1, .int x1), (2, .int x2), (3, .int x3)] []) {x1 x2 x3 : Int32} {vMd : OV} (hw : wp_X8_cheapest_150 Q K24 x1 x2 x3 vMd) : GW C 0 0 [bMd G hMd qMd vMd] 150 [(0, .ref hMd), (1, .int x1), (2, .int x2), (3, .int x3)] [] := by
  unfold wp_X8_cheapest_150 at hw
  obtain ⟨i_14, e_i_14⟩ : ∃ z : Int32, z = x3 + (1 : Int32) := ⟨_, rfl⟩
  have hw := hw i_14 e_i_14
  refine gw_iinc (v := i_14) (lv' := [(3, .int i_14), (0, .ref hMd), (1, .int x1), (2, .int x2)]) F dX8_cheapest_150 3 rfl (by rw [e_i_14]; rfl) (by decide) rfl ?_
  refine gw_goto (tgt := 24) F dX8_cheapest_153 (by decide) ?_
  refine gw_lv [1, 2, 3, 0] rfl ?_
  exact hK24 _ _ _ _ hw
def wp_X8_cheapest_136 (Q : Int32 → OV → Prop) (K24 : Int32 → Int32 → Int32 → OV → Prop) (K61 : Int32 → Int32 → Int32 → Int32 → Int32 → OV → Prop) (x1 x2 x3 x4 x5 : Int32) (vMd : OV) : Prop :=
  (∀ i_22 : Int32, i_22 = x5 + (1 : Int32) → (K61 x1 x2 x3 x4 i_22 vMd))
set_option maxRecDepth 20000 in
theorem lb_X8_cheapest_136 {X : List Cond} {l : Launch} {D : va_G} {G : Nat → ClassId} {C : Cx} {bs0 : List va_W} {hMd : Nat} {qMd : Nat → Nat} {Q : Int32 → OV → Prop} {K24 : Int32 → Int32 → Int32 → OV → Prop} {K61 : Int32 → Int32 → Int32 → Int32 → Int32 → OV → Prop} (F : GF C X cX8_cheapest wsX8_cheapest RX8 rm_X8_cheapest 7 (some .int) D G l) (E : GE C bs0 0 0 (po_X8_cheapest G hMd qMd Q)) (hK24 : ∀ (x1 x2 x3 : Int32) (vMd : OV), K24 x1 x2 x3 vMd → GW C 0 0 [bMd G hMd qMd vMd] 24 [(0, .ref hMd), (1, .int x1), (2, .int x2), (3, .int x3)] []) (hK61 : ∀ (x1 x2 x3 x4 x5 : Int32) (vMd : OV), K61 x1 x2 x3 x4 x5 vMd → GW C 0 0 [bMd G hMd qMd vMd] 61 [(0, .ref hMd), (1, .int x1), (2, .int x2), (3, .int x3), (4, .int x4), (5, .int x5)] []) {x1 x2 x3 x4 x5 : Int32} {vMd : OV} (hw : wp_X8_cheapest_136 Q K24 K61 x1 x2 x3 x4 x5 vMd) : GW C 0 0 [bMd G hMd qMd vMd] 136 [(0, .ref hMd), (1, .int x1), (2, .int x2), (3, .int x3), (4, .int x4), (5, .int x5)] [] := by
  unfold wp_X8_cheapest_136 at hw
  obtain ⟨i_22, e_i_22⟩ : ∃ z : Int32, z = x5 + (1 : Int32) := ⟨_, rfl⟩
  have hw := hw i_22 e_i_22
  refine gw_iinc (v := i_22) (lv' := [(5, .int i_22), (0, .ref hMd), (1, .int x1), (2, .int x2), (3, .int x3), (4, .int x4)]) F dX8_cheapest_136 5 rfl (by rw [e_i_22]; rfl) (by decide) rfl ?_
  refine gw_goto (tgt := 61) F dX8_cheapest_139 (by decide) ?_
  refine gw_lv [1, 2, 3, 4, 5, 0] rfl ?_
  exact hK61 _ _ _ _ _ _ hw
def wp_X8_cheapest_133 (Q : Int32 → OV → Prop) (K24 : Int32 → Int32 → Int32 → OV → Prop) (K61 : Int32 → Int32 → Int32 → Int32 → Int32 → OV → Prop) (x1 x2 x3 x5 s0 s1 : Int32) (vMd : OV) : Prop :=
  (∀ i_21 : Int32, i_21 = (s0 + s1) → (wp_X8_cheapest_136 Q K24 K61 x1 x2 x3 i_21 x5 vMd))
set_option maxRecDepth 20000 in
theorem lb_X8_cheapest_133 {X : List Cond} {l : Launch} {D : va_G} {G : Nat → ClassId} {C : Cx} {bs0 : List va_W} {hMd : Nat} {qMd : Nat → Nat} {Q : Int32 → OV → Prop} {K24 : Int32 → Int32 → Int32 → OV → Prop} {K61 : Int32 → Int32 → Int32 → Int32 → Int32 → OV → Prop} (F : GF C X cX8_cheapest wsX8_cheapest RX8 rm_X8_cheapest 7 (some .int) D G l) (E : GE C bs0 0 0 (po_X8_cheapest G hMd qMd Q)) (hK24 : ∀ (x1 x2 x3 : Int32) (vMd : OV), K24 x1 x2 x3 vMd → GW C 0 0 [bMd G hMd qMd vMd] 24 [(0, .ref hMd), (1, .int x1), (2, .int x2), (3, .int x3)] []) (hK61 : ∀ (x1 x2 x3 x4 x5 : Int32) (vMd : OV), K61 x1 x2 x3 x4 x5 vMd → GW C 0 0 [bMd G hMd qMd vMd] 61 [(0, .ref hMd), (1, .int x1), (2, .int x2), (3, .int x3), (4, .int x4), (5, .int x5)] []) {x1 x2 x3 x5 s0 s1 : Int32} {vMd : OV} (hw : wp_X8_cheapest_133 Q K24 K61 x1 x2 x3 x5 s0 s1 vMd) : GW C 0 0 [bMd G hMd qMd vMd] 133 [(0, .ref hMd), (1, .int x1), (2, .int x2), (3, .int x3), (5, .int x5)] [.int s1, .int s0] := by
  unfold wp_X8_cheapest_133 at hw
  refine gw_iadd F dX8_cheapest_133 ?_
  refine gw_topi (fun i_21 e_i_21 => ?_)
  have hw := hw i_21 e_i_21
  refine gw_istore (lv' := [(4, .int i_21), (0, .ref hMd), (1, .int x1), (2, .int x2), (3, .int x3), (5, .int x5)]) F dX8_cheapest_134 (by decide) rfl ?_
  refine gw_lv [1, 2, 3, 4, 0, 5] rfl ?_
  exact lb_X8_cheapest_136 F E hK24 hK61 hw
def wp_X8_cheapest_128 (Q : Int32 → OV → Prop) (K24 : Int32 → Int32 → Int32 → OV → Prop) (K61 : Int32 → Int32 → Int32 → Int32 → Int32 → OV → Prop) (x1 x2 x3 x5 s0 : Int32) (vMd : OV) : Prop :=
  (wp_X8_cheapest_133 Q K24 K61 x1 x2 x3 x5 s0 (1 : Int32) vMd)
set_option maxRecDepth 20000 in
theorem lb_X8_cheapest_128 {X : List Cond} {l : Launch} {D : va_G} {G : Nat → ClassId} {C : Cx} {bs0 : List va_W} {hMd : Nat} {qMd : Nat → Nat} {Q : Int32 → OV → Prop} {K24 : Int32 → Int32 → Int32 → OV → Prop} {K61 : Int32 → Int32 → Int32 → Int32 → Int32 → OV → Prop} (F : GF C X cX8_cheapest wsX8_cheapest RX8 rm_X8_cheapest 7 (some .int) D G l) (E : GE C bs0 0 0 (po_X8_cheapest G hMd qMd Q)) (hK24 : ∀ (x1 x2 x3 : Int32) (vMd : OV), K24 x1 x2 x3 vMd → GW C 0 0 [bMd G hMd qMd vMd] 24 [(0, .ref hMd), (1, .int x1), (2, .int x2), (3, .int x3)] []) (hK61 : ∀ (x1 x2 x3 x4 x5 : Int32) (vMd : OV), K61 x1 x2 x3 x4 x5 vMd → GW C 0 0 [bMd G hMd qMd vMd] 61 [(0, .ref hMd), (1, .int x1), (2, .int x2), (3, .int x3), (4, .int x4), (5, .int x5)] []) {x1 x2 x3 x5 s0 : Int32} {vMd : OV} (hw : wp_X8_cheapest_128 Q K24 K61 x1 x2 x3 x5 s0 vMd) : GW C 0 0 [bMd G hMd qMd vMd] 128 [(0, .ref hMd), (1, .int x1), (2, .int x2), (3, .int x3), (5, .int x5)] [.int s0] := by
  unfold wp_X8_cheapest_128 at hw
  refine gw_iconst (v := (1 : Int32)) F dX8_cheapest_128 ic_iconst_1 ?_
  refine gw_goto (tgt := 133) F dX8_cheapest_129 (by decide) ?_
  exact lb_X8_cheapest_133 F E hK24 hK61 hw
def wp_X8_cheapest_132 (Q : Int32 → OV → Prop) (K24 : Int32 → Int32 → Int32 → OV → Prop) (K61 : Int32 → Int32 → Int32 → Int32 → Int32 → OV → Prop) (x1 x2 x3 x5 s0 : Int32) (vMd : OV) : Prop :=
  (wp_X8_cheapest_133 Q K24 K61 x1 x2 x3 x5 s0 (0 : Int32) vMd)
set_option maxRecDepth 20000 in
theorem lb_X8_cheapest_132 {X : List Cond} {l : Launch} {D : va_G} {G : Nat → ClassId} {C : Cx} {bs0 : List va_W} {hMd : Nat} {qMd : Nat → Nat} {Q : Int32 → OV → Prop} {K24 : Int32 → Int32 → Int32 → OV → Prop} {K61 : Int32 → Int32 → Int32 → Int32 → Int32 → OV → Prop} (F : GF C X cX8_cheapest wsX8_cheapest RX8 rm_X8_cheapest 7 (some .int) D G l) (E : GE C bs0 0 0 (po_X8_cheapest G hMd qMd Q)) (hK24 : ∀ (x1 x2 x3 : Int32) (vMd : OV), K24 x1 x2 x3 vMd → GW C 0 0 [bMd G hMd qMd vMd] 24 [(0, .ref hMd), (1, .int x1), (2, .int x2), (3, .int x3)] []) (hK61 : ∀ (x1 x2 x3 x4 x5 : Int32) (vMd : OV), K61 x1 x2 x3 x4 x5 vMd → GW C 0 0 [bMd G hMd qMd vMd] 61 [(0, .ref hMd), (1, .int x1), (2, .int x2), (3, .int x3), (4, .int x4), (5, .int x5)] []) {x1 x2 x3 x5 s0 : Int32} {vMd : OV} (hw : wp_X8_cheapest_132 Q K24 K61 x1 x2 x3 x5 s0 vMd) : GW C 0 0 [bMd G hMd qMd vMd] 132 [(0, .ref hMd), (1, .int x1), (2, .int x2), (3, .int x3), (5, .int x5)] [.int s0] := by
  unfold wp_X8_cheapest_132 at hw
  refine gw_iconst (v := (0 : Int32)) F dX8_cheapest_132 ic_iconst_0 ?_
  exact lb_X8_cheapest_133 F E hK24 hK61 hw
def wp_X8_cheapest_61 (Q : Int32 → OV → Prop) (K24 : Int32 → Int32 → Int32 → OV → Prop) (K61 : Int32 → Int32 → Int32 → Int32 → Int32 → OV → Prop) (x1 x2 x3 x4 x5 : Int32) (vMd : OV) : Prop :=
  (vp_in (0 : Int32) 177 ∧ (((vMd.1 0 (0 : Int32).toNatClampNeg) ≤ x5 → ((¬ x4 = x2 → (wp_X8_cheapest_150 Q K24 x1 x2 x3 vMd)) ∧ (x4 = x2 → (Q x3 vMd)))) ∧ (¬ ((vMd.1 0 (0 : Int32).toNatClampNeg) ≤ x5) → (vp_in (((77 : Int32) + ((10 : Int32) * x5)) + x1) 177 ∧ ((¬ (vMd.1 0 (((77 : Int32) + ((10 : Int32) * x5)) + x1).toNatClampNeg) = (1 : Int32) → (wp_X8_costOf (fun (r_17 : Int32) => (wp_X8_costOf (fun (r_18 : Int32) => (∀ i_19 : Int32, i_19 = (r_17 - r_18) → ((i_19 < 0 → (wp_X8_cheapest_128 Q K24 K61 x1 x2 x3 x5 x4 vMd)) ∧ (¬ (i_19 < 0) → ((¬ i_19 = 0 → (wp_X8_cheapest_132 Q K24 K61 x1 x2 x3 x5 x4 vMd)) ∧ (i_19 = 0 → ((x3 ≤ x5 → (wp_X8_cheapest_132 Q K24 K61 x1 x2 x3 x5 x4 vMd)) ∧ (¬ (x3 ≤ x5) → (wp_X8_cheapest_128 Q K24 K61 x1 x2 x3 x5 x4 vMd))))))))) x3 x1 vMd)) x5 x1 vMd)) ∧ ((vMd.1 0 (((77 : Int32) + ((10 : Int32) * x5)) + x1).toNatClampNeg) = (1 : Int32) → (wp_X8_cheapest_136 Q K24 K61 x1 x2 x3 x4 x5 vMd)))))))
set_option maxRecDepth 20000 in
theorem lb_X8_cheapest_61 {X : List Cond} {l : Launch} {D : va_G} {G : Nat → ClassId} {C : Cx} {bs0 : List va_W} {hMd : Nat} {qMd : Nat → Nat} {Q : Int32 → OV → Prop} {K24 : Int32 → Int32 → Int32 → OV → Prop} {K61 : Int32 → Int32 → Int32 → Int32 → Int32 → OV → Prop} (F : GF C X cX8_cheapest wsX8_cheapest RX8 rm_X8_cheapest 7 (some .int) D G l) (E : GE C bs0 0 0 (po_X8_cheapest G hMd qMd Q)) (hK24 : ∀ (x1 x2 x3 : Int32) (vMd : OV), K24 x1 x2 x3 vMd → GW C 0 0 [bMd G hMd qMd vMd] 24 [(0, .ref hMd), (1, .int x1), (2, .int x2), (3, .int x3)] []) (hK61 : ∀ (x1 x2 x3 x4 x5 : Int32) (vMd : OV), K61 x1 x2 x3 x4 x5 vMd → GW C 0 0 [bMd G hMd qMd vMd] 61 [(0, .ref hMd), (1, .int x1), (2, .int x2), (3, .int x3), (4, .int x4), (5, .int x5)] []) {x1 x2 x3 x4 x5 : Int32} {vMd : OV} (hw : wp_X8_cheapest_61 Q K24 K61 x1 x2 x3 x4 x5 vMd) : GW C 0 0 [bMd G hMd qMd vMd] 61 [(0, .ref hMd), (1, .int x1), (2, .int x2), (3, .int x3), (4, .int x4), (5, .int x5)] [] := by
  unfold wp_X8_cheapest_61 at hw
  refine gw_iload F dX8_cheapest_61 5 rfl ?_
  refine gw_aload_n F dX8_cheapest_63 0 rfl ?_
  refine gw_get F in_X8_cheapest_RX8 0 rfl rfl 0 (by decide) lk_X8_cheapest_7 rfl dX8_cheapest_64 ?_
  refine gw_iconst (v := (0 : Int32)) F dX8_cheapest_67 ic_iconst_0 ?_
  obtain ⟨h_11, hw⟩ := hw
  refine gw_iald F 1 rfl h_11 dX8_cheapest_68 ?_
  refine gw_icmp_ge (tgt := 142) F dX8_cheapest_69 (by decide) (fun c_12 => ?_) (fun c_12 => ?_)
  · have hw := hw.1 c_12
    refine gw_iload F dX8_cheapest_142 4 rfl ?_
    refine gw_iload_n F dX8_cheapest_144 2 rfl ?_
    refine gw_icmp_ne (tgt := 150) F dX8_cheapest_145 (by decide) (fun c_13 => ?_) (fun c_13 => ?_)
    · have hw := hw.1 c_13
      refine gw_lv [0, 1, 2, 3] rfl ?_
      exact lb_X8_cheapest_150 F E hK24 hw
    · have hw := hw.2 c_13
      refine gw_iload_n F dX8_cheapest_148 3 rfl ?_
      exact gw_iret F E rfl rfl (Nat.le_of_ble_eq_true rfl) (Nat.le_of_ble_eq_true rfl) dX8_cheapest_149 ⟨_, _, rfl, rfl, hw⟩
  · have hw := hw.2 c_12
    refine gw_aload_n F dX8_cheapest_72 0 rfl ?_
    refine gw_get F in_X8_cheapest_RX8 0 rfl rfl 0 (by decide) lk_X8_cheapest_7 rfl dX8_cheapest_73 ?_
    refine gw_bipush (v := (77 : Int32)) F dX8_cheapest_76 ic_bipush_77 ?_
    refine gw_bipush (v := (10 : Int32)) F dX8_cheapest_78 ic_bipush_10 ?_
    refine gw_iload F dX8_cheapest_80 5 rfl ?_
    refine gw_imul F dX8_cheapest_82 ?_
    refine gw_iadd F dX8_cheapest_83 ?_
    refine gw_iload_n F dX8_cheapest_84 1 rfl ?_
    refine gw_iadd F dX8_cheapest_85 ?_
    obtain ⟨h_15, hw⟩ := hw
    refine gw_iald F 1 rfl h_15 dX8_cheapest_86 ?_
    refine gw_iconst (v := (1 : Int32)) F dX8_cheapest_87 ic_iconst_1 ?_
    refine gw_icmp_ne (tgt := 94) F dX8_cheapest_88 (by decide) (fun c_16 => ?_) (fun c_16 => ?_)
    · have hw := hw.1 c_16
      refine gw_aload_n F dX8_cheapest_94 0 rfl ?_
      refine gw_iload F dX8_cheapest_95 5 rfl ?_
      refine gw_iload_n F dX8_cheapest_97 1 rfl ?_
      refine gw_callV F (ct_X8_costOf hw) 2 gX8_cheapest_X8_costOf rfl rfl rfl hd_X8_costOf ⟨(Nat.le_of_ble_eq_true rfl), (Nat.le_of_ble_eq_true rfl)⟩ rfl rfl (Nat.le_of_ble_eq_true rfl) ⟨Nat.zero_le _, Nat.zero_le _⟩ [0] (bsr := []) rfl rfl (q0 := 0) rfl rfl dX8_cheapest_98 ?_
      rintro _ _ ⟨r_17, rfl, rfl, hw⟩
      refine gw_sel [0] (bs' := [bMd G hMd qMd vMd]) rfl rfl ?_
      change GW C 0 0 _ 101 _ [.int r_17]
      refine gw_aload_n F dX8_cheapest_101 0 rfl ?_
      refine gw_iload_n F dX8_cheapest_102 3 rfl ?_
      refine gw_iload_n F dX8_cheapest_103 1 rfl ?_
      refine gw_callV F (ct_X8_costOf hw) 2 gX8_cheapest_X8_costOf rfl rfl rfl hd_X8_costOf ⟨(Nat.le_of_ble_eq_true rfl), (Nat.le_of_ble_eq_true rfl)⟩ rfl rfl (Nat.le_of_ble_eq_true rfl) ⟨Nat.zero_le _, Nat.zero_le _⟩ [0] (bsr := []) rfl rfl (q0 := 0) rfl rfl dX8_cheapest_104 ?_
      rintro _ _ ⟨r_18, rfl, rfl, hw⟩
      refine gw_sel [0] (bs' := [bMd G hMd qMd vMd]) rfl rfl ?_
      change GW C 0 0 _ 107 _ [.int r_18, .int r_17]
      refine gw_isub F dX8_cheapest_107 ?_
      refine gw_topi (fun i_19 e_i_19 => ?_)
      have hw := hw i_19 e_i_19
      refine gw_istore (lv' := [(6, .int i_19), (0, .ref hMd), (1, .int x1), (2, .int x2), (3, .int x3), (4, .int x4), (5, .int x5)]) F dX8_cheapest_108 (by decide) rfl ?_
      refine gw_iload F dX8_cheapest_110 5 rfl ?_
      refine gw_iload F dX8_cheapest_112 0 rfl ?_
      refine gw_if_lt (tgt := 128) F dX8_cheapest_114 (by decide) (fun c_20 => ?_) (fun c_20 => ?_)
      · have hw := hw.1 c_20
        refine gw_lv [1, 2, 3, 4, 6] rfl ?_
        exact lb_X8_cheapest_128 F E hK24 hK61 hw
      · have hw := hw.2 c_20
        refine gw_iload F dX8_cheapest_117 0 rfl ?_
        refine gw_if_ne (tgt := 132) F dX8_cheapest_119 (by decide) (fun c_23 => ?_) (fun c_23 => ?_)
        · have hw := hw.1 c_23
          refine gw_lv [1, 2, 3, 4, 6] rfl ?_
          exact lb_X8_cheapest_132 F E hK24 hK61 hw
        · have hw := hw.2 c_23
          refine gw_iload F dX8_cheapest_122 6 rfl ?_
          refine gw_iload_n F dX8_cheapest_124 4 rfl ?_
          refine gw_icmp_ge (tgt := 132) F dX8_cheapest_125 (by decide) (fun c_24 => ?_) (fun c_24 => ?_)
          · have hw := hw.1 c_24
            refine gw_lv [1, 2, 3, 4, 6] rfl ?_
            exact lb_X8_cheapest_132 F E hK24 hK61 hw
          · have hw := hw.2 c_24
            refine gw_lv [1, 2, 3, 4, 6] rfl ?_
            exact lb_X8_cheapest_128 F E hK24 hK61 hw
    · have hw := hw.2 c_16
      refine gw_goto (tgt := 136) F dX8_cheapest_91 (by decide) ?_
      exact lb_X8_cheapest_136 F E hK24 hK61 hw
def wp_X8_cheapest_61_loop (Q : Int32 → OV → Prop) (K24 : Int32 → Int32 → Int32 → OV → Prop) : Nat → Int32 → Int32 → Int32 → Int32 → Int32 → OV → Prop
  | 0, _, _, _, _, _, _ => False
  | n + 1, x1, x2, x3, x4, x5, vMd => wp_X8_cheapest_61 Q K24 (wp_X8_cheapest_61_loop Q K24 n) x1 x2 x3 x4 x5 vMd
theorem lp_X8_cheapest_61 {X : List Cond} {l : Launch} {D : va_G} {G : Nat → ClassId} {C : Cx} {bs0 : List va_W} {hMd : Nat} {qMd : Nat → Nat} {Q : Int32 → OV → Prop} {K24 : Int32 → Int32 → Int32 → OV → Prop} (F : GF C X cX8_cheapest wsX8_cheapest RX8 rm_X8_cheapest 7 (some .int) D G l) (E : GE C bs0 0 0 (po_X8_cheapest G hMd qMd Q)) (hK24 : ∀ (x1 x2 x3 : Int32) (vMd : OV), K24 x1 x2 x3 vMd → GW C 0 0 [bMd G hMd qMd vMd] 24 [(0, .ref hMd), (1, .int x1), (2, .int x2), (3, .int x3)] []) : ∀ (n : Nat) (x1 x2 x3 x4 x5 : Int32) (vMd : OV), wp_X8_cheapest_61_loop Q K24 n x1 x2 x3 x4 x5 vMd → GW C 0 0 [bMd G hMd qMd vMd] 61 [(0, .ref hMd), (1, .int x1), (2, .int x2), (3, .int x3), (4, .int x4), (5, .int x5)] [] := by
  intro n
  induction n with
  | zero => intro x1 x2 x3 x4 x5 vMd hw; exact False.elim hw
  | succ n ih => intro x1 x2 x3 x4 x5 vMd hw; exact lb_X8_cheapest_61 (K61 := wp_X8_cheapest_61_loop Q K24 n) F E hK24 ih hw
def wp_X8_cheapest_24 (Q : Int32 → OV → Prop) (K24 : Int32 → Int32 → Int32 → OV → Prop) (x1 x2 x3 : Int32) (vMd : OV) : Prop :=
  (vp_in (0 : Int32) 177 ∧ (((vMd.1 0 (0 : Int32).toNatClampNeg) ≤ x3 → (∀ v_8 : OV, v_8 = sI vMd 9 (2 : Int32) → (Q (0 : Int32) v_8))) ∧ (¬ ((vMd.1 0 (0 : Int32).toNatClampNeg) ≤ x3) → (vp_in (((77 : Int32) + ((10 : Int32) * x3)) + x1) 177 ∧ ((¬ (vMd.1 0 (((77 : Int32) + ((10 : Int32) * x3)) + x1).toNatClampNeg) = (1 : Int32) → (∃ n_25 : Nat, wp_X8_cheapest_61_loop Q K24 n_25 x1 x2 x3 (0 : Int32) (0 : Int32) vMd)) ∧ ((vMd.1 0 (((77 : Int32) + ((10 : Int32) * x3)) + x1).toNatClampNeg) = (1 : Int32) → (wp_X8_cheapest_150 Q K24 x1 x2 x3 vMd)))))))
set_option maxRecDepth 20000 in
theorem lb_X8_cheapest_24 {X : List Cond} {l : Launch} {D : va_G} {G : Nat → ClassId} {C : Cx} {bs0 : List va_W} {hMd : Nat} {qMd : Nat → Nat} {Q : Int32 → OV → Prop} {K24 : Int32 → Int32 → Int32 → OV → Prop} (F : GF C X cX8_cheapest wsX8_cheapest RX8 rm_X8_cheapest 7 (some .int) D G l) (E : GE C bs0 0 0 (po_X8_cheapest G hMd qMd Q)) (hK24 : ∀ (x1 x2 x3 : Int32) (vMd : OV), K24 x1 x2 x3 vMd → GW C 0 0 [bMd G hMd qMd vMd] 24 [(0, .ref hMd), (1, .int x1), (2, .int x2), (3, .int x3)] []) {x1 x2 x3 : Int32} {vMd : OV} (hw : wp_X8_cheapest_24 Q K24 x1 x2 x3 vMd) : GW C 0 0 [bMd G hMd qMd vMd] 24 [(0, .ref hMd), (1, .int x1), (2, .int x2), (3, .int x3)] [] := by
  unfold wp_X8_cheapest_24 at hw
  refine gw_iload_n F dX8_cheapest_24 3 rfl ?_
  refine gw_aload_n F dX8_cheapest_25 0 rfl ?_
  refine gw_get F in_X8_cheapest_RX8 0 rfl rfl 0 (by decide) lk_X8_cheapest_7 rfl dX8_cheapest_26 ?_
  refine gw_iconst (v := (0 : Int32)) F dX8_cheapest_29 ic_iconst_0 ?_
  obtain ⟨h_6, hw⟩ := hw
  refine gw_iald F 1 rfl h_6 dX8_cheapest_30 ?_
  refine gw_icmp_ge (tgt := 156) F dX8_cheapest_31 (by decide) (fun c_7 => ?_) (fun c_7 => ?_)
  · have hw := hw.1 c_7
    refine gw_aload_n F dX8_cheapest_156 0 rfl ?_
    refine gw_iconst (v := (2 : Int32)) F dX8_cheapest_157 ic_iconst_2 ?_
    obtain ⟨v_8, e_v_8⟩ : ∃ z : OV, z = sI vMd 9 (2 : Int32) := ⟨_, rfl⟩
    have hw := hw v_8 e_v_8
    refine gw_put (bs' := [bMd G hMd qMd v_8]) F in_X8_cheapest_RX8 tyX8 tyX8_ok nmX8 0 rfl rfl 9 (by decide) lk_X8_cheapest_46 rfl rfl rfl (Nat.le_of_ble_eq_true rfl) dX8_cheapest_158 (by rw [e_v_8]; rfl) ?_
    refine gw_iconst (v := (0 : Int32)) F dX8_cheapest_161 ic_iconst_0 ?_
    exact gw_iret F E rfl rfl (Nat.le_of_ble_eq_true rfl) (Nat.le_of_ble_eq_true rfl) dX8_cheapest_162 ⟨_, _, rfl, rfl, hw⟩
  · have hw := hw.2 c_7
    refine gw_aload_n F dX8_cheapest_34 0 rfl ?_
    refine gw_get F in_X8_cheapest_RX8 0 rfl rfl 0 (by decide) lk_X8_cheapest_7 rfl dX8_cheapest_35 ?_
    refine gw_bipush (v := (77 : Int32)) F dX8_cheapest_38 ic_bipush_77 ?_
    refine gw_bipush (v := (10 : Int32)) F dX8_cheapest_40 ic_bipush_10 ?_
    refine gw_iload_n F dX8_cheapest_42 3 rfl ?_
    refine gw_imul F dX8_cheapest_43 ?_
    refine gw_iadd F dX8_cheapest_44 ?_
    refine gw_iload_n F dX8_cheapest_45 1 rfl ?_
    refine gw_iadd F dX8_cheapest_46 ?_
    obtain ⟨h_9, hw⟩ := hw
    refine gw_iald F 1 rfl h_9 dX8_cheapest_47 ?_
    refine gw_iconst (v := (1 : Int32)) F dX8_cheapest_48 ic_iconst_1 ?_
    refine gw_icmp_ne (tgt := 55) F dX8_cheapest_49 (by decide) (fun c_10 => ?_) (fun c_10 => ?_)
    · have hw := hw.1 c_10
      refine gw_iconst (v := (0 : Int32)) F dX8_cheapest_55 ic_iconst_0 ?_
      refine gw_istore (lv' := [(4, .int (0 : Int32)), (0, .ref hMd), (1, .int x1), (2, .int x2), (3, .int x3)]) F dX8_cheapest_56 (by decide) rfl ?_
      refine gw_iconst (v := (0 : Int32)) F dX8_cheapest_58 ic_iconst_0 ?_
      refine gw_istore (lv' := [(5, .int (0 : Int32)), (4, .int (0 : Int32)), (0, .ref hMd), (1, .int x1), (2, .int x2), (3, .int x3)]) F dX8_cheapest_59 (by decide) rfl ?_
      refine gw_lv [2, 3, 4, 5, 1, 0] rfl ?_
      obtain ⟨n_25, hw⟩ := hw
      exact lp_X8_cheapest_61 F E hK24 n_25 _ _ _ _ _ _ hw
    · have hw := hw.2 c_10
      refine gw_goto (tgt := 150) F dX8_cheapest_52 (by decide) ?_
      exact lb_X8_cheapest_150 F E hK24 hw
def wp_X8_cheapest_24_loop (Q : Int32 → OV → Prop) : Nat → Int32 → Int32 → Int32 → OV → Prop
  | 0, _, _, _, _ => False
  | n + 1, x1, x2, x3, vMd => wp_X8_cheapest_24 Q (wp_X8_cheapest_24_loop Q n) x1 x2 x3 vMd
theorem lp_X8_cheapest_24 {X : List Cond} {l : Launch} {D : va_G} {G : Nat → ClassId} {C : Cx} {bs0 : List va_W} {hMd : Nat} {qMd : Nat → Nat} {Q : Int32 → OV → Prop} (F : GF C X cX8_cheapest wsX8_cheapest RX8 rm_X8_cheapest 7 (some .int) D G l) (E : GE C bs0 0 0 (po_X8_cheapest G hMd qMd Q)) : ∀ (n : Nat) (x1 x2 x3 : Int32) (vMd : OV), wp_X8_cheapest_24_loop Q n x1 x2 x3 vMd → GW C 0 0 [bMd G hMd qMd vMd] 24 [(0, .ref hMd), (1, .int x1), (2, .int x2), (3, .int x3)] [] := by
  intro n
  induction n with
  | zero => intro x1 x2 x3 vMd hw; exact False.elim hw
  | succ n ih => intro x1 x2 x3 vMd hw; exact lb_X8_cheapest_24 (K24 := wp_X8_cheapest_24_loop Q n) F E ih hw
def wp_X8_cheapest_14 (Q : Int32 → OV → Prop) (x1 x2 s1 : Int32) (vMd : OV) : Prop :=
  (wp_X8_fails (fun (r_3 : Int32) (v_4 : OV) => ((r_3 = 0 → (∃ n_26 : Nat, wp_X8_cheapest_24_loop Q n_26 x1 x2 (0 : Int32) v_4)) ∧ (¬ (r_3 = 0) → (Q (0 : Int32) v_4)))) s1 vMd)
set_option maxRecDepth 20000 in
theorem lb_X8_cheapest_14 {X : List Cond} {l : Launch} {D : va_G} {G : Nat → ClassId} {C : Cx} {bs0 : List va_W} {hMd : Nat} {qMd : Nat → Nat} {Q : Int32 → OV → Prop} (F : GF C X cX8_cheapest wsX8_cheapest RX8 rm_X8_cheapest 7 (some .int) D G l) (E : GE C bs0 0 0 (po_X8_cheapest G hMd qMd Q)) {x1 x2 s1 : Int32} {vMd : OV} (hw : wp_X8_cheapest_14 Q x1 x2 s1 vMd) : GW C 0 0 [bMd G hMd qMd vMd] 14 [(0, .ref hMd), (1, .int x1), (2, .int x2)] [.int s1, .ref hMd] := by
  unfold wp_X8_cheapest_14 at hw
  refine gw_callV F (ct_X8_fails hw) 1 gX8_cheapest_X8_fails rfl rfl rfl hd_X8_fails ⟨(Nat.le_of_ble_eq_true rfl), (Nat.le_of_ble_eq_true rfl)⟩ rfl rfl (Nat.le_of_ble_eq_true rfl) ⟨Nat.zero_le _, Nat.zero_le _⟩ [0] (bsr := []) rfl rfl (q0 := 0) rfl rfl dX8_cheapest_14 ?_
  rintro _ _ ⟨r_3, v_4, rfl, rfl, hw⟩
  refine gw_sel [0] (bs' := [bMd G hMd qMd v_4]) rfl rfl ?_
  change GW C 0 0 _ 17 _ [.int r_3]
  refine gw_if_eq (tgt := 22) F dX8_cheapest_17 (by decide) (fun c_5 => ?_) (fun c_5 => ?_)
  · have hw := hw.1 c_5
    refine gw_iconst (v := (0 : Int32)) F dX8_cheapest_22 ic_iconst_0 ?_
    refine gw_istore_n (lv' := [(3, .int (0 : Int32)), (0, .ref hMd), (1, .int x1), (2, .int x2)]) F dX8_cheapest_23 (by decide) rfl ?_
    refine gw_lv [1, 2, 3, 0] rfl ?_
    obtain ⟨n_26, hw⟩ := hw
    exact lp_X8_cheapest_24 F E n_26 _ _ _ _ hw
  · have hw := hw.2 c_5
    refine gw_iconst (v := (0 : Int32)) F dX8_cheapest_20 ic_iconst_0 ?_
    exact gw_iret F E rfl rfl (Nat.le_of_ble_eq_true rfl) (Nat.le_of_ble_eq_true rfl) dX8_cheapest_21 ⟨_, _, rfl, rfl, hw⟩
def wp_X8_cheapest_0 (Q : Int32 → OV → Prop) (x1 : Int32) (x2 : Int32) (vMd : OV) : Prop :=
  (wp_X8_isLock (fun (r_1 : Int32) => ((r_1 = 0 → (wp_X8_cheapest_14 Q x1 x2 (1 : Int32) vMd)) ∧ (¬ (r_1 = 0) → (wp_X8_cheapest_14 Q x1 x2 (0 : Int32) vMd)))) x1 vMd)
set_option maxRecDepth 20000 in
theorem lb_X8_cheapest_0 {X : List Cond} {l : Launch} {D : va_G} {G : Nat → ClassId} {C : Cx} {bs0 : List va_W} {hMd : Nat} {qMd : Nat → Nat} {Q : Int32 → OV → Prop} (F : GF C X cX8_cheapest wsX8_cheapest RX8 rm_X8_cheapest 7 (some .int) D G l) (E : GE C bs0 0 0 (po_X8_cheapest G hMd qMd Q)) {x1 : Int32} {x2 : Int32} {vMd : OV} (hw : wp_X8_cheapest_0 Q x1 x2 vMd) : GW C 0 0 [bMd G hMd qMd vMd] 0 [(0, .ref hMd), (1, .int x1), (2, .int x2)] [] := by
  unfold wp_X8_cheapest_0 at hw
  refine gw_aload_n F dX8_cheapest_0 0 rfl ?_
  refine gw_aload_n F dX8_cheapest_1 0 rfl ?_
  refine gw_iload_n F dX8_cheapest_2 1 rfl ?_
  refine gw_callV F (ct_X8_isLock hw) 1 gX8_cheapest_X8_isLock rfl rfl rfl hd_X8_isLock ⟨(Nat.le_of_ble_eq_true rfl), (Nat.le_of_ble_eq_true rfl)⟩ rfl rfl (Nat.le_of_ble_eq_true rfl) ⟨Nat.zero_le _, Nat.zero_le _⟩ [0] (bsr := []) rfl rfl (q0 := 0) rfl rfl dX8_cheapest_3 ?_
  rintro _ _ ⟨r_1, rfl, rfl, hw⟩
  refine gw_sel [0] (bs' := [bMd G hMd qMd vMd]) rfl rfl ?_
  change GW C 0 0 _ 6 _ [.int r_1, .ref hMd]
  refine gw_if_eq (tgt := 13) F dX8_cheapest_6 (by decide) (fun c_2 => ?_) (fun c_2 => ?_)
  · have hw := hw.1 c_2
    refine gw_iconst (v := (1 : Int32)) F dX8_cheapest_13 ic_iconst_1 ?_
    exact lb_X8_cheapest_14 F E hw
  · have hw := hw.2 c_2
    refine gw_iconst (v := (0 : Int32)) F dX8_cheapest_9 ic_iconst_0 ?_
    refine gw_goto (tgt := 14) F dX8_cheapest_10 (by decide) ?_
    exact lb_X8_cheapest_14 F E hw
def wp_X8_cheapest (Q : Int32 → OV → Prop) (x1 : Int32) (x2 : Int32) (vMd : OV) : Prop := wp_X8_cheapest_0 Q x1 x2 vMd
theorem ct_X8_cheapest {X : List Cond} {l : Launch} {D : va_G} {G : Nat → ClassId} {hMd : Nat} {qMd : Nat → Nat} {Q : Int32 → OV → Prop} {x1 : Int32} {x2 : Int32} {vMd : OV} (hw : wp_X8_cheapest Q x1 x2 vMd) : CM X l yX8_cheapest wsX8_cheapest rm_X8_cheapest D G [.ref hMd, .int x1, .int x2] [bMd G hMd qMd vMd] 0 0 (po_X8_cheapest G hMd qMd Q) :=
  CM.of pn_RX8 rfl rfl (Nat.le_of_ble_eq_true rfl) rfl (fun C F E => lb_X8_cheapest_0 F E hw)
-- X8_length
abbrev rm_X8_length : Room := { frames := 5, cells := 0, slots := 0, locals := 150 }
def po_X8_length (G : Nat → ClassId) (hMd : Nat) (qMd : Nat → Nat) (Q : Int32 → OV → Prop) : Option Value → List va_W → Prop := fun o bs => ∃ (r : Int32) (vMd : OV), o = some (.int r) ∧ bs = [bMd G hMd qMd vMd] ∧ Q r vMd
theorem hd_X8_length : yX8_length.cls = RX8 ∧ yX8_length.cls ≠ "java/lang/invoke/MethodHandle" ∧ yX8_length.cls ≠ "java/lang/invoke/VarHandle" ∧ (parseMethodDescriptor yX8_length.desc).map (fun d => d.parameters.length) = some 0 := by decide +kernel
theorem in_X8_length_RX8 : ∀ w ∈ wsX80, w ∈ wsX8_length := fun w h => List.mem_cons_of_mem _ (List.mem_append_left _ (List.mem_append_right _ h))
theorem lk_X8_length_125 : Cond.fieldLink RX8 125 "KeyWavesModel" "last" "I" ∈ wsX8_length := List.mem_cons_of_mem _ (List.mem_append_left _ (List.mem_append_left _ (List.mem_append_left _ (List.mem_of_getElem? (i := 0) rfl))))
def wp_X8_length_31 (Q : Int32 → OV → Prop) (s0 : Int32) (vMd : OV) : Prop :=
  (Q s0 vMd)
set_option maxRecDepth 20000 in
theorem lb_X8_length_31 {X : List Cond} {l : Launch} {D : va_G} {G : Nat → ClassId} {C : Cx} {bs0 : List va_W} {hMd : Nat} {qMd : Nat → Nat} {Q : Int32 → OV → Prop} (F : GF C X cX8_length wsX8_length RX8 rm_X8_length 2 (some .int) D G l) (E : GE C bs0 0 0 (po_X8_length G hMd qMd Q)) {s0 : Int32} {vMd : OV} (hw : wp_X8_length_31 Q s0 vMd) : GW C 0 0 [bMd G hMd qMd vMd] 31 [] [.int s0] := by
  unfold wp_X8_length_31 at hw
  exact gw_iret F E rfl rfl (Nat.le_of_ble_eq_true rfl) (Nat.le_of_ble_eq_true rfl) dX8_length_31 ⟨_, _, rfl, rfl, hw⟩
def wp_X8_length_15 (Q : Int32 → OV → Prop) (s1 : Int32) (vMd : OV) : Prop :=
  (wp_X8_fails (fun (r_4 : Int32) (v_5 : OV) => ((r_4 = 0 → (wp_X8_length_31 Q ((v_5.2 20) + (1 : Int32)) v_5)) ∧ (¬ (r_4 = 0) → (wp_X8_length_31 Q (0 : Int32) v_5)))) s1 vMd)
set_option maxRecDepth 20000 in
theorem lb_X8_length_15 {X : List Cond} {l : Launch} {D : va_G} {G : Nat → ClassId} {C : Cx} {bs0 : List va_W} {hMd : Nat} {qMd : Nat → Nat} {Q : Int32 → OV → Prop} (F : GF C X cX8_length wsX8_length RX8 rm_X8_length 2 (some .int) D G l) (E : GE C bs0 0 0 (po_X8_length G hMd qMd Q)) {s1 : Int32} {vMd : OV} (hw : wp_X8_length_15 Q s1 vMd) : GW C 0 0 [bMd G hMd qMd vMd] 15 [(0, .ref hMd)] [.int s1, .ref hMd] := by
  unfold wp_X8_length_15 at hw
  refine gw_callV F (ct_X8_fails hw) 1 gX8_length_X8_fails rfl rfl rfl hd_X8_fails ⟨(Nat.le_of_ble_eq_true rfl), (Nat.le_of_ble_eq_true rfl)⟩ rfl rfl (Nat.le_of_ble_eq_true rfl) ⟨Nat.zero_le _, Nat.zero_le _⟩ [0] (bsr := []) rfl rfl (q0 := 0) rfl rfl dX8_length_15 ?_
  rintro _ _ ⟨r_4, v_5, rfl, rfl, hw⟩
  refine gw_sel [0] (bs' := [bMd G hMd qMd v_5]) rfl rfl ?_
  change GW C 0 0 _ 18 _ [.int r_4]
  refine gw_if_eq (tgt := 25) F dX8_length_18 (by decide) (fun c_6 => ?_) (fun c_6 => ?_)
  · have hw := hw.1 c_6
    refine gw_aload_n F dX8_length_25 0 rfl ?_
    refine gw_get F in_X8_length_RX8 0 rfl rfl 20 (by decide) lk_X8_length_125 rfl dX8_length_26 ?_
    refine gw_iconst (v := (1 : Int32)) F dX8_length_29 ic_iconst_1 ?_
    refine gw_iadd F dX8_length_30 ?_
    refine gw_lv [] rfl ?_
    exact lb_X8_length_31 F E hw
  · have hw := hw.2 c_6
    refine gw_iconst (v := (0 : Int32)) F dX8_length_21 ic_iconst_0 ?_
    refine gw_goto (tgt := 31) F dX8_length_22 (by decide) ?_
    refine gw_lv [] rfl ?_
    exact lb_X8_length_31 F E hw
def wp_X8_length_0 (Q : Int32 → OV → Prop) (vMd : OV) : Prop :=
  (wp_X8_levels (fun (r_1 : Int32) (v_2 : OV) => ((r_1 = 0 → (wp_X8_length_15 Q (1 : Int32) v_2)) ∧ (¬ (r_1 = 0) → (wp_X8_length_15 Q (0 : Int32) v_2)))) vMd)
set_option maxRecDepth 20000 in
theorem lb_X8_length_0 {X : List Cond} {l : Launch} {D : va_G} {G : Nat → ClassId} {C : Cx} {bs0 : List va_W} {hMd : Nat} {qMd : Nat → Nat} {Q : Int32 → OV → Prop} (F : GF C X cX8_length wsX8_length RX8 rm_X8_length 2 (some .int) D G l) (E : GE C bs0 0 0 (po_X8_length G hMd qMd Q)) {vMd : OV} (hw : wp_X8_length_0 Q vMd) : GW C 0 0 [bMd G hMd qMd vMd] 0 [(0, .ref hMd)] [] := by
  unfold wp_X8_length_0 at hw
  refine gw_aload_n F dX8_length_0 0 rfl ?_
  refine gw_callV F (ct_X8_levels hw) 0 gX8_length_X8_levels rfl rfl rfl hd_X8_levels ⟨(Nat.le_of_ble_eq_true rfl), (Nat.le_of_ble_eq_true rfl)⟩ rfl rfl (Nat.le_of_ble_eq_true rfl) ⟨Nat.zero_le _, Nat.zero_le _⟩ [0] (bsr := []) rfl rfl (q0 := 0) rfl rfl dX8_length_1 ?_
  rintro _ _ ⟨r_1, v_2, rfl, rfl, hw⟩
  refine gw_sel [0] (bs' := [bMd G hMd qMd v_2]) rfl rfl ?_
  change GW C 0 0 _ 4 _ [.int r_1]
  refine gw_istore_n (lv' := [(1, .int r_1), (0, .ref hMd)]) F dX8_length_4 (by decide) rfl ?_
  refine gw_aload_n F dX8_length_5 1 rfl ?_
  refine gw_iload_n F dX8_length_6 0 rfl ?_
  refine gw_if_eq (tgt := 14) F dX8_length_7 (by decide) (fun c_3 => ?_) (fun c_3 => ?_)
  · have hw := hw.1 c_3
    refine gw_iconst (v := (1 : Int32)) F dX8_length_14 ic_iconst_1 ?_
    refine gw_lv [1] rfl ?_
    exact lb_X8_length_15 F E hw
  · have hw := hw.2 c_3
    refine gw_iconst (v := (0 : Int32)) F dX8_length_10 ic_iconst_0 ?_
    refine gw_goto (tgt := 15) F dX8_length_11 (by decide) ?_
    refine gw_lv [1] rfl ?_
    exact lb_X8_length_15 F E hw
def wp_X8_length (Q : Int32 → OV → Prop) (vMd : OV) : Prop := wp_X8_length_0 Q vMd
theorem ct_X8_length {X : List Cond} {l : Launch} {D : va_G} {G : Nat → ClassId} {hMd : Nat} {qMd : Nat → Nat} {Q : Int32 → OV → Prop} {vMd : OV} (hw : wp_X8_length Q vMd) : CM X l yX8_length wsX8_length rm_X8_length D G [.ref hMd] [bMd G hMd qMd vMd] 0 0 (po_X8_length G hMd qMd Q) :=
  CM.of pn_RX8 rfl rfl (Nat.le_of_ble_eq_true rfl) rfl (fun C F E => lb_X8_length_0 F E hw)
-- X8_adds
abbrev rm_X8_adds : Room := { frames := 18, cells := 0, slots := 0, locals := 460 }
def po_X8_adds (G : Nat → ClassId) (hMd : Nat) (qMd : Nat → Nat) (Q : Int32 → OV → Prop) : Option Value → List va_W → Prop := fun o bs => ∃ (r : Int32) (vMd : OV), o = some (.int r) ∧ bs = [bMd G hMd qMd vMd] ∧ Q r vMd
theorem hd_X8_adds : yX8_adds.cls = RX8 ∧ yX8_adds.cls ≠ "java/lang/invoke/MethodHandle" ∧ yX8_adds.cls ≠ "java/lang/invoke/VarHandle" ∧ (parseMethodDescriptor yX8_adds.desc).map (fun d => d.parameters.length) = some 0 := by decide +kernel
theorem in_X8_adds_RX8 : ∀ w ∈ wsX80, w ∈ wsX8_adds := fun w h => List.mem_cons_of_mem _ (List.mem_append_left _ (List.mem_append_right _ h))
theorem lk_X8_adds_46 : Cond.fieldLink RX8 46 "KeyWavesModel" "code" "I" ∈ wsX8_adds := List.mem_cons_of_mem _ (List.mem_append_left _ (List.mem_append_left _ (List.mem_append_left _ (List.mem_of_getElem? (i := 0) rfl))))
theorem lk_X8_adds_7 : Cond.fieldLink RX8 7 "KeyWavesModel" "g" "[I" ∈ wsX8_adds := List.mem_cons_of_mem _ (List.mem_append_left _ (List.mem_append_left _ (List.mem_append_left _ (List.mem_of_getElem? (i := 1) rfl))))
theorem lk_X8_adds_22 : Cond.fieldLink RX8 22 "KeyWavesModel" "spare" "[I" ∈ wsX8_adds := List.mem_cons_of_mem _ (List.mem_append_left _ (List.mem_append_left _ (List.mem_append_left _ (List.mem_of_getElem? (i := 2) rfl))))
def wp_X8_adds_0 (Q : Int32 → OV → Prop) (vMd : OV) : Prop :=
  (∀ v_1 : OV, v_1 = sI vMd 9 (0 : Int32) → (wp_X8_copies (fun (v_2 : (Nat → Int32)) => (∀ v_3 : OV, v_3 = sF v_1 4 v_2 → (wp_X8_adds0 (fun (r_4 : Int32) (v_5 : OV) => (wp_X8_copies (fun (v_6 : (Nat → Int32)) => (∀ v_7 : OV, v_7 = sF v_5 0 v_6 → (Q r_4 v_7))) 177 177 (0 : Int32) (0 : Int32) (v_5.1 4) (v_5.1 0))) v_3))) 177 177 (0 : Int32) (0 : Int32) (v_1.1 0) (v_1.1 4)))
set_option maxRecDepth 20000 in
theorem lb_X8_adds_0 {X : List Cond} {l : Launch} {D : va_G} {G : Nat → ClassId} {C : Cx} {bs0 : List va_W} {hMd : Nat} {qMd : Nat → Nat} {Q : Int32 → OV → Prop} (F : GF C X cX8_adds wsX8_adds RX8 rm_X8_adds 2 (some .int) D G l) (E : GE C bs0 0 0 (po_X8_adds G hMd qMd Q)) {vMd : OV} (hw : wp_X8_adds_0 Q vMd) : GW C 0 0 [bMd G hMd qMd vMd] 0 [(0, .ref hMd)] [] := by
  unfold wp_X8_adds_0 at hw
  refine gw_aload_n F dX8_adds_0 0 rfl ?_
  refine gw_iconst (v := (0 : Int32)) F dX8_adds_1 ic_iconst_0 ?_
  obtain ⟨v_1, e_v_1⟩ : ∃ z : OV, z = sI vMd 9 (0 : Int32) := ⟨_, rfl⟩
  have hw := hw v_1 e_v_1
  refine gw_put (bs' := [bMd G hMd qMd v_1]) F in_X8_adds_RX8 tyX8 tyX8_ok nmX8 0 rfl rfl 9 (by decide) lk_X8_adds_46 rfl rfl rfl (Nat.le_of_ble_eq_true rfl) dX8_adds_2 (by rw [e_v_1]; rfl) ?_
  refine gw_aload_n F dX8_adds_5 0 rfl ?_
  refine gw_get F in_X8_adds_RX8 0 rfl rfl 0 (by decide) lk_X8_adds_7 rfl dX8_adds_6 ?_
  refine gw_iconst (v := (0 : Int32)) F dX8_adds_9 ic_iconst_0 ?_
  refine gw_aload_n F dX8_adds_10 0 rfl ?_
  refine gw_get F in_X8_adds_RX8 0 rfl rfl 4 (by decide) lk_X8_adds_22 rfl dX8_adds_11 ?_
  refine gw_iconst (v := (0 : Int32)) F dX8_adds_14 ic_iconst_0 ?_
  refine gw_flat (bs' := mdB G hMd qMd v_1) rfl ?_
  refine gw_callS F (ct_X8_copies hw) 4 gX8_adds_X8_copies rfl rfl rfl hd_X8_copies ⟨(Nat.le_of_ble_eq_true rfl), (Nat.le_of_ble_eq_true rfl)⟩ rfl rfl (Nat.le_of_ble_eq_true rfl) ⟨Nat.zero_le _, Nat.zero_le _⟩ [0, 2, 3, 4, 6, 7, 8, 9, 10, 1, 5] (bsr := ((mdB G hMd qMd v_1).eraseIdx 5 |>.eraseIdx 1)) rfl rfl dX8_adds_15 ?_
  rintro _ _ ⟨v_2, rfl, rfl, hw⟩
  obtain ⟨v_3, e_v_3⟩ : ∃ z : OV, z = sF v_1 4 v_2 := ⟨_, rfl⟩
  have hw := hw v_3 e_v_3
  refine gw_sel [0, 9, 1, 2, 3, 10, 4, 5, 6, 7, 8] (bs' := mdB G hMd qMd v_3) (by rw [e_v_3]; rfl) rfl ?_
  refine gw_flat (bs' := [bMd G hMd qMd v_3]) rfl ?_
  change GW C 0 0 _ 18 _ []
  refine gw_aload_n F dX8_adds_18 0 rfl ?_
  refine gw_callV F (ct_X8_adds0 hw) 0 gX8_adds_X8_adds0 rfl rfl rfl hd_X8_adds0 ⟨(Nat.le_of_ble_eq_true rfl), (Nat.le_of_ble_eq_true rfl)⟩ rfl rfl (Nat.le_of_ble_eq_true rfl) ⟨Nat.zero_le _, Nat.zero_le _⟩ [0] (bsr := []) rfl rfl (q0 := 0) rfl rfl dX8_adds_19 ?_
  rintro _ _ ⟨r_4, v_5, rfl, rfl, hw⟩
  refine gw_sel [0] (bs' := [bMd G hMd qMd v_5]) rfl rfl ?_
  change GW C 0 0 _ 22 _ [.int r_4]
  refine gw_istore_n (lv' := [(1, .int r_4), (0, .ref hMd)]) F dX8_adds_22 (by decide) rfl ?_
  refine gw_aload_n F dX8_adds_23 1 rfl ?_
  refine gw_get F in_X8_adds_RX8 0 rfl rfl 4 (by decide) lk_X8_adds_22 rfl dX8_adds_24 ?_
  refine gw_iconst (v := (0 : Int32)) F dX8_adds_27 ic_iconst_0 ?_
  refine gw_aload_n F dX8_adds_28 1 rfl ?_
  refine gw_get F in_X8_adds_RX8 0 rfl rfl 0 (by decide) lk_X8_adds_7 rfl dX8_adds_29 ?_
  refine gw_iconst (v := (0 : Int32)) F dX8_adds_32 ic_iconst_0 ?_
  refine gw_flat (bs' := mdB G hMd qMd v_5) rfl ?_
  refine gw_callS F (ct_X8_copies hw) 4 gX8_adds_X8_copies rfl rfl rfl hd_X8_copies ⟨(Nat.le_of_ble_eq_true rfl), (Nat.le_of_ble_eq_true rfl)⟩ rfl rfl (Nat.le_of_ble_eq_true rfl) ⟨Nat.zero_le _, Nat.zero_le _⟩ [0, 2, 3, 4, 6, 7, 8, 9, 10, 5, 1] (bsr := ((mdB G hMd qMd v_5).eraseIdx 5 |>.eraseIdx 1)) rfl rfl dX8_adds_33 ?_
  rintro _ _ ⟨v_6, rfl, rfl, hw⟩
  obtain ⟨v_7, e_v_7⟩ : ∃ z : OV, z = sF v_5 0 v_6 := ⟨_, rfl⟩
  have hw := hw v_7 e_v_7
  refine gw_sel [0, 10, 1, 2, 3, 9, 4, 5, 6, 7, 8] (bs' := mdB G hMd qMd v_7) (by rw [e_v_7]; rfl) rfl ?_
  refine gw_flat (bs' := [bMd G hMd qMd v_7]) rfl ?_
  change GW C 0 0 _ 36 _ []
  refine gw_iload_n F dX8_adds_36 0 rfl ?_
  exact gw_iret F E rfl rfl (Nat.le_of_ble_eq_true rfl) (Nat.le_of_ble_eq_true rfl) dX8_adds_37 ⟨_, _, rfl, rfl, hw⟩
def wp_X8_adds (Q : Int32 → OV → Prop) (vMd : OV) : Prop := wp_X8_adds_0 Q vMd
theorem ct_X8_adds {X : List Cond} {l : Launch} {D : va_G} {G : Nat → ClassId} {hMd : Nat} {qMd : Nat → Nat} {Q : Int32 → OV → Prop} {vMd : OV} (hw : wp_X8_adds Q vMd) : CM X l yX8_adds wsX8_adds rm_X8_adds D G [.ref hMd] [bMd G hMd qMd vMd] 0 0 (po_X8_adds G hMd qMd Q) :=
  CM.of pn_RX8 rfl rfl (Nat.le_of_ble_eq_true rfl) rfl (fun C F E => lb_X8_adds_0 F E hw)
-- X8_comesToEnd
abbrev rm_X8_comesToEnd : Room := { frames := 18, cells := 0, slots := 0, locals := 460 }
def po_X8_comesToEnd (G : Nat → ClassId) (hMd : Nat) (qMd : Nat → Nat) (Q : Int32 → OV → Prop) : Option Value → List va_W → Prop := fun o bs => ∃ (r : Int32) (vMd : OV), o = some (.int r) ∧ bs = [bMd G hMd qMd vMd] ∧ Q r vMd
theorem hd_X8_comesToEnd : yX8_comesToEnd.cls = RX8 ∧ yX8_comesToEnd.cls ≠ "java/lang/invoke/MethodHandle" ∧ yX8_comesToEnd.cls ≠ "java/lang/invoke/VarHandle" ∧ (parseMethodDescriptor yX8_comesToEnd.desc).map (fun d => d.parameters.length) = some 0 := by decide +kernel
def wp_X8_comesToEnd_2 (Q : Int32 → OV → Prop) (K2 : Int32 → OV → Prop) (x1 : Int32) (vMd : OV) : Prop :=
  (wp_X8_adds0 (fun (r_1 : Int32) (v_2 : OV) => ((r_1 ≤ 0 → (Q x1 v_2)) ∧ (¬ (r_1 ≤ 0) → (∀ i_4 : Int32, i_4 = x1 + (1 : Int32) → (K2 i_4 v_2))))) vMd)
set_option maxRecDepth 20000 in
theorem lb_X8_comesToEnd_2 {X : List Cond} {l : Launch} {D : va_G} {G : Nat → ClassId} {C : Cx} {bs0 : List va_W} {hMd : Nat} {qMd : Nat → Nat} {Q : Int32 → OV → Prop} {K2 : Int32 → OV → Prop} (F : GF C X cX8_comesToEnd wsX8_comesToEnd RX8 rm_X8_comesToEnd 2 (some .int) D G l) (E : GE C bs0 0 0 (po_X8_comesToEnd G hMd qMd Q)) (hK2 : ∀ (x1 : Int32) (vMd : OV), K2 x1 vMd → GW C 0 0 [bMd G hMd qMd vMd] 2 [(0, .ref hMd), (1, .int x1)] []) {x1 : Int32} {vMd : OV} (hw : wp_X8_comesToEnd_2 Q K2 x1 vMd) : GW C 0 0 [bMd G hMd qMd vMd] 2 [(0, .ref hMd), (1, .int x1)] [] := by
  unfold wp_X8_comesToEnd_2 at hw
  refine gw_aload_n F dX8_comesToEnd_2 0 rfl ?_
  refine gw_callV F (ct_X8_adds0 hw) 0 gX8_comesToEnd_X8_adds0 rfl rfl rfl hd_X8_adds0 ⟨(Nat.le_of_ble_eq_true rfl), (Nat.le_of_ble_eq_true rfl)⟩ rfl rfl (Nat.le_of_ble_eq_true rfl) ⟨Nat.zero_le _, Nat.zero_le _⟩ [0] (bsr := []) rfl rfl (q0 := 0) rfl rfl dX8_comesToEnd_3 ?_
  rintro _ _ ⟨r_1, v_2, rfl, rfl, hw⟩
  refine gw_sel [0] (bs' := [bMd G hMd qMd v_2]) rfl rfl ?_
  change GW C 0 0 _ 6 _ [.int r_1]
  refine gw_if_le (tgt := 15) F dX8_comesToEnd_6 (by decide) (fun c_3 => ?_) (fun c_3 => ?_)
  · have hw := hw.1 c_3
    refine gw_iload_n F dX8_comesToEnd_15 1 rfl ?_
    exact gw_iret F E rfl rfl (Nat.le_of_ble_eq_true rfl) (Nat.le_of_ble_eq_true rfl) dX8_comesToEnd_16 ⟨_, _, rfl, rfl, hw⟩
  · have hw := hw.2 c_3
    obtain ⟨i_4, e_i_4⟩ : ∃ z : Int32, z = x1 + (1 : Int32) := ⟨_, rfl⟩
    have hw := hw i_4 e_i_4
    refine gw_iinc (v := i_4) (lv' := [(1, .int i_4), (0, .ref hMd)]) F dX8_comesToEnd_9 1 rfl (by rw [e_i_4]; rfl) (by decide) rfl ?_
    refine gw_goto (tgt := 2) F dX8_comesToEnd_12 (by decide) ?_
    refine gw_lv [1, 0] rfl ?_
    exact hK2 _ _ hw
def wp_X8_comesToEnd_2_loop (Q : Int32 → OV → Prop) : Nat → Int32 → OV → Prop
  | 0, _, _ => False
  | n + 1, x1, vMd => wp_X8_comesToEnd_2 Q (wp_X8_comesToEnd_2_loop Q n) x1 vMd
theorem lp_X8_comesToEnd_2 {X : List Cond} {l : Launch} {D : va_G} {G : Nat → ClassId} {C : Cx} {bs0 : List va_W} {hMd : Nat} {qMd : Nat → Nat} {Q : Int32 → OV → Prop} (F : GF C X cX8_comesToEnd wsX8_comesToEnd RX8 rm_X8_comesToEnd 2 (some .int) D G l) (E : GE C bs0 0 0 (po_X8_comesToEnd G hMd qMd Q)) : ∀ (n : Nat) (x1 : Int32) (vMd : OV), wp_X8_comesToEnd_2_loop Q n x1 vMd → GW C 0 0 [bMd G hMd qMd vMd] 2 [(0, .ref hMd), (1, .int x1)] [] := by
  intro n
  induction n with
  | zero => intro x1 vMd hw; exact False.elim hw
  | succ n ih => intro x1 vMd hw; exact lb_X8_comesToEnd_2 (K2 := wp_X8_comesToEnd_2_loop Q n) F E ih hw
def wp_X8_comesToEnd_0 (Q : Int32 → OV → Prop) (vMd : OV) : Prop :=
  (∃ n_5 : Nat, wp_X8_comesToEnd_2_loop Q n_5 (0 : Int32) vMd)
set_option maxRecDepth 20000 in
theorem lb_X8_comesToEnd_0 {X : List Cond} {l : Launch} {D : va_G} {G : Nat → ClassId} {C : Cx} {bs0 : List va_W} {hMd : Nat} {qMd : Nat → Nat} {Q : Int32 → OV → Prop} (F : GF C X cX8_comesToEnd wsX8_comesToEnd RX8 rm_X8_comesToEnd 2 (some .int) D G l) (E : GE C bs0 0 0 (po_X8_comesToEnd G hMd qMd Q)) {vMd : OV} (hw : wp_X8_comesToEnd_0 Q vMd) : GW C 0 0 [bMd G hMd qMd vMd] 0 [(0, .ref hMd)] [] := by
  unfold wp_X8_comesToEnd_0 at hw
  refine gw_iconst (v := (0 : Int32)) F dX8_comesToEnd_0 ic_iconst_0 ?_
  refine gw_istore_n (lv' := [(1, .int (0 : Int32)), (0, .ref hMd)]) F dX8_comesToEnd_1 (by decide) rfl ?_
  refine gw_lv [1, 0] rfl ?_
  obtain ⟨n_5, hw⟩ := hw
  exact lp_X8_comesToEnd_2 F E n_5 _ _ hw
def wp_X8_comesToEnd (Q : Int32 → OV → Prop) (vMd : OV) : Prop := wp_X8_comesToEnd_0 Q vMd
theorem ct_X8_comesToEnd {X : List Cond} {l : Launch} {D : va_G} {G : Nat → ClassId} {hMd : Nat} {qMd : Nat → Nat} {Q : Int32 → OV → Prop} {vMd : OV} (hw : wp_X8_comesToEnd Q vMd) : CM X l yX8_comesToEnd wsX8_comesToEnd rm_X8_comesToEnd D G [.ref hMd] [bMd G hMd qMd vMd] 0 0 (po_X8_comesToEnd G hMd qMd Q) :=
  CM.of pn_RX8 rfl rfl (Nat.le_of_ble_eq_true rfl) rfl (fun C F E => lb_X8_comesToEnd_0 F E hw)
-- X8_waves
abbrev rm_X8_waves : Room := { frames := 19, cells := 0, slots := 0, locals := 481 }
def po_X8_waves (G : Nat → ClassId) (hMd : Nat) (qMd : Nat → Nat) (Q : Int32 → OV → Prop) : Option Value → List va_W → Prop := fun o bs => ∃ (r : Int32) (vMd : OV), o = some (.int r) ∧ bs = [bMd G hMd qMd vMd] ∧ Q r vMd
theorem hd_X8_waves : yX8_waves.cls = RX8 ∧ yX8_waves.cls ≠ "java/lang/invoke/MethodHandle" ∧ yX8_waves.cls ≠ "java/lang/invoke/VarHandle" ∧ (parseMethodDescriptor yX8_waves.desc).map (fun d => d.parameters.length) = some 0 := by decide +kernel
theorem in_X8_waves_RX8 : ∀ w ∈ wsX80, w ∈ wsX8_waves := fun w h => List.mem_cons_of_mem _ (List.mem_append_left _ (List.mem_append_right _ h))
theorem lk_X8_waves_46 : Cond.fieldLink RX8 46 "KeyWavesModel" "code" "I" ∈ wsX8_waves := List.mem_cons_of_mem _ (List.mem_append_left _ (List.mem_append_left _ (List.mem_append_left _ (List.mem_of_getElem? (i := 0) rfl))))
theorem lk_X8_waves_7 : Cond.fieldLink RX8 7 "KeyWavesModel" "g" "[I" ∈ wsX8_waves := List.mem_cons_of_mem _ (List.mem_append_left _ (List.mem_append_left _ (List.mem_append_left _ (List.mem_of_getElem? (i := 1) rfl))))
theorem lk_X8_waves_22 : Cond.fieldLink RX8 22 "KeyWavesModel" "spare" "[I" ∈ wsX8_waves := List.mem_cons_of_mem _ (List.mem_append_left _ (List.mem_append_left _ (List.mem_append_left _ (List.mem_of_getElem? (i := 2) rfl))))
def wp_X8_waves_0 (Q : Int32 → OV → Prop) (vMd : OV) : Prop :=
  (∀ v_1 : OV, v_1 = sI vMd 9 (0 : Int32) → (wp_X8_copies (fun (v_2 : (Nat → Int32)) => (∀ v_3 : OV, v_3 = sF v_1 4 v_2 → (wp_X8_comesToEnd (fun (r_4 : Int32) (v_5 : OV) => (wp_X8_copies (fun (v_6 : (Nat → Int32)) => (∀ v_7 : OV, v_7 = sF v_5 0 v_6 → (Q r_4 v_7))) 177 177 (0 : Int32) (0 : Int32) (v_5.1 4) (v_5.1 0))) v_3))) 177 177 (0 : Int32) (0 : Int32) (v_1.1 0) (v_1.1 4)))
set_option maxRecDepth 20000 in
theorem lb_X8_waves_0 {X : List Cond} {l : Launch} {D : va_G} {G : Nat → ClassId} {C : Cx} {bs0 : List va_W} {hMd : Nat} {qMd : Nat → Nat} {Q : Int32 → OV → Prop} (F : GF C X cX8_waves wsX8_waves RX8 rm_X8_waves 2 (some .int) D G l) (E : GE C bs0 0 0 (po_X8_waves G hMd qMd Q)) {vMd : OV} (hw : wp_X8_waves_0 Q vMd) : GW C 0 0 [bMd G hMd qMd vMd] 0 [(0, .ref hMd)] [] := by
  unfold wp_X8_waves_0 at hw
  refine gw_aload_n F dX8_waves_0 0 rfl ?_
  refine gw_iconst (v := (0 : Int32)) F dX8_waves_1 ic_iconst_0 ?_
  obtain ⟨v_1, e_v_1⟩ : ∃ z : OV, z = sI vMd 9 (0 : Int32) := ⟨_, rfl⟩
  have hw := hw v_1 e_v_1
  refine gw_put (bs' := [bMd G hMd qMd v_1]) F in_X8_waves_RX8 tyX8 tyX8_ok nmX8 0 rfl rfl 9 (by decide) lk_X8_waves_46 rfl rfl rfl (Nat.le_of_ble_eq_true rfl) dX8_waves_2 (by rw [e_v_1]; rfl) ?_
  refine gw_aload_n F dX8_waves_5 0 rfl ?_
  refine gw_get F in_X8_waves_RX8 0 rfl rfl 0 (by decide) lk_X8_waves_7 rfl dX8_waves_6 ?_
  refine gw_iconst (v := (0 : Int32)) F dX8_waves_9 ic_iconst_0 ?_
  refine gw_aload_n F dX8_waves_10 0 rfl ?_
  refine gw_get F in_X8_waves_RX8 0 rfl rfl 4 (by decide) lk_X8_waves_22 rfl dX8_waves_11 ?_
  refine gw_iconst (v := (0 : Int32)) F dX8_waves_14 ic_iconst_0 ?_
  refine gw_flat (bs' := mdB G hMd qMd v_1) rfl ?_
  refine gw_callS F (ct_X8_copies hw) 4 gX8_waves_X8_copies rfl rfl rfl hd_X8_copies ⟨(Nat.le_of_ble_eq_true rfl), (Nat.le_of_ble_eq_true rfl)⟩ rfl rfl (Nat.le_of_ble_eq_true rfl) ⟨Nat.zero_le _, Nat.zero_le _⟩ [0, 2, 3, 4, 6, 7, 8, 9, 10, 1, 5] (bsr := ((mdB G hMd qMd v_1).eraseIdx 5 |>.eraseIdx 1)) rfl rfl dX8_waves_15 ?_
  rintro _ _ ⟨v_2, rfl, rfl, hw⟩
  obtain ⟨v_3, e_v_3⟩ : ∃ z : OV, z = sF v_1 4 v_2 := ⟨_, rfl⟩
  have hw := hw v_3 e_v_3
  refine gw_sel [0, 9, 1, 2, 3, 10, 4, 5, 6, 7, 8] (bs' := mdB G hMd qMd v_3) (by rw [e_v_3]; rfl) rfl ?_
  refine gw_flat (bs' := [bMd G hMd qMd v_3]) rfl ?_
  change GW C 0 0 _ 18 _ []
  refine gw_aload_n F dX8_waves_18 0 rfl ?_
  refine gw_callV F (ct_X8_comesToEnd hw) 0 gX8_waves_X8_comesToEnd rfl rfl rfl hd_X8_comesToEnd ⟨(Nat.le_of_ble_eq_true rfl), (Nat.le_of_ble_eq_true rfl)⟩ rfl rfl (Nat.le_of_ble_eq_true rfl) ⟨Nat.zero_le _, Nat.zero_le _⟩ [0] (bsr := []) rfl rfl (q0 := 0) rfl rfl dX8_waves_19 ?_
  rintro _ _ ⟨r_4, v_5, rfl, rfl, hw⟩
  refine gw_sel [0] (bs' := [bMd G hMd qMd v_5]) rfl rfl ?_
  change GW C 0 0 _ 22 _ [.int r_4]
  refine gw_istore_n (lv' := [(1, .int r_4), (0, .ref hMd)]) F dX8_waves_22 (by decide) rfl ?_
  refine gw_aload_n F dX8_waves_23 1 rfl ?_
  refine gw_get F in_X8_waves_RX8 0 rfl rfl 4 (by decide) lk_X8_waves_22 rfl dX8_waves_24 ?_
  refine gw_iconst (v := (0 : Int32)) F dX8_waves_27 ic_iconst_0 ?_
  refine gw_aload_n F dX8_waves_28 1 rfl ?_
  refine gw_get F in_X8_waves_RX8 0 rfl rfl 0 (by decide) lk_X8_waves_7 rfl dX8_waves_29 ?_
  refine gw_iconst (v := (0 : Int32)) F dX8_waves_32 ic_iconst_0 ?_
  refine gw_flat (bs' := mdB G hMd qMd v_5) rfl ?_
  refine gw_callS F (ct_X8_copies hw) 4 gX8_waves_X8_copies rfl rfl rfl hd_X8_copies ⟨(Nat.le_of_ble_eq_true rfl), (Nat.le_of_ble_eq_true rfl)⟩ rfl rfl (Nat.le_of_ble_eq_true rfl) ⟨Nat.zero_le _, Nat.zero_le _⟩ [0, 2, 3, 4, 6, 7, 8, 9, 10, 5, 1] (bsr := ((mdB G hMd qMd v_5).eraseIdx 5 |>.eraseIdx 1)) rfl rfl dX8_waves_33 ?_
  rintro _ _ ⟨v_6, rfl, rfl, hw⟩
  obtain ⟨v_7, e_v_7⟩ : ∃ z : OV, z = sF v_5 0 v_6 := ⟨_, rfl⟩
  have hw := hw v_7 e_v_7
  refine gw_sel [0, 10, 1, 2, 3, 9, 4, 5, 6, 7, 8] (bs' := mdB G hMd qMd v_7) (by rw [e_v_7]; rfl) rfl ?_
  refine gw_flat (bs' := [bMd G hMd qMd v_7]) rfl ?_
  change GW C 0 0 _ 36 _ []
  refine gw_iload_n F dX8_waves_36 0 rfl ?_
  exact gw_iret F E rfl rfl (Nat.le_of_ble_eq_true rfl) (Nat.le_of_ble_eq_true rfl) dX8_waves_37 ⟨_, _, rfl, rfl, hw⟩
def wp_X8_waves (Q : Int32 → OV → Prop) (vMd : OV) : Prop := wp_X8_waves_0 Q vMd
theorem ct_X8_waves {X : List Cond} {l : Launch} {D : va_G} {G : Nat → ClassId} {hMd : Nat} {qMd : Nat → Nat} {Q : Int32 → OV → Prop} {vMd : OV} (hw : wp_X8_waves Q vMd) : CM X l yX8_waves wsX8_waves rm_X8_waves D G [.ref hMd] [bMd G hMd qMd vMd] 0 0 (po_X8_waves G hMd qMd Q) :=
  CM.of pn_RX8 rfl rfl (Nat.le_of_ble_eq_true rfl) rfl (fun C F E => lb_X8_waves_0 F E hw)
-- X8_mostWithout
abbrev rm_X8_mostWithout : Room := { frames := 19, cells := 0, slots := 0, locals := 481 }
def po_X8_mostWithout (G : Nat → ClassId) (hMd : Nat) (qMd : Nat → Nat) (Q : Int32 → OV → Prop) : Option Value → List va_W → Prop := fun o bs => ∃ (r : Int32) (vMd : OV), o = some (.int r) ∧ bs = [bMd G hMd qMd vMd] ∧ Q r vMd
theorem hd_X8_mostWithout : yX8_mostWithout.cls = RX8 ∧ yX8_mostWithout.cls ≠ "java/lang/invoke/MethodHandle" ∧ yX8_mostWithout.cls ≠ "java/lang/invoke/VarHandle" ∧ (parseMethodDescriptor yX8_mostWithout.desc).map (fun d => d.parameters.length) = some 2 := by decide +kernel
theorem in_X8_mostWithout_RX8 : ∀ w ∈ wsX80, w ∈ wsX8_mostWithout := fun w h => List.mem_cons_of_mem _ (List.mem_append_left _ (List.mem_append_right _ h))
theorem lk_X8_mostWithout_7 : Cond.fieldLink RX8 7 "KeyWavesModel" "g" "[I" ∈ wsX8_mostWithout := List.mem_cons_of_mem _ (List.mem_append_left _ (List.mem_append_left _ (List.mem_append_left _ (List.mem_of_getElem? (i := 0) rfl))))
theorem lk_X8_mostWithout_22 : Cond.fieldLink RX8 22 "KeyWavesModel" "spare" "[I" ∈ wsX8_mostWithout := List.mem_cons_of_mem _ (List.mem_append_left _ (List.mem_append_left _ (List.mem_append_left _ (List.mem_of_getElem? (i := 1) rfl))))
def wp_X8_mostWithout_133 (Q : Int32 → OV → Prop) (s0 : Int32) (vMd : OV) : Prop :=
  (wp_X8_copies (fun (v_11 : (Nat → Int32)) => (∀ v_12 : OV, v_12 = sF vMd 0 v_11 → (Q s0 v_12))) 177 177 (0 : Int32) (0 : Int32) (vMd.1 4) (vMd.1 0))
set_option maxRecDepth 20000 in
theorem lb_X8_mostWithout_133 {X : List Cond} {l : Launch} {D : va_G} {G : Nat → ClassId} {C : Cx} {bs0 : List va_W} {hMd : Nat} {qMd : Nat → Nat} {Q : Int32 → OV → Prop} (F : GF C X cX8_mostWithout wsX8_mostWithout RX8 rm_X8_mostWithout 5 (some .int) D G l) (E : GE C bs0 0 0 (po_X8_mostWithout G hMd qMd Q)) {s0 : Int32} {vMd : OV} (hw : wp_X8_mostWithout_133 Q s0 vMd) : GW C 0 0 [bMd G hMd qMd vMd] 133 [(0, .ref hMd)] [.int s0] := by
  unfold wp_X8_mostWithout_133 at hw
  refine gw_istore_n (lv' := [(3, .int s0), (0, .ref hMd)]) F dX8_mostWithout_133 (by decide) rfl ?_
  refine gw_aload_n F dX8_mostWithout_134 1 rfl ?_
  refine gw_get F in_X8_mostWithout_RX8 0 rfl rfl 4 (by decide) lk_X8_mostWithout_22 rfl dX8_mostWithout_135 ?_
  refine gw_iconst (v := (0 : Int32)) F dX8_mostWithout_138 ic_iconst_0 ?_
  refine gw_aload_n F dX8_mostWithout_139 1 rfl ?_
  refine gw_get F in_X8_mostWithout_RX8 0 rfl rfl 0 (by decide) lk_X8_mostWithout_7 rfl dX8_mostWithout_140 ?_
  refine gw_iconst (v := (0 : Int32)) F dX8_mostWithout_143 ic_iconst_0 ?_
  refine gw_flat (bs' := mdB G hMd qMd vMd) rfl ?_
  refine gw_callS F (ct_X8_copies hw) 4 gX8_mostWithout_X8_copies rfl rfl rfl hd_X8_copies ⟨(Nat.le_of_ble_eq_true rfl), (Nat.le_of_ble_eq_true rfl)⟩ rfl rfl (Nat.le_of_ble_eq_true rfl) ⟨Nat.zero_le _, Nat.zero_le _⟩ [0, 2, 3, 4, 6, 7, 8, 9, 10, 5, 1] (bsr := ((mdB G hMd qMd vMd).eraseIdx 5 |>.eraseIdx 1)) rfl rfl dX8_mostWithout_144 ?_
  rintro _ _ ⟨v_11, rfl, rfl, hw⟩
  obtain ⟨v_12, e_v_12⟩ : ∃ z : OV, z = sF vMd 0 v_11 := ⟨_, rfl⟩
  have hw := hw v_12 e_v_12
  refine gw_sel [0, 10, 1, 2, 3, 9, 4, 5, 6, 7, 8] (bs' := mdB G hMd qMd v_12) (by rw [e_v_12]; rfl) rfl ?_
  refine gw_flat (bs' := [bMd G hMd qMd v_12]) rfl ?_
  change GW C 0 0 _ 147 _ []
  refine gw_iload_n F dX8_mostWithout_147 0 rfl ?_
  exact gw_iret F E rfl rfl (Nat.le_of_ble_eq_true rfl) (Nat.le_of_ble_eq_true rfl) dX8_mostWithout_148 ⟨_, _, rfl, rfl, hw⟩
def wp_X8_mostWithout_104 (Q : Int32 → OV → Prop) (K53 : Int32 → Int32 → Int32 → OV → Prop) (K66 : Int32 → Int32 → Int32 → Int32 → OV → Prop) (x1 x2 x3 x4 : Int32) (vMd : OV) : Prop :=
  (∀ i_19 : Int32, i_19 = x4 + (1 : Int32) → (K66 x1 x2 x3 i_19 vMd))
set_option maxRecDepth 20000 in
theorem lb_X8_mostWithout_104 {X : List Cond} {l : Launch} {D : va_G} {G : Nat → ClassId} {C : Cx} {bs0 : List va_W} {hMd : Nat} {qMd : Nat → Nat} {Q : Int32 → OV → Prop} {K53 : Int32 → Int32 → Int32 → OV → Prop} {K66 : Int32 → Int32 → Int32 → Int32 → OV → Prop} (F : GF C X cX8_mostWithout wsX8_mostWithout RX8 rm_X8_mostWithout 5 (some .int) D G l) (E : GE C bs0 0 0 (po_X8_mostWithout G hMd qMd Q)) (hK53 : ∀ (x1 x2 x3 : Int32) (vMd : OV), K53 x1 x2 x3 vMd → GW C 0 0 [bMd G hMd qMd vMd] 53 [(0, .ref hMd), (1, .int x1), (2, .int x2), (3, .int x3)] []) (hK66 : ∀ (x1 x2 x3 x4 : Int32) (vMd : OV), K66 x1 x2 x3 x4 vMd → GW C 0 0 [bMd G hMd qMd vMd] 66 [(0, .ref hMd), (1, .int x1), (2, .int x2), (3, .int x3), (4, .int x4)] []) {x1 x2 x3 x4 : Int32} {vMd : OV} (hw : wp_X8_mostWithout_104 Q K53 K66 x1 x2 x3 x4 vMd) : GW C 0 0 [bMd G hMd qMd vMd] 104 [(0, .ref hMd), (1, .int x1), (2, .int x2), (3, .int x3), (4, .int x4)] [] := by
  unfold wp_X8_mostWithout_104 at hw
  obtain ⟨i_19, e_i_19⟩ : ∃ z : Int32, z = x4 + (1 : Int32) := ⟨_, rfl⟩
  have hw := hw i_19 e_i_19
  refine gw_iinc (v := i_19) (lv' := [(4, .int i_19), (0, .ref hMd), (1, .int x1), (2, .int x2), (3, .int x3)]) F dX8_mostWithout_104 4 rfl (by rw [e_i_19]; rfl) (by decide) rfl ?_
  refine gw_goto (tgt := 66) F dX8_mostWithout_107 (by decide) ?_
  refine gw_lv [1, 2, 3, 4, 0] rfl ?_
  exact hK66 _ _ _ _ _ hw
def wp_X8_mostWithout_88 (Q : Int32 → OV → Prop) (K53 : Int32 → Int32 → Int32 → OV → Prop) (K66 : Int32 → Int32 → Int32 → Int32 → OV → Prop) (x1 x2 x3 x4 : Int32) (vMd : OV) : Prop :=
  (vp_in (((77 : Int32) + ((10 : Int32) * x3)) + x4) 177 ∧ ∀ v_17 : OV, v_17 = sA vMd 0 (((77 : Int32) + ((10 : Int32) * x3)) + x4).toNatClampNeg (1 : Int32) → (wp_X8_mostWithout_104 Q K53 K66 x1 x2 x3 x4 v_17))
set_option maxRecDepth 20000 in
theorem lb_X8_mostWithout_88 {X : List Cond} {l : Launch} {D : va_G} {G : Nat → ClassId} {C : Cx} {bs0 : List va_W} {hMd : Nat} {qMd : Nat → Nat} {Q : Int32 → OV → Prop} {K53 : Int32 → Int32 → Int32 → OV → Prop} {K66 : Int32 → Int32 → Int32 → Int32 → OV → Prop} (F : GF C X cX8_mostWithout wsX8_mostWithout RX8 rm_X8_mostWithout 5 (some .int) D G l) (E : GE C bs0 0 0 (po_X8_mostWithout G hMd qMd Q)) (hK53 : ∀ (x1 x2 x3 : Int32) (vMd : OV), K53 x1 x2 x3 vMd → GW C 0 0 [bMd G hMd qMd vMd] 53 [(0, .ref hMd), (1, .int x1), (2, .int x2), (3, .int x3)] []) (hK66 : ∀ (x1 x2 x3 x4 : Int32) (vMd : OV), K66 x1 x2 x3 x4 vMd → GW C 0 0 [bMd G hMd qMd vMd] 66 [(0, .ref hMd), (1, .int x1), (2, .int x2), (3, .int x3), (4, .int x4)] []) {x1 x2 x3 x4 : Int32} {vMd : OV} (hw : wp_X8_mostWithout_88 Q K53 K66 x1 x2 x3 x4 vMd) : GW C 0 0 [bMd G hMd qMd vMd] 88 [(0, .ref hMd), (1, .int x1), (2, .int x2), (3, .int x3), (4, .int x4)] [] := by
  unfold wp_X8_mostWithout_88 at hw
  refine gw_aload_n F dX8_mostWithout_88 0 rfl ?_
  refine gw_get F in_X8_mostWithout_RX8 0 rfl rfl 0 (by decide) lk_X8_mostWithout_7 rfl dX8_mostWithout_89 ?_
  refine gw_bipush (v := (77 : Int32)) F dX8_mostWithout_92 ic_bipush_77 ?_
  refine gw_bipush (v := (10 : Int32)) F dX8_mostWithout_94 ic_bipush_10 ?_
  refine gw_iload_n F dX8_mostWithout_96 3 rfl ?_
  refine gw_imul F dX8_mostWithout_97 ?_
  refine gw_iadd F dX8_mostWithout_98 ?_
  refine gw_iload F dX8_mostWithout_99 4 rfl ?_
  refine gw_iadd F dX8_mostWithout_101 ?_
  refine gw_iconst (v := (1 : Int32)) F dX8_mostWithout_102 ic_iconst_1 ?_
  obtain ⟨h_18, hw⟩ := hw
  obtain ⟨v_17, e_v_17⟩ : ∃ z : OV, z = sA vMd 0 (((77 : Int32) + ((10 : Int32) * x3)) + x4).toNatClampNeg (1 : Int32) := ⟨_, rfl⟩
  have hw := hw v_17 e_v_17
  refine gw_iast (bs' := [bMd G hMd qMd v_17]) F 1 rfl h_18 dX8_mostWithout_103 (by rw [e_v_17]; rfl) ?_
  exact lb_X8_mostWithout_104 F E hK53 hK66 hw
def wp_X8_mostWithout_66 (Q : Int32 → OV → Prop) (K53 : Int32 → Int32 → Int32 → OV → Prop) (K66 : Int32 → Int32 → Int32 → Int32 → OV → Prop) (x1 x2 x3 x4 : Int32) (vMd : OV) : Prop :=
  (vp_in (1 : Int32) 177 ∧ (((vMd.1 0 (1 : Int32).toNatClampNeg) ≤ x4 → (∀ i_15 : Int32, i_15 = x3 + (1 : Int32) → (K53 x1 x2 i_15 vMd))) ∧ (¬ ((vMd.1 0 (1 : Int32).toNatClampNeg) ≤ x4) → ((x3 = x1 → (wp_X8_mostWithout_88 Q K53 K66 x1 x2 x3 x4 vMd)) ∧ (¬ (x3 = x1) → ((¬ x4 = x2 → (wp_X8_mostWithout_104 Q K53 K66 x1 x2 x3 x4 vMd)) ∧ (x4 = x2 → (wp_X8_mostWithout_88 Q K53 K66 x1 x2 x3 x4 vMd))))))))
set_option maxRecDepth 20000 in
theorem lb_X8_mostWithout_66 {X : List Cond} {l : Launch} {D : va_G} {G : Nat → ClassId} {C : Cx} {bs0 : List va_W} {hMd : Nat} {qMd : Nat → Nat} {Q : Int32 → OV → Prop} {K53 : Int32 → Int32 → Int32 → OV → Prop} {K66 : Int32 → Int32 → Int32 → Int32 → OV → Prop} (F : GF C X cX8_mostWithout wsX8_mostWithout RX8 rm_X8_mostWithout 5 (some .int) D G l) (E : GE C bs0 0 0 (po_X8_mostWithout G hMd qMd Q)) (hK53 : ∀ (x1 x2 x3 : Int32) (vMd : OV), K53 x1 x2 x3 vMd → GW C 0 0 [bMd G hMd qMd vMd] 53 [(0, .ref hMd), (1, .int x1), (2, .int x2), (3, .int x3)] []) (hK66 : ∀ (x1 x2 x3 x4 : Int32) (vMd : OV), K66 x1 x2 x3 x4 vMd → GW C 0 0 [bMd G hMd qMd vMd] 66 [(0, .ref hMd), (1, .int x1), (2, .int x2), (3, .int x3), (4, .int x4)] []) {x1 x2 x3 x4 : Int32} {vMd : OV} (hw : wp_X8_mostWithout_66 Q K53 K66 x1 x2 x3 x4 vMd) : GW C 0 0 [bMd G hMd qMd vMd] 66 [(0, .ref hMd), (1, .int x1), (2, .int x2), (3, .int x3), (4, .int x4)] [] := by
  unfold wp_X8_mostWithout_66 at hw
  refine gw_iload F dX8_mostWithout_66 4 rfl ?_
  refine gw_aload_n F dX8_mostWithout_68 0 rfl ?_
  refine gw_get F in_X8_mostWithout_RX8 0 rfl rfl 0 (by decide) lk_X8_mostWithout_7 rfl dX8_mostWithout_69 ?_
  refine gw_iconst (v := (1 : Int32)) F dX8_mostWithout_72 ic_iconst_1 ?_
  obtain ⟨h_13, hw⟩ := hw
  refine gw_iald F 1 rfl h_13 dX8_mostWithout_73 ?_
  refine gw_icmp_ge (tgt := 110) F dX8_mostWithout_74 (by decide) (fun c_14 => ?_) (fun c_14 => ?_)
  · have hw := hw.1 c_14
    obtain ⟨i_15, e_i_15⟩ : ∃ z : Int32, z = x3 + (1 : Int32) := ⟨_, rfl⟩
    have hw := hw i_15 e_i_15
    refine gw_iinc (v := i_15) (lv' := [(3, .int i_15), (0, .ref hMd), (1, .int x1), (2, .int x2), (4, .int x4)]) F dX8_mostWithout_110 3 rfl (by rw [e_i_15]; rfl) (by decide) rfl ?_
    refine gw_goto (tgt := 53) F dX8_mostWithout_113 (by decide) ?_
    refine gw_lv [1, 2, 3, 0] rfl ?_
    exact hK53 _ _ _ _ hw
  · have hw := hw.2 c_14
    refine gw_iload_n F dX8_mostWithout_77 3 rfl ?_
    refine gw_iload_n F dX8_mostWithout_78 1 rfl ?_
    refine gw_icmp_eq (tgt := 88) F dX8_mostWithout_79 (by decide) (fun c_16 => ?_) (fun c_16 => ?_)
    · have hw := hw.1 c_16
      exact lb_X8_mostWithout_88 F E hK53 hK66 hw
    · have hw := hw.2 c_16
      refine gw_iload F dX8_mostWithout_82 4 rfl ?_
      refine gw_iload_n F dX8_mostWithout_84 2 rfl ?_
      refine gw_icmp_ne (tgt := 104) F dX8_mostWithout_85 (by decide) (fun c_20 => ?_) (fun c_20 => ?_)
      · have hw := hw.1 c_20
        exact lb_X8_mostWithout_104 F E hK53 hK66 hw
      · have hw := hw.2 c_20
        exact lb_X8_mostWithout_88 F E hK53 hK66 hw
def wp_X8_mostWithout_66_loop (Q : Int32 → OV → Prop) (K53 : Int32 → Int32 → Int32 → OV → Prop) : Nat → Int32 → Int32 → Int32 → Int32 → OV → Prop
  | 0, _, _, _, _, _ => False
  | n + 1, x1, x2, x3, x4, vMd => wp_X8_mostWithout_66 Q K53 (wp_X8_mostWithout_66_loop Q K53 n) x1 x2 x3 x4 vMd
theorem lp_X8_mostWithout_66 {X : List Cond} {l : Launch} {D : va_G} {G : Nat → ClassId} {C : Cx} {bs0 : List va_W} {hMd : Nat} {qMd : Nat → Nat} {Q : Int32 → OV → Prop} {K53 : Int32 → Int32 → Int32 → OV → Prop} (F : GF C X cX8_mostWithout wsX8_mostWithout RX8 rm_X8_mostWithout 5 (some .int) D G l) (E : GE C bs0 0 0 (po_X8_mostWithout G hMd qMd Q)) (hK53 : ∀ (x1 x2 x3 : Int32) (vMd : OV), K53 x1 x2 x3 vMd → GW C 0 0 [bMd G hMd qMd vMd] 53 [(0, .ref hMd), (1, .int x1), (2, .int x2), (3, .int x3)] []) : ∀ (n : Nat) (x1 x2 x3 x4 : Int32) (vMd : OV), wp_X8_mostWithout_66_loop Q K53 n x1 x2 x3 x4 vMd → GW C 0 0 [bMd G hMd qMd vMd] 66 [(0, .ref hMd), (1, .int x1), (2, .int x2), (3, .int x3), (4, .int x4)] [] := by
  intro n
  induction n with
  | zero => intro x1 x2 x3 x4 vMd hw; exact False.elim hw
  | succ n ih => intro x1 x2 x3 x4 vMd hw; exact lb_X8_mostWithout_66 (K66 := wp_X8_mostWithout_66_loop Q K53 n) F E hK53 ih hw
def wp_X8_mostWithout_53 (Q : Int32 → OV → Prop) (K53 : Int32 → Int32 → Int32 → OV → Prop) (x1 x2 x3 : Int32) (vMd : OV) : Prop :=
  (vp_in (0 : Int32) 177 ∧ (((vMd.1 0 (0 : Int32).toNatClampNeg) ≤ x3 → (wp_X8_comesToEnd (fun (r_7 : Int32) (v_8 : OV) => ((0 ≤ r_7 → (wp_X8_openMany (fun (r_10 : Int32) => (wp_X8_mostWithout_133 Q r_10 v_8)) v_8)) ∧ (¬ (0 ≤ r_7) → (wp_X8_mostWithout_133 Q (0 : Int32) v_8)))) vMd)) ∧ (¬ ((vMd.1 0 (0 : Int32).toNatClampNeg) ≤ x3) → (∃ n_21 : Nat, wp_X8_mostWithout_66_loop Q K53 n_21 x1 x2 x3 (0 : Int32) vMd))))
set_option maxRecDepth 20000 in
theorem lb_X8_mostWithout_53 {X : List Cond} {l : Launch} {D : va_G} {G : Nat → ClassId} {C : Cx} {bs0 : List va_W} {hMd : Nat} {qMd : Nat → Nat} {Q : Int32 → OV → Prop} {K53 : Int32 → Int32 → Int32 → OV → Prop} (F : GF C X cX8_mostWithout wsX8_mostWithout RX8 rm_X8_mostWithout 5 (some .int) D G l) (E : GE C bs0 0 0 (po_X8_mostWithout G hMd qMd Q)) (hK53 : ∀ (x1 x2 x3 : Int32) (vMd : OV), K53 x1 x2 x3 vMd → GW C 0 0 [bMd G hMd qMd vMd] 53 [(0, .ref hMd), (1, .int x1), (2, .int x2), (3, .int x3)] []) {x1 x2 x3 : Int32} {vMd : OV} (hw : wp_X8_mostWithout_53 Q K53 x1 x2 x3 vMd) : GW C 0 0 [bMd G hMd qMd vMd] 53 [(0, .ref hMd), (1, .int x1), (2, .int x2), (3, .int x3)] [] := by
  unfold wp_X8_mostWithout_53 at hw
  refine gw_iload_n F dX8_mostWithout_53 3 rfl ?_
  refine gw_aload_n F dX8_mostWithout_54 0 rfl ?_
  refine gw_get F in_X8_mostWithout_RX8 0 rfl rfl 0 (by decide) lk_X8_mostWithout_7 rfl dX8_mostWithout_55 ?_
  refine gw_iconst (v := (0 : Int32)) F dX8_mostWithout_58 ic_iconst_0 ?_
  obtain ⟨h_5, hw⟩ := hw
  refine gw_iald F 1 rfl h_5 dX8_mostWithout_59 ?_
  refine gw_icmp_ge (tgt := 116) F dX8_mostWithout_60 (by decide) (fun c_6 => ?_) (fun c_6 => ?_)
  · have hw := hw.1 c_6
    refine gw_aload_n F dX8_mostWithout_116 0 rfl ?_
    refine gw_callV F (ct_X8_comesToEnd hw) 0 gX8_mostWithout_X8_comesToEnd rfl rfl rfl hd_X8_comesToEnd ⟨(Nat.le_of_ble_eq_true rfl), (Nat.le_of_ble_eq_true rfl)⟩ rfl rfl (Nat.le_of_ble_eq_true rfl) ⟨Nat.zero_le _, Nat.zero_le _⟩ [0] (bsr := []) rfl rfl (q0 := 0) rfl rfl dX8_mostWithout_117 ?_
    rintro _ _ ⟨r_7, v_8, rfl, rfl, hw⟩
    refine gw_sel [0] (bs' := [bMd G hMd qMd v_8]) rfl rfl ?_
    change GW C 0 0 _ 120 _ [.int r_7]
    refine gw_istore_n (lv' := [(3, .int r_7), (0, .ref hMd), (1, .int x1), (2, .int x2)]) F dX8_mostWithout_120 (by decide) rfl ?_
    refine gw_iload_n F dX8_mostWithout_121 0 rfl ?_
    refine gw_if_ge (tgt := 129) F dX8_mostWithout_122 (by decide) (fun c_9 => ?_) (fun c_9 => ?_)
    · have hw := hw.1 c_9
      refine gw_aload_n F dX8_mostWithout_129 1 rfl ?_
      refine gw_callV F (ct_X8_openMany hw) 0 gX8_mostWithout_X8_openMany rfl rfl rfl hd_X8_openMany ⟨(Nat.le_of_ble_eq_true rfl), (Nat.le_of_ble_eq_true rfl)⟩ rfl rfl (Nat.le_of_ble_eq_true rfl) ⟨Nat.zero_le _, Nat.zero_le _⟩ [0] (bsr := []) rfl rfl (q0 := 0) rfl rfl dX8_mostWithout_130 ?_
      rintro _ _ ⟨r_10, rfl, rfl, hw⟩
      refine gw_sel [0] (bs' := [bMd G hMd qMd v_8]) rfl rfl ?_
      change GW C 0 0 _ 133 _ [.int r_10]
      refine gw_lv [1] rfl ?_
      exact lb_X8_mostWithout_133 F E hw
    · have hw := hw.2 c_9
      refine gw_iconst (v := (0 : Int32)) F dX8_mostWithout_125 ic_iconst_0 ?_
      refine gw_goto (tgt := 133) F dX8_mostWithout_126 (by decide) ?_
      refine gw_lv [1] rfl ?_
      exact lb_X8_mostWithout_133 F E hw
  · have hw := hw.2 c_6
    refine gw_iconst (v := (0 : Int32)) F dX8_mostWithout_63 ic_iconst_0 ?_
    refine gw_istore (lv' := [(4, .int (0 : Int32)), (0, .ref hMd), (1, .int x1), (2, .int x2), (3, .int x3)]) F dX8_mostWithout_64 (by decide) rfl ?_
    refine gw_lv [1, 2, 3, 4, 0] rfl ?_
    obtain ⟨n_21, hw⟩ := hw
    exact lp_X8_mostWithout_66 F E hK53 n_21 _ _ _ _ _ hw
def wp_X8_mostWithout_53_loop (Q : Int32 → OV → Prop) : Nat → Int32 → Int32 → Int32 → OV → Prop
  | 0, _, _, _, _ => False
  | n + 1, x1, x2, x3, vMd => wp_X8_mostWithout_53 Q (wp_X8_mostWithout_53_loop Q n) x1 x2 x3 vMd
theorem lp_X8_mostWithout_53 {X : List Cond} {l : Launch} {D : va_G} {G : Nat → ClassId} {C : Cx} {bs0 : List va_W} {hMd : Nat} {qMd : Nat → Nat} {Q : Int32 → OV → Prop} (F : GF C X cX8_mostWithout wsX8_mostWithout RX8 rm_X8_mostWithout 5 (some .int) D G l) (E : GE C bs0 0 0 (po_X8_mostWithout G hMd qMd Q)) : ∀ (n : Nat) (x1 x2 x3 : Int32) (vMd : OV), wp_X8_mostWithout_53_loop Q n x1 x2 x3 vMd → GW C 0 0 [bMd G hMd qMd vMd] 53 [(0, .ref hMd), (1, .int x1), (2, .int x2), (3, .int x3)] [] := by
  intro n
  induction n with
  | zero => intro x1 x2 x3 vMd hw; exact False.elim hw
  | succ n ih => intro x1 x2 x3 vMd hw; exact lb_X8_mostWithout_53 (K53 := wp_X8_mostWithout_53_loop Q n) F E ih hw
def wp_X8_mostWithout_45 (Q : Int32 → OV → Prop) (K15 : Int32 → Int32 → Int32 → OV → Prop) (x1 x2 x3 : Int32) (vMd : OV) : Prop :=
  (∀ i_25 : Int32, i_25 = x3 + (1 : Int32) → (K15 x1 x2 i_25 vMd))
set_option maxRecDepth 20000 in
theorem lb_X8_mostWithout_45 {X : List Cond} {l : Launch} {D : va_G} {G : Nat → ClassId} {C : Cx} {bs0 : List va_W} {hMd : Nat} {qMd : Nat → Nat} {Q : Int32 → OV → Prop} {K15 : Int32 → Int32 → Int32 → OV → Prop} (F : GF C X cX8_mostWithout wsX8_mostWithout RX8 rm_X8_mostWithout 5 (some .int) D G l) (E : GE C bs0 0 0 (po_X8_mostWithout G hMd qMd Q)) (hK15 : ∀ (x1 x2 x3 : Int32) (vMd : OV), K15 x1 x2 x3 vMd → GW C 0 0 [bMd G hMd qMd vMd] 15 [(0, .ref hMd), (1, .int x1), (2, .int x2), (3, .int x3)] []) {x1 x2 x3 : Int32} {vMd : OV} (hw : wp_X8_mostWithout_45 Q K15 x1 x2 x3 vMd) : GW C 0 0 [bMd G hMd qMd vMd] 45 [(0, .ref hMd), (1, .int x1), (2, .int x2), (3, .int x3)] [] := by
  unfold wp_X8_mostWithout_45 at hw
  obtain ⟨i_25, e_i_25⟩ : ∃ z : Int32, z = x3 + (1 : Int32) := ⟨_, rfl⟩
  have hw := hw i_25 e_i_25
  refine gw_iinc (v := i_25) (lv' := [(3, .int i_25), (0, .ref hMd), (1, .int x1), (2, .int x2)]) F dX8_mostWithout_45 3 rfl (by rw [e_i_25]; rfl) (by decide) rfl ?_
  refine gw_goto (tgt := 15) F dX8_mostWithout_48 (by decide) ?_
  refine gw_lv [1, 2, 3, 0] rfl ?_
  exact hK15 _ _ _ _ hw
def wp_X8_mostWithout_15 (Q : Int32 → OV → Prop) (K15 : Int32 → Int32 → Int32 → OV → Prop) (x1 x2 x3 : Int32) (vMd : OV) : Prop :=
  (vp_in (0 : Int32) 177 ∧ (((vMd.1 0 (0 : Int32).toNatClampNeg) ≤ x3 → (∃ n_22 : Nat, wp_X8_mostWithout_53_loop Q n_22 x1 x2 (0 : Int32) vMd)) ∧ (¬ ((vMd.1 0 (0 : Int32).toNatClampNeg) ≤ x3) → (wp_X8_ofKey (fun (r_23 : Int32) => ((r_23 < 0 → (wp_X8_mostWithout_45 Q K15 x1 x2 x3 vMd)) ∧ (¬ (r_23 < 0) → (wp_X8_ofKey (fun (r_26 : Int32) => (wp_X8_lets (fun (v_27 : OV) => (wp_X8_mostWithout_45 Q K15 x1 x2 x3 v_27)) x3 r_26 vMd)) x3 (2 : Int32) vMd)))) x3 (2 : Int32) vMd))))
set_option maxRecDepth 20000 in
theorem lb_X8_mostWithout_15 {X : List Cond} {l : Launch} {D : va_G} {G : Nat → ClassId} {C : Cx} {bs0 : List va_W} {hMd : Nat} {qMd : Nat → Nat} {Q : Int32 → OV → Prop} {K15 : Int32 → Int32 → Int32 → OV → Prop} (F : GF C X cX8_mostWithout wsX8_mostWithout RX8 rm_X8_mostWithout 5 (some .int) D G l) (E : GE C bs0 0 0 (po_X8_mostWithout G hMd qMd Q)) (hK15 : ∀ (x1 x2 x3 : Int32) (vMd : OV), K15 x1 x2 x3 vMd → GW C 0 0 [bMd G hMd qMd vMd] 15 [(0, .ref hMd), (1, .int x1), (2, .int x2), (3, .int x3)] []) {x1 x2 x3 : Int32} {vMd : OV} (hw : wp_X8_mostWithout_15 Q K15 x1 x2 x3 vMd) : GW C 0 0 [bMd G hMd qMd vMd] 15 [(0, .ref hMd), (1, .int x1), (2, .int x2), (3, .int x3)] [] := by
  unfold wp_X8_mostWithout_15 at hw
  refine gw_iload_n F dX8_mostWithout_15 3 rfl ?_
  refine gw_aload_n F dX8_mostWithout_16 0 rfl ?_
  refine gw_get F in_X8_mostWithout_RX8 0 rfl rfl 0 (by decide) lk_X8_mostWithout_7 rfl dX8_mostWithout_17 ?_
  refine gw_iconst (v := (0 : Int32)) F dX8_mostWithout_20 ic_iconst_0 ?_
  obtain ⟨h_3, hw⟩ := hw
  refine gw_iald F 1 rfl h_3 dX8_mostWithout_21 ?_
  refine gw_icmp_ge (tgt := 51) F dX8_mostWithout_22 (by decide) (fun c_4 => ?_) (fun c_4 => ?_)
  · have hw := hw.1 c_4
    refine gw_iconst (v := (0 : Int32)) F dX8_mostWithout_51 ic_iconst_0 ?_
    refine gw_istore_n (lv' := [(3, .int (0 : Int32)), (0, .ref hMd), (1, .int x1), (2, .int x2)]) F dX8_mostWithout_52 (by decide) rfl ?_
    refine gw_lv [1, 2, 3, 0] rfl ?_
    obtain ⟨n_22, hw⟩ := hw
    exact lp_X8_mostWithout_53 F E n_22 _ _ _ _ hw
  · have hw := hw.2 c_4
    refine gw_aload_n F dX8_mostWithout_25 0 rfl ?_
    refine gw_iload_n F dX8_mostWithout_26 3 rfl ?_
    refine gw_iconst (v := (2 : Int32)) F dX8_mostWithout_27 ic_iconst_2 ?_
    refine gw_callV F (ct_X8_ofKey hw) 2 gX8_mostWithout_X8_ofKey rfl rfl rfl hd_X8_ofKey ⟨(Nat.le_of_ble_eq_true rfl), (Nat.le_of_ble_eq_true rfl)⟩ rfl rfl (Nat.le_of_ble_eq_true rfl) ⟨Nat.zero_le _, Nat.zero_le _⟩ [0] (bsr := []) rfl rfl (q0 := 0) rfl rfl dX8_mostWithout_28 ?_
    rintro _ _ ⟨r_23, rfl, rfl, hw⟩
    refine gw_sel [0] (bs' := [bMd G hMd qMd vMd]) rfl rfl ?_
    change GW C 0 0 _ 31 _ [.int r_23]
    refine gw_if_lt (tgt := 45) F dX8_mostWithout_31 (by decide) (fun c_24 => ?_) (fun c_24 => ?_)
    · have hw := hw.1 c_24
      exact lb_X8_mostWithout_45 F E hK15 hw
    · have hw := hw.2 c_24
      refine gw_aload_n F dX8_mostWithout_34 0 rfl ?_
      refine gw_iload_n F dX8_mostWithout_35 3 rfl ?_
      refine gw_aload_n F dX8_mostWithout_36 0 rfl ?_
      refine gw_iload_n F dX8_mostWithout_37 3 rfl ?_
      refine gw_iconst (v := (2 : Int32)) F dX8_mostWithout_38 ic_iconst_2 ?_
      refine gw_callV F (ct_X8_ofKey hw) 2 gX8_mostWithout_X8_ofKey rfl rfl rfl hd_X8_ofKey ⟨(Nat.le_of_ble_eq_true rfl), (Nat.le_of_ble_eq_true rfl)⟩ rfl rfl (Nat.le_of_ble_eq_true rfl) ⟨Nat.zero_le _, Nat.zero_le _⟩ [0] (bsr := []) rfl rfl (q0 := 0) rfl rfl dX8_mostWithout_39 ?_
      rintro _ _ ⟨r_26, rfl, rfl, hw⟩
      refine gw_sel [0] (bs' := [bMd G hMd qMd vMd]) rfl rfl ?_
      change GW C 0 0 _ 42 _ [.int r_26, .int x3, .ref hMd]
      refine gw_callV F (ct_X8_lets hw) 2 gX8_mostWithout_X8_lets rfl rfl rfl hd_X8_lets ⟨(Nat.le_of_ble_eq_true rfl), (Nat.le_of_ble_eq_true rfl)⟩ rfl rfl (Nat.le_of_ble_eq_true rfl) ⟨Nat.zero_le _, Nat.zero_le _⟩ [0] (bsr := []) rfl rfl (q0 := 0) rfl rfl dX8_mostWithout_42 ?_
      rintro _ _ ⟨v_27, rfl, rfl, hw⟩
      refine gw_sel [0] (bs' := [bMd G hMd qMd v_27]) rfl rfl ?_
      change GW C 0 0 _ 45 _ []
      exact lb_X8_mostWithout_45 F E hK15 hw
def wp_X8_mostWithout_15_loop (Q : Int32 → OV → Prop) : Nat → Int32 → Int32 → Int32 → OV → Prop
  | 0, _, _, _, _ => False
  | n + 1, x1, x2, x3, vMd => wp_X8_mostWithout_15 Q (wp_X8_mostWithout_15_loop Q n) x1 x2 x3 vMd
theorem lp_X8_mostWithout_15 {X : List Cond} {l : Launch} {D : va_G} {G : Nat → ClassId} {C : Cx} {bs0 : List va_W} {hMd : Nat} {qMd : Nat → Nat} {Q : Int32 → OV → Prop} (F : GF C X cX8_mostWithout wsX8_mostWithout RX8 rm_X8_mostWithout 5 (some .int) D G l) (E : GE C bs0 0 0 (po_X8_mostWithout G hMd qMd Q)) : ∀ (n : Nat) (x1 x2 x3 : Int32) (vMd : OV), wp_X8_mostWithout_15_loop Q n x1 x2 x3 vMd → GW C 0 0 [bMd G hMd qMd vMd] 15 [(0, .ref hMd), (1, .int x1), (2, .int x2), (3, .int x3)] [] := by
  intro n
  induction n with
  | zero => intro x1 x2 x3 vMd hw; exact False.elim hw
  | succ n ih => intro x1 x2 x3 vMd hw; exact lb_X8_mostWithout_15 (K15 := wp_X8_mostWithout_15_loop Q n) F E ih hw
def wp_X8_mostWithout_0 (Q : Int32 → OV → Prop) (x1 : Int32) (x2 : Int32) (vMd : OV) : Prop :=
  (wp_X8_copies (fun (v_1 : (Nat → Int32)) => (∀ v_2 : OV, v_2 = sF vMd 4 v_1 → (∃ n_28 : Nat, wp_X8_mostWithout_15_loop Q n_28 x1 x2 (0 : Int32) v_2))) 177 177 (0 : Int32) (0 : Int32) (vMd.1 0) (vMd.1 4))
set_option maxRecDepth 20000 in
theorem lb_X8_mostWithout_0 {X : List Cond} {l : Launch} {D : va_G} {G : Nat → ClassId} {C : Cx} {bs0 : List va_W} {hMd : Nat} {qMd : Nat → Nat} {Q : Int32 → OV → Prop} (F : GF C X cX8_mostWithout wsX8_mostWithout RX8 rm_X8_mostWithout 5 (some .int) D G l) (E : GE C bs0 0 0 (po_X8_mostWithout G hMd qMd Q)) {x1 : Int32} {x2 : Int32} {vMd : OV} (hw : wp_X8_mostWithout_0 Q x1 x2 vMd) : GW C 0 0 [bMd G hMd qMd vMd] 0 [(0, .ref hMd), (1, .int x1), (2, .int x2)] [] := by
  unfold wp_X8_mostWithout_0 at hw
  refine gw_aload_n F dX8_mostWithout_0 0 rfl ?_
  refine gw_get F in_X8_mostWithout_RX8 0 rfl rfl 0 (by decide) lk_X8_mostWithout_7 rfl dX8_mostWithout_1 ?_
  refine gw_iconst (v := (0 : Int32)) F dX8_mostWithout_4 ic_iconst_0 ?_
  refine gw_aload_n F dX8_mostWithout_5 0 rfl ?_
  refine gw_get F in_X8_mostWithout_RX8 0 rfl rfl 4 (by decide) lk_X8_mostWithout_22 rfl dX8_mostWithout_6 ?_
  refine gw_iconst (v := (0 : Int32)) F dX8_mostWithout_9 ic_iconst_0 ?_
  refine gw_flat (bs' := mdB G hMd qMd vMd) rfl ?_
  refine gw_callS F (ct_X8_copies hw) 4 gX8_mostWithout_X8_copies rfl rfl rfl hd_X8_copies ⟨(Nat.le_of_ble_eq_true rfl), (Nat.le_of_ble_eq_true rfl)⟩ rfl rfl (Nat.le_of_ble_eq_true rfl) ⟨Nat.zero_le _, Nat.zero_le _⟩ [0, 2, 3, 4, 6, 7, 8, 9, 10, 1, 5] (bsr := ((mdB G hMd qMd vMd).eraseIdx 5 |>.eraseIdx 1)) rfl rfl dX8_mostWithout_10 ?_
  rintro _ _ ⟨v_1, rfl, rfl, hw⟩
  obtain ⟨v_2, e_v_2⟩ : ∃ z : OV, z = sF vMd 4 v_1 := ⟨_, rfl⟩
  have hw := hw v_2 e_v_2
  refine gw_sel [0, 9, 1, 2, 3, 10, 4, 5, 6, 7, 8] (bs' := mdB G hMd qMd v_2) (by rw [e_v_2]; rfl) rfl ?_
  refine gw_flat (bs' := [bMd G hMd qMd v_2]) rfl ?_
  change GW C 0 0 _ 13 _ []
  refine gw_iconst (v := (0 : Int32)) F dX8_mostWithout_13 ic_iconst_0 ?_
  refine gw_istore_n (lv' := [(3, .int (0 : Int32)), (0, .ref hMd), (1, .int x1), (2, .int x2)]) F dX8_mostWithout_14 (by decide) rfl ?_
  refine gw_lv [1, 2, 3, 0] rfl ?_
  obtain ⟨n_28, hw⟩ := hw
  exact lp_X8_mostWithout_15 F E n_28 _ _ _ _ hw
def wp_X8_mostWithout (Q : Int32 → OV → Prop) (x1 : Int32) (x2 : Int32) (vMd : OV) : Prop := wp_X8_mostWithout_0 Q x1 x2 vMd
theorem ct_X8_mostWithout {X : List Cond} {l : Launch} {D : va_G} {G : Nat → ClassId} {hMd : Nat} {qMd : Nat → Nat} {Q : Int32 → OV → Prop} {x1 : Int32} {x2 : Int32} {vMd : OV} (hw : wp_X8_mostWithout Q x1 x2 vMd) : CM X l yX8_mostWithout wsX8_mostWithout rm_X8_mostWithout D G [.ref hMd, .int x1, .int x2] [bMd G hMd qMd vMd] 0 0 (po_X8_mostWithout G hMd qMd Q) :=
  CM.of pn_RX8 rfl rfl (Nat.le_of_ble_eq_true rfl) rfl (fun C F E => lb_X8_mostWithout_0 F E hw)
-- X8_most
abbrev rm_X8_most : Room := { frames := 20, cells := 0, slots := 0, locals := 505 }
def po_X8_most (G : Nat → ClassId) (hMd : Nat) (qMd : Nat → Nat) (Q : Int32 → OV → Prop) : Option Value → List va_W → Prop := fun o bs => ∃ (r : Int32) (vMd : OV), o = some (.int r) ∧ bs = [bMd G hMd qMd vMd] ∧ Q r vMd
theorem hd_X8_most : yX8_most.cls = RX8 ∧ yX8_most.cls ≠ "java/lang/invoke/MethodHandle" ∧ yX8_most.cls ≠ "java/lang/invoke/VarHandle" ∧ (parseMethodDescriptor yX8_most.desc).map (fun d => d.parameters.length) = some 0 := by decide +kernel
theorem in_X8_most_RX8 : ∀ w ∈ wsX80, w ∈ wsX8_most := fun w h => List.mem_cons_of_mem _ (List.mem_append_left _ (List.mem_append_right _ h))
theorem lk_X8_most_46 : Cond.fieldLink RX8 46 "KeyWavesModel" "code" "I" ∈ wsX8_most := List.mem_cons_of_mem _ (List.mem_append_left _ (List.mem_append_left _ (List.mem_append_left _ (List.mem_of_getElem? (i := 0) rfl))))
def wp_X8_most_0 (Q : Int32 → OV → Prop) (vMd : OV) : Prop :=
  (∀ v_1 : OV, v_1 = sI vMd 9 (0 : Int32) → (wp_X8_mostWithout (fun (r_2 : Int32) (v_3 : OV) => (Q r_2 v_3)) (-1 : Int32) (-1 : Int32) v_1))
set_option maxRecDepth 20000 in
theorem lb_X8_most_0 {X : List Cond} {l : Launch} {D : va_G} {G : Nat → ClassId} {C : Cx} {bs0 : List va_W} {hMd : Nat} {qMd : Nat → Nat} {Q : Int32 → OV → Prop} (F : GF C X cX8_most wsX8_most RX8 rm_X8_most 1 (some .int) D G l) (E : GE C bs0 0 0 (po_X8_most G hMd qMd Q)) {vMd : OV} (hw : wp_X8_most_0 Q vMd) : GW C 0 0 [bMd G hMd qMd vMd] 0 [(0, .ref hMd)] [] := by
  unfold wp_X8_most_0 at hw
  refine gw_aload_n F dX8_most_0 0 rfl ?_
  refine gw_iconst (v := (0 : Int32)) F dX8_most_1 ic_iconst_0 ?_
  obtain ⟨v_1, e_v_1⟩ : ∃ z : OV, z = sI vMd 9 (0 : Int32) := ⟨_, rfl⟩
  have hw := hw v_1 e_v_1
  refine gw_put (bs' := [bMd G hMd qMd v_1]) F in_X8_most_RX8 tyX8 tyX8_ok nmX8 0 rfl rfl 9 (by decide) lk_X8_most_46 rfl rfl rfl (Nat.le_of_ble_eq_true rfl) dX8_most_2 (by rw [e_v_1]; rfl) ?_
  refine gw_aload_n F dX8_most_5 0 rfl ?_
  refine gw_iconst (v := (-1 : Int32)) F dX8_most_6 ic_iconst_m1 ?_
  refine gw_iconst (v := (-1 : Int32)) F dX8_most_7 ic_iconst_m1 ?_
  refine gw_callV F (ct_X8_mostWithout hw) 2 gX8_most_X8_mostWithout rfl rfl rfl hd_X8_mostWithout ⟨(Nat.le_of_ble_eq_true rfl), (Nat.le_of_ble_eq_true rfl)⟩ rfl rfl (Nat.le_of_ble_eq_true rfl) ⟨Nat.zero_le _, Nat.zero_le _⟩ [0] (bsr := []) rfl rfl (q0 := 0) rfl rfl dX8_most_8 ?_
  rintro _ _ ⟨r_2, v_3, rfl, rfl, hw⟩
  refine gw_sel [0] (bs' := [bMd G hMd qMd v_3]) rfl rfl ?_
  change GW C 0 0 _ 11 _ [.int r_2]
  exact gw_iret F E rfl rfl (Nat.le_of_ble_eq_true rfl) (Nat.le_of_ble_eq_true rfl) dX8_most_11 ⟨_, _, rfl, rfl, hw⟩
def wp_X8_most (Q : Int32 → OV → Prop) (vMd : OV) : Prop := wp_X8_most_0 Q vMd
theorem ct_X8_most {X : List Cond} {l : Launch} {D : va_G} {G : Nat → ClassId} {hMd : Nat} {qMd : Nat → Nat} {Q : Int32 → OV → Prop} {vMd : OV} (hw : wp_X8_most Q vMd) : CM X l yX8_most wsX8_most rm_X8_most D G [.ref hMd] [bMd G hMd qMd vMd] 0 0 (po_X8_most G hMd qMd Q) :=
  CM.of pn_RX8 rfl rfl (Nat.le_of_ble_eq_true rfl) rfl (fun C F E => lb_X8_most_0 F E hw)
-- X8_mostAgain
abbrev rm_X8_mostAgain : Room := { frames := 20, cells := 0, slots := 0, locals := 505 }
def po_X8_mostAgain (G : Nat → ClassId) (hMd : Nat) (qMd : Nat → Nat) (Q : Int32 → OV → Prop) : Option Value → List va_W → Prop := fun o bs => ∃ (r : Int32) (vMd : OV), o = some (.int r) ∧ bs = [bMd G hMd qMd vMd] ∧ Q r vMd
theorem hd_X8_mostAgain : yX8_mostAgain.cls = RX8 ∧ yX8_mostAgain.cls ≠ "java/lang/invoke/MethodHandle" ∧ yX8_mostAgain.cls ≠ "java/lang/invoke/VarHandle" ∧ (parseMethodDescriptor yX8_mostAgain.desc).map (fun d => d.parameters.length) = some 0 := by decide +kernel
theorem in_X8_mostAgain_RX8 : ∀ w ∈ wsX80, w ∈ wsX8_mostAgain := fun w h => List.mem_cons_of_mem _ (List.mem_append_left _ (List.mem_append_right _ h))
theorem lk_X8_mostAgain_46 : Cond.fieldLink RX8 46 "KeyWavesModel" "code" "I" ∈ wsX8_mostAgain := List.mem_cons_of_mem _ (List.mem_append_left _ (List.mem_append_left _ (List.mem_append_left _ (List.mem_of_getElem? (i := 0) rfl))))
def wp_X8_mostAgain_0 (Q : Int32 → OV → Prop) (vMd : OV) : Prop :=
  (∀ v_1 : OV, v_1 = sI vMd 9 (0 : Int32) → (wp_X8_mostWithout (fun (r_2 : Int32) (v_3 : OV) => (Q r_2 v_3)) (-1 : Int32) (-1 : Int32) v_1))
set_option maxRecDepth 20000 in
theorem lb_X8_mostAgain_0 {X : List Cond} {l : Launch} {D : va_G} {G : Nat → ClassId} {C : Cx} {bs0 : List va_W} {hMd : Nat} {qMd : Nat → Nat} {Q : Int32 → OV → Prop} (F : GF C X cX8_mostAgain wsX8_mostAgain RX8 rm_X8_mostAgain 1 (some .int) D G l) (E : GE C bs0 0 0 (po_X8_mostAgain G hMd qMd Q)) {vMd : OV} (hw : wp_X8_mostAgain_0 Q vMd) : GW C 0 0 [bMd G hMd qMd vMd] 0 [(0, .ref hMd)] [] := by
  unfold wp_X8_mostAgain_0 at hw
  refine gw_aload_n F dX8_mostAgain_0 0 rfl ?_
  refine gw_iconst (v := (0 : Int32)) F dX8_mostAgain_1 ic_iconst_0 ?_
  obtain ⟨v_1, e_v_1⟩ : ∃ z : OV, z = sI vMd 9 (0 : Int32) := ⟨_, rfl⟩
  have hw := hw v_1 e_v_1
  refine gw_put (bs' := [bMd G hMd qMd v_1]) F in_X8_mostAgain_RX8 tyX8 tyX8_ok nmX8 0 rfl rfl 9 (by decide) lk_X8_mostAgain_46 rfl rfl rfl (Nat.le_of_ble_eq_true rfl) dX8_mostAgain_2 (by rw [e_v_1]; rfl) ?_
  refine gw_aload_n F dX8_mostAgain_5 0 rfl ?_
  refine gw_iconst (v := (-1 : Int32)) F dX8_mostAgain_6 ic_iconst_m1 ?_
  refine gw_iconst (v := (-1 : Int32)) F dX8_mostAgain_7 ic_iconst_m1 ?_
  refine gw_callV F (ct_X8_mostWithout hw) 2 gX8_mostAgain_X8_mostWithout rfl rfl rfl hd_X8_mostWithout ⟨(Nat.le_of_ble_eq_true rfl), (Nat.le_of_ble_eq_true rfl)⟩ rfl rfl (Nat.le_of_ble_eq_true rfl) ⟨Nat.zero_le _, Nat.zero_le _⟩ [0] (bsr := []) rfl rfl (q0 := 0) rfl rfl dX8_mostAgain_8 ?_
  rintro _ _ ⟨r_2, v_3, rfl, rfl, hw⟩
  refine gw_sel [0] (bs' := [bMd G hMd qMd v_3]) rfl rfl ?_
  change GW C 0 0 _ 11 _ [.int r_2]
  exact gw_iret F E rfl rfl (Nat.le_of_ble_eq_true rfl) (Nat.le_of_ble_eq_true rfl) dX8_mostAgain_11 ⟨_, _, rfl, rfl, hw⟩
def wp_X8_mostAgain (Q : Int32 → OV → Prop) (vMd : OV) : Prop := wp_X8_mostAgain_0 Q vMd
theorem ct_X8_mostAgain {X : List Cond} {l : Launch} {D : va_G} {G : Nat → ClassId} {hMd : Nat} {qMd : Nat → Nat} {Q : Int32 → OV → Prop} {vMd : OV} (hw : wp_X8_mostAgain Q vMd) : CM X l yX8_mostAgain wsX8_mostAgain rm_X8_mostAgain D G [.ref hMd] [bMd G hMd qMd vMd] 0 0 (po_X8_mostAgain G hMd qMd Q) :=
  CM.of pn_RX8 rfl rfl (Nat.le_of_ble_eq_true rfl) rfl (fun C F E => lb_X8_mostAgain_0 F E hw)
-- X8_cover
abbrev rm_X8_cover : Room := { frames := 19, cells := 0, slots := 0, locals := 481 }
def po_X8_cover (G : Nat → ClassId) (hMd : Nat) (qMd : Nat → Nat) (Q : Int32 → OV → Prop) : Option Value → List va_W → Prop := fun o bs => ∃ (r : Int32) (vMd : OV), o = some (.int r) ∧ bs = [bMd G hMd qMd vMd] ∧ Q r vMd
theorem hd_X8_cover : yX8_cover.cls = RX8 ∧ yX8_cover.cls ≠ "java/lang/invoke/MethodHandle" ∧ yX8_cover.cls ≠ "java/lang/invoke/VarHandle" ∧ (parseMethodDescriptor yX8_cover.desc).map (fun d => d.parameters.length) = some 1 := by decide +kernel
theorem in_X8_cover_RX8 : ∀ w ∈ wsX80, w ∈ wsX8_cover := fun w h => List.mem_cons_of_mem _ (List.mem_append_left _ (List.mem_append_right _ h))
theorem lk_X8_cover_46 : Cond.fieldLink RX8 46 "KeyWavesModel" "code" "I" ∈ wsX8_cover := List.mem_cons_of_mem _ (List.mem_append_left _ (List.mem_append_left _ (List.mem_append_left _ (List.mem_of_getElem? (i := 0) rfl))))
theorem lk_X8_cover_7 : Cond.fieldLink RX8 7 "KeyWavesModel" "g" "[I" ∈ wsX8_cover := List.mem_cons_of_mem _ (List.mem_append_left _ (List.mem_append_left _ (List.mem_append_left _ (List.mem_of_getElem? (i := 1) rfl))))
theorem lk_X8_cover_22 : Cond.fieldLink RX8 22 "KeyWavesModel" "spare" "[I" ∈ wsX8_cover := List.mem_cons_of_mem _ (List.mem_append_left _ (List.mem_append_left _ (List.mem_append_left _ (List.mem_of_getElem? (i := 2) rfl))))
theorem lk_X8_cover_36 : Cond.fieldLink RX8 36 "KeyWavesModel" "level" "[I" ∈ wsX8_cover := List.mem_cons_of_mem _ (List.mem_append_left _ (List.mem_append_left _ (List.mem_append_left _ (List.mem_of_getElem? (i := 3) rfl))))
def wp_X8_cover_205 (Q : Int32 → OV → Prop) (x3 : Int32) (vMd : OV) : Prop :=
  (wp_X8_copies (fun (v_11 : (Nat → Int32)) => (∀ v_12 : OV, v_12 = sF vMd 0 v_11 → (Q x3 v_12))) 177 177 (0 : Int32) (0 : Int32) (vMd.1 4) (vMd.1 0))
set_option maxRecDepth 20000 in
theorem lb_X8_cover_205 {X : List Cond} {l : Launch} {D : va_G} {G : Nat → ClassId} {C : Cx} {bs0 : List va_W} {hMd : Nat} {qMd : Nat → Nat} {Q : Int32 → OV → Prop} (F : GF C X cX8_cover wsX8_cover RX8 rm_X8_cover 8 (some .int) D G l) (E : GE C bs0 0 0 (po_X8_cover G hMd qMd Q)) {x3 : Int32} {vMd : OV} (hw : wp_X8_cover_205 Q x3 vMd) : GW C 0 0 [bMd G hMd qMd vMd] 205 [(0, .ref hMd), (3, .int x3)] [] := by
  unfold wp_X8_cover_205 at hw
  refine gw_aload_n F dX8_cover_205 0 rfl ?_
  refine gw_get F in_X8_cover_RX8 0 rfl rfl 4 (by decide) lk_X8_cover_22 rfl dX8_cover_206 ?_
  refine gw_iconst (v := (0 : Int32)) F dX8_cover_209 ic_iconst_0 ?_
  refine gw_aload_n F dX8_cover_210 0 rfl ?_
  refine gw_get F in_X8_cover_RX8 0 rfl rfl 0 (by decide) lk_X8_cover_7 rfl dX8_cover_211 ?_
  refine gw_iconst (v := (0 : Int32)) F dX8_cover_214 ic_iconst_0 ?_
  refine gw_flat (bs' := mdB G hMd qMd vMd) rfl ?_
  refine gw_callS F (ct_X8_copies hw) 4 gX8_cover_X8_copies rfl rfl rfl hd_X8_copies ⟨(Nat.le_of_ble_eq_true rfl), (Nat.le_of_ble_eq_true rfl)⟩ rfl rfl (Nat.le_of_ble_eq_true rfl) ⟨Nat.zero_le _, Nat.zero_le _⟩ [0, 2, 3, 4, 6, 7, 8, 9, 10, 5, 1] (bsr := ((mdB G hMd qMd vMd).eraseIdx 5 |>.eraseIdx 1)) rfl rfl dX8_cover_215 ?_
  rintro _ _ ⟨v_11, rfl, rfl, hw⟩
  obtain ⟨v_12, e_v_12⟩ : ∃ z : OV, z = sF vMd 0 v_11 := ⟨_, rfl⟩
  have hw := hw v_12 e_v_12
  refine gw_sel [0, 10, 1, 2, 3, 9, 4, 5, 6, 7, 8] (bs' := mdB G hMd qMd v_12) (by rw [e_v_12]; rfl) rfl ?_
  refine gw_flat (bs' := [bMd G hMd qMd v_12]) rfl ?_
  change GW C 0 0 _ 218 _ []
  refine gw_iload_n F dX8_cover_218 1 rfl ?_
  exact gw_iret F E rfl rfl (Nat.le_of_ble_eq_true rfl) (Nat.le_of_ble_eq_true rfl) dX8_cover_219 ⟨_, _, rfl, rfl, hw⟩
def wp_X8_cover_197 (Q : Int32 → OV → Prop) (K153 : Int32 → Int32 → Int32 → OV → Prop) (x1 x5 s0 s1 : Int32) (vMd : OV) : Prop :=
  (∀ i_17 : Int32, i_17 = (s0 ||| s1) → (∀ i_18 : Int32, i_18 = x5 + (1 : Int32) → (K153 x1 i_17 i_18 vMd)))
set_option maxRecDepth 20000 in
theorem lb_X8_cover_197 {X : List Cond} {l : Launch} {D : va_G} {G : Nat → ClassId} {C : Cx} {bs0 : List va_W} {hMd : Nat} {qMd : Nat → Nat} {Q : Int32 → OV → Prop} {K153 : Int32 → Int32 → Int32 → OV → Prop} (F : GF C X cX8_cover wsX8_cover RX8 rm_X8_cover 8 (some .int) D G l) (E : GE C bs0 0 0 (po_X8_cover G hMd qMd Q)) (hK153 : ∀ (x1 x3 x5 : Int32) (vMd : OV), K153 x1 x3 x5 vMd → GW C 0 0 [bMd G hMd qMd vMd] 153 [(0, .ref hMd), (1, .int x1), (3, .int x3), (5, .int x5)] []) {x1 x5 s0 s1 : Int32} {vMd : OV} (hw : wp_X8_cover_197 Q K153 x1 x5 s0 s1 vMd) : GW C 0 0 [bMd G hMd qMd vMd] 197 [(0, .ref hMd), (1, .int x1), (5, .int x5)] [.int s1, .int s0] := by
  unfold wp_X8_cover_197 at hw
  refine gw_ior F dX8_cover_197 ?_
  refine gw_topi (fun i_17 e_i_17 => ?_)
  have hw := hw i_17 e_i_17
  refine gw_istore_n (lv' := [(3, .int i_17), (0, .ref hMd), (1, .int x1), (5, .int x5)]) F dX8_cover_198 (by decide) rfl ?_
  obtain ⟨i_18, e_i_18⟩ : ∃ z : Int32, z = x5 + (1 : Int32) := ⟨_, rfl⟩
  have hw := hw i_18 e_i_18
  refine gw_iinc (v := i_18) (lv' := [(5, .int i_18), (3, .int i_17), (0, .ref hMd), (1, .int x1)]) F dX8_cover_199 3 rfl (by rw [e_i_18]; rfl) (by decide) rfl ?_
  refine gw_goto (tgt := 153) F dX8_cover_202 (by decide) ?_
  refine gw_lv [2, 3, 1, 0] rfl ?_
  exact hK153 _ _ _ _ hw
def wp_X8_cover_196 (Q : Int32 → OV → Prop) (K153 : Int32 → Int32 → Int32 → OV → Prop) (x1 x5 s0 : Int32) (vMd : OV) : Prop :=
  (wp_X8_cover_197 Q K153 x1 x5 s0 (0 : Int32) vMd)
set_option maxRecDepth 20000 in
theorem lb_X8_cover_196 {X : List Cond} {l : Launch} {D : va_G} {G : Nat → ClassId} {C : Cx} {bs0 : List va_W} {hMd : Nat} {qMd : Nat → Nat} {Q : Int32 → OV → Prop} {K153 : Int32 → Int32 → Int32 → OV → Prop} (F : GF C X cX8_cover wsX8_cover RX8 rm_X8_cover 8 (some .int) D G l) (E : GE C bs0 0 0 (po_X8_cover G hMd qMd Q)) (hK153 : ∀ (x1 x3 x5 : Int32) (vMd : OV), K153 x1 x3 x5 vMd → GW C 0 0 [bMd G hMd qMd vMd] 153 [(0, .ref hMd), (1, .int x1), (3, .int x3), (5, .int x5)] []) {x1 x5 s0 : Int32} {vMd : OV} (hw : wp_X8_cover_196 Q K153 x1 x5 s0 vMd) : GW C 0 0 [bMd G hMd qMd vMd] 196 [(0, .ref hMd), (1, .int x1), (5, .int x5)] [.int s0] := by
  unfold wp_X8_cover_196 at hw
  refine gw_iconst (v := (0 : Int32)) F dX8_cover_196 ic_iconst_0 ?_
  exact lb_X8_cover_197 F E hK153 hw
def wp_X8_cover_153 (Q : Int32 → OV → Prop) (K153 : Int32 → Int32 → Int32 → OV → Prop) (x1 x3 x5 : Int32) (vMd : OV) : Prop :=
  ((¬ x1 = 0 → (wp_X8_cover_205 Q x3 vMd)) ∧ (x1 = 0 → (vp_in (0 : Int32) 177 ∧ (((vMd.1 0 (0 : Int32).toNatClampNeg) ≤ x5 → (wp_X8_cover_205 Q x3 vMd)) ∧ (¬ ((vMd.1 0 (0 : Int32).toNatClampNeg) ≤ x5) → (wp_X8_ofKey (fun (r_15 : Int32) => ((r_15 < 0 → (wp_X8_cover_196 Q K153 x1 x5 x3 vMd)) ∧ (¬ (r_15 < 0) → (vp_in x5 10 ∧ ((0 ≤ (vMd.1 18 x5.toNatClampNeg) → (wp_X8_cover_196 Q K153 x1 x5 x3 vMd)) ∧ (¬ (0 ≤ (vMd.1 18 x5.toNatClampNeg)) → (wp_X8_cover_197 Q K153 x1 x5 x3 ((1 : Int32) <<< (x5 &&& 31)) vMd))))))) x5 (2 : Int32) vMd))))))
set_option maxRecDepth 20000 in
theorem lb_X8_cover_153 {X : List Cond} {l : Launch} {D : va_G} {G : Nat → ClassId} {C : Cx} {bs0 : List va_W} {hMd : Nat} {qMd : Nat → Nat} {Q : Int32 → OV → Prop} {K153 : Int32 → Int32 → Int32 → OV → Prop} (F : GF C X cX8_cover wsX8_cover RX8 rm_X8_cover 8 (some .int) D G l) (E : GE C bs0 0 0 (po_X8_cover G hMd qMd Q)) (hK153 : ∀ (x1 x3 x5 : Int32) (vMd : OV), K153 x1 x3 x5 vMd → GW C 0 0 [bMd G hMd qMd vMd] 153 [(0, .ref hMd), (1, .int x1), (3, .int x3), (5, .int x5)] []) {x1 x3 x5 : Int32} {vMd : OV} (hw : wp_X8_cover_153 Q K153 x1 x3 x5 vMd) : GW C 0 0 [bMd G hMd qMd vMd] 153 [(0, .ref hMd), (1, .int x1), (3, .int x3), (5, .int x5)] [] := by
  unfold wp_X8_cover_153 at hw
  refine gw_iload_n F dX8_cover_153 1 rfl ?_
  refine gw_if_ne (tgt := 205) F dX8_cover_154 (by decide) (fun c_10 => ?_) (fun c_10 => ?_)
  · have hw := hw.1 c_10
    refine gw_lv [0, 2] rfl ?_
    exact lb_X8_cover_205 F E hw
  · have hw := hw.2 c_10
    refine gw_iload F dX8_cover_157 3 rfl ?_
    refine gw_aload_n F dX8_cover_159 0 rfl ?_
    refine gw_get F in_X8_cover_RX8 0 rfl rfl 0 (by decide) lk_X8_cover_7 rfl dX8_cover_160 ?_
    refine gw_iconst (v := (0 : Int32)) F dX8_cover_163 ic_iconst_0 ?_
    obtain ⟨h_13, hw⟩ := hw
    refine gw_iald F 1 rfl h_13 dX8_cover_164 ?_
    refine gw_icmp_ge (tgt := 205) F dX8_cover_165 (by decide) (fun c_14 => ?_) (fun c_14 => ?_)
    · have hw := hw.1 c_14
      refine gw_lv [0, 2] rfl ?_
      exact lb_X8_cover_205 F E hw
    · have hw := hw.2 c_14
      refine gw_iload_n F dX8_cover_168 2 rfl ?_
      refine gw_aload_n F dX8_cover_169 0 rfl ?_
      refine gw_iload F dX8_cover_170 3 rfl ?_
      refine gw_iconst (v := (2 : Int32)) F dX8_cover_172 ic_iconst_2 ?_
      refine gw_callV F (ct_X8_ofKey hw) 2 gX8_cover_X8_ofKey rfl rfl rfl hd_X8_ofKey ⟨(Nat.le_of_ble_eq_true rfl), (Nat.le_of_ble_eq_true rfl)⟩ rfl rfl (Nat.le_of_ble_eq_true rfl) ⟨Nat.zero_le _, Nat.zero_le _⟩ [0] (bsr := []) rfl rfl (q0 := 0) rfl rfl dX8_cover_173 ?_
      rintro _ _ ⟨r_15, rfl, rfl, hw⟩
      refine gw_sel [0] (bs' := [bMd G hMd qMd vMd]) rfl rfl ?_
      change GW C 0 0 _ 176 _ [.int r_15, .int x3]
      refine gw_if_lt (tgt := 196) F dX8_cover_176 (by decide) (fun c_16 => ?_) (fun c_16 => ?_)
      · have hw := hw.1 c_16
        refine gw_lv [0, 1, 3] rfl ?_
        exact lb_X8_cover_196 F E hK153 hw
      · have hw := hw.2 c_16
        refine gw_aload_n F dX8_cover_179 0 rfl ?_
        refine gw_get F in_X8_cover_RX8 0 rfl rfl 18 (by decide) lk_X8_cover_36 rfl dX8_cover_180 ?_
        refine gw_iload F dX8_cover_183 3 rfl ?_
        obtain ⟨h_19, hw⟩ := hw
        refine gw_iald F 8 rfl h_19 dX8_cover_185 ?_
        refine gw_if_ge (tgt := 196) F dX8_cover_186 (by decide) (fun c_20 => ?_) (fun c_20 => ?_)
        · have hw := hw.1 c_20
          refine gw_lv [0, 1, 3] rfl ?_
          exact lb_X8_cover_196 F E hK153 hw
        · have hw := hw.2 c_20
          refine gw_iconst (v := (1 : Int32)) F dX8_cover_189 ic_iconst_1 ?_
          refine gw_iload F dX8_cover_190 3 rfl ?_
          refine gw_ishl F dX8_cover_192 ?_
          refine gw_goto (tgt := 197) F dX8_cover_193 (by decide) ?_
          refine gw_lv [0, 1, 3] rfl ?_
          exact lb_X8_cover_197 F E hK153 hw
def wp_X8_cover_153_loop (Q : Int32 → OV → Prop) : Nat → Int32 → Int32 → Int32 → OV → Prop
  | 0, _, _, _, _ => False
  | n + 1, x1, x3, x5, vMd => wp_X8_cover_153 Q (wp_X8_cover_153_loop Q n) x1 x3 x5 vMd
theorem lp_X8_cover_153 {X : List Cond} {l : Launch} {D : va_G} {G : Nat → ClassId} {C : Cx} {bs0 : List va_W} {hMd : Nat} {qMd : Nat → Nat} {Q : Int32 → OV → Prop} (F : GF C X cX8_cover wsX8_cover RX8 rm_X8_cover 8 (some .int) D G l) (E : GE C bs0 0 0 (po_X8_cover G hMd qMd Q)) : ∀ (n : Nat) (x1 x3 x5 : Int32) (vMd : OV), wp_X8_cover_153_loop Q n x1 x3 x5 vMd → GW C 0 0 [bMd G hMd qMd vMd] 153 [(0, .ref hMd), (1, .int x1), (3, .int x3), (5, .int x5)] [] := by
  intro n
  induction n with
  | zero => intro x1 x3 x5 vMd hw; exact False.elim hw
  | succ n ih => intro x1 x3 x5 vMd hw; exact lb_X8_cover_153 (K153 := wp_X8_cover_153_loop Q n) F E ih hw
def wp_X8_cover_150 (Q : Int32 → OV → Prop) (x1 x3 : Int32) (vMd : OV) : Prop :=
  (∃ n_21 : Nat, wp_X8_cover_153_loop Q n_21 x1 x3 (0 : Int32) vMd)
set_option maxRecDepth 20000 in
theorem lb_X8_cover_150 {X : List Cond} {l : Launch} {D : va_G} {G : Nat → ClassId} {C : Cx} {bs0 : List va_W} {hMd : Nat} {qMd : Nat → Nat} {Q : Int32 → OV → Prop} (F : GF C X cX8_cover wsX8_cover RX8 rm_X8_cover 8 (some .int) D G l) (E : GE C bs0 0 0 (po_X8_cover G hMd qMd Q)) {x1 x3 : Int32} {vMd : OV} (hw : wp_X8_cover_150 Q x1 x3 vMd) : GW C 0 0 [bMd G hMd qMd vMd] 150 [(0, .ref hMd), (1, .int x1), (3, .int x3)] [] := by
  unfold wp_X8_cover_150 at hw
  refine gw_iconst (v := (0 : Int32)) F dX8_cover_150 ic_iconst_0 ?_
  refine gw_istore (lv' := [(5, .int (0 : Int32)), (0, .ref hMd), (1, .int x1), (3, .int x3)]) F dX8_cover_151 (by decide) rfl ?_
  refine gw_lv [1, 2, 3, 0] rfl ?_
  obtain ⟨n_21, hw⟩ := hw
  exact lp_X8_cover_153 F E n_21 _ _ _ _ hw
def wp_X8_cover_142 (Q : Int32 → OV → Prop) (K46 : Int32 → Int32 → Int32 → Int32 → OV → Prop) (x1 x4 x5 s0 s1 : Int32) (vMd : OV) : Prop :=
  (∀ i_27 : Int32, i_27 = (s0 ||| s1) → (∀ i_28 : Int32, i_28 = x5 + (1 : Int32) → (K46 x1 i_27 x4 i_28 vMd)))
set_option maxRecDepth 20000 in
theorem lb_X8_cover_142 {X : List Cond} {l : Launch} {D : va_G} {G : Nat → ClassId} {C : Cx} {bs0 : List va_W} {hMd : Nat} {qMd : Nat → Nat} {Q : Int32 → OV → Prop} {K46 : Int32 → Int32 → Int32 → Int32 → OV → Prop} (F : GF C X cX8_cover wsX8_cover RX8 rm_X8_cover 8 (some .int) D G l) (E : GE C bs0 0 0 (po_X8_cover G hMd qMd Q)) (hK46 : ∀ (x1 x3 x4 x5 : Int32) (vMd : OV), K46 x1 x3 x4 x5 vMd → GW C 0 0 [bMd G hMd qMd vMd] 46 [(0, .ref hMd), (1, .int x1), (3, .int x3), (4, .int x4), (5, .int x5)] []) {x1 x4 x5 s0 s1 : Int32} {vMd : OV} (hw : wp_X8_cover_142 Q K46 x1 x4 x5 s0 s1 vMd) : GW C 0 0 [bMd G hMd qMd vMd] 142 [(0, .ref hMd), (1, .int x1), (4, .int x4), (5, .int x5)] [.int s1, .int s0] := by
  unfold wp_X8_cover_142 at hw
  refine gw_ior F dX8_cover_142 ?_
  refine gw_topi (fun i_27 e_i_27 => ?_)
  have hw := hw i_27 e_i_27
  refine gw_istore_n (lv' := [(3, .int i_27), (0, .ref hMd), (1, .int x1), (4, .int x4), (5, .int x5)]) F dX8_cover_143 (by decide) rfl ?_
  obtain ⟨i_28, e_i_28⟩ : ∃ z : Int32, z = x5 + (1 : Int32) := ⟨_, rfl⟩
  have hw := hw i_28 e_i_28
  refine gw_iinc (v := i_28) (lv' := [(5, .int i_28), (3, .int i_27), (0, .ref hMd), (1, .int x1), (4, .int x4)]) F dX8_cover_144 4 rfl (by rw [e_i_28]; rfl) (by decide) rfl ?_
  refine gw_goto (tgt := 46) F dX8_cover_147 (by decide) ?_
  refine gw_lv [2, 3, 1, 4, 0] rfl ?_
  exact hK46 _ _ _ _ _ hw
def wp_X8_cover_119 (Q : Int32 → OV → Prop) (K46 : Int32 → Int32 → Int32 → Int32 → OV → Prop) (K68 : Int32 → Int32 → Int32 → Int32 → Int32 → Int32 → OV → Prop) (x1 x3 x4 x5 x7 s0 s1 : Int32) (vMd : OV) : Prop :=
  (∀ i_31 : Int32, i_31 = (s0 ||| s1) → (∀ i_32 : Int32, i_32 = x7 + (1 : Int32) → (K68 x1 x3 x4 x5 i_31 i_32 vMd)))
set_option maxRecDepth 20000 in
theorem lb_X8_cover_119 {X : List Cond} {l : Launch} {D : va_G} {G : Nat → ClassId} {C : Cx} {bs0 : List va_W} {hMd : Nat} {qMd : Nat → Nat} {Q : Int32 → OV → Prop} {K46 : Int32 → Int32 → Int32 → Int32 → OV → Prop} {K68 : Int32 → Int32 → Int32 → Int32 → Int32 → Int32 → OV → Prop} (F : GF C X cX8_cover wsX8_cover RX8 rm_X8_cover 8 (some .int) D G l) (E : GE C bs0 0 0 (po_X8_cover G hMd qMd Q)) (hK46 : ∀ (x1 x3 x4 x5 : Int32) (vMd : OV), K46 x1 x3 x4 x5 vMd → GW C 0 0 [bMd G hMd qMd vMd] 46 [(0, .ref hMd), (1, .int x1), (3, .int x3), (4, .int x4), (5, .int x5)] []) (hK68 : ∀ (x1 x3 x4 x5 x6 x7 : Int32) (vMd : OV), K68 x1 x3 x4 x5 x6 x7 vMd → GW C 0 0 [bMd G hMd qMd vMd] 68 [(0, .ref hMd), (1, .int x1), (3, .int x3), (4, .int x4), (5, .int x5), (6, .int x6), (7, .int x7)] []) {x1 x3 x4 x5 x7 s0 s1 : Int32} {vMd : OV} (hw : wp_X8_cover_119 Q K46 K68 x1 x3 x4 x5 x7 s0 s1 vMd) : GW C 0 0 [bMd G hMd qMd vMd] 119 [(0, .ref hMd), (1, .int x1), (3, .int x3), (4, .int x4), (5, .int x5), (7, .int x7)] [.int s1, .int s0] := by
  unfold wp_X8_cover_119 at hw
  refine gw_ior F dX8_cover_119 ?_
  refine gw_topi (fun i_31 e_i_31 => ?_)
  have hw := hw i_31 e_i_31
  refine gw_istore (lv' := [(6, .int i_31), (0, .ref hMd), (1, .int x1), (3, .int x3), (4, .int x4), (5, .int x5), (7, .int x7)]) F dX8_cover_120 (by decide) rfl ?_
  obtain ⟨i_32, e_i_32⟩ : ∃ z : Int32, z = x7 + (1 : Int32) := ⟨_, rfl⟩
  have hw := hw i_32 e_i_32
  refine gw_iinc (v := i_32) (lv' := [(7, .int i_32), (6, .int i_31), (0, .ref hMd), (1, .int x1), (3, .int x3), (4, .int x4), (5, .int x5)]) F dX8_cover_122 6 rfl (by rw [e_i_32]; rfl) (by decide) rfl ?_
  refine gw_goto (tgt := 68) F dX8_cover_125 (by decide) ?_
  refine gw_lv [2, 3, 4, 5, 6, 1, 0] rfl ?_
  exact hK68 _ _ _ _ _ _ _ hw
def wp_X8_cover_118 (Q : Int32 → OV → Prop) (K46 : Int32 → Int32 → Int32 → Int32 → OV → Prop) (K68 : Int32 → Int32 → Int32 → Int32 → Int32 → Int32 → OV → Prop) (x1 x3 x4 x5 x7 s0 : Int32) (vMd : OV) : Prop :=
  (wp_X8_cover_119 Q K46 K68 x1 x3 x4 x5 x7 s0 (0 : Int32) vMd)
set_option maxRecDepth 20000 in
theorem lb_X8_cover_118 {X : List Cond} {l : Launch} {D : va_G} {G : Nat → ClassId} {C : Cx} {bs0 : List va_W} {hMd : Nat} {qMd : Nat → Nat} {Q : Int32 → OV → Prop} {K46 : Int32 → Int32 → Int32 → Int32 → OV → Prop} {K68 : Int32 → Int32 → Int32 → Int32 → Int32 → Int32 → OV → Prop} (F : GF C X cX8_cover wsX8_cover RX8 rm_X8_cover 8 (some .int) D G l) (E : GE C bs0 0 0 (po_X8_cover G hMd qMd Q)) (hK46 : ∀ (x1 x3 x4 x5 : Int32) (vMd : OV), K46 x1 x3 x4 x5 vMd → GW C 0 0 [bMd G hMd qMd vMd] 46 [(0, .ref hMd), (1, .int x1), (3, .int x3), (4, .int x4), (5, .int x5)] []) (hK68 : ∀ (x1 x3 x4 x5 x6 x7 : Int32) (vMd : OV), K68 x1 x3 x4 x5 x6 x7 vMd → GW C 0 0 [bMd G hMd qMd vMd] 68 [(0, .ref hMd), (1, .int x1), (3, .int x3), (4, .int x4), (5, .int x5), (6, .int x6), (7, .int x7)] []) {x1 x3 x4 x5 x7 s0 : Int32} {vMd : OV} (hw : wp_X8_cover_118 Q K46 K68 x1 x3 x4 x5 x7 s0 vMd) : GW C 0 0 [bMd G hMd qMd vMd] 118 [(0, .ref hMd), (1, .int x1), (3, .int x3), (4, .int x4), (5, .int x5), (7, .int x7)] [.int s0] := by
  unfold wp_X8_cover_118 at hw
  refine gw_iconst (v := (0 : Int32)) F dX8_cover_118 ic_iconst_0 ?_
  exact lb_X8_cover_119 F E hK46 hK68 hw
def wp_X8_cover_68 (Q : Int32 → OV → Prop) (K46 : Int32 → Int32 → Int32 → Int32 → OV → Prop) (K68 : Int32 → Int32 → Int32 → Int32 → Int32 → Int32 → OV → Prop) (x1 x3 x4 x5 x6 x7 : Int32) (vMd : OV) : Prop :=
  (vp_in (0 : Int32) 177 ∧ (((vMd.1 0 (0 : Int32).toNatClampNeg) ≤ x7 → ((x6 = 0 → (wp_X8_cover_142 Q K46 x1 x4 x5 x3 (0 : Int32) vMd)) ∧ (¬ (x6 = 0) → (wp_X8_cover_142 Q K46 x1 x4 x5 x3 ((1 : Int32) <<< (x5 &&& 31)) vMd)))) ∧ (¬ ((vMd.1 0 (0 : Int32).toNatClampNeg) ≤ x7) → (vp_in x7 10 ∧ (((vMd.1 18 x7.toNatClampNeg) < 0 → (wp_X8_cover_118 Q K46 K68 x1 x3 x4 x5 x7 x6 vMd)) ∧ (¬ ((vMd.1 18 x7.toNatClampNeg) < 0) → (wp_X8_isFit (fun (r_33 : Int32) => ((r_33 = 0 → (wp_X8_cover_118 Q K46 K68 x1 x3 x4 x5 x7 x6 vMd)) ∧ (¬ (r_33 = 0) → (wp_X8_ofKey (fun (r_35 : Int32) => ((r_35 = x5 → (wp_X8_cover_118 Q K46 K68 x1 x3 x4 x5 x7 x6 vMd)) ∧ (¬ (r_35 = x5) → (wp_X8_cover_119 Q K46 K68 x1 x3 x4 x5 x7 x6 (1 : Int32) vMd)))) x7 (2 : Int32) vMd)))) x7 x5 vMd)))))))
set_option maxRecDepth 20000 in
theorem lb_X8_cover_68 {X : List Cond} {l : Launch} {D : va_G} {G : Nat → ClassId} {C : Cx} {bs0 : List va_W} {hMd : Nat} {qMd : Nat → Nat} {Q : Int32 → OV → Prop} {K46 : Int32 → Int32 → Int32 → Int32 → OV → Prop} {K68 : Int32 → Int32 → Int32 → Int32 → Int32 → Int32 → OV → Prop} (F : GF C X cX8_cover wsX8_cover RX8 rm_X8_cover 8 (some .int) D G l) (E : GE C bs0 0 0 (po_X8_cover G hMd qMd Q)) (hK46 : ∀ (x1 x3 x4 x5 : Int32) (vMd : OV), K46 x1 x3 x4 x5 vMd → GW C 0 0 [bMd G hMd qMd vMd] 46 [(0, .ref hMd), (1, .int x1), (3, .int x3), (4, .int x4), (5, .int x5)] []) (hK68 : ∀ (x1 x3 x4 x5 x6 x7 : Int32) (vMd : OV), K68 x1 x3 x4 x5 x6 x7 vMd → GW C 0 0 [bMd G hMd qMd vMd] 68 [(0, .ref hMd), (1, .int x1), (3, .int x3), (4, .int x4), (5, .int x5), (6, .int x6), (7, .int x7)] []) {x1 x3 x4 x5 x6 x7 : Int32} {vMd : OV} (hw : wp_X8_cover_68 Q K46 K68 x1 x3 x4 x5 x6 x7 vMd) : GW C 0 0 [bMd G hMd qMd vMd] 68 [(0, .ref hMd), (1, .int x1), (3, .int x3), (4, .int x4), (5, .int x5), (6, .int x6), (7, .int x7)] [] := by
  unfold wp_X8_cover_68 at hw
  refine gw_iload F dX8_cover_68 6 rfl ?_
  refine gw_aload_n F dX8_cover_70 0 rfl ?_
  refine gw_get F in_X8_cover_RX8 0 rfl rfl 0 (by decide) lk_X8_cover_7 rfl dX8_cover_71 ?_
  refine gw_iconst (v := (0 : Int32)) F dX8_cover_74 ic_iconst_0 ?_
  obtain ⟨h_24, hw⟩ := hw
  refine gw_iald F 1 rfl h_24 dX8_cover_75 ?_
  refine gw_icmp_ge (tgt := 128) F dX8_cover_76 (by decide) (fun c_25 => ?_) (fun c_25 => ?_)
  · have hw := hw.1 c_25
    refine gw_iload_n F dX8_cover_128 2 rfl ?_
    refine gw_iload F dX8_cover_129 5 rfl ?_
    refine gw_if_eq (tgt := 141) F dX8_cover_131 (by decide) (fun c_26 => ?_) (fun c_26 => ?_)
    · have hw := hw.1 c_26
      refine gw_iconst (v := (0 : Int32)) F dX8_cover_141 ic_iconst_0 ?_
      refine gw_lv [0, 1, 3, 4] rfl ?_
      exact lb_X8_cover_142 F E hK46 hw
    · have hw := hw.2 c_26
      refine gw_iconst (v := (1 : Int32)) F dX8_cover_134 ic_iconst_1 ?_
      refine gw_iload F dX8_cover_135 4 rfl ?_
      refine gw_ishl F dX8_cover_137 ?_
      refine gw_goto (tgt := 142) F dX8_cover_138 (by decide) ?_
      refine gw_lv [0, 1, 3, 4] rfl ?_
      exact lb_X8_cover_142 F E hK46 hw
  · have hw := hw.2 c_25
    refine gw_iload F dX8_cover_79 5 rfl ?_
    refine gw_aload_n F dX8_cover_81 0 rfl ?_
    refine gw_get F in_X8_cover_RX8 0 rfl rfl 18 (by decide) lk_X8_cover_36 rfl dX8_cover_82 ?_
    refine gw_iload F dX8_cover_85 6 rfl ?_
    obtain ⟨h_29, hw⟩ := hw
    refine gw_iald F 8 rfl h_29 dX8_cover_87 ?_
    refine gw_if_lt (tgt := 118) F dX8_cover_88 (by decide) (fun c_30 => ?_) (fun c_30 => ?_)
    · have hw := hw.1 c_30
      refine gw_lv [0, 1, 2, 3, 4, 6] rfl ?_
      exact lb_X8_cover_118 F E hK46 hK68 hw
    · have hw := hw.2 c_30
      refine gw_aload_n F dX8_cover_91 0 rfl ?_
      refine gw_iload F dX8_cover_92 6 rfl ?_
      refine gw_iload F dX8_cover_94 4 rfl ?_
      refine gw_callV F (ct_X8_isFit hw) 2 gX8_cover_X8_isFit rfl rfl rfl hd_X8_isFit ⟨(Nat.le_of_ble_eq_true rfl), (Nat.le_of_ble_eq_true rfl)⟩ rfl rfl (Nat.le_of_ble_eq_true rfl) ⟨Nat.zero_le _, Nat.zero_le _⟩ [0] (bsr := []) rfl rfl (q0 := 0) rfl rfl dX8_cover_96 ?_
      rintro _ _ ⟨r_33, rfl, rfl, hw⟩
      refine gw_sel [0] (bs' := [bMd G hMd qMd vMd]) rfl rfl ?_
      change GW C 0 0 _ 99 _ [.int r_33, .int x6]
      refine gw_if_eq (tgt := 118) F dX8_cover_99 (by decide) (fun c_34 => ?_) (fun c_34 => ?_)
      · have hw := hw.1 c_34
        refine gw_lv [0, 1, 2, 3, 4, 6] rfl ?_
        exact lb_X8_cover_118 F E hK46 hK68 hw
      · have hw := hw.2 c_34
        refine gw_aload_n F dX8_cover_102 0 rfl ?_
        refine gw_iload F dX8_cover_103 6 rfl ?_
        refine gw_iconst (v := (2 : Int32)) F dX8_cover_105 ic_iconst_2 ?_
        refine gw_callV F (ct_X8_ofKey hw) 2 gX8_cover_X8_ofKey rfl rfl rfl hd_X8_ofKey ⟨(Nat.le_of_ble_eq_true rfl), (Nat.le_of_ble_eq_true rfl)⟩ rfl rfl (Nat.le_of_ble_eq_true rfl) ⟨Nat.zero_le _, Nat.zero_le _⟩ [0] (bsr := []) rfl rfl (q0 := 0) rfl rfl dX8_cover_106 ?_
        rintro _ _ ⟨r_35, rfl, rfl, hw⟩
        refine gw_sel [0] (bs' := [bMd G hMd qMd vMd]) rfl rfl ?_
        change GW C 0 0 _ 109 _ [.int r_35, .int x6]
        refine gw_iload F dX8_cover_109 4 rfl ?_
        refine gw_icmp_eq (tgt := 118) F dX8_cover_111 (by decide) (fun c_36 => ?_) (fun c_36 => ?_)
        · have hw := hw.1 c_36
          refine gw_lv [0, 1, 2, 3, 4, 6] rfl ?_
          exact lb_X8_cover_118 F E hK46 hK68 hw
        · have hw := hw.2 c_36
          refine gw_iconst (v := (1 : Int32)) F dX8_cover_114 ic_iconst_1 ?_
          refine gw_goto (tgt := 119) F dX8_cover_115 (by decide) ?_
          refine gw_lv [0, 1, 2, 3, 4, 6] rfl ?_
          exact lb_X8_cover_119 F E hK46 hK68 hw
def wp_X8_cover_68_loop (Q : Int32 → OV → Prop) (K46 : Int32 → Int32 → Int32 → Int32 → OV → Prop) : Nat → Int32 → Int32 → Int32 → Int32 → Int32 → Int32 → OV → Prop
  | 0, _, _, _, _, _, _, _ => False
  | n + 1, x1, x3, x4, x5, x6, x7, vMd => wp_X8_cover_68 Q K46 (wp_X8_cover_68_loop Q K46 n) x1 x3 x4 x5 x6 x7 vMd
theorem lp_X8_cover_68 {X : List Cond} {l : Launch} {D : va_G} {G : Nat → ClassId} {C : Cx} {bs0 : List va_W} {hMd : Nat} {qMd : Nat → Nat} {Q : Int32 → OV → Prop} {K46 : Int32 → Int32 → Int32 → Int32 → OV → Prop} (F : GF C X cX8_cover wsX8_cover RX8 rm_X8_cover 8 (some .int) D G l) (E : GE C bs0 0 0 (po_X8_cover G hMd qMd Q)) (hK46 : ∀ (x1 x3 x4 x5 : Int32) (vMd : OV), K46 x1 x3 x4 x5 vMd → GW C 0 0 [bMd G hMd qMd vMd] 46 [(0, .ref hMd), (1, .int x1), (3, .int x3), (4, .int x4), (5, .int x5)] []) : ∀ (n : Nat) (x1 x3 x4 x5 x6 x7 : Int32) (vMd : OV), wp_X8_cover_68_loop Q K46 n x1 x3 x4 x5 x6 x7 vMd → GW C 0 0 [bMd G hMd qMd vMd] 68 [(0, .ref hMd), (1, .int x1), (3, .int x3), (4, .int x4), (5, .int x5), (6, .int x6), (7, .int x7)] [] := by
  intro n
  induction n with
  | zero => intro x1 x3 x4 x5 x6 x7 vMd hw; exact False.elim hw
  | succ n ih => intro x1 x3 x4 x5 x6 x7 vMd hw; exact lb_X8_cover_68 (K68 := wp_X8_cover_68_loop Q K46 n) F E hK46 ih hw
def wp_X8_cover_46 (Q : Int32 → OV → Prop) (K46 : Int32 → Int32 → Int32 → Int32 → OV → Prop) (x1 x3 x4 x5 : Int32) (vMd : OV) : Prop :=
  ((x1 = 0 → (wp_X8_cover_150 Q x1 x3 vMd)) ∧ (¬ (x1 = 0) → (vp_in (1 : Int32) 177 ∧ (((vMd.1 0 (1 : Int32).toNatClampNeg) ≤ x5 → (wp_X8_cover_150 Q x1 x3 vMd)) ∧ (¬ ((vMd.1 0 (1 : Int32).toNatClampNeg) ≤ x5) → (∃ n_37 : Nat, wp_X8_cover_68_loop Q K46 n_37 x1 x3 x4 x5 x4 (0 : Int32) vMd))))))
set_option maxRecDepth 20000 in
theorem lb_X8_cover_46 {X : List Cond} {l : Launch} {D : va_G} {G : Nat → ClassId} {C : Cx} {bs0 : List va_W} {hMd : Nat} {qMd : Nat → Nat} {Q : Int32 → OV → Prop} {K46 : Int32 → Int32 → Int32 → Int32 → OV → Prop} (F : GF C X cX8_cover wsX8_cover RX8 rm_X8_cover 8 (some .int) D G l) (E : GE C bs0 0 0 (po_X8_cover G hMd qMd Q)) (hK46 : ∀ (x1 x3 x4 x5 : Int32) (vMd : OV), K46 x1 x3 x4 x5 vMd → GW C 0 0 [bMd G hMd qMd vMd] 46 [(0, .ref hMd), (1, .int x1), (3, .int x3), (4, .int x4), (5, .int x5)] []) {x1 x3 x4 x5 : Int32} {vMd : OV} (hw : wp_X8_cover_46 Q K46 x1 x3 x4 x5 vMd) : GW C 0 0 [bMd G hMd qMd vMd] 46 [(0, .ref hMd), (1, .int x1), (3, .int x3), (4, .int x4), (5, .int x5)] [] := by
  unfold wp_X8_cover_46 at hw
  refine gw_iload_n F dX8_cover_46 1 rfl ?_
  refine gw_if_eq (tgt := 150) F dX8_cover_47 (by decide) (fun c_9 => ?_) (fun c_9 => ?_)
  · have hw := hw.1 c_9
    refine gw_lv [0, 1, 2] rfl ?_
    exact lb_X8_cover_150 F E hw
  · have hw := hw.2 c_9
    refine gw_iload F dX8_cover_50 4 rfl ?_
    refine gw_aload_n F dX8_cover_52 0 rfl ?_
    refine gw_get F in_X8_cover_RX8 0 rfl rfl 0 (by decide) lk_X8_cover_7 rfl dX8_cover_53 ?_
    refine gw_iconst (v := (1 : Int32)) F dX8_cover_56 ic_iconst_1 ?_
    obtain ⟨h_22, hw⟩ := hw
    refine gw_iald F 1 rfl h_22 dX8_cover_57 ?_
    refine gw_icmp_ge (tgt := 150) F dX8_cover_58 (by decide) (fun c_23 => ?_) (fun c_23 => ?_)
    · have hw := hw.1 c_23
      refine gw_lv [0, 1, 2] rfl ?_
      exact lb_X8_cover_150 F E hw
    · have hw := hw.2 c_23
      refine gw_iload F dX8_cover_61 3 rfl ?_
      refine gw_istore (lv' := [(6, .int x4), (0, .ref hMd), (1, .int x1), (3, .int x3), (4, .int x4), (5, .int x5)]) F dX8_cover_63 (by decide) rfl ?_
      refine gw_iconst (v := (0 : Int32)) F dX8_cover_65 ic_iconst_0 ?_
      refine gw_istore (lv' := [(7, .int (0 : Int32)), (6, .int x4), (0, .ref hMd), (1, .int x1), (3, .int x3), (4, .int x4), (5, .int x5)]) F dX8_cover_66 (by decide) rfl ?_
      refine gw_lv [2, 3, 4, 5, 6, 1, 0] rfl ?_
      obtain ⟨n_37, hw⟩ := hw
      exact lp_X8_cover_68 F E hK46 n_37 _ _ _ _ _ _ _ hw
def wp_X8_cover_46_loop (Q : Int32 → OV → Prop) : Nat → Int32 → Int32 → Int32 → Int32 → OV → Prop
  | 0, _, _, _, _, _ => False
  | n + 1, x1, x3, x4, x5, vMd => wp_X8_cover_46 Q (wp_X8_cover_46_loop Q n) x1 x3 x4 x5 vMd
theorem lp_X8_cover_46 {X : List Cond} {l : Launch} {D : va_G} {G : Nat → ClassId} {C : Cx} {bs0 : List va_W} {hMd : Nat} {qMd : Nat → Nat} {Q : Int32 → OV → Prop} (F : GF C X cX8_cover wsX8_cover RX8 rm_X8_cover 8 (some .int) D G l) (E : GE C bs0 0 0 (po_X8_cover G hMd qMd Q)) : ∀ (n : Nat) (x1 x3 x4 x5 : Int32) (vMd : OV), wp_X8_cover_46_loop Q n x1 x3 x4 x5 vMd → GW C 0 0 [bMd G hMd qMd vMd] 46 [(0, .ref hMd), (1, .int x1), (3, .int x3), (4, .int x4), (5, .int x5)] [] := by
  intro n
  induction n with
  | zero => intro x1 x3 x4 x5 vMd hw; exact False.elim hw
  | succ n ih => intro x1 x3 x4 x5 vMd hw; exact lb_X8_cover_46 (K46 := wp_X8_cover_46_loop Q n) F E ih hw
def wp_X8_cover_41 (Q : Int32 → OV → Prop) (x1 x3 s0 : Int32) (vMd : OV) : Prop :=
  (∃ n_38 : Nat, wp_X8_cover_46_loop Q n_38 x1 x3 s0 (0 : Int32) vMd)
set_option maxRecDepth 20000 in
theorem lb_X8_cover_41 {X : List Cond} {l : Launch} {D : va_G} {G : Nat → ClassId} {C : Cx} {bs0 : List va_W} {hMd : Nat} {qMd : Nat → Nat} {Q : Int32 → OV → Prop} (F : GF C X cX8_cover wsX8_cover RX8 rm_X8_cover 8 (some .int) D G l) (E : GE C bs0 0 0 (po_X8_cover G hMd qMd Q)) {x1 x3 s0 : Int32} {vMd : OV} (hw : wp_X8_cover_41 Q x1 x3 s0 vMd) : GW C 0 0 [bMd G hMd qMd vMd] 41 [(0, .ref hMd), (1, .int x1), (3, .int x3)] [.int s0] := by
  unfold wp_X8_cover_41 at hw
  refine gw_istore (lv' := [(4, .int s0), (0, .ref hMd), (1, .int x1), (3, .int x3)]) F dX8_cover_41 (by decide) rfl ?_
  refine gw_iconst (v := (0 : Int32)) F dX8_cover_43 ic_iconst_0 ?_
  refine gw_istore (lv' := [(5, .int (0 : Int32)), (4, .int s0), (0, .ref hMd), (1, .int x1), (3, .int x3)]) F dX8_cover_44 (by decide) rfl ?_
  refine gw_lv [2, 3, 4, 1, 0] rfl ?_
  obtain ⟨n_38, hw⟩ := hw
  exact lp_X8_cover_46 F E n_38 _ _ _ _ _ hw
def wp_X8_cover_40 (Q : Int32 → OV → Prop) (x1 x3 : Int32) (vMd : OV) : Prop :=
  (wp_X8_cover_41 Q x1 x3 (0 : Int32) vMd)
set_option maxRecDepth 20000 in
theorem lb_X8_cover_40 {X : List Cond} {l : Launch} {D : va_G} {G : Nat → ClassId} {C : Cx} {bs0 : List va_W} {hMd : Nat} {qMd : Nat → Nat} {Q : Int32 → OV → Prop} (F : GF C X cX8_cover wsX8_cover RX8 rm_X8_cover 8 (some .int) D G l) (E : GE C bs0 0 0 (po_X8_cover G hMd qMd Q)) {x1 x3 : Int32} {vMd : OV} (hw : wp_X8_cover_40 Q x1 x3 vMd) : GW C 0 0 [bMd G hMd qMd vMd] 40 [(0, .ref hMd), (1, .int x1), (3, .int x3)] [] := by
  unfold wp_X8_cover_40 at hw
  refine gw_iconst (v := (0 : Int32)) F dX8_cover_40 ic_iconst_0 ?_
  exact lb_X8_cover_41 F E hw
def wp_X8_cover_0 (Q : Int32 → OV → Prop) (x1 : Int32) (vMd : OV) : Prop :=
  (∀ v_1 : OV, v_1 = sI vMd 9 (0 : Int32) → (wp_X8_copies (fun (v_2 : (Nat → Int32)) => (∀ v_3 : OV, v_3 = sF v_1 4 v_2 → (wp_X8_comesToEnd (fun (r_4 : Int32) (v_5 : OV) => (wp_X8_levels (fun (r_6 : Int32) (v_7 : OV) => ((r_6 = 0 → (wp_X8_cover_40 Q x1 (0 : Int32) v_7)) ∧ (¬ (r_6 = 0) → ((0 ≤ r_4 → (wp_X8_cover_40 Q x1 (0 : Int32) v_7)) ∧ (¬ (0 ≤ r_4) → (wp_X8_cover_41 Q x1 (0 : Int32) (1 : Int32) v_7)))))) v_5)) v_3))) 177 177 (0 : Int32) (0 : Int32) (v_1.1 0) (v_1.1 4)))
set_option maxRecDepth 20000 in
theorem lb_X8_cover_0 {X : List Cond} {l : Launch} {D : va_G} {G : Nat → ClassId} {C : Cx} {bs0 : List va_W} {hMd : Nat} {qMd : Nat → Nat} {Q : Int32 → OV → Prop} (F : GF C X cX8_cover wsX8_cover RX8 rm_X8_cover 8 (some .int) D G l) (E : GE C bs0 0 0 (po_X8_cover G hMd qMd Q)) {x1 : Int32} {vMd : OV} (hw : wp_X8_cover_0 Q x1 vMd) : GW C 0 0 [bMd G hMd qMd vMd] 0 [(0, .ref hMd), (1, .int x1)] [] := by
  unfold wp_X8_cover_0 at hw
  refine gw_aload_n F dX8_cover_0 0 rfl ?_
  refine gw_iconst (v := (0 : Int32)) F dX8_cover_1 ic_iconst_0 ?_
  obtain ⟨v_1, e_v_1⟩ : ∃ z : OV, z = sI vMd 9 (0 : Int32) := ⟨_, rfl⟩
  have hw := hw v_1 e_v_1
  refine gw_put (bs' := [bMd G hMd qMd v_1]) F in_X8_cover_RX8 tyX8 tyX8_ok nmX8 0 rfl rfl 9 (by decide) lk_X8_cover_46 rfl rfl rfl (Nat.le_of_ble_eq_true rfl) dX8_cover_2 (by rw [e_v_1]; rfl) ?_
  refine gw_aload_n F dX8_cover_5 0 rfl ?_
  refine gw_get F in_X8_cover_RX8 0 rfl rfl 0 (by decide) lk_X8_cover_7 rfl dX8_cover_6 ?_
  refine gw_iconst (v := (0 : Int32)) F dX8_cover_9 ic_iconst_0 ?_
  refine gw_aload_n F dX8_cover_10 0 rfl ?_
  refine gw_get F in_X8_cover_RX8 0 rfl rfl 4 (by decide) lk_X8_cover_22 rfl dX8_cover_11 ?_
  refine gw_iconst (v := (0 : Int32)) F dX8_cover_14 ic_iconst_0 ?_
  refine gw_flat (bs' := mdB G hMd qMd v_1) rfl ?_
  refine gw_callS F (ct_X8_copies hw) 4 gX8_cover_X8_copies rfl rfl rfl hd_X8_copies ⟨(Nat.le_of_ble_eq_true rfl), (Nat.le_of_ble_eq_true rfl)⟩ rfl rfl (Nat.le_of_ble_eq_true rfl) ⟨Nat.zero_le _, Nat.zero_le _⟩ [0, 2, 3, 4, 6, 7, 8, 9, 10, 1, 5] (bsr := ((mdB G hMd qMd v_1).eraseIdx 5 |>.eraseIdx 1)) rfl rfl dX8_cover_15 ?_
  rintro _ _ ⟨v_2, rfl, rfl, hw⟩
  obtain ⟨v_3, e_v_3⟩ : ∃ z : OV, z = sF v_1 4 v_2 := ⟨_, rfl⟩
  have hw := hw v_3 e_v_3
  refine gw_sel [0, 9, 1, 2, 3, 10, 4, 5, 6, 7, 8] (bs' := mdB G hMd qMd v_3) (by rw [e_v_3]; rfl) rfl ?_
  refine gw_flat (bs' := [bMd G hMd qMd v_3]) rfl ?_
  change GW C 0 0 _ 18 _ []
  refine gw_aload_n F dX8_cover_18 0 rfl ?_
  refine gw_callV F (ct_X8_comesToEnd hw) 0 gX8_cover_X8_comesToEnd rfl rfl rfl hd_X8_comesToEnd ⟨(Nat.le_of_ble_eq_true rfl), (Nat.le_of_ble_eq_true rfl)⟩ rfl rfl (Nat.le_of_ble_eq_true rfl) ⟨Nat.zero_le _, Nat.zero_le _⟩ [0] (bsr := []) rfl rfl (q0 := 0) rfl rfl dX8_cover_19 ?_
  rintro _ _ ⟨r_4, v_5, rfl, rfl, hw⟩
  refine gw_sel [0] (bs' := [bMd G hMd qMd v_5]) rfl rfl ?_
  change GW C 0 0 _ 22 _ [.int r_4]
  refine gw_istore_n (lv' := [(2, .int r_4), (0, .ref hMd), (1, .int x1)]) F dX8_cover_22 (by decide) rfl ?_
  refine gw_iconst (v := (0 : Int32)) F dX8_cover_23 ic_iconst_0 ?_
  refine gw_istore_n (lv' := [(3, .int (0 : Int32)), (2, .int r_4), (0, .ref hMd), (1, .int x1)]) F dX8_cover_24 (by decide) rfl ?_
  refine gw_aload_n F dX8_cover_25 2 rfl ?_
  refine gw_callV F (ct_X8_levels hw) 0 gX8_cover_X8_levels rfl rfl rfl hd_X8_levels ⟨(Nat.le_of_ble_eq_true rfl), (Nat.le_of_ble_eq_true rfl)⟩ rfl rfl (Nat.le_of_ble_eq_true rfl) ⟨Nat.zero_le _, Nat.zero_le _⟩ [0] (bsr := []) rfl rfl (q0 := 0) rfl rfl dX8_cover_26 ?_
  rintro _ _ ⟨r_6, v_7, rfl, rfl, hw⟩
  refine gw_sel [0] (bs' := [bMd G hMd qMd v_7]) rfl rfl ?_
  change GW C 0 0 _ 29 _ [.int r_6]
  refine gw_if_eq (tgt := 40) F dX8_cover_29 (by decide) (fun c_8 => ?_) (fun c_8 => ?_)
  · have hw := hw.1 c_8
    refine gw_lv [2, 3, 0] rfl ?_
    exact lb_X8_cover_40 F E hw
  · have hw := hw.2 c_8
    refine gw_iload_n F dX8_cover_32 1 rfl ?_
    refine gw_if_ge (tgt := 40) F dX8_cover_33 (by decide) (fun c_39 => ?_) (fun c_39 => ?_)
    · have hw := hw.1 c_39
      refine gw_lv [2, 3, 0] rfl ?_
      exact lb_X8_cover_40 F E hw
    · have hw := hw.2 c_39
      refine gw_iconst (v := (1 : Int32)) F dX8_cover_36 ic_iconst_1 ?_
      refine gw_goto (tgt := 41) F dX8_cover_37 (by decide) ?_
      refine gw_lv [2, 3, 0] rfl ?_
      exact lb_X8_cover_41 F E hw
def wp_X8_cover (Q : Int32 → OV → Prop) (x1 : Int32) (vMd : OV) : Prop := wp_X8_cover_0 Q x1 vMd
theorem ct_X8_cover {X : List Cond} {l : Launch} {D : va_G} {G : Nat → ClassId} {hMd : Nat} {qMd : Nat → Nat} {Q : Int32 → OV → Prop} {x1 : Int32} {vMd : OV} (hw : wp_X8_cover Q x1 vMd) : CM X l yX8_cover wsX8_cover rm_X8_cover D G [.ref hMd, .int x1] [bMd G hMd qMd vMd] 0 0 (po_X8_cover G hMd qMd Q) :=
  CM.of pn_RX8 rfl rfl (Nat.le_of_ble_eq_true rfl) rfl (fun C F E => lb_X8_cover_0 F E hw)
-- X8_canBeOpen
abbrev rm_X8_canBeOpen : Room := { frames := 20, cells := 0, slots := 0, locals := 505 }
def po_X8_canBeOpen (G : Nat → ClassId) (hMd : Nat) (qMd : Nat → Nat) (Q : Int32 → OV → Prop) : Option Value → List va_W → Prop := fun o bs => ∃ (r : Int32) (vMd : OV), o = some (.int r) ∧ bs = [bMd G hMd qMd vMd] ∧ Q r vMd
theorem hd_X8_canBeOpen : yX8_canBeOpen.cls = RX8 ∧ yX8_canBeOpen.cls ≠ "java/lang/invoke/MethodHandle" ∧ yX8_canBeOpen.cls ≠ "java/lang/invoke/VarHandle" ∧ (parseMethodDescriptor yX8_canBeOpen.desc).map (fun d => d.parameters.length) = some 1 := by decide +kernel
theorem in_X8_canBeOpen_RX8 : ∀ w ∈ wsX80, w ∈ wsX8_canBeOpen := fun w h => List.mem_cons_of_mem _ (List.mem_append_left _ (List.mem_append_right _ h))
theorem lk_X8_canBeOpen_7 : Cond.fieldLink RX8 7 "KeyWavesModel" "g" "[I" ∈ wsX8_canBeOpen := List.mem_cons_of_mem _ (List.mem_append_left _ (List.mem_append_left _ (List.mem_append_left _ (List.mem_of_getElem? (i := 0) rfl))))
def wp_X8_canBeOpen_64 (Q : Int32 → OV → Prop) (K31 : Int32 → Int32 → Int32 → OV → Prop) (x1 x2 x3 : Int32) (vMd : OV) : Prop :=
  (∀ i_12 : Int32, i_12 = x3 + (1 : Int32) → (K31 x1 x2 i_12 vMd))
set_option maxRecDepth 20000 in
theorem lb_X8_canBeOpen_64 {X : List Cond} {l : Launch} {D : va_G} {G : Nat → ClassId} {C : Cx} {bs0 : List va_W} {hMd : Nat} {qMd : Nat → Nat} {Q : Int32 → OV → Prop} {K31 : Int32 → Int32 → Int32 → OV → Prop} (F : GF C X cX8_canBeOpen wsX8_canBeOpen RX8 rm_X8_canBeOpen 4 (some .boolean) D G l) (E : GE C bs0 0 0 (po_X8_canBeOpen G hMd qMd Q)) (hK31 : ∀ (x1 x2 x3 : Int32) (vMd : OV), K31 x1 x2 x3 vMd → GW C 0 0 [bMd G hMd qMd vMd] 31 [(0, .ref hMd), (1, .int x1), (2, .int x2), (3, .int x3)] []) {x1 x2 x3 : Int32} {vMd : OV} (hw : wp_X8_canBeOpen_64 Q K31 x1 x2 x3 vMd) : GW C 0 0 [bMd G hMd qMd vMd] 64 [(0, .ref hMd), (1, .int x1), (2, .int x2), (3, .int x3)] [] := by
  unfold wp_X8_canBeOpen_64 at hw
  obtain ⟨i_12, e_i_12⟩ : ∃ z : Int32, z = x3 + (1 : Int32) := ⟨_, rfl⟩
  have hw := hw i_12 e_i_12
  refine gw_iinc (v := i_12) (lv' := [(3, .int i_12), (0, .ref hMd), (1, .int x1), (2, .int x2)]) F dX8_canBeOpen_64 3 rfl (by rw [e_i_12]; rfl) (by decide) rfl ?_
  refine gw_goto (tgt := 31) F dX8_canBeOpen_67 (by decide) ?_
  refine gw_lv [1, 2, 3, 0] rfl ?_
  exact hK31 _ _ _ _ hw
def wp_X8_canBeOpen_31 (Q : Int32 → OV → Prop) (K31 : Int32 → Int32 → Int32 → OV → Prop) (x1 x2 x3 : Int32) (vMd : OV) : Prop :=
  (vp_in (0 : Int32) 177 ∧ (((vMd.1 0 (0 : Int32).toNatClampNeg) ≤ x3 → (Q (0 : Int32) vMd)) ∧ (¬ ((vMd.1 0 (0 : Int32).toNatClampNeg) ≤ x3) → (wp_X8_isFit (fun (r_10 : Int32) => ((r_10 = 0 → (wp_X8_canBeOpen_64 Q K31 x1 x2 x3 vMd)) ∧ (¬ (r_10 = 0) → (wp_X8_mostWithout (fun (r_13 : Int32) (v_14 : OV) => ((¬ (r_13 + (1 : Int32)) = x2 → (wp_X8_canBeOpen_64 Q K31 x1 x2 x3 v_14)) ∧ ((r_13 + (1 : Int32)) = x2 → (Q (1 : Int32) v_14)))) x3 x1 vMd)))) x3 x1 vMd))))
set_option maxRecDepth 20000 in
theorem lb_X8_canBeOpen_31 {X : List Cond} {l : Launch} {D : va_G} {G : Nat → ClassId} {C : Cx} {bs0 : List va_W} {hMd : Nat} {qMd : Nat → Nat} {Q : Int32 → OV → Prop} {K31 : Int32 → Int32 → Int32 → OV → Prop} (F : GF C X cX8_canBeOpen wsX8_canBeOpen RX8 rm_X8_canBeOpen 4 (some .boolean) D G l) (E : GE C bs0 0 0 (po_X8_canBeOpen G hMd qMd Q)) (hK31 : ∀ (x1 x2 x3 : Int32) (vMd : OV), K31 x1 x2 x3 vMd → GW C 0 0 [bMd G hMd qMd vMd] 31 [(0, .ref hMd), (1, .int x1), (2, .int x2), (3, .int x3)] []) {x1 x2 x3 : Int32} {vMd : OV} (hw : wp_X8_canBeOpen_31 Q K31 x1 x2 x3 vMd) : GW C 0 0 [bMd G hMd qMd vMd] 31 [(0, .ref hMd), (1, .int x1), (2, .int x2), (3, .int x3)] [] := by
  unfold wp_X8_canBeOpen_31 at hw
  refine gw_iload_n F dX8_canBeOpen_31 3 rfl ?_
  refine gw_aload_n F dX8_canBeOpen_32 0 rfl ?_
  refine gw_get F in_X8_canBeOpen_RX8 0 rfl rfl 0 (by decide) lk_X8_canBeOpen_7 rfl dX8_canBeOpen_33 ?_
  refine gw_iconst (v := (0 : Int32)) F dX8_canBeOpen_36 ic_iconst_0 ?_
  obtain ⟨h_8, hw⟩ := hw
  refine gw_iald F 1 rfl h_8 dX8_canBeOpen_37 ?_
  refine gw_icmp_ge (tgt := 70) F dX8_canBeOpen_38 (by decide) (fun c_9 => ?_) (fun c_9 => ?_)
  · have hw := hw.1 c_9
    refine gw_iconst (v := (0 : Int32)) F dX8_canBeOpen_70 ic_iconst_0 ?_
    exact gw_iret F E rfl rfl (Nat.le_of_ble_eq_true rfl) (Nat.le_of_ble_eq_true rfl) dX8_canBeOpen_71 ⟨_, _, rfl, rfl, hw⟩
  · have hw := hw.2 c_9
    refine gw_aload_n F dX8_canBeOpen_41 0 rfl ?_
    refine gw_iload_n F dX8_canBeOpen_42 3 rfl ?_
    refine gw_iload_n F dX8_canBeOpen_43 1 rfl ?_
    refine gw_callV F (ct_X8_isFit hw) 2 gX8_canBeOpen_X8_isFit rfl rfl rfl hd_X8_isFit ⟨(Nat.le_of_ble_eq_true rfl), (Nat.le_of_ble_eq_true rfl)⟩ rfl rfl (Nat.le_of_ble_eq_true rfl) ⟨Nat.zero_le _, Nat.zero_le _⟩ [0] (bsr := []) rfl rfl (q0 := 0) rfl rfl dX8_canBeOpen_44 ?_
    rintro _ _ ⟨r_10, rfl, rfl, hw⟩
    refine gw_sel [0] (bs' := [bMd G hMd qMd vMd]) rfl rfl ?_
    change GW C 0 0 _ 47 _ [.int r_10]
    refine gw_if_eq (tgt := 64) F dX8_canBeOpen_47 (by decide) (fun c_11 => ?_) (fun c_11 => ?_)
    · have hw := hw.1 c_11
      exact lb_X8_canBeOpen_64 F E hK31 hw
    · have hw := hw.2 c_11
      refine gw_aload_n F dX8_canBeOpen_50 0 rfl ?_
      refine gw_iload_n F dX8_canBeOpen_51 3 rfl ?_
      refine gw_iload_n F dX8_canBeOpen_52 1 rfl ?_
      refine gw_callV F (ct_X8_mostWithout hw) 2 gX8_canBeOpen_X8_mostWithout rfl rfl rfl hd_X8_mostWithout ⟨(Nat.le_of_ble_eq_true rfl), (Nat.le_of_ble_eq_true rfl)⟩ rfl rfl (Nat.le_of_ble_eq_true rfl) ⟨Nat.zero_le _, Nat.zero_le _⟩ [0] (bsr := []) rfl rfl (q0 := 0) rfl rfl dX8_canBeOpen_53 ?_
      rintro _ _ ⟨r_13, v_14, rfl, rfl, hw⟩
      refine gw_sel [0] (bs' := [bMd G hMd qMd v_14]) rfl rfl ?_
      change GW C 0 0 _ 56 _ [.int r_13]
      refine gw_iconst (v := (1 : Int32)) F dX8_canBeOpen_56 ic_iconst_1 ?_
      refine gw_iadd F dX8_canBeOpen_57 ?_
      refine gw_iload_n F dX8_canBeOpen_58 2 rfl ?_
      refine gw_icmp_ne (tgt := 64) F dX8_canBeOpen_59 (by decide) (fun c_15 => ?_) (fun c_15 => ?_)
      · have hw := hw.1 c_15
        exact lb_X8_canBeOpen_64 F E hK31 hw
      · have hw := hw.2 c_15
        refine gw_iconst (v := (1 : Int32)) F dX8_canBeOpen_62 ic_iconst_1 ?_
        exact gw_iret F E rfl rfl (Nat.le_of_ble_eq_true rfl) (Nat.le_of_ble_eq_true rfl) dX8_canBeOpen_63 ⟨_, _, rfl, rfl, hw⟩
def wp_X8_canBeOpen_31_loop (Q : Int32 → OV → Prop) : Nat → Int32 → Int32 → Int32 → OV → Prop
  | 0, _, _, _, _ => False
  | n + 1, x1, x2, x3, vMd => wp_X8_canBeOpen_31 Q (wp_X8_canBeOpen_31_loop Q n) x1 x2 x3 vMd
theorem lp_X8_canBeOpen_31 {X : List Cond} {l : Launch} {D : va_G} {G : Nat → ClassId} {C : Cx} {bs0 : List va_W} {hMd : Nat} {qMd : Nat → Nat} {Q : Int32 → OV → Prop} (F : GF C X cX8_canBeOpen wsX8_canBeOpen RX8 rm_X8_canBeOpen 4 (some .boolean) D G l) (E : GE C bs0 0 0 (po_X8_canBeOpen G hMd qMd Q)) : ∀ (n : Nat) (x1 x2 x3 : Int32) (vMd : OV), wp_X8_canBeOpen_31_loop Q n x1 x2 x3 vMd → GW C 0 0 [bMd G hMd qMd vMd] 31 [(0, .ref hMd), (1, .int x1), (2, .int x2), (3, .int x3)] [] := by
  intro n
  induction n with
  | zero => intro x1 x2 x3 vMd hw; exact False.elim hw
  | succ n ih => intro x1 x2 x3 vMd hw; exact lb_X8_canBeOpen_31 (K31 := wp_X8_canBeOpen_31_loop Q n) F E ih hw
def wp_X8_canBeOpen_14 (Q : Int32 → OV → Prop) (x1 s1 : Int32) (vMd : OV) : Prop :=
  (wp_X8_fails (fun (r_3 : Int32) (v_4 : OV) => ((r_3 = 0 → (wp_X8_mostWithout (fun (r_6 : Int32) (v_7 : OV) => (∃ n_16 : Nat, wp_X8_canBeOpen_31_loop Q n_16 x1 r_6 (0 : Int32) v_7)) (-1 : Int32) (-1 : Int32) v_4)) ∧ (¬ (r_3 = 0) → (Q (0 : Int32) v_4)))) s1 vMd)
set_option maxRecDepth 20000 in
theorem lb_X8_canBeOpen_14 {X : List Cond} {l : Launch} {D : va_G} {G : Nat → ClassId} {C : Cx} {bs0 : List va_W} {hMd : Nat} {qMd : Nat → Nat} {Q : Int32 → OV → Prop} (F : GF C X cX8_canBeOpen wsX8_canBeOpen RX8 rm_X8_canBeOpen 4 (some .boolean) D G l) (E : GE C bs0 0 0 (po_X8_canBeOpen G hMd qMd Q)) {x1 s1 : Int32} {vMd : OV} (hw : wp_X8_canBeOpen_14 Q x1 s1 vMd) : GW C 0 0 [bMd G hMd qMd vMd] 14 [(0, .ref hMd), (1, .int x1)] [.int s1, .ref hMd] := by
  unfold wp_X8_canBeOpen_14 at hw
  refine gw_callV F (ct_X8_fails hw) 1 gX8_canBeOpen_X8_fails rfl rfl rfl hd_X8_fails ⟨(Nat.le_of_ble_eq_true rfl), (Nat.le_of_ble_eq_true rfl)⟩ rfl rfl (Nat.le_of_ble_eq_true rfl) ⟨Nat.zero_le _, Nat.zero_le _⟩ [0] (bsr := []) rfl rfl (q0 := 0) rfl rfl dX8_canBeOpen_14 ?_
  rintro _ _ ⟨r_3, v_4, rfl, rfl, hw⟩
  refine gw_sel [0] (bs' := [bMd G hMd qMd v_4]) rfl rfl ?_
  change GW C 0 0 _ 17 _ [.int r_3]
  refine gw_if_eq (tgt := 22) F dX8_canBeOpen_17 (by decide) (fun c_5 => ?_) (fun c_5 => ?_)
  · have hw := hw.1 c_5
    refine gw_aload_n F dX8_canBeOpen_22 0 rfl ?_
    refine gw_iconst (v := (-1 : Int32)) F dX8_canBeOpen_23 ic_iconst_m1 ?_
    refine gw_iconst (v := (-1 : Int32)) F dX8_canBeOpen_24 ic_iconst_m1 ?_
    refine gw_callV F (ct_X8_mostWithout hw) 2 gX8_canBeOpen_X8_mostWithout rfl rfl rfl hd_X8_mostWithout ⟨(Nat.le_of_ble_eq_true rfl), (Nat.le_of_ble_eq_true rfl)⟩ rfl rfl (Nat.le_of_ble_eq_true rfl) ⟨Nat.zero_le _, Nat.zero_le _⟩ [0] (bsr := []) rfl rfl (q0 := 0) rfl rfl dX8_canBeOpen_25 ?_
    rintro _ _ ⟨r_6, v_7, rfl, rfl, hw⟩
    refine gw_sel [0] (bs' := [bMd G hMd qMd v_7]) rfl rfl ?_
    change GW C 0 0 _ 28 _ [.int r_6]
    refine gw_istore_n (lv' := [(2, .int r_6), (0, .ref hMd), (1, .int x1)]) F dX8_canBeOpen_28 (by decide) rfl ?_
    refine gw_iconst (v := (0 : Int32)) F dX8_canBeOpen_29 ic_iconst_0 ?_
    refine gw_istore_n (lv' := [(3, .int (0 : Int32)), (2, .int r_6), (0, .ref hMd), (1, .int x1)]) F dX8_canBeOpen_30 (by decide) rfl ?_
    refine gw_lv [2, 3, 1, 0] rfl ?_
    obtain ⟨n_16, hw⟩ := hw
    exact lp_X8_canBeOpen_31 F E n_16 _ _ _ _ hw
  · have hw := hw.2 c_5
    refine gw_iconst (v := (0 : Int32)) F dX8_canBeOpen_20 ic_iconst_0 ?_
    exact gw_iret F E rfl rfl (Nat.le_of_ble_eq_true rfl) (Nat.le_of_ble_eq_true rfl) dX8_canBeOpen_21 ⟨_, _, rfl, rfl, hw⟩
def wp_X8_canBeOpen_0 (Q : Int32 → OV → Prop) (x1 : Int32) (vMd : OV) : Prop :=
  (wp_X8_isLock (fun (r_1 : Int32) => ((r_1 = 0 → (wp_X8_canBeOpen_14 Q x1 (1 : Int32) vMd)) ∧ (¬ (r_1 = 0) → (wp_X8_canBeOpen_14 Q x1 (0 : Int32) vMd)))) x1 vMd)
set_option maxRecDepth 20000 in
theorem lb_X8_canBeOpen_0 {X : List Cond} {l : Launch} {D : va_G} {G : Nat → ClassId} {C : Cx} {bs0 : List va_W} {hMd : Nat} {qMd : Nat → Nat} {Q : Int32 → OV → Prop} (F : GF C X cX8_canBeOpen wsX8_canBeOpen RX8 rm_X8_canBeOpen 4 (some .boolean) D G l) (E : GE C bs0 0 0 (po_X8_canBeOpen G hMd qMd Q)) {x1 : Int32} {vMd : OV} (hw : wp_X8_canBeOpen_0 Q x1 vMd) : GW C 0 0 [bMd G hMd qMd vMd] 0 [(0, .ref hMd), (1, .int x1)] [] := by
  unfold wp_X8_canBeOpen_0 at hw
  refine gw_aload_n F dX8_canBeOpen_0 0 rfl ?_
  refine gw_aload_n F dX8_canBeOpen_1 0 rfl ?_
  refine gw_iload_n F dX8_canBeOpen_2 1 rfl ?_
  refine gw_callV F (ct_X8_isLock hw) 1 gX8_canBeOpen_X8_isLock rfl rfl rfl hd_X8_isLock ⟨(Nat.le_of_ble_eq_true rfl), (Nat.le_of_ble_eq_true rfl)⟩ rfl rfl (Nat.le_of_ble_eq_true rfl) ⟨Nat.zero_le _, Nat.zero_le _⟩ [0] (bsr := []) rfl rfl (q0 := 0) rfl rfl dX8_canBeOpen_3 ?_
  rintro _ _ ⟨r_1, rfl, rfl, hw⟩
  refine gw_sel [0] (bs' := [bMd G hMd qMd vMd]) rfl rfl ?_
  change GW C 0 0 _ 6 _ [.int r_1, .ref hMd]
  refine gw_if_eq (tgt := 13) F dX8_canBeOpen_6 (by decide) (fun c_2 => ?_) (fun c_2 => ?_)
  · have hw := hw.1 c_2
    refine gw_iconst (v := (1 : Int32)) F dX8_canBeOpen_13 ic_iconst_1 ?_
    exact lb_X8_canBeOpen_14 F E hw
  · have hw := hw.2 c_2
    refine gw_iconst (v := (0 : Int32)) F dX8_canBeOpen_9 ic_iconst_0 ?_
    refine gw_goto (tgt := 14) F dX8_canBeOpen_10 (by decide) ?_
    exact lb_X8_canBeOpen_14 F E hw
def wp_X8_canBeOpen (Q : Int32 → OV → Prop) (x1 : Int32) (vMd : OV) : Prop := wp_X8_canBeOpen_0 Q x1 vMd
theorem ct_X8_canBeOpen {X : List Cond} {l : Launch} {D : va_G} {G : Nat → ClassId} {hMd : Nat} {qMd : Nat → Nat} {Q : Int32 → OV → Prop} {x1 : Int32} {vMd : OV} (hw : wp_X8_canBeOpen Q x1 vMd) : CM X l yX8_canBeOpen wsX8_canBeOpen rm_X8_canBeOpen D G [.ref hMd, .int x1] [bMd G hMd qMd vMd] 0 0 (po_X8_canBeOpen G hMd qMd Q) :=
  CM.of pn_RX8 rfl rfl (Nat.le_of_ble_eq_true rfl) rfl (fun C F E => lb_X8_canBeOpen_0 F E hw)
-- X8_isNeeded
abbrev rm_X8_isNeeded : Room := { frames := 20, cells := 0, slots := 0, locals := 505 }
def po_X8_isNeeded (G : Nat → ClassId) (hMd : Nat) (qMd : Nat → Nat) (Q : Int32 → OV → Prop) : Option Value → List va_W → Prop := fun o bs => ∃ (r : Int32) (vMd : OV), o = some (.int r) ∧ bs = [bMd G hMd qMd vMd] ∧ Q r vMd
theorem hd_X8_isNeeded : yX8_isNeeded.cls = RX8 ∧ yX8_isNeeded.cls ≠ "java/lang/invoke/MethodHandle" ∧ yX8_isNeeded.cls ≠ "java/lang/invoke/VarHandle" ∧ (parseMethodDescriptor yX8_isNeeded.desc).map (fun d => d.parameters.length) = some 1 := by decide +kernel
def wp_X8_isNeeded_40 (Q : Int32 → OV → Prop) (s0 : Int32) (vMd : OV) : Prop :=
  (narrow .boolean (.int s0) = .int s0 ∧ Q s0 vMd)
set_option maxRecDepth 20000 in
theorem lb_X8_isNeeded_40 {X : List Cond} {l : Launch} {D : va_G} {G : Nat → ClassId} {C : Cx} {bs0 : List va_W} {hMd : Nat} {qMd : Nat → Nat} {Q : Int32 → OV → Prop} (F : GF C X cX8_isNeeded wsX8_isNeeded RX8 rm_X8_isNeeded 2 (some .boolean) D G l) (E : GE C bs0 0 0 (po_X8_isNeeded G hMd qMd Q)) {s0 : Int32} {vMd : OV} (hw : wp_X8_isNeeded_40 Q s0 vMd) : GW C 0 0 [bMd G hMd qMd vMd] 40 [] [.int s0] := by
  unfold wp_X8_isNeeded_40 at hw
  obtain ⟨hn, hw⟩ := hw
  exact gw_iret F E rfl hn (Nat.le_of_ble_eq_true rfl) (Nat.le_of_ble_eq_true rfl) dX8_isNeeded_40 ⟨_, _, rfl, rfl, hw⟩
def wp_X8_isNeeded_39 (Q : Int32 → OV → Prop) (vMd : OV) : Prop :=
  (wp_X8_isNeeded_40 Q (0 : Int32) vMd)
set_option maxRecDepth 20000 in
theorem lb_X8_isNeeded_39 {X : List Cond} {l : Launch} {D : va_G} {G : Nat → ClassId} {C : Cx} {bs0 : List va_W} {hMd : Nat} {qMd : Nat → Nat} {Q : Int32 → OV → Prop} (F : GF C X cX8_isNeeded wsX8_isNeeded RX8 rm_X8_isNeeded 2 (some .boolean) D G l) (E : GE C bs0 0 0 (po_X8_isNeeded G hMd qMd Q)) {vMd : OV} (hw : wp_X8_isNeeded_39 Q vMd) : GW C 0 0 [bMd G hMd qMd vMd] 39 [] [] := by
  unfold wp_X8_isNeeded_39 at hw
  refine gw_iconst (v := (0 : Int32)) F dX8_isNeeded_39 ic_iconst_0 ?_
  exact lb_X8_isNeeded_40 F E hw
def wp_X8_isNeeded_14 (Q : Int32 → OV → Prop) (x1 s1 : Int32) (vMd : OV) : Prop :=
  (wp_X8_fails (fun (r_3 : Int32) (v_4 : OV) => ((¬ r_3 = 0 → (wp_X8_isNeeded_39 Q v_4)) ∧ (r_3 = 0 → (wp_X8_mostWithout (fun (r_6 : Int32) (v_7 : OV) => (wp_X8_mostWithout (fun (r_8 : Int32) (v_9 : OV) => ((r_8 ≤ r_6 → (wp_X8_isNeeded_39 Q v_9)) ∧ (¬ (r_8 ≤ r_6) → (wp_X8_isNeeded_40 Q (1 : Int32) v_9)))) (-1 : Int32) (-1 : Int32) v_7)) x1 (-1 : Int32) v_4)))) s1 vMd)
set_option maxRecDepth 20000 in
theorem lb_X8_isNeeded_14 {X : List Cond} {l : Launch} {D : va_G} {G : Nat → ClassId} {C : Cx} {bs0 : List va_W} {hMd : Nat} {qMd : Nat → Nat} {Q : Int32 → OV → Prop} (F : GF C X cX8_isNeeded wsX8_isNeeded RX8 rm_X8_isNeeded 2 (some .boolean) D G l) (E : GE C bs0 0 0 (po_X8_isNeeded G hMd qMd Q)) {x1 s1 : Int32} {vMd : OV} (hw : wp_X8_isNeeded_14 Q x1 s1 vMd) : GW C 0 0 [bMd G hMd qMd vMd] 14 [(0, .ref hMd), (1, .int x1)] [.int s1, .ref hMd] := by
  unfold wp_X8_isNeeded_14 at hw
  refine gw_callV F (ct_X8_fails hw) 1 gX8_isNeeded_X8_fails rfl rfl rfl hd_X8_fails ⟨(Nat.le_of_ble_eq_true rfl), (Nat.le_of_ble_eq_true rfl)⟩ rfl rfl (Nat.le_of_ble_eq_true rfl) ⟨Nat.zero_le _, Nat.zero_le _⟩ [0] (bsr := []) rfl rfl (q0 := 0) rfl rfl dX8_isNeeded_14 ?_
  rintro _ _ ⟨r_3, v_4, rfl, rfl, hw⟩
  refine gw_sel [0] (bs' := [bMd G hMd qMd v_4]) rfl rfl ?_
  change GW C 0 0 _ 17 _ [.int r_3]
  refine gw_if_ne (tgt := 39) F dX8_isNeeded_17 (by decide) (fun c_5 => ?_) (fun c_5 => ?_)
  · have hw := hw.1 c_5
    refine gw_lv [] rfl ?_
    exact lb_X8_isNeeded_39 F E hw
  · have hw := hw.2 c_5
    refine gw_aload_n F dX8_isNeeded_20 0 rfl ?_
    refine gw_iload_n F dX8_isNeeded_21 1 rfl ?_
    refine gw_iconst (v := (-1 : Int32)) F dX8_isNeeded_22 ic_iconst_m1 ?_
    refine gw_callV F (ct_X8_mostWithout hw) 2 gX8_isNeeded_X8_mostWithout rfl rfl rfl hd_X8_mostWithout ⟨(Nat.le_of_ble_eq_true rfl), (Nat.le_of_ble_eq_true rfl)⟩ rfl rfl (Nat.le_of_ble_eq_true rfl) ⟨Nat.zero_le _, Nat.zero_le _⟩ [0] (bsr := []) rfl rfl (q0 := 0) rfl rfl dX8_isNeeded_23 ?_
    rintro _ _ ⟨r_6, v_7, rfl, rfl, hw⟩
    refine gw_sel [0] (bs' := [bMd G hMd qMd v_7]) rfl rfl ?_
    change GW C 0 0 _ 26 _ [.int r_6]
    refine gw_aload_n F dX8_isNeeded_26 0 rfl ?_
    refine gw_iconst (v := (-1 : Int32)) F dX8_isNeeded_27 ic_iconst_m1 ?_
    refine gw_iconst (v := (-1 : Int32)) F dX8_isNeeded_28 ic_iconst_m1 ?_
    refine gw_callV F (ct_X8_mostWithout hw) 2 gX8_isNeeded_X8_mostWithout rfl rfl rfl hd_X8_mostWithout ⟨(Nat.le_of_ble_eq_true rfl), (Nat.le_of_ble_eq_true rfl)⟩ rfl rfl (Nat.le_of_ble_eq_true rfl) ⟨Nat.zero_le _, Nat.zero_le _⟩ [0] (bsr := []) rfl rfl (q0 := 0) rfl rfl dX8_isNeeded_29 ?_
    rintro _ _ ⟨r_8, v_9, rfl, rfl, hw⟩
    refine gw_sel [0] (bs' := [bMd G hMd qMd v_9]) rfl rfl ?_
    change GW C 0 0 _ 32 _ [.int r_8, .int r_6]
    refine gw_icmp_ge (tgt := 39) F dX8_isNeeded_32 (by decide) (fun c_10 => ?_) (fun c_10 => ?_)
    · have hw := hw.1 c_10
      refine gw_lv [] rfl ?_
      exact lb_X8_isNeeded_39 F E hw
    · have hw := hw.2 c_10
      refine gw_iconst (v := (1 : Int32)) F dX8_isNeeded_35 ic_iconst_1 ?_
      refine gw_goto (tgt := 40) F dX8_isNeeded_36 (by decide) ?_
      refine gw_lv [] rfl ?_
      exact lb_X8_isNeeded_40 F E hw
def wp_X8_isNeeded_0 (Q : Int32 → OV → Prop) (x1 : Int32) (vMd : OV) : Prop :=
  (wp_X8_isKey (fun (r_1 : Int32) => ((r_1 = 0 → (wp_X8_isNeeded_14 Q x1 (1 : Int32) vMd)) ∧ (¬ (r_1 = 0) → (wp_X8_isNeeded_14 Q x1 (0 : Int32) vMd)))) x1 vMd)
set_option maxRecDepth 20000 in
theorem lb_X8_isNeeded_0 {X : List Cond} {l : Launch} {D : va_G} {G : Nat → ClassId} {C : Cx} {bs0 : List va_W} {hMd : Nat} {qMd : Nat → Nat} {Q : Int32 → OV → Prop} (F : GF C X cX8_isNeeded wsX8_isNeeded RX8 rm_X8_isNeeded 2 (some .boolean) D G l) (E : GE C bs0 0 0 (po_X8_isNeeded G hMd qMd Q)) {x1 : Int32} {vMd : OV} (hw : wp_X8_isNeeded_0 Q x1 vMd) : GW C 0 0 [bMd G hMd qMd vMd] 0 [(0, .ref hMd), (1, .int x1)] [] := by
  unfold wp_X8_isNeeded_0 at hw
  refine gw_aload_n F dX8_isNeeded_0 0 rfl ?_
  refine gw_aload_n F dX8_isNeeded_1 0 rfl ?_
  refine gw_iload_n F dX8_isNeeded_2 1 rfl ?_
  refine gw_callV F (ct_X8_isKey hw) 1 gX8_isNeeded_X8_isKey rfl rfl rfl hd_X8_isKey ⟨(Nat.le_of_ble_eq_true rfl), (Nat.le_of_ble_eq_true rfl)⟩ rfl rfl (Nat.le_of_ble_eq_true rfl) ⟨Nat.zero_le _, Nat.zero_le _⟩ [0] (bsr := []) rfl rfl (q0 := 0) rfl rfl dX8_isNeeded_3 ?_
  rintro _ _ ⟨r_1, rfl, rfl, hw⟩
  refine gw_sel [0] (bs' := [bMd G hMd qMd vMd]) rfl rfl ?_
  change GW C 0 0 _ 6 _ [.int r_1, .ref hMd]
  refine gw_if_eq (tgt := 13) F dX8_isNeeded_6 (by decide) (fun c_2 => ?_) (fun c_2 => ?_)
  · have hw := hw.1 c_2
    refine gw_iconst (v := (1 : Int32)) F dX8_isNeeded_13 ic_iconst_1 ?_
    exact lb_X8_isNeeded_14 F E hw
  · have hw := hw.2 c_2
    refine gw_iconst (v := (0 : Int32)) F dX8_isNeeded_9 ic_iconst_0 ?_
    refine gw_goto (tgt := 14) F dX8_isNeeded_10 (by decide) ?_
    exact lb_X8_isNeeded_14 F E hw
def wp_X8_isNeeded (Q : Int32 → OV → Prop) (x1 : Int32) (vMd : OV) : Prop := wp_X8_isNeeded_0 Q x1 vMd
theorem ct_X8_isNeeded {X : List Cond} {l : Launch} {D : va_G} {G : Nat → ClassId} {hMd : Nat} {qMd : Nat → Nat} {Q : Int32 → OV → Prop} {x1 : Int32} {vMd : OV} (hw : wp_X8_isNeeded Q x1 vMd) : CM X l yX8_isNeeded wsX8_isNeeded rm_X8_isNeeded D G [.ref hMd, .int x1] [bMd G hMd qMd vMd] 0 0 (po_X8_isNeeded G hMd qMd Q) :=
  CM.of pn_RX8 rfl rfl (Nat.le_of_ble_eq_true rfl) rfl (fun C F E => lb_X8_isNeeded_0 F E hw)
-- X8_porterOf
abbrev rm_X8_porterOf : Room := { frames := 2, cells := 0, slots := 0, locals := 82 }
def po_X8_porterOf (G : Nat → ClassId) (hMd : Nat) (qMd : Nat → Nat) (Q : Int32 → OV → Prop) : Option Value → List va_W → Prop := fun o bs => ∃ (r : Int32) (vMd : OV), o = some (.int r) ∧ bs = [bMd G hMd qMd vMd] ∧ Q r vMd
theorem hd_X8_porterOf : yX8_porterOf.cls = RX8 ∧ yX8_porterOf.cls ≠ "java/lang/invoke/MethodHandle" ∧ yX8_porterOf.cls ≠ "java/lang/invoke/VarHandle" ∧ (parseMethodDescriptor yX8_porterOf.desc).map (fun d => d.parameters.length) = some 2 := by decide +kernel
theorem in_X8_porterOf_RX8 : ∀ w ∈ wsX80, w ∈ wsX8_porterOf := fun w h => List.mem_cons_of_mem _ (List.mem_append_left _ (List.mem_append_right _ h))
theorem lk_X8_porterOf_7 : Cond.fieldLink RX8 7 "KeyWavesModel" "g" "[I" ∈ wsX8_porterOf := List.mem_cons_of_mem _ (List.mem_append_left _ (List.mem_append_left _ (List.mem_of_getElem? (i := 0) rfl)))
def wp_X8_porterOf_100 (Q : Int32 → OV → Prop) (K37 : Int32 → Int32 → Int32 → Int32 → OV → Prop) (x1 x2 x3 x4 : Int32) (vMd : OV) : Prop :=
  (∀ i_10 : Int32, i_10 = x4 + (1 : Int32) → (K37 x1 x2 x3 i_10 vMd))
set_option maxRecDepth 20000 in
theorem lb_X8_porterOf_100 {X : List Cond} {l : Launch} {D : va_G} {G : Nat → ClassId} {C : Cx} {bs0 : List va_W} {hMd : Nat} {qMd : Nat → Nat} {Q : Int32 → OV → Prop} {K37 : Int32 → Int32 → Int32 → Int32 → OV → Prop} (F : GF C X cX8_porterOf wsX8_porterOf RX8 rm_X8_porterOf 5 (some .int) D G l) (E : GE C bs0 0 0 (po_X8_porterOf G hMd qMd Q)) (hK37 : ∀ (x1 x2 x3 x4 : Int32) (vMd : OV), K37 x1 x2 x3 x4 vMd → GW C 0 0 [bMd G hMd qMd vMd] 37 [(0, .ref hMd), (1, .int x1), (2, .int x2), (3, .int x3), (4, .int x4)] []) {x1 x2 x3 x4 : Int32} {vMd : OV} (hw : wp_X8_porterOf_100 Q K37 x1 x2 x3 x4 vMd) : GW C 0 0 [bMd G hMd qMd vMd] 100 [(0, .ref hMd), (1, .int x1), (2, .int x2), (3, .int x3), (4, .int x4)] [] := by
  unfold wp_X8_porterOf_100 at hw
  obtain ⟨i_10, e_i_10⟩ : ∃ z : Int32, z = x4 + (1 : Int32) := ⟨_, rfl⟩
  have hw := hw i_10 e_i_10
  refine gw_iinc (v := i_10) (lv' := [(4, .int i_10), (0, .ref hMd), (1, .int x1), (2, .int x2), (3, .int x3)]) F dX8_porterOf_100 4 rfl (by rw [e_i_10]; rfl) (by decide) rfl ?_
  refine gw_goto (tgt := 37) F dX8_porterOf_103 (by decide) ?_
  refine gw_lv [1, 2, 3, 4, 0] rfl ?_
  exact hK37 _ _ _ _ _ hw
def wp_X8_porterOf_98 (Q : Int32 → OV → Prop) (K37 : Int32 → Int32 → Int32 → Int32 → OV → Prop) (x1 x2 x4 s0 s1 : Int32) (vMd : OV) : Prop :=
  (∀ i_15 : Int32, i_15 = (s0 + s1) → (wp_X8_porterOf_100 Q K37 x1 x2 i_15 x4 vMd))
set_option maxRecDepth 20000 in
theorem lb_X8_porterOf_98 {X : List Cond} {l : Launch} {D : va_G} {G : Nat → ClassId} {C : Cx} {bs0 : List va_W} {hMd : Nat} {qMd : Nat → Nat} {Q : Int32 → OV → Prop} {K37 : Int32 → Int32 → Int32 → Int32 → OV → Prop} (F : GF C X cX8_porterOf wsX8_porterOf RX8 rm_X8_porterOf 5 (some .int) D G l) (E : GE C bs0 0 0 (po_X8_porterOf G hMd qMd Q)) (hK37 : ∀ (x1 x2 x3 x4 : Int32) (vMd : OV), K37 x1 x2 x3 x4 vMd → GW C 0 0 [bMd G hMd qMd vMd] 37 [(0, .ref hMd), (1, .int x1), (2, .int x2), (3, .int x3), (4, .int x4)] []) {x1 x2 x4 s0 s1 : Int32} {vMd : OV} (hw : wp_X8_porterOf_98 Q K37 x1 x2 x4 s0 s1 vMd) : GW C 0 0 [bMd G hMd qMd vMd] 98 [(0, .ref hMd), (1, .int x1), (2, .int x2), (4, .int x4)] [.int s1, .int s0] := by
  unfold wp_X8_porterOf_98 at hw
  refine gw_iadd F dX8_porterOf_98 ?_
  refine gw_topi (fun i_15 e_i_15 => ?_)
  have hw := hw i_15 e_i_15
  refine gw_istore_n (lv' := [(3, .int i_15), (0, .ref hMd), (1, .int x1), (2, .int x2), (4, .int x4)]) F dX8_porterOf_99 (by decide) rfl ?_
  refine gw_lv [1, 2, 3, 0, 4] rfl ?_
  exact lb_X8_porterOf_100 F E hK37 hw
def wp_X8_porterOf_37 (Q : Int32 → OV → Prop) (K37 : Int32 → Int32 → Int32 → Int32 → OV → Prop) (x1 x2 x3 x4 : Int32) (vMd : OV) : Prop :=
  (vp_in (0 : Int32) 177 ∧ (((vMd.1 0 (0 : Int32).toNatClampNeg) ≤ x4 → (Q x3 vMd)) ∧ (¬ ((vMd.1 0 (0 : Int32).toNatClampNeg) ≤ x4) → (wp_X8_ofKey (fun (r_8 : Int32) => ((¬ r_8 = x1 → (wp_X8_porterOf_100 Q K37 x1 x2 x3 x4 vMd)) ∧ (r_8 = x1 → ((¬ x2 = 0 → ((¬ x2 = (2 : Int32) → (wp_X8_ofKey (fun (r_13 : Int32) => ((r_13 < 0 → (wp_X8_porterOf_98 Q K37 x1 x2 x4 x3 (0 : Int32) vMd)) ∧ (¬ (r_13 < 0) → (wp_X8_porterOf_98 Q K37 x1 x2 x4 x3 (1 : Int32) vMd)))) x4 (2 : Int32) vMd)) ∧ (x2 = (2 : Int32) → (wp_X8_ofKey (fun (r_16 : Int32) => (wp_X8_porterOf_98 Q K37 x1 x2 x4 x3 r_16 vMd)) x4 (3 : Int32) vMd)))) ∧ (x2 = 0 → (wp_X8_porterOf_98 Q K37 x1 x2 x4 x3 (1 : Int32) vMd)))))) x4 (1 : Int32) vMd))))
set_option maxRecDepth 20000 in
theorem lb_X8_porterOf_37 {X : List Cond} {l : Launch} {D : va_G} {G : Nat → ClassId} {C : Cx} {bs0 : List va_W} {hMd : Nat} {qMd : Nat → Nat} {Q : Int32 → OV → Prop} {K37 : Int32 → Int32 → Int32 → Int32 → OV → Prop} (F : GF C X cX8_porterOf wsX8_porterOf RX8 rm_X8_porterOf 5 (some .int) D G l) (E : GE C bs0 0 0 (po_X8_porterOf G hMd qMd Q)) (hK37 : ∀ (x1 x2 x3 x4 : Int32) (vMd : OV), K37 x1 x2 x3 x4 vMd → GW C 0 0 [bMd G hMd qMd vMd] 37 [(0, .ref hMd), (1, .int x1), (2, .int x2), (3, .int x3), (4, .int x4)] []) {x1 x2 x3 x4 : Int32} {vMd : OV} (hw : wp_X8_porterOf_37 Q K37 x1 x2 x3 x4 vMd) : GW C 0 0 [bMd G hMd qMd vMd] 37 [(0, .ref hMd), (1, .int x1), (2, .int x2), (3, .int x3), (4, .int x4)] [] := by
  unfold wp_X8_porterOf_37 at hw
  refine gw_iload F dX8_porterOf_37 4 rfl ?_
  refine gw_aload_n F dX8_porterOf_39 0 rfl ?_
  refine gw_get F in_X8_porterOf_RX8 0 rfl rfl 0 (by decide) lk_X8_porterOf_7 rfl dX8_porterOf_40 ?_
  refine gw_iconst (v := (0 : Int32)) F dX8_porterOf_43 ic_iconst_0 ?_
  obtain ⟨h_6, hw⟩ := hw
  refine gw_iald F 1 rfl h_6 dX8_porterOf_44 ?_
  refine gw_icmp_ge (tgt := 106) F dX8_porterOf_45 (by decide) (fun c_7 => ?_) (fun c_7 => ?_)
  · have hw := hw.1 c_7
    refine gw_iload_n F dX8_porterOf_106 3 rfl ?_
    exact gw_iret F E rfl rfl (Nat.le_of_ble_eq_true rfl) (Nat.le_of_ble_eq_true rfl) dX8_porterOf_107 ⟨_, _, rfl, rfl, hw⟩
  · have hw := hw.2 c_7
    refine gw_aload_n F dX8_porterOf_48 0 rfl ?_
    refine gw_iload F dX8_porterOf_49 4 rfl ?_
    refine gw_iconst (v := (1 : Int32)) F dX8_porterOf_51 ic_iconst_1 ?_
    refine gw_callV F (ct_X8_ofKey hw) 2 gX8_porterOf_X8_ofKey rfl rfl rfl hd_X8_ofKey ⟨(Nat.le_of_ble_eq_true rfl), (Nat.le_of_ble_eq_true rfl)⟩ rfl rfl (Nat.le_of_ble_eq_true rfl) ⟨Nat.zero_le _, Nat.zero_le _⟩ [0] (bsr := []) rfl rfl (q0 := 0) rfl rfl dX8_porterOf_52 ?_
    rintro _ _ ⟨r_8, rfl, rfl, hw⟩
    refine gw_sel [0] (bs' := [bMd G hMd qMd vMd]) rfl rfl ?_
    change GW C 0 0 _ 55 _ [.int r_8]
    refine gw_iload_n F dX8_porterOf_55 1 rfl ?_
    refine gw_icmp_ne (tgt := 100) F dX8_porterOf_56 (by decide) (fun c_9 => ?_) (fun c_9 => ?_)
    · have hw := hw.1 c_9
      exact lb_X8_porterOf_100 F E hK37 hw
    · have hw := hw.2 c_9
      refine gw_iload_n F dX8_porterOf_59 3 rfl ?_
      refine gw_iload_n F dX8_porterOf_60 2 rfl ?_
      refine gw_if_ne (tgt := 68) F dX8_porterOf_61 (by decide) (fun c_11 => ?_) (fun c_11 => ?_)
      · have hw := hw.1 c_11
        refine gw_iload_n F dX8_porterOf_68 2 rfl ?_
        refine gw_iconst (v := (2 : Int32)) F dX8_porterOf_69 ic_iconst_2 ?_
        refine gw_icmp_ne (tgt := 83) F dX8_porterOf_70 (by decide) (fun c_12 => ?_) (fun c_12 => ?_)
        · have hw := hw.1 c_12
          refine gw_aload_n F dX8_porterOf_83 0 rfl ?_
          refine gw_iload F dX8_porterOf_84 4 rfl ?_
          refine gw_iconst (v := (2 : Int32)) F dX8_porterOf_86 ic_iconst_2 ?_
          refine gw_callV F (ct_X8_ofKey hw) 2 gX8_porterOf_X8_ofKey rfl rfl rfl hd_X8_ofKey ⟨(Nat.le_of_ble_eq_true rfl), (Nat.le_of_ble_eq_true rfl)⟩ rfl rfl (Nat.le_of_ble_eq_true rfl) ⟨Nat.zero_le _, Nat.zero_le _⟩ [0] (bsr := []) rfl rfl (q0 := 0) rfl rfl dX8_porterOf_87 ?_
          rintro _ _ ⟨r_13, rfl, rfl, hw⟩
          refine gw_sel [0] (bs' := [bMd G hMd qMd vMd]) rfl rfl ?_
          change GW C 0 0 _ 90 _ [.int r_13, .int x3]
          refine gw_if_lt (tgt := 97) F dX8_porterOf_90 (by decide) (fun c_14 => ?_) (fun c_14 => ?_)
          · have hw := hw.1 c_14
            refine gw_iconst (v := (0 : Int32)) F dX8_porterOf_97 ic_iconst_0 ?_
            refine gw_lv [0, 1, 2, 4] rfl ?_
            exact lb_X8_porterOf_98 F E hK37 hw
          · have hw := hw.2 c_14
            refine gw_iconst (v := (1 : Int32)) F dX8_porterOf_93 ic_iconst_1 ?_
            refine gw_goto (tgt := 98) F dX8_porterOf_94 (by decide) ?_
            refine gw_lv [0, 1, 2, 4] rfl ?_
            exact lb_X8_porterOf_98 F E hK37 hw
        · have hw := hw.2 c_12
          refine gw_aload_n F dX8_porterOf_73 0 rfl ?_
          refine gw_iload F dX8_porterOf_74 4 rfl ?_
          refine gw_iconst (v := (3 : Int32)) F dX8_porterOf_76 ic_iconst_3 ?_
          refine gw_callV F (ct_X8_ofKey hw) 2 gX8_porterOf_X8_ofKey rfl rfl rfl hd_X8_ofKey ⟨(Nat.le_of_ble_eq_true rfl), (Nat.le_of_ble_eq_true rfl)⟩ rfl rfl (Nat.le_of_ble_eq_true rfl) ⟨Nat.zero_le _, Nat.zero_le _⟩ [0] (bsr := []) rfl rfl (q0 := 0) rfl rfl dX8_porterOf_77 ?_
          rintro _ _ ⟨r_16, rfl, rfl, hw⟩
          refine gw_sel [0] (bs' := [bMd G hMd qMd vMd]) rfl rfl ?_
          change GW C 0 0 _ 80 _ [.int r_16, .int x3]
          refine gw_goto (tgt := 98) F dX8_porterOf_80 (by decide) ?_
          refine gw_lv [0, 1, 2, 4] rfl ?_
          exact lb_X8_porterOf_98 F E hK37 hw
      · have hw := hw.2 c_11
        refine gw_iconst (v := (1 : Int32)) F dX8_porterOf_64 ic_iconst_1 ?_
        refine gw_goto (tgt := 98) F dX8_porterOf_65 (by decide) ?_
        refine gw_lv [0, 1, 2, 4] rfl ?_
        exact lb_X8_porterOf_98 F E hK37 hw
def wp_X8_porterOf_37_loop (Q : Int32 → OV → Prop) : Nat → Int32 → Int32 → Int32 → Int32 → OV → Prop
  | 0, _, _, _, _, _ => False
  | n + 1, x1, x2, x3, x4, vMd => wp_X8_porterOf_37 Q (wp_X8_porterOf_37_loop Q n) x1 x2 x3 x4 vMd
theorem lp_X8_porterOf_37 {X : List Cond} {l : Launch} {D : va_G} {G : Nat → ClassId} {C : Cx} {bs0 : List va_W} {hMd : Nat} {qMd : Nat → Nat} {Q : Int32 → OV → Prop} (F : GF C X cX8_porterOf wsX8_porterOf RX8 rm_X8_porterOf 5 (some .int) D G l) (E : GE C bs0 0 0 (po_X8_porterOf G hMd qMd Q)) : ∀ (n : Nat) (x1 x2 x3 x4 : Int32) (vMd : OV), wp_X8_porterOf_37_loop Q n x1 x2 x3 x4 vMd → GW C 0 0 [bMd G hMd qMd vMd] 37 [(0, .ref hMd), (1, .int x1), (2, .int x2), (3, .int x3), (4, .int x4)] [] := by
  intro n
  induction n with
  | zero => intro x1 x2 x3 x4 vMd hw; exact False.elim hw
  | succ n ih => intro x1 x2 x3 x4 vMd hw; exact lb_X8_porterOf_37 (K37 := wp_X8_porterOf_37_loop Q n) F E ih hw
def wp_X8_porterOf_24 (Q : Int32 → OV → Prop) (x1 x2 s1 : Int32) (vMd : OV) : Prop :=
  (wp_X8_fails (fun (r_3 : Int32) (v_4 : OV) => ((r_3 = 0 → (∃ n_17 : Nat, wp_X8_porterOf_37_loop Q n_17 x1 x2 (0 : Int32) (0 : Int32) v_4)) ∧ (¬ (r_3 = 0) → (Q (0 : Int32) v_4)))) s1 vMd)
set_option maxRecDepth 20000 in
theorem lb_X8_porterOf_24 {X : List Cond} {l : Launch} {D : va_G} {G : Nat → ClassId} {C : Cx} {bs0 : List va_W} {hMd : Nat} {qMd : Nat → Nat} {Q : Int32 → OV → Prop} (F : GF C X cX8_porterOf wsX8_porterOf RX8 rm_X8_porterOf 5 (some .int) D G l) (E : GE C bs0 0 0 (po_X8_porterOf G hMd qMd Q)) {x1 x2 s1 : Int32} {vMd : OV} (hw : wp_X8_porterOf_24 Q x1 x2 s1 vMd) : GW C 0 0 [bMd G hMd qMd vMd] 24 [(0, .ref hMd), (1, .int x1), (2, .int x2)] [.int s1, .ref hMd] := by
  unfold wp_X8_porterOf_24 at hw
  refine gw_callV F (ct_X8_fails hw) 1 gX8_porterOf_X8_fails rfl rfl rfl hd_X8_fails ⟨(Nat.le_of_ble_eq_true rfl), (Nat.le_of_ble_eq_true rfl)⟩ rfl rfl (Nat.le_of_ble_eq_true rfl) ⟨Nat.zero_le _, Nat.zero_le _⟩ [0] (bsr := []) rfl rfl (q0 := 0) rfl rfl dX8_porterOf_24 ?_
  rintro _ _ ⟨r_3, v_4, rfl, rfl, hw⟩
  refine gw_sel [0] (bs' := [bMd G hMd qMd v_4]) rfl rfl ?_
  change GW C 0 0 _ 27 _ [.int r_3]
  refine gw_if_eq (tgt := 32) F dX8_porterOf_27 (by decide) (fun c_5 => ?_) (fun c_5 => ?_)
  · have hw := hw.1 c_5
    refine gw_iconst (v := (0 : Int32)) F dX8_porterOf_32 ic_iconst_0 ?_
    refine gw_istore_n (lv' := [(3, .int (0 : Int32)), (0, .ref hMd), (1, .int x1), (2, .int x2)]) F dX8_porterOf_33 (by decide) rfl ?_
    refine gw_iconst (v := (0 : Int32)) F dX8_porterOf_34 ic_iconst_0 ?_
    refine gw_istore (lv' := [(4, .int (0 : Int32)), (3, .int (0 : Int32)), (0, .ref hMd), (1, .int x1), (2, .int x2)]) F dX8_porterOf_35 (by decide) rfl ?_
    refine gw_lv [2, 3, 4, 1, 0] rfl ?_
    obtain ⟨n_17, hw⟩ := hw
    exact lp_X8_porterOf_37 F E n_17 _ _ _ _ _ hw
  · have hw := hw.2 c_5
    refine gw_iconst (v := (0 : Int32)) F dX8_porterOf_30 ic_iconst_0 ?_
    exact gw_iret F E rfl rfl (Nat.le_of_ble_eq_true rfl) (Nat.le_of_ble_eq_true rfl) dX8_porterOf_31 ⟨_, _, rfl, rfl, hw⟩
def wp_X8_porterOf_23 (Q : Int32 → OV → Prop) (x1 x2 : Int32) (vMd : OV) : Prop :=
  (wp_X8_porterOf_24 Q x1 x2 (1 : Int32) vMd)
set_option maxRecDepth 20000 in
theorem lb_X8_porterOf_23 {X : List Cond} {l : Launch} {D : va_G} {G : Nat → ClassId} {C : Cx} {bs0 : List va_W} {hMd : Nat} {qMd : Nat → Nat} {Q : Int32 → OV → Prop} (F : GF C X cX8_porterOf wsX8_porterOf RX8 rm_X8_porterOf 5 (some .int) D G l) (E : GE C bs0 0 0 (po_X8_porterOf G hMd qMd Q)) {x1 x2 : Int32} {vMd : OV} (hw : wp_X8_porterOf_23 Q x1 x2 vMd) : GW C 0 0 [bMd G hMd qMd vMd] 23 [(0, .ref hMd), (1, .int x1), (2, .int x2)] [.ref hMd] := by
  unfold wp_X8_porterOf_23 at hw
  refine gw_iconst (v := (1 : Int32)) F dX8_porterOf_23 ic_iconst_1 ?_
  exact lb_X8_porterOf_24 F E hw
def wp_X8_porterOf_0 (Q : Int32 → OV → Prop) (x1 : Int32) (x2 : Int32) (vMd : OV) : Prop :=
  (wp_X8_in (fun (r_1 : Int32) => ((r_1 = 0 → (wp_X8_porterOf_23 Q x1 x2 vMd)) ∧ (¬ (r_1 = 0) → (wp_X8_in (fun (r_18 : Int32) => ((r_18 = 0 → (wp_X8_porterOf_23 Q x1 x2 vMd)) ∧ (¬ (r_18 = 0) → (wp_X8_porterOf_24 Q x1 x2 (0 : Int32) vMd)))) x2 (0 : Int32) (2 : Int32))))) x1 (0 : Int32) (3 : Int32))
set_option maxRecDepth 20000 in
theorem lb_X8_porterOf_0 {X : List Cond} {l : Launch} {D : va_G} {G : Nat → ClassId} {C : Cx} {bs0 : List va_W} {hMd : Nat} {qMd : Nat → Nat} {Q : Int32 → OV → Prop} (F : GF C X cX8_porterOf wsX8_porterOf RX8 rm_X8_porterOf 5 (some .int) D G l) (E : GE C bs0 0 0 (po_X8_porterOf G hMd qMd Q)) {x1 : Int32} {x2 : Int32} {vMd : OV} (hw : wp_X8_porterOf_0 Q x1 x2 vMd) : GW C 0 0 [bMd G hMd qMd vMd] 0 [(0, .ref hMd), (1, .int x1), (2, .int x2)] [] := by
  unfold wp_X8_porterOf_0 at hw
  refine gw_aload_n F dX8_porterOf_0 0 rfl ?_
  refine gw_iload_n F dX8_porterOf_1 1 rfl ?_
  refine gw_iconst (v := (0 : Int32)) F dX8_porterOf_2 ic_iconst_0 ?_
  refine gw_iconst (v := (3 : Int32)) F dX8_porterOf_3 ic_iconst_3 ?_
  refine gw_callS F (ct_X8_in hw) 3 gX8_porterOf_X8_in rfl rfl rfl hd_X8_in ⟨(Nat.le_of_ble_eq_true rfl), (Nat.le_of_ble_eq_true rfl)⟩ rfl rfl (Nat.le_of_ble_eq_true rfl) ⟨Nat.zero_le _, Nat.zero_le _⟩ [0] (bsr := [bMd G hMd qMd vMd]) rfl rfl dX8_porterOf_4 ?_
  rintro _ _ ⟨r_1, rfl, rfl, hw⟩
  refine gw_sel [0] (bs' := [bMd G hMd qMd vMd]) rfl rfl ?_
  change GW C 0 0 _ 7 _ [.int r_1, .ref hMd]
  refine gw_if_eq (tgt := 23) F dX8_porterOf_7 (by decide) (fun c_2 => ?_) (fun c_2 => ?_)
  · have hw := hw.1 c_2
    exact lb_X8_porterOf_23 F E hw
  · have hw := hw.2 c_2
    refine gw_iload_n F dX8_porterOf_10 2 rfl ?_
    refine gw_iconst (v := (0 : Int32)) F dX8_porterOf_11 ic_iconst_0 ?_
    refine gw_iconst (v := (2 : Int32)) F dX8_porterOf_12 ic_iconst_2 ?_
    refine gw_callS F (ct_X8_in hw) 3 gX8_porterOf_X8_in rfl rfl rfl hd_X8_in ⟨(Nat.le_of_ble_eq_true rfl), (Nat.le_of_ble_eq_true rfl)⟩ rfl rfl (Nat.le_of_ble_eq_true rfl) ⟨Nat.zero_le _, Nat.zero_le _⟩ [0] (bsr := [bMd G hMd qMd vMd]) rfl rfl dX8_porterOf_13 ?_
    rintro _ _ ⟨r_18, rfl, rfl, hw⟩
    refine gw_sel [0] (bs' := [bMd G hMd qMd vMd]) rfl rfl ?_
    change GW C 0 0 _ 16 _ [.int r_18, .ref hMd]
    refine gw_if_eq (tgt := 23) F dX8_porterOf_16 (by decide) (fun c_19 => ?_) (fun c_19 => ?_)
    · have hw := hw.1 c_19
      exact lb_X8_porterOf_23 F E hw
    · have hw := hw.2 c_19
      refine gw_iconst (v := (0 : Int32)) F dX8_porterOf_19 ic_iconst_0 ?_
      refine gw_goto (tgt := 24) F dX8_porterOf_20 (by decide) ?_
      exact lb_X8_porterOf_24 F E hw
def wp_X8_porterOf (Q : Int32 → OV → Prop) (x1 : Int32) (x2 : Int32) (vMd : OV) : Prop := wp_X8_porterOf_0 Q x1 x2 vMd
theorem ct_X8_porterOf {X : List Cond} {l : Launch} {D : va_G} {G : Nat → ClassId} {hMd : Nat} {qMd : Nat → Nat} {Q : Int32 → OV → Prop} {x1 : Int32} {x2 : Int32} {vMd : OV} (hw : wp_X8_porterOf Q x1 x2 vMd) : CM X l yX8_porterOf wsX8_porterOf rm_X8_porterOf D G [.ref hMd, .int x1, .int x2] [bMd G hMd qMd vMd] 0 0 (po_X8_porterOf G hMd qMd Q) :=
  CM.of pn_RX8 rfl rfl (Nat.le_of_ble_eq_true rfl) rfl (fun C F E => lb_X8_porterOf_0 F E hw)
-- X8_isAhead
abbrev rm_X8_isAhead : Room := { frames := 5, cells := 0, slots := 0, locals := 149 }
def po_X8_isAhead (G : Nat → ClassId) (hMd : Nat) (qMd : Nat → Nat) (vMd : OV) (Q : Int32 → Prop) : Option Value → List va_W → Prop := fun o bs => ∃ (r : Int32), o = some (.int r) ∧ bs = [bMd G hMd qMd vMd] ∧ Q r
theorem hd_X8_isAhead : yX8_isAhead.cls = RX8 ∧ yX8_isAhead.cls ≠ "java/lang/invoke/MethodHandle" ∧ yX8_isAhead.cls ≠ "java/lang/invoke/VarHandle" ∧ (parseMethodDescriptor yX8_isAhead.desc).map (fun d => d.parameters.length) = some 2 := by decide +kernel
def wp_X8_isAhead_70 (Q : Int32 → Prop) (vMd : OV) (s0 : Int32) : Prop :=
  (narrow .boolean (.int s0) = .int s0 ∧ Q s0)
set_option maxRecDepth 20000 in
theorem lb_X8_isAhead_70 {X : List Cond} {l : Launch} {D : va_G} {G : Nat → ClassId} {C : Cx} {bs0 : List va_W} {hMd : Nat} {qMd : Nat → Nat} {Q : Int32 → Prop} {vMd : OV} (F : GF C X cX8_isAhead wsX8_isAhead RX8 rm_X8_isAhead 4 (some .boolean) D G l) (E : GE C bs0 0 0 (po_X8_isAhead G hMd qMd vMd Q)) {s0 : Int32} (hw : wp_X8_isAhead_70 Q vMd s0) : GW C 0 0 [bMd G hMd qMd vMd] 70 [] [.int s0] := by
  unfold wp_X8_isAhead_70 at hw
  obtain ⟨hn, hw⟩ := hw
  exact gw_iret F E rfl hn (Nat.le_of_ble_eq_true rfl) (Nat.le_of_ble_eq_true rfl) dX8_isAhead_70 ⟨_, rfl, rfl, hw⟩
def wp_X8_isAhead_65 (Q : Int32 → Prop) (vMd : OV) : Prop :=
  (wp_X8_isAhead_70 Q vMd (1 : Int32))
set_option maxRecDepth 20000 in
theorem lb_X8_isAhead_65 {X : List Cond} {l : Launch} {D : va_G} {G : Nat → ClassId} {C : Cx} {bs0 : List va_W} {hMd : Nat} {qMd : Nat → Nat} {Q : Int32 → Prop} {vMd : OV} (F : GF C X cX8_isAhead wsX8_isAhead RX8 rm_X8_isAhead 4 (some .boolean) D G l) (E : GE C bs0 0 0 (po_X8_isAhead G hMd qMd vMd Q)) (hw : wp_X8_isAhead_65 Q vMd ) : GW C 0 0 [bMd G hMd qMd vMd] 65 [] [] := by
  unfold wp_X8_isAhead_65 at hw
  refine gw_iconst (v := (1 : Int32)) F dX8_isAhead_65 ic_iconst_1 ?_
  refine gw_goto (tgt := 70) F dX8_isAhead_66 (by decide) ?_
  exact lb_X8_isAhead_70 F E hw
def wp_X8_isAhead_69 (Q : Int32 → Prop) (vMd : OV) : Prop :=
  (wp_X8_isAhead_70 Q vMd (0 : Int32))
set_option maxRecDepth 20000 in
theorem lb_X8_isAhead_69 {X : List Cond} {l : Launch} {D : va_G} {G : Nat → ClassId} {C : Cx} {bs0 : List va_W} {hMd : Nat} {qMd : Nat → Nat} {Q : Int32 → Prop} {vMd : OV} (F : GF C X cX8_isAhead wsX8_isAhead RX8 rm_X8_isAhead 4 (some .boolean) D G l) (E : GE C bs0 0 0 (po_X8_isAhead G hMd qMd vMd Q)) (hw : wp_X8_isAhead_69 Q vMd ) : GW C 0 0 [bMd G hMd qMd vMd] 69 [] [] := by
  unfold wp_X8_isAhead_69 at hw
  refine gw_iconst (v := (0 : Int32)) F dX8_isAhead_69 ic_iconst_0 ?_
  exact lb_X8_isAhead_70 F E hw
def wp_X8_isAhead_31 (Q : Int32 → Prop) (vMd : OV) (s0 : Int32) : Prop :=
  (narrow .boolean (.int s0) = .int s0 ∧ Q s0)
set_option maxRecDepth 20000 in
theorem lb_X8_isAhead_31 {X : List Cond} {l : Launch} {D : va_G} {G : Nat → ClassId} {C : Cx} {bs0 : List va_W} {hMd : Nat} {qMd : Nat → Nat} {Q : Int32 → Prop} {vMd : OV} (F : GF C X cX8_isAhead wsX8_isAhead RX8 rm_X8_isAhead 4 (some .boolean) D G l) (E : GE C bs0 0 0 (po_X8_isAhead G hMd qMd vMd Q)) {s0 : Int32} (hw : wp_X8_isAhead_31 Q vMd s0) : GW C 0 0 [bMd G hMd qMd vMd] 31 [] [.int s0] := by
  unfold wp_X8_isAhead_31 at hw
  obtain ⟨hn, hw⟩ := hw
  exact gw_iret F E rfl hn (Nat.le_of_ble_eq_true rfl) (Nat.le_of_ble_eq_true rfl) dX8_isAhead_31 ⟨_, rfl, rfl, hw⟩
def wp_X8_isAhead_0 (Q : Int32 → Prop) (vMd : OV) (x1 : Int32) (x2 : Int32) : Prop :=
  (wp_X8_fitsOf (fun (r_1 : Int32) => (wp_X8_fitsOf (fun (r_2 : Int32) => ((r_1 = r_2 → (wp_X8_ofKey (fun (r_4 : Int32) => (wp_X8_many (fun (r_5 : Int32) => (wp_X8_ofKey (fun (r_6 : Int32) => (wp_X8_many (fun (r_7 : Int32) => (∀ i_8 : Int32, i_8 = (r_5 - r_7) → ((0 < i_8 → (wp_X8_isAhead_65 Q vMd)) ∧ (¬ (0 < i_8) → ((¬ i_8 = 0 → (wp_X8_isAhead_69 Q vMd)) ∧ (i_8 = 0 → ((x2 ≤ x1 → (wp_X8_isAhead_69 Q vMd)) ∧ (¬ (x2 ≤ x1) → (wp_X8_isAhead_65 Q vMd))))))))) r_6)) x2 (0 : Int32) vMd)) r_4)) x1 (0 : Int32) vMd)) ∧ (¬ (r_1 = r_2) → (wp_X8_fitsOf (fun (r_12 : Int32) => (wp_X8_fitsOf (fun (r_13 : Int32) => ((r_13 ≤ r_12 → (wp_X8_isAhead_31 Q vMd (0 : Int32))) ∧ (¬ (r_13 ≤ r_12) → (wp_X8_isAhead_31 Q vMd (1 : Int32))))) x2 vMd)) x1 vMd)))) x2 vMd)) x1 vMd)
set_option maxRecDepth 20000 in
theorem lb_X8_isAhead_0 {X : List Cond} {l : Launch} {D : va_G} {G : Nat → ClassId} {C : Cx} {bs0 : List va_W} {hMd : Nat} {qMd : Nat → Nat} {Q : Int32 → Prop} {vMd : OV} (F : GF C X cX8_isAhead wsX8_isAhead RX8 rm_X8_isAhead 4 (some .boolean) D G l) (E : GE C bs0 0 0 (po_X8_isAhead G hMd qMd vMd Q)) {x1 : Int32} {x2 : Int32} (hw : wp_X8_isAhead_0 Q vMd x1 x2) : GW C 0 0 [bMd G hMd qMd vMd] 0 [(0, .ref hMd), (1, .int x1), (2, .int x2)] [] := by
  unfold wp_X8_isAhead_0 at hw
  refine gw_aload_n F dX8_isAhead_0 0 rfl ?_
  refine gw_iload_n F dX8_isAhead_1 1 rfl ?_
  refine gw_callV F (ct_X8_fitsOf hw) 1 gX8_isAhead_X8_fitsOf rfl rfl rfl hd_X8_fitsOf ⟨(Nat.le_of_ble_eq_true rfl), (Nat.le_of_ble_eq_true rfl)⟩ rfl rfl (Nat.le_of_ble_eq_true rfl) ⟨Nat.zero_le _, Nat.zero_le _⟩ [0] (bsr := []) rfl rfl (q0 := 0) rfl rfl dX8_isAhead_2 ?_
  rintro _ _ ⟨r_1, rfl, rfl, hw⟩
  refine gw_sel [0] (bs' := [bMd G hMd qMd vMd]) rfl rfl ?_
  change GW C 0 0 _ 5 _ [.int r_1]
  refine gw_aload_n F dX8_isAhead_5 0 rfl ?_
  refine gw_iload_n F dX8_isAhead_6 2 rfl ?_
  refine gw_callV F (ct_X8_fitsOf hw) 1 gX8_isAhead_X8_fitsOf rfl rfl rfl hd_X8_fitsOf ⟨(Nat.le_of_ble_eq_true rfl), (Nat.le_of_ble_eq_true rfl)⟩ rfl rfl (Nat.le_of_ble_eq_true rfl) ⟨Nat.zero_le _, Nat.zero_le _⟩ [0] (bsr := []) rfl rfl (q0 := 0) rfl rfl dX8_isAhead_7 ?_
  rintro _ _ ⟨r_2, rfl, rfl, hw⟩
  refine gw_sel [0] (bs' := [bMd G hMd qMd vMd]) rfl rfl ?_
  change GW C 0 0 _ 10 _ [.int r_2, .int r_1]
  refine gw_icmp_eq (tgt := 32) F dX8_isAhead_10 (by decide) (fun c_3 => ?_) (fun c_3 => ?_)
  · have hw := hw.1 c_3
    refine gw_aload_n F dX8_isAhead_32 0 rfl ?_
    refine gw_iload_n F dX8_isAhead_33 1 rfl ?_
    refine gw_iconst (v := (0 : Int32)) F dX8_isAhead_34 ic_iconst_0 ?_
    refine gw_callV F (ct_X8_ofKey hw) 2 gX8_isAhead_X8_ofKey rfl rfl rfl hd_X8_ofKey ⟨(Nat.le_of_ble_eq_true rfl), (Nat.le_of_ble_eq_true rfl)⟩ rfl rfl (Nat.le_of_ble_eq_true rfl) ⟨Nat.zero_le _, Nat.zero_le _⟩ [0] (bsr := []) rfl rfl (q0 := 0) rfl rfl dX8_isAhead_35 ?_
    rintro _ _ ⟨r_4, rfl, rfl, hw⟩
    refine gw_sel [0] (bs' := [bMd G hMd qMd vMd]) rfl rfl ?_
    change GW C 0 0 _ 38 _ [.int r_4]
    refine gw_callS F (ct_X8_many hw) 1 gX8_isAhead_X8_many rfl rfl rfl hd_X8_many ⟨(Nat.le_of_ble_eq_true rfl), (Nat.le_of_ble_eq_true rfl)⟩ rfl rfl (Nat.le_of_ble_eq_true rfl) ⟨Nat.zero_le _, Nat.zero_le _⟩ [0] (bsr := [bMd G hMd qMd vMd]) rfl rfl dX8_isAhead_38 ?_
    rintro _ _ ⟨r_5, rfl, rfl, hw⟩
    refine gw_sel [0] (bs' := [bMd G hMd qMd vMd]) rfl rfl ?_
    change GW C 0 0 _ 41 _ [.int r_5]
    refine gw_aload_n F dX8_isAhead_41 0 rfl ?_
    refine gw_iload_n F dX8_isAhead_42 2 rfl ?_
    refine gw_iconst (v := (0 : Int32)) F dX8_isAhead_43 ic_iconst_0 ?_
    refine gw_callV F (ct_X8_ofKey hw) 2 gX8_isAhead_X8_ofKey rfl rfl rfl hd_X8_ofKey ⟨(Nat.le_of_ble_eq_true rfl), (Nat.le_of_ble_eq_true rfl)⟩ rfl rfl (Nat.le_of_ble_eq_true rfl) ⟨Nat.zero_le _, Nat.zero_le _⟩ [0] (bsr := []) rfl rfl (q0 := 0) rfl rfl dX8_isAhead_44 ?_
    rintro _ _ ⟨r_6, rfl, rfl, hw⟩
    refine gw_sel [0] (bs' := [bMd G hMd qMd vMd]) rfl rfl ?_
    change GW C 0 0 _ 47 _ [.int r_6, .int r_5]
    refine gw_callS F (ct_X8_many hw) 1 gX8_isAhead_X8_many rfl rfl rfl hd_X8_many ⟨(Nat.le_of_ble_eq_true rfl), (Nat.le_of_ble_eq_true rfl)⟩ rfl rfl (Nat.le_of_ble_eq_true rfl) ⟨Nat.zero_le _, Nat.zero_le _⟩ [0] (bsr := [bMd G hMd qMd vMd]) rfl rfl dX8_isAhead_47 ?_
    rintro _ _ ⟨r_7, rfl, rfl, hw⟩
    refine gw_sel [0] (bs' := [bMd G hMd qMd vMd]) rfl rfl ?_
    change GW C 0 0 _ 50 _ [.int r_7, .int r_5]
    refine gw_isub F dX8_isAhead_50 ?_
    refine gw_topi (fun i_8 e_i_8 => ?_)
    have hw := hw i_8 e_i_8
    refine gw_istore_n (lv' := [(3, .int i_8), (0, .ref hMd), (1, .int x1), (2, .int x2)]) F dX8_isAhead_51 (by decide) rfl ?_
    refine gw_iload_n F dX8_isAhead_52 0 rfl ?_
    refine gw_if_gt (tgt := 65) F dX8_isAhead_53 (by decide) (fun c_9 => ?_) (fun c_9 => ?_)
    · have hw := hw.1 c_9
      refine gw_lv [] rfl ?_
      exact lb_X8_isAhead_65 F E hw
    · have hw := hw.2 c_9
      refine gw_iload_n F dX8_isAhead_56 0 rfl ?_
      refine gw_if_ne (tgt := 69) F dX8_isAhead_57 (by decide) (fun c_10 => ?_) (fun c_10 => ?_)
      · have hw := hw.1 c_10
        refine gw_lv [] rfl ?_
        exact lb_X8_isAhead_69 F E hw
      · have hw := hw.2 c_10
        refine gw_iload_n F dX8_isAhead_60 2 rfl ?_
        refine gw_iload_n F dX8_isAhead_61 3 rfl ?_
        refine gw_icmp_ge (tgt := 69) F dX8_isAhead_62 (by decide) (fun c_11 => ?_) (fun c_11 => ?_)
        · have hw := hw.1 c_11
          refine gw_lv [] rfl ?_
          exact lb_X8_isAhead_69 F E hw
        · have hw := hw.2 c_11
          refine gw_lv [] rfl ?_
          exact lb_X8_isAhead_65 F E hw
  · have hw := hw.2 c_3
    refine gw_aload_n F dX8_isAhead_13 0 rfl ?_
    refine gw_iload_n F dX8_isAhead_14 1 rfl ?_
    refine gw_callV F (ct_X8_fitsOf hw) 1 gX8_isAhead_X8_fitsOf rfl rfl rfl hd_X8_fitsOf ⟨(Nat.le_of_ble_eq_true rfl), (Nat.le_of_ble_eq_true rfl)⟩ rfl rfl (Nat.le_of_ble_eq_true rfl) ⟨Nat.zero_le _, Nat.zero_le _⟩ [0] (bsr := []) rfl rfl (q0 := 0) rfl rfl dX8_isAhead_15 ?_
    rintro _ _ ⟨r_12, rfl, rfl, hw⟩
    refine gw_sel [0] (bs' := [bMd G hMd qMd vMd]) rfl rfl ?_
    change GW C 0 0 _ 18 _ [.int r_12]
    refine gw_aload_n F dX8_isAhead_18 0 rfl ?_
    refine gw_iload_n F dX8_isAhead_19 2 rfl ?_
    refine gw_callV F (ct_X8_fitsOf hw) 1 gX8_isAhead_X8_fitsOf rfl rfl rfl hd_X8_fitsOf ⟨(Nat.le_of_ble_eq_true rfl), (Nat.le_of_ble_eq_true rfl)⟩ rfl rfl (Nat.le_of_ble_eq_true rfl) ⟨Nat.zero_le _, Nat.zero_le _⟩ [0] (bsr := []) rfl rfl (q0 := 0) rfl rfl dX8_isAhead_20 ?_
    rintro _ _ ⟨r_13, rfl, rfl, hw⟩
    refine gw_sel [0] (bs' := [bMd G hMd qMd vMd]) rfl rfl ?_
    change GW C 0 0 _ 23 _ [.int r_13, .int r_12]
    refine gw_icmp_ge (tgt := 30) F dX8_isAhead_23 (by decide) (fun c_14 => ?_) (fun c_14 => ?_)
    · have hw := hw.1 c_14
      refine gw_iconst (v := (0 : Int32)) F dX8_isAhead_30 ic_iconst_0 ?_
      refine gw_lv [] rfl ?_
      exact lb_X8_isAhead_31 F E hw
    · have hw := hw.2 c_14
      refine gw_iconst (v := (1 : Int32)) F dX8_isAhead_26 ic_iconst_1 ?_
      refine gw_goto (tgt := 31) F dX8_isAhead_27 (by decide) ?_
      refine gw_lv [] rfl ?_
      exact lb_X8_isAhead_31 F E hw
def wp_X8_isAhead (Q : Int32 → Prop) (x1 : Int32) (x2 : Int32) (vMd : OV) : Prop := wp_X8_isAhead_0 Q vMd x1 x2
theorem ct_X8_isAhead {X : List Cond} {l : Launch} {D : va_G} {G : Nat → ClassId} {hMd : Nat} {qMd : Nat → Nat} {Q : Int32 → Prop} {x1 : Int32} {x2 : Int32} {vMd : OV} (hw : wp_X8_isAhead Q x1 x2 vMd) : CM X l yX8_isAhead wsX8_isAhead rm_X8_isAhead D G [.ref hMd, .int x1, .int x2] [bMd G hMd qMd vMd] 0 0 (po_X8_isAhead G hMd qMd vMd Q) :=
  CM.of pn_RX8 rfl rfl (Nat.le_of_ble_eq_true rfl) rfl (fun C F E => lb_X8_isAhead_0 F E hw)
-- X8_ranked
abbrev rm_X8_ranked : Room := { frames := 6, cells := 0, slots := 0, locals := 172 }
def po_X8_ranked (G : Nat → ClassId) (hMd : Nat) (qMd : Nat → Nat) (Q : Int32 → OV → Prop) : Option Value → List va_W → Prop := fun o bs => ∃ (r : Int32) (vMd : OV), o = some (.int r) ∧ bs = [bMd G hMd qMd vMd] ∧ Q r vMd
theorem hd_X8_ranked : yX8_ranked.cls = RX8 ∧ yX8_ranked.cls ≠ "java/lang/invoke/MethodHandle" ∧ yX8_ranked.cls ≠ "java/lang/invoke/VarHandle" ∧ (parseMethodDescriptor yX8_ranked.desc).map (fun d => d.parameters.length) = some 1 := by decide +kernel
theorem in_X8_ranked_RX8 : ∀ w ∈ wsX80, w ∈ wsX8_ranked := fun w h => List.mem_cons_of_mem _ (List.mem_append_left _ (List.mem_append_right _ h))
theorem lk_X8_ranked_7 : Cond.fieldLink RX8 7 "KeyWavesModel" "g" "[I" ∈ wsX8_ranked := List.mem_cons_of_mem _ (List.mem_append_left _ (List.mem_append_left _ (List.mem_append_left _ (List.mem_of_getElem? (i := 0) rfl))))
theorem lk_X8_ranked_46 : Cond.fieldLink RX8 46 "KeyWavesModel" "code" "I" ∈ wsX8_ranked := List.mem_cons_of_mem _ (List.mem_append_left _ (List.mem_append_left _ (List.mem_append_left _ (List.mem_of_getElem? (i := 1) rfl))))
def wp_X8_ranked_44 (Q : Int32 → OV → Prop) (K2 : Int32 → Int32 → OV → Prop) (K17 : Int32 → Int32 → Int32 → Int32 → OV → Prop) (x1 x2 x4 s0 s1 : Int32) (vMd : OV) : Prop :=
  (∀ i_11 : Int32, i_11 = (s0 + s1) → (∀ i_12 : Int32, i_12 = x4 + (1 : Int32) → (K17 x1 x2 i_11 i_12 vMd)))
set_option maxRecDepth 20000 in
theorem lb_X8_ranked_44 {X : List Cond} {l : Launch} {D : va_G} {G : Nat → ClassId} {C : Cx} {bs0 : List va_W} {hMd : Nat} {qMd : Nat → Nat} {Q : Int32 → OV → Prop} {K2 : Int32 → Int32 → OV → Prop} {K17 : Int32 → Int32 → Int32 → Int32 → OV → Prop} (F : GF C X cX8_ranked wsX8_ranked RX8 rm_X8_ranked 5 (some .int) D G l) (E : GE C bs0 0 0 (po_X8_ranked G hMd qMd Q)) (hK2 : ∀ (x1 x2 : Int32) (vMd : OV), K2 x1 x2 vMd → GW C 0 0 [bMd G hMd qMd vMd] 2 [(0, .ref hMd), (1, .int x1), (2, .int x2)] []) (hK17 : ∀ (x1 x2 x3 x4 : Int32) (vMd : OV), K17 x1 x2 x3 x4 vMd → GW C 0 0 [bMd G hMd qMd vMd] 17 [(0, .ref hMd), (1, .int x1), (2, .int x2), (3, .int x3), (4, .int x4)] []) {x1 x2 x4 s0 s1 : Int32} {vMd : OV} (hw : wp_X8_ranked_44 Q K2 K17 x1 x2 x4 s0 s1 vMd) : GW C 0 0 [bMd G hMd qMd vMd] 44 [(0, .ref hMd), (1, .int x1), (2, .int x2), (4, .int x4)] [.int s1, .int s0] := by
  unfold wp_X8_ranked_44 at hw
  refine gw_iadd F dX8_ranked_44 ?_
  refine gw_topi (fun i_11 e_i_11 => ?_)
  have hw := hw i_11 e_i_11
  refine gw_istore_n (lv' := [(3, .int i_11), (0, .ref hMd), (1, .int x1), (2, .int x2), (4, .int x4)]) F dX8_ranked_45 (by decide) rfl ?_
  obtain ⟨i_12, e_i_12⟩ : ∃ z : Int32, z = x4 + (1 : Int32) := ⟨_, rfl⟩
  have hw := hw i_12 e_i_12
  refine gw_iinc (v := i_12) (lv' := [(4, .int i_12), (3, .int i_11), (0, .ref hMd), (1, .int x1), (2, .int x2)]) F dX8_ranked_46 4 rfl (by rw [e_i_12]; rfl) (by decide) rfl ?_
  refine gw_goto (tgt := 17) F dX8_ranked_49 (by decide) ?_
  refine gw_lv [2, 3, 4, 1, 0] rfl ?_
  exact hK17 _ _ _ _ _ hw
def wp_X8_ranked_17 (Q : Int32 → OV → Prop) (K2 : Int32 → Int32 → OV → Prop) (K17 : Int32 → Int32 → Int32 → Int32 → OV → Prop) (x1 x2 x3 x4 : Int32) (vMd : OV) : Prop :=
  (vp_in (0 : Int32) 177 ∧ (((vMd.1 0 (0 : Int32).toNatClampNeg) ≤ x4 → ((x3 = x1 → (∀ v_7 : OV, v_7 = sI vMd 9 (0 : Int32) → (Q x2 v_7))) ∧ (¬ (x3 = x1) → (∀ i_8 : Int32, i_8 = x2 + (1 : Int32) → (K2 x1 i_8 vMd))))) ∧ (¬ ((vMd.1 0 (0 : Int32).toNatClampNeg) ≤ x4) → (wp_X8_isAhead (fun (r_9 : Int32) => ((r_9 = 0 → (wp_X8_ranked_44 Q K2 K17 x1 x2 x4 x3 (0 : Int32) vMd)) ∧ (¬ (r_9 = 0) → (wp_X8_ranked_44 Q K2 K17 x1 x2 x4 x3 (1 : Int32) vMd)))) x4 x2 vMd))))
set_option maxRecDepth 20000 in
theorem lb_X8_ranked_17 {X : List Cond} {l : Launch} {D : va_G} {G : Nat → ClassId} {C : Cx} {bs0 : List va_W} {hMd : Nat} {qMd : Nat → Nat} {Q : Int32 → OV → Prop} {K2 : Int32 → Int32 → OV → Prop} {K17 : Int32 → Int32 → Int32 → Int32 → OV → Prop} (F : GF C X cX8_ranked wsX8_ranked RX8 rm_X8_ranked 5 (some .int) D G l) (E : GE C bs0 0 0 (po_X8_ranked G hMd qMd Q)) (hK2 : ∀ (x1 x2 : Int32) (vMd : OV), K2 x1 x2 vMd → GW C 0 0 [bMd G hMd qMd vMd] 2 [(0, .ref hMd), (1, .int x1), (2, .int x2)] []) (hK17 : ∀ (x1 x2 x3 x4 : Int32) (vMd : OV), K17 x1 x2 x3 x4 vMd → GW C 0 0 [bMd G hMd qMd vMd] 17 [(0, .ref hMd), (1, .int x1), (2, .int x2), (3, .int x3), (4, .int x4)] []) {x1 x2 x3 x4 : Int32} {vMd : OV} (hw : wp_X8_ranked_17 Q K2 K17 x1 x2 x3 x4 vMd) : GW C 0 0 [bMd G hMd qMd vMd] 17 [(0, .ref hMd), (1, .int x1), (2, .int x2), (3, .int x3), (4, .int x4)] [] := by
  unfold wp_X8_ranked_17 at hw
  refine gw_iload F dX8_ranked_17 4 rfl ?_
  refine gw_aload_n F dX8_ranked_19 0 rfl ?_
  refine gw_get F in_X8_ranked_RX8 0 rfl rfl 0 (by decide) lk_X8_ranked_7 rfl dX8_ranked_20 ?_
  refine gw_iconst (v := (0 : Int32)) F dX8_ranked_23 ic_iconst_0 ?_
  obtain ⟨h_4, hw⟩ := hw
  refine gw_iald F 1 rfl h_4 dX8_ranked_24 ?_
  refine gw_icmp_ge (tgt := 52) F dX8_ranked_25 (by decide) (fun c_5 => ?_) (fun c_5 => ?_)
  · have hw := hw.1 c_5
    refine gw_iload_n F dX8_ranked_52 3 rfl ?_
    refine gw_iload_n F dX8_ranked_53 1 rfl ?_
    refine gw_icmp_eq (tgt := 60) F dX8_ranked_54 (by decide) (fun c_6 => ?_) (fun c_6 => ?_)
    · have hw := hw.1 c_6
      refine gw_aload_n F dX8_ranked_60 0 rfl ?_
      refine gw_iconst (v := (0 : Int32)) F dX8_ranked_61 ic_iconst_0 ?_
      obtain ⟨v_7, e_v_7⟩ : ∃ z : OV, z = sI vMd 9 (0 : Int32) := ⟨_, rfl⟩
      have hw := hw v_7 e_v_7
      refine gw_put (bs' := [bMd G hMd qMd v_7]) F in_X8_ranked_RX8 tyX8 tyX8_ok nmX8 0 rfl rfl 9 (by decide) lk_X8_ranked_46 rfl rfl rfl (Nat.le_of_ble_eq_true rfl) dX8_ranked_62 (by rw [e_v_7]; rfl) ?_
      refine gw_iload_n F dX8_ranked_65 2 rfl ?_
      exact gw_iret F E rfl rfl (Nat.le_of_ble_eq_true rfl) (Nat.le_of_ble_eq_true rfl) dX8_ranked_66 ⟨_, _, rfl, rfl, hw⟩
    · have hw := hw.2 c_6
      refine gw_goto (tgt := 67) F dX8_ranked_57 (by decide) ?_
      obtain ⟨i_8, e_i_8⟩ : ∃ z : Int32, z = x2 + (1 : Int32) := ⟨_, rfl⟩
      have hw := hw i_8 e_i_8
      refine gw_iinc (v := i_8) (lv' := [(2, .int i_8), (0, .ref hMd), (1, .int x1), (3, .int x3), (4, .int x4)]) F dX8_ranked_67 2 rfl (by rw [e_i_8]; rfl) (by decide) rfl ?_
      refine gw_goto (tgt := 2) F dX8_ranked_70 (by decide) ?_
      refine gw_lv [1, 2, 0] rfl ?_
      exact hK2 _ _ _ hw
  · have hw := hw.2 c_5
    refine gw_iload_n F dX8_ranked_28 3 rfl ?_
    refine gw_aload_n F dX8_ranked_29 0 rfl ?_
    refine gw_iload F dX8_ranked_30 4 rfl ?_
    refine gw_iload_n F dX8_ranked_32 2 rfl ?_
    refine gw_callV F (ct_X8_isAhead hw) 2 gX8_ranked_X8_isAhead rfl rfl rfl hd_X8_isAhead ⟨(Nat.le_of_ble_eq_true rfl), (Nat.le_of_ble_eq_true rfl)⟩ rfl rfl (Nat.le_of_ble_eq_true rfl) ⟨Nat.zero_le _, Nat.zero_le _⟩ [0] (bsr := []) rfl rfl (q0 := 0) rfl rfl dX8_ranked_33 ?_
    rintro _ _ ⟨r_9, rfl, rfl, hw⟩
    refine gw_sel [0] (bs' := [bMd G hMd qMd vMd]) rfl rfl ?_
    change GW C 0 0 _ 36 _ [.int r_9, .int x3]
    refine gw_if_eq (tgt := 43) F dX8_ranked_36 (by decide) (fun c_10 => ?_) (fun c_10 => ?_)
    · have hw := hw.1 c_10
      refine gw_iconst (v := (0 : Int32)) F dX8_ranked_43 ic_iconst_0 ?_
      refine gw_lv [0, 1, 2, 4] rfl ?_
      exact lb_X8_ranked_44 F E hK2 hK17 hw
    · have hw := hw.2 c_10
      refine gw_iconst (v := (1 : Int32)) F dX8_ranked_39 ic_iconst_1 ?_
      refine gw_goto (tgt := 44) F dX8_ranked_40 (by decide) ?_
      refine gw_lv [0, 1, 2, 4] rfl ?_
      exact lb_X8_ranked_44 F E hK2 hK17 hw
def wp_X8_ranked_17_loop (Q : Int32 → OV → Prop) (K2 : Int32 → Int32 → OV → Prop) : Nat → Int32 → Int32 → Int32 → Int32 → OV → Prop
  | 0, _, _, _, _, _ => False
  | n + 1, x1, x2, x3, x4, vMd => wp_X8_ranked_17 Q K2 (wp_X8_ranked_17_loop Q K2 n) x1 x2 x3 x4 vMd
theorem lp_X8_ranked_17 {X : List Cond} {l : Launch} {D : va_G} {G : Nat → ClassId} {C : Cx} {bs0 : List va_W} {hMd : Nat} {qMd : Nat → Nat} {Q : Int32 → OV → Prop} {K2 : Int32 → Int32 → OV → Prop} (F : GF C X cX8_ranked wsX8_ranked RX8 rm_X8_ranked 5 (some .int) D G l) (E : GE C bs0 0 0 (po_X8_ranked G hMd qMd Q)) (hK2 : ∀ (x1 x2 : Int32) (vMd : OV), K2 x1 x2 vMd → GW C 0 0 [bMd G hMd qMd vMd] 2 [(0, .ref hMd), (1, .int x1), (2, .int x2)] []) : ∀ (n : Nat) (x1 x2 x3 x4 : Int32) (vMd : OV), wp_X8_ranked_17_loop Q K2 n x1 x2 x3 x4 vMd → GW C 0 0 [bMd G hMd qMd vMd] 17 [(0, .ref hMd), (1, .int x1), (2, .int x2), (3, .int x3), (4, .int x4)] [] := by
  intro n
  induction n with
  | zero => intro x1 x2 x3 x4 vMd hw; exact False.elim hw
  | succ n ih => intro x1 x2 x3 x4 vMd hw; exact lb_X8_ranked_17 (K17 := wp_X8_ranked_17_loop Q K2 n) F E hK2 ih hw
def wp_X8_ranked_2 (Q : Int32 → OV → Prop) (K2 : Int32 → Int32 → OV → Prop) (x1 x2 : Int32) (vMd : OV) : Prop :=
  (vp_in (0 : Int32) 177 ∧ (((vMd.1 0 (0 : Int32).toNatClampNeg) ≤ x2 → (∀ v_3 : OV, v_3 = sI vMd 9 (1 : Int32) → (Q (0 : Int32) v_3))) ∧ (¬ ((vMd.1 0 (0 : Int32).toNatClampNeg) ≤ x2) → (∃ n_13 : Nat, wp_X8_ranked_17_loop Q K2 n_13 x1 x2 (0 : Int32) (0 : Int32) vMd))))
set_option maxRecDepth 20000 in
theorem lb_X8_ranked_2 {X : List Cond} {l : Launch} {D : va_G} {G : Nat → ClassId} {C : Cx} {bs0 : List va_W} {hMd : Nat} {qMd : Nat → Nat} {Q : Int32 → OV → Prop} {K2 : Int32 → Int32 → OV → Prop} (F : GF C X cX8_ranked wsX8_ranked RX8 rm_X8_ranked 5 (some .int) D G l) (E : GE C bs0 0 0 (po_X8_ranked G hMd qMd Q)) (hK2 : ∀ (x1 x2 : Int32) (vMd : OV), K2 x1 x2 vMd → GW C 0 0 [bMd G hMd qMd vMd] 2 [(0, .ref hMd), (1, .int x1), (2, .int x2)] []) {x1 x2 : Int32} {vMd : OV} (hw : wp_X8_ranked_2 Q K2 x1 x2 vMd) : GW C 0 0 [bMd G hMd qMd vMd] 2 [(0, .ref hMd), (1, .int x1), (2, .int x2)] [] := by
  unfold wp_X8_ranked_2 at hw
  refine gw_iload_n F dX8_ranked_2 2 rfl ?_
  refine gw_aload_n F dX8_ranked_3 0 rfl ?_
  refine gw_get F in_X8_ranked_RX8 0 rfl rfl 0 (by decide) lk_X8_ranked_7 rfl dX8_ranked_4 ?_
  refine gw_iconst (v := (0 : Int32)) F dX8_ranked_7 ic_iconst_0 ?_
  obtain ⟨h_1, hw⟩ := hw
  refine gw_iald F 1 rfl h_1 dX8_ranked_8 ?_
  refine gw_icmp_ge (tgt := 73) F dX8_ranked_9 (by decide) (fun c_2 => ?_) (fun c_2 => ?_)
  · have hw := hw.1 c_2
    refine gw_aload_n F dX8_ranked_73 0 rfl ?_
    refine gw_iconst (v := (1 : Int32)) F dX8_ranked_74 ic_iconst_1 ?_
    obtain ⟨v_3, e_v_3⟩ : ∃ z : OV, z = sI vMd 9 (1 : Int32) := ⟨_, rfl⟩
    have hw := hw v_3 e_v_3
    refine gw_put (bs' := [bMd G hMd qMd v_3]) F in_X8_ranked_RX8 tyX8 tyX8_ok nmX8 0 rfl rfl 9 (by decide) lk_X8_ranked_46 rfl rfl rfl (Nat.le_of_ble_eq_true rfl) dX8_ranked_75 (by rw [e_v_3]; rfl) ?_
    refine gw_iconst (v := (0 : Int32)) F dX8_ranked_78 ic_iconst_0 ?_
    exact gw_iret F E rfl rfl (Nat.le_of_ble_eq_true rfl) (Nat.le_of_ble_eq_true rfl) dX8_ranked_79 ⟨_, _, rfl, rfl, hw⟩
  · have hw := hw.2 c_2
    refine gw_iconst (v := (0 : Int32)) F dX8_ranked_12 ic_iconst_0 ?_
    refine gw_istore_n (lv' := [(3, .int (0 : Int32)), (0, .ref hMd), (1, .int x1), (2, .int x2)]) F dX8_ranked_13 (by decide) rfl ?_
    refine gw_iconst (v := (0 : Int32)) F dX8_ranked_14 ic_iconst_0 ?_
    refine gw_istore (lv' := [(4, .int (0 : Int32)), (3, .int (0 : Int32)), (0, .ref hMd), (1, .int x1), (2, .int x2)]) F dX8_ranked_15 (by decide) rfl ?_
    refine gw_lv [2, 3, 4, 1, 0] rfl ?_
    obtain ⟨n_13, hw⟩ := hw
    exact lp_X8_ranked_17 F E hK2 n_13 _ _ _ _ _ hw
def wp_X8_ranked_2_loop (Q : Int32 → OV → Prop) : Nat → Int32 → Int32 → OV → Prop
  | 0, _, _, _ => False
  | n + 1, x1, x2, vMd => wp_X8_ranked_2 Q (wp_X8_ranked_2_loop Q n) x1 x2 vMd
theorem lp_X8_ranked_2 {X : List Cond} {l : Launch} {D : va_G} {G : Nat → ClassId} {C : Cx} {bs0 : List va_W} {hMd : Nat} {qMd : Nat → Nat} {Q : Int32 → OV → Prop} (F : GF C X cX8_ranked wsX8_ranked RX8 rm_X8_ranked 5 (some .int) D G l) (E : GE C bs0 0 0 (po_X8_ranked G hMd qMd Q)) : ∀ (n : Nat) (x1 x2 : Int32) (vMd : OV), wp_X8_ranked_2_loop Q n x1 x2 vMd → GW C 0 0 [bMd G hMd qMd vMd] 2 [(0, .ref hMd), (1, .int x1), (2, .int x2)] [] := by
  intro n
  induction n with
  | zero => intro x1 x2 vMd hw; exact False.elim hw
  | succ n ih => intro x1 x2 vMd hw; exact lb_X8_ranked_2 (K2 := wp_X8_ranked_2_loop Q n) F E ih hw
def wp_X8_ranked_0 (Q : Int32 → OV → Prop) (x1 : Int32) (vMd : OV) : Prop :=
  (∃ n_14 : Nat, wp_X8_ranked_2_loop Q n_14 x1 (0 : Int32) vMd)
set_option maxRecDepth 20000 in
theorem lb_X8_ranked_0 {X : List Cond} {l : Launch} {D : va_G} {G : Nat → ClassId} {C : Cx} {bs0 : List va_W} {hMd : Nat} {qMd : Nat → Nat} {Q : Int32 → OV → Prop} (F : GF C X cX8_ranked wsX8_ranked RX8 rm_X8_ranked 5 (some .int) D G l) (E : GE C bs0 0 0 (po_X8_ranked G hMd qMd Q)) {x1 : Int32} {vMd : OV} (hw : wp_X8_ranked_0 Q x1 vMd) : GW C 0 0 [bMd G hMd qMd vMd] 0 [(0, .ref hMd), (1, .int x1)] [] := by
  unfold wp_X8_ranked_0 at hw
  refine gw_iconst (v := (0 : Int32)) F dX8_ranked_0 ic_iconst_0 ?_
  refine gw_istore_n (lv' := [(2, .int (0 : Int32)), (0, .ref hMd), (1, .int x1)]) F dX8_ranked_1 (by decide) rfl ?_
  refine gw_lv [1, 2, 0] rfl ?_
  obtain ⟨n_14, hw⟩ := hw
  exact lp_X8_ranked_2 F E n_14 _ _ _ hw
def wp_X8_ranked (Q : Int32 → OV → Prop) (x1 : Int32) (vMd : OV) : Prop := wp_X8_ranked_0 Q x1 vMd
theorem ct_X8_ranked {X : List Cond} {l : Launch} {D : va_G} {G : Nat → ClassId} {hMd : Nat} {qMd : Nat → Nat} {Q : Int32 → OV → Prop} {x1 : Int32} {vMd : OV} (hw : wp_X8_ranked Q x1 vMd) : CM X l yX8_ranked wsX8_ranked rm_X8_ranked D G [.ref hMd, .int x1] [bMd G hMd qMd vMd] 0 0 (po_X8_ranked G hMd qMd Q) :=
  CM.of pn_RX8 rfl rfl (Nat.le_of_ble_eq_true rfl) rfl (fun C F E => lb_X8_ranked_0 F E hw)
-- X8_append
abbrev rm_X8_append : Room := { frames := 2, cells := 0, slots := 0, locals := 81 }
def po_X8_append (G : Nat → ClassId) (hMd : Nat) (qMd : Nat → Nat) (Q : Int32 → OV → Prop) : Option Value → List va_W → Prop := fun o bs => ∃ (r : Int32) (vMd : OV), o = some (.int r) ∧ bs = [bMd G hMd qMd vMd] ∧ Q r vMd
theorem hd_X8_append : yX8_append.cls = RX8 ∧ yX8_append.cls ≠ "java/lang/invoke/MethodHandle" ∧ yX8_append.cls ≠ "java/lang/invoke/VarHandle" ∧ (parseMethodDescriptor yX8_append.desc).map (fun d => d.parameters.length) = some 1 := by decide +kernel
theorem in_X8_append_RX8 : ∀ w ∈ wsX80, w ∈ wsX8_append := fun w h => List.mem_cons_of_mem _ (List.mem_append_left _ (List.mem_append_right _ h))
theorem lk_X8_append_162 : Cond.fieldLink RX8 162 "KeyWavesModel" "length" "I" ∈ wsX8_append := List.mem_cons_of_mem _ (List.mem_append_left _ (List.mem_append_left _ (List.mem_of_getElem? (i := 0) rfl)))
theorem lk_X8_append_25 : Cond.fieldLink RX8 25 "KeyWavesModel" "input" "[I" ∈ wsX8_append := List.mem_cons_of_mem _ (List.mem_append_left _ (List.mem_append_left _ (List.mem_of_getElem? (i := 1) rfl)))
def wp_X8_append_15 (Q : Int32 → OV → Prop) (x1 s1 : Int32) (vMd : OV) : Prop :=
  (wp_X8_fails (fun (r_2 : Int32) (v_3 : OV) => ((r_2 = 0 → (vp_in (v_3.2 14) 60 ∧ ∀ v_5 : OV, v_5 = sA v_3 13 (v_3.2 14).toNatClampNeg x1 → (∀ v_7 : OV, v_7 = sI v_5 14 ((v_5.2 14) + (1 : Int32)) → (Q (v_7.2 14) v_7)))) ∧ (¬ (r_2 = 0) → (Q (0 : Int32) v_3)))) s1 vMd)
set_option maxRecDepth 20000 in
theorem lb_X8_append_15 {X : List Cond} {l : Launch} {D : va_G} {G : Nat → ClassId} {C : Cx} {bs0 : List va_W} {hMd : Nat} {qMd : Nat → Nat} {Q : Int32 → OV → Prop} (F : GF C X cX8_append wsX8_append RX8 rm_X8_append 2 (some .int) D G l) (E : GE C bs0 0 0 (po_X8_append G hMd qMd Q)) {x1 s1 : Int32} {vMd : OV} (hw : wp_X8_append_15 Q x1 s1 vMd) : GW C 0 0 [bMd G hMd qMd vMd] 15 [(0, .ref hMd), (1, .int x1)] [.int s1, .ref hMd] := by
  unfold wp_X8_append_15 at hw
  refine gw_callV F (ct_X8_fails hw) 1 gX8_append_X8_fails rfl rfl rfl hd_X8_fails ⟨(Nat.le_of_ble_eq_true rfl), (Nat.le_of_ble_eq_true rfl)⟩ rfl rfl (Nat.le_of_ble_eq_true rfl) ⟨Nat.zero_le _, Nat.zero_le _⟩ [0] (bsr := []) rfl rfl (q0 := 0) rfl rfl dX8_append_15 ?_
  rintro _ _ ⟨r_2, v_3, rfl, rfl, hw⟩
  refine gw_sel [0] (bs' := [bMd G hMd qMd v_3]) rfl rfl ?_
  change GW C 0 0 _ 18 _ [.int r_2]
  refine gw_if_eq (tgt := 23) F dX8_append_18 (by decide) (fun c_4 => ?_) (fun c_4 => ?_)
  · have hw := hw.1 c_4
    refine gw_aload_n F dX8_append_23 0 rfl ?_
    refine gw_get F in_X8_append_RX8 0 rfl rfl 13 (by decide) lk_X8_append_25 rfl dX8_append_24 ?_
    refine gw_aload_n F dX8_append_27 0 rfl ?_
    refine gw_get F in_X8_append_RX8 0 rfl rfl 14 (by decide) lk_X8_append_162 rfl dX8_append_28 ?_
    refine gw_iload_n F dX8_append_31 1 rfl ?_
    obtain ⟨h_6, hw⟩ := hw
    obtain ⟨v_5, e_v_5⟩ : ∃ z : OV, z = sA v_3 13 (v_3.2 14).toNatClampNeg x1 := ⟨_, rfl⟩
    have hw := hw v_5 e_v_5
    refine gw_iast (bs' := [bMd G hMd qMd v_5]) F 6 rfl h_6 dX8_append_32 (by rw [e_v_5]; rfl) ?_
    refine gw_aload_n F dX8_append_33 0 rfl ?_
    refine gw_dup F dX8_append_34 rfl ?_
    refine gw_get F in_X8_append_RX8 0 rfl rfl 14 (by decide) lk_X8_append_162 rfl dX8_append_35 ?_
    refine gw_iconst (v := (1 : Int32)) F dX8_append_38 ic_iconst_1 ?_
    refine gw_iadd F dX8_append_39 ?_
    obtain ⟨v_7, e_v_7⟩ : ∃ z : OV, z = sI v_5 14 ((v_5.2 14) + (1 : Int32)) := ⟨_, rfl⟩
    have hw := hw v_7 e_v_7
    refine gw_put (bs' := [bMd G hMd qMd v_7]) F in_X8_append_RX8 tyX8 tyX8_ok nmX8 0 rfl rfl 14 (by decide) lk_X8_append_162 rfl rfl rfl (Nat.le_of_ble_eq_true rfl) dX8_append_40 (by rw [e_v_7]; rfl) ?_
    refine gw_aload_n F dX8_append_43 0 rfl ?_
    refine gw_get F in_X8_append_RX8 0 rfl rfl 14 (by decide) lk_X8_append_162 rfl dX8_append_44 ?_
    exact gw_iret F E rfl rfl (Nat.le_of_ble_eq_true rfl) (Nat.le_of_ble_eq_true rfl) dX8_append_47 ⟨_, _, rfl, rfl, hw⟩
  · have hw := hw.2 c_4
    refine gw_iconst (v := (0 : Int32)) F dX8_append_21 ic_iconst_0 ?_
    exact gw_iret F E rfl rfl (Nat.le_of_ble_eq_true rfl) (Nat.le_of_ble_eq_true rfl) dX8_append_22 ⟨_, _, rfl, rfl, hw⟩
def wp_X8_append_0 (Q : Int32 → OV → Prop) (x1 : Int32) (vMd : OV) : Prop :=
  ((¬ (vMd.2 14) = (60 : Int32) → (wp_X8_append_15 Q x1 (0 : Int32) vMd)) ∧ ((vMd.2 14) = (60 : Int32) → (wp_X8_append_15 Q x1 (1 : Int32) vMd)))
set_option maxRecDepth 20000 in
theorem lb_X8_append_0 {X : List Cond} {l : Launch} {D : va_G} {G : Nat → ClassId} {C : Cx} {bs0 : List va_W} {hMd : Nat} {qMd : Nat → Nat} {Q : Int32 → OV → Prop} (F : GF C X cX8_append wsX8_append RX8 rm_X8_append 2 (some .int) D G l) (E : GE C bs0 0 0 (po_X8_append G hMd qMd Q)) {x1 : Int32} {vMd : OV} (hw : wp_X8_append_0 Q x1 vMd) : GW C 0 0 [bMd G hMd qMd vMd] 0 [(0, .ref hMd), (1, .int x1)] [] := by
  unfold wp_X8_append_0 at hw
  refine gw_aload_n F dX8_append_0 0 rfl ?_
  refine gw_aload_n F dX8_append_1 0 rfl ?_
  refine gw_get F in_X8_append_RX8 0 rfl rfl 14 (by decide) lk_X8_append_162 rfl dX8_append_2 ?_
  refine gw_bipush (v := (60 : Int32)) F dX8_append_5 ic_bipush_60 ?_
  refine gw_icmp_ne (tgt := 14) F dX8_append_7 (by decide) (fun c_1 => ?_) (fun c_1 => ?_)
  · have hw := hw.1 c_1
    refine gw_iconst (v := (0 : Int32)) F dX8_append_14 ic_iconst_0 ?_
    exact lb_X8_append_15 F E hw
  · have hw := hw.2 c_1
    refine gw_iconst (v := (1 : Int32)) F dX8_append_10 ic_iconst_1 ?_
    refine gw_goto (tgt := 15) F dX8_append_11 (by decide) ?_
    exact lb_X8_append_15 F E hw
def wp_X8_append (Q : Int32 → OV → Prop) (x1 : Int32) (vMd : OV) : Prop := wp_X8_append_0 Q x1 vMd
theorem ct_X8_append {X : List Cond} {l : Launch} {D : va_G} {G : Nat → ClassId} {hMd : Nat} {qMd : Nat → Nat} {Q : Int32 → OV → Prop} {x1 : Int32} {vMd : OV} (hw : wp_X8_append Q x1 vMd) : CM X l yX8_append wsX8_append rm_X8_append D G [.ref hMd, .int x1] [bMd G hMd qMd vMd] 0 0 (po_X8_append G hMd qMd Q) :=
  CM.of pn_RX8 rfl rfl (Nat.le_of_ble_eq_true rfl) rfl (fun C F E => lb_X8_append_0 F E hw)
-- X8_here
abbrev rm_X8_here : Room := { frames := 1, cells := 0, slots := 0, locals := 60 }
def po_X8_here (G : Nat → ClassId) (hMd : Nat) (qMd : Nat → Nat) (vMd : OV) (Q : Int32 → Prop) : Option Value → List va_W → Prop := fun o bs => ∃ (r : Int32), o = some (.int r) ∧ bs = [bMd G hMd qMd vMd] ∧ Q r
theorem hd_X8_here : yX8_here.cls = RX8 ∧ yX8_here.cls ≠ "java/lang/invoke/MethodHandle" ∧ yX8_here.cls ≠ "java/lang/invoke/VarHandle" ∧ (parseMethodDescriptor yX8_here.desc).map (fun d => d.parameters.length) = some 0 := by decide +kernel
theorem in_X8_here_RX8 : ∀ w ∈ wsX80, w ∈ wsX8_here := fun w h => List.mem_cons_of_mem _ (List.mem_append_left _ (List.mem_append_right _ h))
theorem lk_X8_here_165 : Cond.fieldLink RX8 165 "KeyWavesModel" "at" "I" ∈ wsX8_here := List.mem_cons_of_mem _ (List.mem_append_left _ (List.mem_append_left _ (List.mem_of_getElem? (i := 0) rfl)))
theorem lk_X8_here_162 : Cond.fieldLink RX8 162 "KeyWavesModel" "length" "I" ∈ wsX8_here := List.mem_cons_of_mem _ (List.mem_append_left _ (List.mem_append_left _ (List.mem_of_getElem? (i := 1) rfl)))
theorem lk_X8_here_25 : Cond.fieldLink RX8 25 "KeyWavesModel" "input" "[I" ∈ wsX8_here := List.mem_cons_of_mem _ (List.mem_append_left _ (List.mem_append_left _ (List.mem_of_getElem? (i := 2) rfl)))
def wp_X8_here_24 (Q : Int32 → Prop) (vMd : OV) (s0 : Int32) : Prop :=
  (Q s0)
set_option maxRecDepth 20000 in
theorem lb_X8_here_24 {X : List Cond} {l : Launch} {D : va_G} {G : Nat → ClassId} {C : Cx} {bs0 : List va_W} {hMd : Nat} {qMd : Nat → Nat} {Q : Int32 → Prop} {vMd : OV} (F : GF C X cX8_here wsX8_here RX8 rm_X8_here 1 (some .int) D G l) (E : GE C bs0 0 0 (po_X8_here G hMd qMd vMd Q)) {s0 : Int32} (hw : wp_X8_here_24 Q vMd s0) : GW C 0 0 [bMd G hMd qMd vMd] 24 [] [.int s0] := by
  unfold wp_X8_here_24 at hw
  exact gw_iret F E rfl rfl (Nat.le_of_ble_eq_true rfl) (Nat.le_of_ble_eq_true rfl) dX8_here_24 ⟨_, rfl, rfl, hw⟩
def wp_X8_here_0 (Q : Int32 → Prop) (vMd : OV) : Prop :=
  (((vMd.2 14) ≤ (vMd.2 21) → (wp_X8_here_24 Q vMd (-1 : Int32))) ∧ (¬ ((vMd.2 14) ≤ (vMd.2 21)) → (vp_in (vMd.2 21) 60 ∧ (wp_X8_here_24 Q vMd (vMd.1 13 (vMd.2 21).toNatClampNeg)))))
set_option maxRecDepth 20000 in
theorem lb_X8_here_0 {X : List Cond} {l : Launch} {D : va_G} {G : Nat → ClassId} {C : Cx} {bs0 : List va_W} {hMd : Nat} {qMd : Nat → Nat} {Q : Int32 → Prop} {vMd : OV} (F : GF C X cX8_here wsX8_here RX8 rm_X8_here 1 (some .int) D G l) (E : GE C bs0 0 0 (po_X8_here G hMd qMd vMd Q)) (hw : wp_X8_here_0 Q vMd ) : GW C 0 0 [bMd G hMd qMd vMd] 0 [(0, .ref hMd)] [] := by
  unfold wp_X8_here_0 at hw
  refine gw_aload_n F dX8_here_0 0 rfl ?_
  refine gw_get F in_X8_here_RX8 0 rfl rfl 21 (by decide) lk_X8_here_165 rfl dX8_here_1 ?_
  refine gw_aload_n F dX8_here_4 0 rfl ?_
  refine gw_get F in_X8_here_RX8 0 rfl rfl 14 (by decide) lk_X8_here_162 rfl dX8_here_5 ?_
  refine gw_icmp_ge (tgt := 23) F dX8_here_8 (by decide) (fun c_1 => ?_) (fun c_1 => ?_)
  · have hw := hw.1 c_1
    refine gw_iconst (v := (-1 : Int32)) F dX8_here_23 ic_iconst_m1 ?_
    refine gw_lv [] rfl ?_
    exact lb_X8_here_24 F E hw
  · have hw := hw.2 c_1
    refine gw_aload_n F dX8_here_11 0 rfl ?_
    refine gw_get F in_X8_here_RX8 0 rfl rfl 13 (by decide) lk_X8_here_25 rfl dX8_here_12 ?_
    refine gw_aload_n F dX8_here_15 0 rfl ?_
    refine gw_get F in_X8_here_RX8 0 rfl rfl 21 (by decide) lk_X8_here_165 rfl dX8_here_16 ?_
    obtain ⟨h_2, hw⟩ := hw
    refine gw_iald F 6 rfl h_2 dX8_here_19 ?_
    refine gw_goto (tgt := 24) F dX8_here_20 (by decide) ?_
    refine gw_lv [] rfl ?_
    exact lb_X8_here_24 F E hw
def wp_X8_here (Q : Int32 → Prop) (vMd : OV) : Prop := wp_X8_here_0 Q vMd
theorem ct_X8_here {X : List Cond} {l : Launch} {D : va_G} {G : Nat → ClassId} {hMd : Nat} {qMd : Nat → Nat} {Q : Int32 → Prop} {vMd : OV} (hw : wp_X8_here Q vMd) : CM X l yX8_here wsX8_here rm_X8_here D G [.ref hMd] [bMd G hMd qMd vMd] 0 0 (po_X8_here G hMd qMd vMd Q) :=
  CM.of pn_RX8 rfl rfl (Nat.le_of_ble_eq_true rfl) rfl (fun C F E => lb_X8_here_0 F E hw)
-- X8_skips
abbrev rm_X8_skips : Room := { frames := 2, cells := 0, slots := 0, locals := 80 }
def po_X8_skips (G : Nat → ClassId) (hMd : Nat) (qMd : Nat → Nat) (Q : Int32 → OV → Prop) : Option Value → List va_W → Prop := fun o bs => ∃ (r : Int32) (vMd : OV), o = some (.int r) ∧ bs = [bMd G hMd qMd vMd] ∧ Q r vMd
theorem hd_X8_skips : yX8_skips.cls = RX8 ∧ yX8_skips.cls ≠ "java/lang/invoke/MethodHandle" ∧ yX8_skips.cls ≠ "java/lang/invoke/VarHandle" ∧ (parseMethodDescriptor yX8_skips.desc).map (fun d => d.parameters.length) = some 1 := by decide +kernel
theorem in_X8_skips_RX8 : ∀ w ∈ wsX80, w ∈ wsX8_skips := fun w h => List.mem_cons_of_mem _ (List.mem_append_left _ (List.mem_append_right _ h))
theorem lk_X8_skips_165 : Cond.fieldLink RX8 165 "KeyWavesModel" "at" "I" ∈ wsX8_skips := List.mem_cons_of_mem _ (List.mem_append_left _ (List.mem_append_left _ (List.mem_of_getElem? (i := 0) rfl)))
def wp_X8_skips_0 (Q : Int32 → OV → Prop) (x1 : Int32) (vMd : OV) : Prop :=
  (wp_X8_here (fun (r_1 : Int32) => ((r_1 = x1 → (∀ v_3 : OV, v_3 = sI vMd 21 ((vMd.2 21) + (1 : Int32)) → (Q (1 : Int32) v_3))) ∧ (¬ (r_1 = x1) → (Q (0 : Int32) vMd)))) vMd)
set_option maxRecDepth 20000 in
theorem lb_X8_skips_0 {X : List Cond} {l : Launch} {D : va_G} {G : Nat → ClassId} {C : Cx} {bs0 : List va_W} {hMd : Nat} {qMd : Nat → Nat} {Q : Int32 → OV → Prop} (F : GF C X cX8_skips wsX8_skips RX8 rm_X8_skips 2 (some .boolean) D G l) (E : GE C bs0 0 0 (po_X8_skips G hMd qMd Q)) {x1 : Int32} {vMd : OV} (hw : wp_X8_skips_0 Q x1 vMd) : GW C 0 0 [bMd G hMd qMd vMd] 0 [(0, .ref hMd), (1, .int x1)] [] := by
  unfold wp_X8_skips_0 at hw
  refine gw_aload_n F dX8_skips_0 0 rfl ?_
  refine gw_callV F (ct_X8_here hw) 0 gX8_skips_X8_here rfl rfl rfl hd_X8_here ⟨(Nat.le_of_ble_eq_true rfl), (Nat.le_of_ble_eq_true rfl)⟩ rfl rfl (Nat.le_of_ble_eq_true rfl) ⟨Nat.zero_le _, Nat.zero_le _⟩ [0] (bsr := []) rfl rfl (q0 := 0) rfl rfl dX8_skips_1 ?_
  rintro _ _ ⟨r_1, rfl, rfl, hw⟩
  refine gw_sel [0] (bs' := [bMd G hMd qMd vMd]) rfl rfl ?_
  change GW C 0 0 _ 4 _ [.int r_1]
  refine gw_iload_n F dX8_skips_4 1 rfl ?_
  refine gw_icmp_eq (tgt := 10) F dX8_skips_5 (by decide) (fun c_2 => ?_) (fun c_2 => ?_)
  · have hw := hw.1 c_2
    refine gw_aload_n F dX8_skips_10 0 rfl ?_
    refine gw_dup F dX8_skips_11 rfl ?_
    refine gw_get F in_X8_skips_RX8 0 rfl rfl 21 (by decide) lk_X8_skips_165 rfl dX8_skips_12 ?_
    refine gw_iconst (v := (1 : Int32)) F dX8_skips_15 ic_iconst_1 ?_
    refine gw_iadd F dX8_skips_16 ?_
    obtain ⟨v_3, e_v_3⟩ : ∃ z : OV, z = sI vMd 21 ((vMd.2 21) + (1 : Int32)) := ⟨_, rfl⟩
    have hw := hw v_3 e_v_3
    refine gw_put (bs' := [bMd G hMd qMd v_3]) F in_X8_skips_RX8 tyX8 tyX8_ok nmX8 0 rfl rfl 21 (by decide) lk_X8_skips_165 rfl rfl rfl (Nat.le_of_ble_eq_true rfl) dX8_skips_17 (by rw [e_v_3]; rfl) ?_
    refine gw_iconst (v := (1 : Int32)) F dX8_skips_20 ic_iconst_1 ?_
    exact gw_iret F E rfl rfl (Nat.le_of_ble_eq_true rfl) (Nat.le_of_ble_eq_true rfl) dX8_skips_21 ⟨_, _, rfl, rfl, hw⟩
  · have hw := hw.2 c_2
    refine gw_iconst (v := (0 : Int32)) F dX8_skips_8 ic_iconst_0 ?_
    exact gw_iret F E rfl rfl (Nat.le_of_ble_eq_true rfl) (Nat.le_of_ble_eq_true rfl) dX8_skips_9 ⟨_, _, rfl, rfl, hw⟩
def wp_X8_skips (Q : Int32 → OV → Prop) (x1 : Int32) (vMd : OV) : Prop := wp_X8_skips_0 Q x1 vMd
theorem ct_X8_skips {X : List Cond} {l : Launch} {D : va_G} {G : Nat → ClassId} {hMd : Nat} {qMd : Nat → Nat} {Q : Int32 → OV → Prop} {x1 : Int32} {vMd : OV} (hw : wp_X8_skips Q x1 vMd) : CM X l yX8_skips wsX8_skips rm_X8_skips D G [.ref hMd, .int x1] [bMd G hMd qMd vMd] 0 0 (po_X8_skips G hMd qMd Q) :=
  CM.of pn_RX8 rfl rfl (Nat.le_of_ble_eq_true rfl) rfl (fun C F E => lb_X8_skips_0 F E hw)
-- X8_figures
abbrev rm_X8_figures : Room := { frames := 2, cells := 0, slots := 0, locals := 82 }
def po_X8_figures (G : Nat → ClassId) (hMd : Nat) (qMd : Nat → Nat) (Q : Int32 → OV → Prop) : Option Value → List va_W → Prop := fun o bs => ∃ (r : Int32) (vMd : OV), o = some (.int r) ∧ bs = [bMd G hMd qMd vMd] ∧ Q r vMd
theorem hd_X8_figures : yX8_figures.cls = RX8 ∧ yX8_figures.cls ≠ "java/lang/invoke/MethodHandle" ∧ yX8_figures.cls ≠ "java/lang/invoke/VarHandle" ∧ (parseMethodDescriptor yX8_figures.desc).map (fun d => d.parameters.length) = some 2 := by decide +kernel
theorem in_X8_figures_RX8 : ∀ w ∈ wsX80, w ∈ wsX8_figures := fun w h => List.mem_cons_of_mem _ (List.mem_append_left _ (List.mem_append_right _ h))
theorem lk_X8_figures_43 : Cond.fieldLink RX8 43 "KeyWavesModel" "told" "[I" ∈ wsX8_figures := List.mem_cons_of_mem _ (List.mem_append_left _ (List.mem_append_left _ (List.mem_of_getElem? (i := 0) rfl)))
theorem lk_X8_figures_165 : Cond.fieldLink RX8 165 "KeyWavesModel" "at" "I" ∈ wsX8_figures := List.mem_cons_of_mem _ (List.mem_append_left _ (List.mem_append_left _ (List.mem_of_getElem? (i := 1) rfl)))
def wp_X8_figures_83 (Q : Int32 → OV → Prop) (vMd : OV) : Prop :=
  (Q (1 : Int32) vMd)
set_option maxRecDepth 20000 in
theorem lb_X8_figures_83 {X : List Cond} {l : Launch} {D : va_G} {G : Nat → ClassId} {C : Cx} {bs0 : List va_W} {hMd : Nat} {qMd : Nat → Nat} {Q : Int32 → OV → Prop} (F : GF C X cX8_figures wsX8_figures RX8 rm_X8_figures 4 (some .boolean) D G l) (E : GE C bs0 0 0 (po_X8_figures G hMd qMd Q)) {vMd : OV} (hw : wp_X8_figures_83 Q vMd) : GW C 0 0 [bMd G hMd qMd vMd] 83 [] [] := by
  unfold wp_X8_figures_83 at hw
  refine gw_iconst (v := (1 : Int32)) F dX8_figures_83 ic_iconst_1 ?_
  exact gw_iret F E rfl rfl (Nat.le_of_ble_eq_true rfl) (Nat.le_of_ble_eq_true rfl) dX8_figures_84 ⟨_, _, rfl, rfl, hw⟩
def wp_X8_figures_25 (Q : Int32 → OV → Prop) (K25 : Int32 → Int32 → Int32 → OV → Prop) (x1 x2 x3 : Int32) (vMd : OV) : Prop :=
  ((x2 ≤ x3 → (wp_X8_figures_83 Q vMd)) ∧ (¬ (x2 ≤ x3) → (wp_X8_here (fun (r_7 : Int32) => (wp_X8_in (fun (r_8 : Int32) => ((r_8 = 0 → (wp_X8_figures_83 Q vMd)) ∧ (¬ (r_8 = 0) → (vp_in x1 124 ∧ (wp_X8_here (fun (r_11 : Int32) => (vp_in x1 124 ∧ ∀ v_12 : OV, v_12 = sA vMd 22 x1.toNatClampNeg ((((10 : Int32) * (vMd.1 22 x1.toNatClampNeg)) + r_11) - (48 : Int32)) → (∀ v_14 : OV, v_14 = sI v_12 21 ((v_12.2 21) + (1 : Int32)) → (∀ i_15 : Int32, i_15 = x3 + (1 : Int32) → (K25 x1 x2 i_15 v_14))))) vMd))))) r_7 (48 : Int32) (57 : Int32))) vMd)))
set_option maxRecDepth 20000 in
theorem lb_X8_figures_25 {X : List Cond} {l : Launch} {D : va_G} {G : Nat → ClassId} {C : Cx} {bs0 : List va_W} {hMd : Nat} {qMd : Nat → Nat} {Q : Int32 → OV → Prop} {K25 : Int32 → Int32 → Int32 → OV → Prop} (F : GF C X cX8_figures wsX8_figures RX8 rm_X8_figures 4 (some .boolean) D G l) (E : GE C bs0 0 0 (po_X8_figures G hMd qMd Q)) (hK25 : ∀ (x1 x2 x3 : Int32) (vMd : OV), K25 x1 x2 x3 vMd → GW C 0 0 [bMd G hMd qMd vMd] 25 [(0, .ref hMd), (1, .int x1), (2, .int x2), (3, .int x3)] []) {x1 x2 x3 : Int32} {vMd : OV} (hw : wp_X8_figures_25 Q K25 x1 x2 x3 vMd) : GW C 0 0 [bMd G hMd qMd vMd] 25 [(0, .ref hMd), (1, .int x1), (2, .int x2), (3, .int x3)] [] := by
  unfold wp_X8_figures_25 at hw
  refine gw_iload_n F dX8_figures_25 3 rfl ?_
  refine gw_iload_n F dX8_figures_26 2 rfl ?_
  refine gw_icmp_ge (tgt := 83) F dX8_figures_27 (by decide) (fun c_6 => ?_) (fun c_6 => ?_)
  · have hw := hw.1 c_6
    refine gw_lv [] rfl ?_
    exact lb_X8_figures_83 F E hw
  · have hw := hw.2 c_6
    refine gw_aload_n F dX8_figures_30 0 rfl ?_
    refine gw_callV F (ct_X8_here hw) 0 gX8_figures_X8_here rfl rfl rfl hd_X8_here ⟨(Nat.le_of_ble_eq_true rfl), (Nat.le_of_ble_eq_true rfl)⟩ rfl rfl (Nat.le_of_ble_eq_true rfl) ⟨Nat.zero_le _, Nat.zero_le _⟩ [0] (bsr := []) rfl rfl (q0 := 0) rfl rfl dX8_figures_31 ?_
    rintro _ _ ⟨r_7, rfl, rfl, hw⟩
    refine gw_sel [0] (bs' := [bMd G hMd qMd vMd]) rfl rfl ?_
    change GW C 0 0 _ 34 _ [.int r_7]
    refine gw_bipush (v := (48 : Int32)) F dX8_figures_34 ic_bipush_48 ?_
    refine gw_bipush (v := (57 : Int32)) F dX8_figures_36 ic_bipush_57 ?_
    refine gw_callS F (ct_X8_in hw) 3 gX8_figures_X8_in rfl rfl rfl hd_X8_in ⟨(Nat.le_of_ble_eq_true rfl), (Nat.le_of_ble_eq_true rfl)⟩ rfl rfl (Nat.le_of_ble_eq_true rfl) ⟨Nat.zero_le _, Nat.zero_le _⟩ [0] (bsr := [bMd G hMd qMd vMd]) rfl rfl dX8_figures_38 ?_
    rintro _ _ ⟨r_8, rfl, rfl, hw⟩
    refine gw_sel [0] (bs' := [bMd G hMd qMd vMd]) rfl rfl ?_
    change GW C 0 0 _ 41 _ [.int r_8]
    refine gw_if_eq (tgt := 83) F dX8_figures_41 (by decide) (fun c_9 => ?_) (fun c_9 => ?_)
    · have hw := hw.1 c_9
      refine gw_lv [] rfl ?_
      exact lb_X8_figures_83 F E hw
    · have hw := hw.2 c_9
      refine gw_aload_n F dX8_figures_44 0 rfl ?_
      refine gw_get F in_X8_figures_RX8 0 rfl rfl 22 (by decide) lk_X8_figures_43 rfl dX8_figures_45 ?_
      refine gw_iload_n F dX8_figures_48 1 rfl ?_
      refine gw_bipush (v := (10 : Int32)) F dX8_figures_49 ic_bipush_10 ?_
      refine gw_aload_n F dX8_figures_51 0 rfl ?_
      refine gw_get F in_X8_figures_RX8 0 rfl rfl 22 (by decide) lk_X8_figures_43 rfl dX8_figures_52 ?_
      refine gw_iload_n F dX8_figures_55 1 rfl ?_
      obtain ⟨h_10, hw⟩ := hw
      refine gw_iald F 10 rfl h_10 dX8_figures_56 ?_
      refine gw_imul F dX8_figures_57 ?_
      refine gw_aload_n F dX8_figures_58 0 rfl ?_
      refine gw_callV F (ct_X8_here hw) 0 gX8_figures_X8_here rfl rfl rfl hd_X8_here ⟨(Nat.le_of_ble_eq_true rfl), (Nat.le_of_ble_eq_true rfl)⟩ rfl rfl (Nat.le_of_ble_eq_true rfl) ⟨Nat.zero_le _, Nat.zero_le _⟩ [0] (bsr := []) rfl rfl (q0 := 0) rfl rfl dX8_figures_59 ?_
      rintro _ _ ⟨r_11, rfl, rfl, hw⟩
      refine gw_sel [0] (bs' := [bMd G hMd qMd vMd]) rfl rfl ?_
      change GW C 0 0 _ 62 _ [.int r_11, .int ((10 : Int32) * (vMd.1 22 x1.toNatClampNeg)), .int x1, .ref (qMd 22)]
      refine gw_iadd F dX8_figures_62 ?_
      refine gw_bipush (v := (48 : Int32)) F dX8_figures_63 ic_bipush_48 ?_
      refine gw_isub F dX8_figures_65 ?_
      obtain ⟨h_13, hw⟩ := hw
      obtain ⟨v_12, e_v_12⟩ : ∃ z : OV, z = sA vMd 22 x1.toNatClampNeg ((((10 : Int32) * (vMd.1 22 x1.toNatClampNeg)) + r_11) - (48 : Int32)) := ⟨_, rfl⟩
      have hw := hw v_12 e_v_12
      refine gw_iast (bs' := [bMd G hMd qMd v_12]) F 10 rfl h_13 dX8_figures_66 (by rw [e_v_12]; rfl) ?_
      refine gw_aload_n F dX8_figures_67 0 rfl ?_
      refine gw_dup F dX8_figures_68 rfl ?_
      refine gw_get F in_X8_figures_RX8 0 rfl rfl 21 (by decide) lk_X8_figures_165 rfl dX8_figures_69 ?_
      refine gw_iconst (v := (1 : Int32)) F dX8_figures_72 ic_iconst_1 ?_
      refine gw_iadd F dX8_figures_73 ?_
      obtain ⟨v_14, e_v_14⟩ : ∃ z : OV, z = sI v_12 21 ((v_12.2 21) + (1 : Int32)) := ⟨_, rfl⟩
      have hw := hw v_14 e_v_14
      refine gw_put (bs' := [bMd G hMd qMd v_14]) F in_X8_figures_RX8 tyX8 tyX8_ok nmX8 0 rfl rfl 21 (by decide) lk_X8_figures_165 rfl rfl rfl (Nat.le_of_ble_eq_true rfl) dX8_figures_74 (by rw [e_v_14]; rfl) ?_
      obtain ⟨i_15, e_i_15⟩ : ∃ z : Int32, z = x3 + (1 : Int32) := ⟨_, rfl⟩
      have hw := hw i_15 e_i_15
      refine gw_iinc (v := i_15) (lv' := [(3, .int i_15), (0, .ref hMd), (1, .int x1), (2, .int x2)]) F dX8_figures_77 3 rfl (by rw [e_i_15]; rfl) (by decide) rfl ?_
      refine gw_goto (tgt := 25) F dX8_figures_80 (by decide) ?_
      refine gw_lv [1, 2, 3, 0] rfl ?_
      exact hK25 _ _ _ _ hw
def wp_X8_figures_25_loop (Q : Int32 → OV → Prop) : Nat → Int32 → Int32 → Int32 → OV → Prop
  | 0, _, _, _, _ => False
  | n + 1, x1, x2, x3, vMd => wp_X8_figures_25 Q (wp_X8_figures_25_loop Q n) x1 x2 x3 vMd
theorem lp_X8_figures_25 {X : List Cond} {l : Launch} {D : va_G} {G : Nat → ClassId} {C : Cx} {bs0 : List va_W} {hMd : Nat} {qMd : Nat → Nat} {Q : Int32 → OV → Prop} (F : GF C X cX8_figures wsX8_figures RX8 rm_X8_figures 4 (some .boolean) D G l) (E : GE C bs0 0 0 (po_X8_figures G hMd qMd Q)) : ∀ (n : Nat) (x1 x2 x3 : Int32) (vMd : OV), wp_X8_figures_25_loop Q n x1 x2 x3 vMd → GW C 0 0 [bMd G hMd qMd vMd] 25 [(0, .ref hMd), (1, .int x1), (2, .int x2), (3, .int x3)] [] := by
  intro n
  induction n with
  | zero => intro x1 x2 x3 vMd hw; exact False.elim hw
  | succ n ih => intro x1 x2 x3 vMd hw; exact lb_X8_figures_25 (K25 := wp_X8_figures_25_loop Q n) F E ih hw
def wp_X8_figures_0 (Q : Int32 → OV → Prop) (x1 : Int32) (x2 : Int32) (vMd : OV) : Prop :=
  (wp_X8_here (fun (r_1 : Int32) => (wp_X8_in (fun (r_2 : Int32) => ((¬ r_2 = 0 → (vp_in x1 124 ∧ ∀ v_4 : OV, v_4 = sA vMd 22 x1.toNatClampNeg (0 : Int32) → (∃ n_16 : Nat, wp_X8_figures_25_loop Q n_16 x1 x2 (0 : Int32) v_4))) ∧ (r_2 = 0 → (Q (0 : Int32) vMd)))) r_1 (48 : Int32) (57 : Int32))) vMd)
set_option maxRecDepth 20000 in
theorem lb_X8_figures_0 {X : List Cond} {l : Launch} {D : va_G} {G : Nat → ClassId} {C : Cx} {bs0 : List va_W} {hMd : Nat} {qMd : Nat → Nat} {Q : Int32 → OV → Prop} (F : GF C X cX8_figures wsX8_figures RX8 rm_X8_figures 4 (some .boolean) D G l) (E : GE C bs0 0 0 (po_X8_figures G hMd qMd Q)) {x1 : Int32} {x2 : Int32} {vMd : OV} (hw : wp_X8_figures_0 Q x1 x2 vMd) : GW C 0 0 [bMd G hMd qMd vMd] 0 [(0, .ref hMd), (1, .int x1), (2, .int x2)] [] := by
  unfold wp_X8_figures_0 at hw
  refine gw_aload_n F dX8_figures_0 0 rfl ?_
  refine gw_callV F (ct_X8_here hw) 0 gX8_figures_X8_here rfl rfl rfl hd_X8_here ⟨(Nat.le_of_ble_eq_true rfl), (Nat.le_of_ble_eq_true rfl)⟩ rfl rfl (Nat.le_of_ble_eq_true rfl) ⟨Nat.zero_le _, Nat.zero_le _⟩ [0] (bsr := []) rfl rfl (q0 := 0) rfl rfl dX8_figures_1 ?_
  rintro _ _ ⟨r_1, rfl, rfl, hw⟩
  refine gw_sel [0] (bs' := [bMd G hMd qMd vMd]) rfl rfl ?_
  change GW C 0 0 _ 4 _ [.int r_1]
  refine gw_bipush (v := (48 : Int32)) F dX8_figures_4 ic_bipush_48 ?_
  refine gw_bipush (v := (57 : Int32)) F dX8_figures_6 ic_bipush_57 ?_
  refine gw_callS F (ct_X8_in hw) 3 gX8_figures_X8_in rfl rfl rfl hd_X8_in ⟨(Nat.le_of_ble_eq_true rfl), (Nat.le_of_ble_eq_true rfl)⟩ rfl rfl (Nat.le_of_ble_eq_true rfl) ⟨Nat.zero_le _, Nat.zero_le _⟩ [0] (bsr := [bMd G hMd qMd vMd]) rfl rfl dX8_figures_8 ?_
  rintro _ _ ⟨r_2, rfl, rfl, hw⟩
  refine gw_sel [0] (bs' := [bMd G hMd qMd vMd]) rfl rfl ?_
  change GW C 0 0 _ 11 _ [.int r_2]
  refine gw_if_ne (tgt := 16) F dX8_figures_11 (by decide) (fun c_3 => ?_) (fun c_3 => ?_)
  · have hw := hw.1 c_3
    refine gw_aload_n F dX8_figures_16 0 rfl ?_
    refine gw_get F in_X8_figures_RX8 0 rfl rfl 22 (by decide) lk_X8_figures_43 rfl dX8_figures_17 ?_
    refine gw_iload_n F dX8_figures_20 1 rfl ?_
    refine gw_iconst (v := (0 : Int32)) F dX8_figures_21 ic_iconst_0 ?_
    obtain ⟨h_5, hw⟩ := hw
    obtain ⟨v_4, e_v_4⟩ : ∃ z : OV, z = sA vMd 22 x1.toNatClampNeg (0 : Int32) := ⟨_, rfl⟩
    have hw := hw v_4 e_v_4
    refine gw_iast (bs' := [bMd G hMd qMd v_4]) F 10 rfl h_5 dX8_figures_22 (by rw [e_v_4]; rfl) ?_
    refine gw_iconst (v := (0 : Int32)) F dX8_figures_23 ic_iconst_0 ?_
    refine gw_istore_n (lv' := [(3, .int (0 : Int32)), (0, .ref hMd), (1, .int x1), (2, .int x2)]) F dX8_figures_24 (by decide) rfl ?_
    refine gw_lv [1, 2, 3, 0] rfl ?_
    obtain ⟨n_16, hw⟩ := hw
    exact lp_X8_figures_25 F E n_16 _ _ _ _ hw
  · have hw := hw.2 c_3
    refine gw_iconst (v := (0 : Int32)) F dX8_figures_14 ic_iconst_0 ?_
    exact gw_iret F E rfl rfl (Nat.le_of_ble_eq_true rfl) (Nat.le_of_ble_eq_true rfl) dX8_figures_15 ⟨_, _, rfl, rfl, hw⟩
def wp_X8_figures (Q : Int32 → OV → Prop) (x1 : Int32) (x2 : Int32) (vMd : OV) : Prop := wp_X8_figures_0 Q x1 x2 vMd
theorem ct_X8_figures {X : List Cond} {l : Launch} {D : va_G} {G : Nat → ClassId} {hMd : Nat} {qMd : Nat → Nat} {Q : Int32 → OV → Prop} {x1 : Int32} {x2 : Int32} {vMd : OV} (hw : wp_X8_figures Q x1 x2 vMd) : CM X l yX8_figures wsX8_figures rm_X8_figures D G [.ref hMd, .int x1, .int x2] [bMd G hMd qMd vMd] 0 0 (po_X8_figures G hMd qMd Q) :=
  CM.of pn_RX8 rfl rfl (Nat.le_of_ble_eq_true rfl) rfl (fun C F E => lb_X8_figures_0 F E hw)
-- X8_commandHere
abbrev rm_X8_commandHere : Room := { frames := 3, cells := 0, slots := 0, locals := 105 }
def po_X8_commandHere (G : Nat → ClassId) (hMd : Nat) (qMd : Nat → Nat) (Q : Int32 → OV → Prop) : Option Value → List va_W → Prop := fun o bs => ∃ (r : Int32) (vMd : OV), o = some (.int r) ∧ bs = [bMd G hMd qMd vMd] ∧ Q r vMd
theorem hd_X8_commandHere : yX8_commandHere.cls = RX8 ∧ yX8_commandHere.cls ≠ "java/lang/invoke/MethodHandle" ∧ yX8_commandHere.cls ≠ "java/lang/invoke/VarHandle" ∧ (parseMethodDescriptor yX8_commandHere.desc).map (fun d => d.parameters.length) = some 0 := by decide +kernel
theorem in_X8_commandHere_RX8 : ∀ w ∈ wsX80, w ∈ wsX8_commandHere := fun w h => List.mem_cons_of_mem _ (List.mem_append_left _ (List.mem_append_right _ h))
theorem lk_X8_commandHere_171 : Cond.fieldLink RX8 171 "KeyWavesModel" "toldMany" "I" ∈ wsX8_commandHere := List.mem_cons_of_mem _ (List.mem_append_left _ (List.mem_append_left _ (List.mem_of_getElem? (i := 0) rfl)))
theorem lk_X8_commandHere_43 : Cond.fieldLink RX8 43 "KeyWavesModel" "told" "[I" ∈ wsX8_commandHere := List.mem_cons_of_mem _ (List.mem_append_left _ (List.mem_append_left _ (List.mem_of_getElem? (i := 1) rfl)))
def wp_X8_commandHere_192 (Q : Int32 → OV → Prop) (s0 : Int32) (vMd : OV) : Prop :=
  (narrow .boolean (.int s0) = .int s0 ∧ Q s0 vMd)
set_option maxRecDepth 20000 in
theorem lb_X8_commandHere_192 {X : List Cond} {l : Launch} {D : va_G} {G : Nat → ClassId} {C : Cx} {bs0 : List va_W} {hMd : Nat} {qMd : Nat → Nat} {Q : Int32 → OV → Prop} (F : GF C X cX8_commandHere wsX8_commandHere RX8 rm_X8_commandHere 2 (some .boolean) D G l) (E : GE C bs0 0 0 (po_X8_commandHere G hMd qMd Q)) {s0 : Int32} {vMd : OV} (hw : wp_X8_commandHere_192 Q s0 vMd) : GW C 0 0 [bMd G hMd qMd vMd] 192 [] [.int s0] := by
  unfold wp_X8_commandHere_192 at hw
  obtain ⟨hn, hw⟩ := hw
  exact gw_iret F E rfl hn (Nat.le_of_ble_eq_true rfl) (Nat.le_of_ble_eq_true rfl) dX8_commandHere_192 ⟨_, _, rfl, rfl, hw⟩
def wp_X8_commandHere_191 (Q : Int32 → OV → Prop) (vMd : OV) : Prop :=
  (wp_X8_commandHere_192 Q (0 : Int32) vMd)
set_option maxRecDepth 20000 in
theorem lb_X8_commandHere_191 {X : List Cond} {l : Launch} {D : va_G} {G : Nat → ClassId} {C : Cx} {bs0 : List va_W} {hMd : Nat} {qMd : Nat → Nat} {Q : Int32 → OV → Prop} (F : GF C X cX8_commandHere wsX8_commandHere RX8 rm_X8_commandHere 2 (some .boolean) D G l) (E : GE C bs0 0 0 (po_X8_commandHere G hMd qMd Q)) {vMd : OV} (hw : wp_X8_commandHere_191 Q vMd) : GW C 0 0 [bMd G hMd qMd vMd] 191 [] [] := by
  unfold wp_X8_commandHere_191 at hw
  refine gw_iconst (v := (0 : Int32)) F dX8_commandHere_191 ic_iconst_0 ?_
  exact lb_X8_commandHere_192 F E hw
def wp_X8_commandHere_165 (Q : Int32 → OV → Prop) (x1 : Int32) (vMd : OV) : Prop :=
  (wp_X8_figures (fun (r_20 : Int32) (v_21 : OV) => ((r_20 = 0 → (wp_X8_commandHere_191 Q v_21)) ∧ (¬ (r_20 = 0) → (wp_X8_figures (fun (r_23 : Int32) (v_24 : OV) => ((r_23 = 0 → (wp_X8_commandHere_191 Q v_24)) ∧ (¬ (r_23 = 0) → (wp_X8_commandHere_192 Q (1 : Int32) v_24)))) (x1 + (2 : Int32)) (1 : Int32) v_21)))) (x1 + (1 : Int32)) (1 : Int32) vMd)
set_option maxRecDepth 20000 in
theorem lb_X8_commandHere_165 {X : List Cond} {l : Launch} {D : va_G} {G : Nat → ClassId} {C : Cx} {bs0 : List va_W} {hMd : Nat} {qMd : Nat → Nat} {Q : Int32 → OV → Prop} (F : GF C X cX8_commandHere wsX8_commandHere RX8 rm_X8_commandHere 2 (some .boolean) D G l) (E : GE C bs0 0 0 (po_X8_commandHere G hMd qMd Q)) {x1 : Int32} {vMd : OV} (hw : wp_X8_commandHere_165 Q x1 vMd) : GW C 0 0 [bMd G hMd qMd vMd] 165 [(0, .ref hMd), (1, .int x1)] [] := by
  unfold wp_X8_commandHere_165 at hw
  refine gw_aload_n F dX8_commandHere_165 0 rfl ?_
  refine gw_iload_n F dX8_commandHere_166 1 rfl ?_
  refine gw_iconst (v := (1 : Int32)) F dX8_commandHere_167 ic_iconst_1 ?_
  refine gw_iadd F dX8_commandHere_168 ?_
  refine gw_iconst (v := (1 : Int32)) F dX8_commandHere_169 ic_iconst_1 ?_
  refine gw_callV F (ct_X8_figures hw) 2 gX8_commandHere_X8_figures rfl rfl rfl hd_X8_figures ⟨(Nat.le_of_ble_eq_true rfl), (Nat.le_of_ble_eq_true rfl)⟩ rfl rfl (Nat.le_of_ble_eq_true rfl) ⟨Nat.zero_le _, Nat.zero_le _⟩ [0] (bsr := []) rfl rfl (q0 := 0) rfl rfl dX8_commandHere_170 ?_
  rintro _ _ ⟨r_20, v_21, rfl, rfl, hw⟩
  refine gw_sel [0] (bs' := [bMd G hMd qMd v_21]) rfl rfl ?_
  change GW C 0 0 _ 173 _ [.int r_20]
  refine gw_if_eq (tgt := 191) F dX8_commandHere_173 (by decide) (fun c_22 => ?_) (fun c_22 => ?_)
  · have hw := hw.1 c_22
    refine gw_lv [] rfl ?_
    exact lb_X8_commandHere_191 F E hw
  · have hw := hw.2 c_22
    refine gw_aload_n F dX8_commandHere_176 0 rfl ?_
    refine gw_iload_n F dX8_commandHere_177 1 rfl ?_
    refine gw_iconst (v := (2 : Int32)) F dX8_commandHere_178 ic_iconst_2 ?_
    refine gw_iadd F dX8_commandHere_179 ?_
    refine gw_iconst (v := (1 : Int32)) F dX8_commandHere_180 ic_iconst_1 ?_
    refine gw_callV F (ct_X8_figures hw) 2 gX8_commandHere_X8_figures rfl rfl rfl hd_X8_figures ⟨(Nat.le_of_ble_eq_true rfl), (Nat.le_of_ble_eq_true rfl)⟩ rfl rfl (Nat.le_of_ble_eq_true rfl) ⟨Nat.zero_le _, Nat.zero_le _⟩ [0] (bsr := []) rfl rfl (q0 := 0) rfl rfl dX8_commandHere_181 ?_
    rintro _ _ ⟨r_23, v_24, rfl, rfl, hw⟩
    refine gw_sel [0] (bs' := [bMd G hMd qMd v_24]) rfl rfl ?_
    change GW C 0 0 _ 184 _ [.int r_23]
    refine gw_if_eq (tgt := 191) F dX8_commandHere_184 (by decide) (fun c_25 => ?_) (fun c_25 => ?_)
    · have hw := hw.1 c_25
      refine gw_lv [] rfl ?_
      exact lb_X8_commandHere_191 F E hw
    · have hw := hw.2 c_25
      refine gw_iconst (v := (1 : Int32)) F dX8_commandHere_187 ic_iconst_1 ?_
      refine gw_goto (tgt := 192) F dX8_commandHere_188 (by decide) ?_
      refine gw_lv [] rfl ?_
      exact lb_X8_commandHere_192 F E hw
def wp_X8_commandHere_227 (Q : Int32 → OV → Prop) (s0 : Int32) (vMd : OV) : Prop :=
  (narrow .boolean (.int s0) = .int s0 ∧ Q s0 vMd)
set_option maxRecDepth 20000 in
theorem lb_X8_commandHere_227 {X : List Cond} {l : Launch} {D : va_G} {G : Nat → ClassId} {C : Cx} {bs0 : List va_W} {hMd : Nat} {qMd : Nat → Nat} {Q : Int32 → OV → Prop} (F : GF C X cX8_commandHere wsX8_commandHere RX8 rm_X8_commandHere 2 (some .boolean) D G l) (E : GE C bs0 0 0 (po_X8_commandHere G hMd qMd Q)) {s0 : Int32} {vMd : OV} (hw : wp_X8_commandHere_227 Q s0 vMd) : GW C 0 0 [bMd G hMd qMd vMd] 227 [] [.int s0] := by
  unfold wp_X8_commandHere_227 at hw
  obtain ⟨hn, hw⟩ := hw
  exact gw_iret F E rfl hn (Nat.le_of_ble_eq_true rfl) (Nat.le_of_ble_eq_true rfl) dX8_commandHere_227 ⟨_, _, rfl, rfl, hw⟩
def wp_X8_commandHere_226 (Q : Int32 → OV → Prop) (vMd : OV) : Prop :=
  (wp_X8_commandHere_227 Q (0 : Int32) vMd)
set_option maxRecDepth 20000 in
theorem lb_X8_commandHere_226 {X : List Cond} {l : Launch} {D : va_G} {G : Nat → ClassId} {C : Cx} {bs0 : List va_W} {hMd : Nat} {qMd : Nat → Nat} {Q : Int32 → OV → Prop} (F : GF C X cX8_commandHere wsX8_commandHere RX8 rm_X8_commandHere 2 (some .boolean) D G l) (E : GE C bs0 0 0 (po_X8_commandHere G hMd qMd Q)) {vMd : OV} (hw : wp_X8_commandHere_226 Q vMd) : GW C 0 0 [bMd G hMd qMd vMd] 226 [] [] := by
  unfold wp_X8_commandHere_226 at hw
  refine gw_iconst (v := (0 : Int32)) F dX8_commandHere_226 ic_iconst_0 ?_
  exact lb_X8_commandHere_227 F E hw
def wp_X8_commandHere_211 (Q : Int32 → OV → Prop) (x1 : Int32) (vMd : OV) : Prop :=
  (wp_X8_figures (fun (r_35 : Int32) (v_36 : OV) => ((r_35 = 0 → (wp_X8_commandHere_226 Q v_36)) ∧ (¬ (r_35 = 0) → (wp_X8_commandHere_227 Q (1 : Int32) v_36)))) (x1 + (1 : Int32)) (1 : Int32) vMd)
set_option maxRecDepth 20000 in
theorem lb_X8_commandHere_211 {X : List Cond} {l : Launch} {D : va_G} {G : Nat → ClassId} {C : Cx} {bs0 : List va_W} {hMd : Nat} {qMd : Nat → Nat} {Q : Int32 → OV → Prop} (F : GF C X cX8_commandHere wsX8_commandHere RX8 rm_X8_commandHere 2 (some .boolean) D G l) (E : GE C bs0 0 0 (po_X8_commandHere G hMd qMd Q)) {x1 : Int32} {vMd : OV} (hw : wp_X8_commandHere_211 Q x1 vMd) : GW C 0 0 [bMd G hMd qMd vMd] 211 [(0, .ref hMd), (1, .int x1)] [] := by
  unfold wp_X8_commandHere_211 at hw
  refine gw_aload_n F dX8_commandHere_211 0 rfl ?_
  refine gw_iload_n F dX8_commandHere_212 1 rfl ?_
  refine gw_iconst (v := (1 : Int32)) F dX8_commandHere_213 ic_iconst_1 ?_
  refine gw_iadd F dX8_commandHere_214 ?_
  refine gw_iconst (v := (1 : Int32)) F dX8_commandHere_215 ic_iconst_1 ?_
  refine gw_callV F (ct_X8_figures hw) 2 gX8_commandHere_X8_figures rfl rfl rfl hd_X8_figures ⟨(Nat.le_of_ble_eq_true rfl), (Nat.le_of_ble_eq_true rfl)⟩ rfl rfl (Nat.le_of_ble_eq_true rfl) ⟨Nat.zero_le _, Nat.zero_le _⟩ [0] (bsr := []) rfl rfl (q0 := 0) rfl rfl dX8_commandHere_216 ?_
  rintro _ _ ⟨r_35, v_36, rfl, rfl, hw⟩
  refine gw_sel [0] (bs' := [bMd G hMd qMd v_36]) rfl rfl ?_
  change GW C 0 0 _ 219 _ [.int r_35]
  refine gw_if_eq (tgt := 226) F dX8_commandHere_219 (by decide) (fun c_37 => ?_) (fun c_37 => ?_)
  · have hw := hw.1 c_37
    refine gw_lv [] rfl ?_
    exact lb_X8_commandHere_226 F E hw
  · have hw := hw.2 c_37
    refine gw_iconst (v := (1 : Int32)) F dX8_commandHere_222 ic_iconst_1 ?_
    refine gw_goto (tgt := 227) F dX8_commandHere_223 (by decide) ?_
    refine gw_lv [] rfl ?_
    exact lb_X8_commandHere_227 F E hw
def wp_X8_commandHere_119 (Q : Int32 → OV → Prop) (s0 : Int32) (vMd : OV) : Prop :=
  (narrow .boolean (.int s0) = .int s0 ∧ Q s0 vMd)
set_option maxRecDepth 20000 in
theorem lb_X8_commandHere_119 {X : List Cond} {l : Launch} {D : va_G} {G : Nat → ClassId} {C : Cx} {bs0 : List va_W} {hMd : Nat} {qMd : Nat → Nat} {Q : Int32 → OV → Prop} (F : GF C X cX8_commandHere wsX8_commandHere RX8 rm_X8_commandHere 2 (some .boolean) D G l) (E : GE C bs0 0 0 (po_X8_commandHere G hMd qMd Q)) {s0 : Int32} {vMd : OV} (hw : wp_X8_commandHere_119 Q s0 vMd) : GW C 0 0 [bMd G hMd qMd vMd] 119 [] [.int s0] := by
  unfold wp_X8_commandHere_119 at hw
  obtain ⟨hn, hw⟩ := hw
  exact gw_iret F E rfl hn (Nat.le_of_ble_eq_true rfl) (Nat.le_of_ble_eq_true rfl) dX8_commandHere_119 ⟨_, _, rfl, rfl, hw⟩
def wp_X8_commandHere_118 (Q : Int32 → OV → Prop) (vMd : OV) : Prop :=
  (wp_X8_commandHere_119 Q (0 : Int32) vMd)
set_option maxRecDepth 20000 in
theorem lb_X8_commandHere_118 {X : List Cond} {l : Launch} {D : va_G} {G : Nat → ClassId} {C : Cx} {bs0 : List va_W} {hMd : Nat} {qMd : Nat → Nat} {Q : Int32 → OV → Prop} (F : GF C X cX8_commandHere wsX8_commandHere RX8 rm_X8_commandHere 2 (some .boolean) D G l) (E : GE C bs0 0 0 (po_X8_commandHere G hMd qMd Q)) {vMd : OV} (hw : wp_X8_commandHere_118 Q vMd) : GW C 0 0 [bMd G hMd qMd vMd] 118 [] [] := by
  unfold wp_X8_commandHere_118 at hw
  refine gw_iconst (v := (0 : Int32)) F dX8_commandHere_118 ic_iconst_0 ?_
  exact lb_X8_commandHere_119 F E hw
def wp_X8_commandHere_73 (Q : Int32 → OV → Prop) (s0 : Int32) (vMd : OV) : Prop :=
  (narrow .boolean (.int s0) = .int s0 ∧ Q s0 vMd)
set_option maxRecDepth 20000 in
theorem lb_X8_commandHere_73 {X : List Cond} {l : Launch} {D : va_G} {G : Nat → ClassId} {C : Cx} {bs0 : List va_W} {hMd : Nat} {qMd : Nat → Nat} {Q : Int32 → OV → Prop} (F : GF C X cX8_commandHere wsX8_commandHere RX8 rm_X8_commandHere 2 (some .boolean) D G l) (E : GE C bs0 0 0 (po_X8_commandHere G hMd qMd Q)) {s0 : Int32} {vMd : OV} (hw : wp_X8_commandHere_73 Q s0 vMd) : GW C 0 0 [bMd G hMd qMd vMd] 73 [] [.int s0] := by
  unfold wp_X8_commandHere_73 at hw
  obtain ⟨hn, hw⟩ := hw
  exact gw_iret F E rfl hn (Nat.le_of_ble_eq_true rfl) (Nat.le_of_ble_eq_true rfl) dX8_commandHere_73 ⟨_, _, rfl, rfl, hw⟩
def wp_X8_commandHere_72 (Q : Int32 → OV → Prop) (vMd : OV) : Prop :=
  (wp_X8_commandHere_73 Q (0 : Int32) vMd)
set_option maxRecDepth 20000 in
theorem lb_X8_commandHere_72 {X : List Cond} {l : Launch} {D : va_G} {G : Nat → ClassId} {C : Cx} {bs0 : List va_W} {hMd : Nat} {qMd : Nat → Nat} {Q : Int32 → OV → Prop} (F : GF C X cX8_commandHere wsX8_commandHere RX8 rm_X8_commandHere 2 (some .boolean) D G l) (E : GE C bs0 0 0 (po_X8_commandHere G hMd qMd Q)) {vMd : OV} (hw : wp_X8_commandHere_72 Q vMd) : GW C 0 0 [bMd G hMd qMd vMd] 72 [] [] := by
  unfold wp_X8_commandHere_72 at hw
  refine gw_iconst (v := (0 : Int32)) F dX8_commandHere_72 ic_iconst_0 ?_
  exact lb_X8_commandHere_73 F E hw
def wp_X8_commandHere_0 (Q : Int32 → OV → Prop) (vMd : OV) : Prop :=
  (∀ i_1 : Int32, i_1 = ((4 : Int32) * (vMd.2 23)) → (wp_X8_here (fun (r_2 : Int32) => (vp_in i_1 124 ∧ ∀ v_3 : OV, v_3 = sA vMd 22 i_1.toNatClampNeg r_2 → (wp_X8_skips (fun (r_5 : Int32) (v_6 : OV) => ((r_5 = 0 → (wp_X8_skips (fun (r_8 : Int32) (v_9 : OV) => ((r_8 = 0 → (wp_X8_skips (fun (r_11 : Int32) (v_12 : OV) => ((r_11 = 0 → (wp_X8_skips (fun (r_14 : Int32) (v_15 : OV) => ((r_14 = 0 → (wp_X8_skips (fun (r_17 : Int32) (v_18 : OV) => ((¬ r_17 = 0 → (wp_X8_commandHere_165 Q i_1 v_18)) ∧ (r_17 = 0 → (wp_X8_skips (fun (r_26 : Int32) (v_27 : OV) => ((¬ r_26 = 0 → (wp_X8_commandHere_165 Q i_1 v_27)) ∧ (r_26 = 0 → (wp_X8_skips (fun (r_29 : Int32) (v_30 : OV) => ((r_29 = 0 → (wp_X8_skips (fun (r_32 : Int32) (v_33 : OV) => ((¬ r_32 = 0 → (wp_X8_commandHere_211 Q i_1 v_33)) ∧ (r_32 = 0 → (wp_X8_skips (fun (r_38 : Int32) (v_39 : OV) => ((r_38 = 0 → (wp_X8_commandHere_226 Q v_39)) ∧ (¬ (r_38 = 0) → (wp_X8_commandHere_211 Q i_1 v_39)))) (115 : Int32) v_33)))) (116 : Int32) v_30)) ∧ (¬ (r_29 = 0) → (wp_X8_commandHere_165 Q i_1 v_30)))) (112 : Int32) v_27)))) (117 : Int32) v_18)))) (98 : Int32) v_15)) ∧ (¬ (r_14 = 0) → (wp_X8_figures (fun (r_41 : Int32) (v_42 : OV) => (narrow .boolean (.int r_41) = .int r_41 ∧ Q r_41 v_42)) (i_1 + (1 : Int32)) (2 : Int32) v_15)))) (108 : Int32) v_12)) ∧ (¬ (r_11 = 0) → (wp_X8_figures (fun (r_43 : Int32) (v_44 : OV) => ((r_43 = 0 → (wp_X8_commandHere_118 Q v_44)) ∧ (¬ (r_43 = 0) → (wp_X8_skips (fun (r_46 : Int32) (v_47 : OV) => ((r_46 = 0 → (wp_X8_commandHere_118 Q v_47)) ∧ (¬ (r_46 = 0) → (wp_X8_figures (fun (r_49 : Int32) (v_50 : OV) => ((r_49 = 0 → (wp_X8_commandHere_118 Q v_50)) ∧ (¬ (r_49 = 0) → (wp_X8_commandHere_119 Q (1 : Int32) v_50)))) (i_1 + (2 : Int32)) (2 : Int32) v_47)))) (47 : Int32) v_44)))) (i_1 + (1 : Int32)) (1 : Int32) v_12)))) (99 : Int32) v_9)) ∧ (¬ (r_8 = 0) → (wp_X8_figures (fun (r_52 : Int32) (v_53 : OV) => ((r_52 = 0 → (wp_X8_commandHere_72 Q v_53)) ∧ (¬ (r_52 = 0) → (wp_X8_skips (fun (r_55 : Int32) (v_56 : OV) => ((r_55 = 0 → (wp_X8_commandHere_72 Q v_56)) ∧ (¬ (r_55 = 0) → (wp_X8_figures (fun (r_58 : Int32) (v_59 : OV) => ((r_58 = 0 → (wp_X8_commandHere_72 Q v_59)) ∧ (¬ (r_58 = 0) → (wp_X8_commandHere_73 Q (1 : Int32) v_59)))) (i_1 + (2 : Int32)) (1 : Int32) v_56)))) (47 : Int32) v_53)))) (i_1 + (1 : Int32)) (2 : Int32) v_9)))) (107 : Int32) v_6)) ∧ (¬ (r_5 = 0) → (Q (1 : Int32) v_6)))) (119 : Int32) v_3))) vMd))
set_option maxRecDepth 20000 in
theorem lb_X8_commandHere_0 {X : List Cond} {l : Launch} {D : va_G} {G : Nat → ClassId} {C : Cx} {bs0 : List va_W} {hMd : Nat} {qMd : Nat → Nat} {Q : Int32 → OV → Prop} (F : GF C X cX8_commandHere wsX8_commandHere RX8 rm_X8_commandHere 2 (some .boolean) D G l) (E : GE C bs0 0 0 (po_X8_commandHere G hMd qMd Q)) {vMd : OV} (hw : wp_X8_commandHere_0 Q vMd) : GW C 0 0 [bMd G hMd qMd vMd] 0 [(0, .ref hMd)] [] := by
  unfold wp_X8_commandHere_0 at hw
  refine gw_iconst (v := (4 : Int32)) F dX8_commandHere_0 ic_iconst_4 ?_
  refine gw_aload_n F dX8_commandHere_1 0 rfl ?_
  refine gw_get F in_X8_commandHere_RX8 0 rfl rfl 23 (by decide) lk_X8_commandHere_171 rfl dX8_commandHere_2 ?_
  refine gw_imul F dX8_commandHere_5 ?_
  refine gw_topi (fun i_1 e_i_1 => ?_)
  have hw := hw i_1 e_i_1
  refine gw_istore_n (lv' := [(1, .int i_1), (0, .ref hMd)]) F dX8_commandHere_6 (by decide) rfl ?_
  refine gw_aload_n F dX8_commandHere_7 1 rfl ?_
  refine gw_get F in_X8_commandHere_RX8 0 rfl rfl 22 (by decide) lk_X8_commandHere_43 rfl dX8_commandHere_8 ?_
  refine gw_iload_n F dX8_commandHere_11 0 rfl ?_
  refine gw_aload_n F dX8_commandHere_12 1 rfl ?_
  refine gw_callV F (ct_X8_here hw) 0 gX8_commandHere_X8_here rfl rfl rfl hd_X8_here ⟨(Nat.le_of_ble_eq_true rfl), (Nat.le_of_ble_eq_true rfl)⟩ rfl rfl (Nat.le_of_ble_eq_true rfl) ⟨Nat.zero_le _, Nat.zero_le _⟩ [0] (bsr := []) rfl rfl (q0 := 0) rfl rfl dX8_commandHere_13 ?_
  rintro _ _ ⟨r_2, rfl, rfl, hw⟩
  refine gw_sel [0] (bs' := [bMd G hMd qMd vMd]) rfl rfl ?_
  change GW C 0 0 _ 16 _ [.int r_2, .int i_1, .ref (qMd 22)]
  obtain ⟨h_4, hw⟩ := hw
  obtain ⟨v_3, e_v_3⟩ : ∃ z : OV, z = sA vMd 22 i_1.toNatClampNeg r_2 := ⟨_, rfl⟩
  have hw := hw v_3 e_v_3
  refine gw_iast (bs' := [bMd G hMd qMd v_3]) F 10 rfl h_4 dX8_commandHere_16 (by rw [e_v_3]; rfl) ?_
  refine gw_aload_n F dX8_commandHere_17 1 rfl ?_
  refine gw_bipush (v := (119 : Int32)) F dX8_commandHere_18 ic_bipush_119 ?_
  refine gw_callV F (ct_X8_skips hw) 1 gX8_commandHere_X8_skips rfl rfl rfl hd_X8_skips ⟨(Nat.le_of_ble_eq_true rfl), (Nat.le_of_ble_eq_true rfl)⟩ rfl rfl (Nat.le_of_ble_eq_true rfl) ⟨Nat.zero_le _, Nat.zero_le _⟩ [0] (bsr := []) rfl rfl (q0 := 0) rfl rfl dX8_commandHere_20 ?_
  rintro _ _ ⟨r_5, v_6, rfl, rfl, hw⟩
  refine gw_sel [0] (bs' := [bMd G hMd qMd v_6]) rfl rfl ?_
  change GW C 0 0 _ 23 _ [.int r_5]
  refine gw_if_eq (tgt := 28) F dX8_commandHere_23 (by decide) (fun c_7 => ?_) (fun c_7 => ?_)
  · have hw := hw.1 c_7
    refine gw_aload_n F dX8_commandHere_28 1 rfl ?_
    refine gw_bipush (v := (107 : Int32)) F dX8_commandHere_29 ic_bipush_107 ?_
    refine gw_callV F (ct_X8_skips hw) 1 gX8_commandHere_X8_skips rfl rfl rfl hd_X8_skips ⟨(Nat.le_of_ble_eq_true rfl), (Nat.le_of_ble_eq_true rfl)⟩ rfl rfl (Nat.le_of_ble_eq_true rfl) ⟨Nat.zero_le _, Nat.zero_le _⟩ [0] (bsr := []) rfl rfl (q0 := 0) rfl rfl dX8_commandHere_31 ?_
    rintro _ _ ⟨r_8, v_9, rfl, rfl, hw⟩
    refine gw_sel [0] (bs' := [bMd G hMd qMd v_9]) rfl rfl ?_
    change GW C 0 0 _ 34 _ [.int r_8]
    refine gw_if_eq (tgt := 74) F dX8_commandHere_34 (by decide) (fun c_10 => ?_) (fun c_10 => ?_)
    · have hw := hw.1 c_10
      refine gw_aload_n F dX8_commandHere_74 1 rfl ?_
      refine gw_bipush (v := (99 : Int32)) F dX8_commandHere_75 ic_bipush_99 ?_
      refine gw_callV F (ct_X8_skips hw) 1 gX8_commandHere_X8_skips rfl rfl rfl hd_X8_skips ⟨(Nat.le_of_ble_eq_true rfl), (Nat.le_of_ble_eq_true rfl)⟩ rfl rfl (Nat.le_of_ble_eq_true rfl) ⟨Nat.zero_le _, Nat.zero_le _⟩ [0] (bsr := []) rfl rfl (q0 := 0) rfl rfl dX8_commandHere_77 ?_
      rintro _ _ ⟨r_11, v_12, rfl, rfl, hw⟩
      refine gw_sel [0] (bs' := [bMd G hMd qMd v_12]) rfl rfl ?_
      change GW C 0 0 _ 80 _ [.int r_11]
      refine gw_if_eq (tgt := 120) F dX8_commandHere_80 (by decide) (fun c_13 => ?_) (fun c_13 => ?_)
      · have hw := hw.1 c_13
        refine gw_aload_n F dX8_commandHere_120 1 rfl ?_
        refine gw_bipush (v := (108 : Int32)) F dX8_commandHere_121 ic_bipush_108 ?_
        refine gw_callV F (ct_X8_skips hw) 1 gX8_commandHere_X8_skips rfl rfl rfl hd_X8_skips ⟨(Nat.le_of_ble_eq_true rfl), (Nat.le_of_ble_eq_true rfl)⟩ rfl rfl (Nat.le_of_ble_eq_true rfl) ⟨Nat.zero_le _, Nat.zero_le _⟩ [0] (bsr := []) rfl rfl (q0 := 0) rfl rfl dX8_commandHere_123 ?_
        rintro _ _ ⟨r_14, v_15, rfl, rfl, hw⟩
        refine gw_sel [0] (bs' := [bMd G hMd qMd v_15]) rfl rfl ?_
        change GW C 0 0 _ 126 _ [.int r_14]
        refine gw_if_eq (tgt := 138) F dX8_commandHere_126 (by decide) (fun c_16 => ?_) (fun c_16 => ?_)
        · have hw := hw.1 c_16
          refine gw_aload_n F dX8_commandHere_138 1 rfl ?_
          refine gw_bipush (v := (98 : Int32)) F dX8_commandHere_139 ic_bipush_98 ?_
          refine gw_callV F (ct_X8_skips hw) 1 gX8_commandHere_X8_skips rfl rfl rfl hd_X8_skips ⟨(Nat.le_of_ble_eq_true rfl), (Nat.le_of_ble_eq_true rfl)⟩ rfl rfl (Nat.le_of_ble_eq_true rfl) ⟨Nat.zero_le _, Nat.zero_le _⟩ [0] (bsr := []) rfl rfl (q0 := 0) rfl rfl dX8_commandHere_141 ?_
          rintro _ _ ⟨r_17, v_18, rfl, rfl, hw⟩
          refine gw_sel [0] (bs' := [bMd G hMd qMd v_18]) rfl rfl ?_
          change GW C 0 0 _ 144 _ [.int r_17]
          refine gw_if_ne (tgt := 165) F dX8_commandHere_144 (by decide) (fun c_19 => ?_) (fun c_19 => ?_)
          · have hw := hw.1 c_19
            refine gw_lv [1, 0] rfl ?_
            exact lb_X8_commandHere_165 F E hw
          · have hw := hw.2 c_19
            refine gw_aload_n F dX8_commandHere_147 1 rfl ?_
            refine gw_bipush (v := (117 : Int32)) F dX8_commandHere_148 ic_bipush_117 ?_
            refine gw_callV F (ct_X8_skips hw) 1 gX8_commandHere_X8_skips rfl rfl rfl hd_X8_skips ⟨(Nat.le_of_ble_eq_true rfl), (Nat.le_of_ble_eq_true rfl)⟩ rfl rfl (Nat.le_of_ble_eq_true rfl) ⟨Nat.zero_le _, Nat.zero_le _⟩ [0] (bsr := []) rfl rfl (q0 := 0) rfl rfl dX8_commandHere_150 ?_
            rintro _ _ ⟨r_26, v_27, rfl, rfl, hw⟩
            refine gw_sel [0] (bs' := [bMd G hMd qMd v_27]) rfl rfl ?_
            change GW C 0 0 _ 153 _ [.int r_26]
            refine gw_if_ne (tgt := 165) F dX8_commandHere_153 (by decide) (fun c_28 => ?_) (fun c_28 => ?_)
            · have hw := hw.1 c_28
              refine gw_lv [1, 0] rfl ?_
              exact lb_X8_commandHere_165 F E hw
            · have hw := hw.2 c_28
              refine gw_aload_n F dX8_commandHere_156 1 rfl ?_
              refine gw_bipush (v := (112 : Int32)) F dX8_commandHere_157 ic_bipush_112 ?_
              refine gw_callV F (ct_X8_skips hw) 1 gX8_commandHere_X8_skips rfl rfl rfl hd_X8_skips ⟨(Nat.le_of_ble_eq_true rfl), (Nat.le_of_ble_eq_true rfl)⟩ rfl rfl (Nat.le_of_ble_eq_true rfl) ⟨Nat.zero_le _, Nat.zero_le _⟩ [0] (bsr := []) rfl rfl (q0 := 0) rfl rfl dX8_commandHere_159 ?_
              rintro _ _ ⟨r_29, v_30, rfl, rfl, hw⟩
              refine gw_sel [0] (bs' := [bMd G hMd qMd v_30]) rfl rfl ?_
              change GW C 0 0 _ 162 _ [.int r_29]
              refine gw_if_eq (tgt := 193) F dX8_commandHere_162 (by decide) (fun c_31 => ?_) (fun c_31 => ?_)
              · have hw := hw.1 c_31
                refine gw_aload_n F dX8_commandHere_193 1 rfl ?_
                refine gw_bipush (v := (116 : Int32)) F dX8_commandHere_194 ic_bipush_116 ?_
                refine gw_callV F (ct_X8_skips hw) 1 gX8_commandHere_X8_skips rfl rfl rfl hd_X8_skips ⟨(Nat.le_of_ble_eq_true rfl), (Nat.le_of_ble_eq_true rfl)⟩ rfl rfl (Nat.le_of_ble_eq_true rfl) ⟨Nat.zero_le _, Nat.zero_le _⟩ [0] (bsr := []) rfl rfl (q0 := 0) rfl rfl dX8_commandHere_196 ?_
                rintro _ _ ⟨r_32, v_33, rfl, rfl, hw⟩
                refine gw_sel [0] (bs' := [bMd G hMd qMd v_33]) rfl rfl ?_
                change GW C 0 0 _ 199 _ [.int r_32]
                refine gw_if_ne (tgt := 211) F dX8_commandHere_199 (by decide) (fun c_34 => ?_) (fun c_34 => ?_)
                · have hw := hw.1 c_34
                  refine gw_lv [1, 0] rfl ?_
                  exact lb_X8_commandHere_211 F E hw
                · have hw := hw.2 c_34
                  refine gw_aload_n F dX8_commandHere_202 1 rfl ?_
                  refine gw_bipush (v := (115 : Int32)) F dX8_commandHere_203 ic_bipush_115 ?_
                  refine gw_callV F (ct_X8_skips hw) 1 gX8_commandHere_X8_skips rfl rfl rfl hd_X8_skips ⟨(Nat.le_of_ble_eq_true rfl), (Nat.le_of_ble_eq_true rfl)⟩ rfl rfl (Nat.le_of_ble_eq_true rfl) ⟨Nat.zero_le _, Nat.zero_le _⟩ [0] (bsr := []) rfl rfl (q0 := 0) rfl rfl dX8_commandHere_205 ?_
                  rintro _ _ ⟨r_38, v_39, rfl, rfl, hw⟩
                  refine gw_sel [0] (bs' := [bMd G hMd qMd v_39]) rfl rfl ?_
                  change GW C 0 0 _ 208 _ [.int r_38]
                  refine gw_if_eq (tgt := 226) F dX8_commandHere_208 (by decide) (fun c_40 => ?_) (fun c_40 => ?_)
                  · have hw := hw.1 c_40
                    refine gw_lv [] rfl ?_
                    exact lb_X8_commandHere_226 F E hw
                  · have hw := hw.2 c_40
                    refine gw_lv [1, 0] rfl ?_
                    exact lb_X8_commandHere_211 F E hw
              · have hw := hw.2 c_31
                refine gw_lv [1, 0] rfl ?_
                exact lb_X8_commandHere_165 F E hw
        · have hw := hw.2 c_16
          refine gw_aload_n F dX8_commandHere_129 1 rfl ?_
          refine gw_iload_n F dX8_commandHere_130 0 rfl ?_
          refine gw_iconst (v := (1 : Int32)) F dX8_commandHere_131 ic_iconst_1 ?_
          refine gw_iadd F dX8_commandHere_132 ?_
          refine gw_iconst (v := (2 : Int32)) F dX8_commandHere_133 ic_iconst_2 ?_
          refine gw_callV F (ct_X8_figures hw) 2 gX8_commandHere_X8_figures rfl rfl rfl hd_X8_figures ⟨(Nat.le_of_ble_eq_true rfl), (Nat.le_of_ble_eq_true rfl)⟩ rfl rfl (Nat.le_of_ble_eq_true rfl) ⟨Nat.zero_le _, Nat.zero_le _⟩ [0] (bsr := []) rfl rfl (q0 := 0) rfl rfl dX8_commandHere_134 ?_
          rintro _ _ ⟨r_41, v_42, rfl, rfl, hw⟩
          refine gw_sel [0] (bs' := [bMd G hMd qMd v_42]) rfl rfl ?_
          change GW C 0 0 _ 137 _ [.int r_41]
          obtain ⟨hn, hw⟩ := hw
          exact gw_iret F E rfl hn (Nat.le_of_ble_eq_true rfl) (Nat.le_of_ble_eq_true rfl) dX8_commandHere_137 ⟨_, _, rfl, rfl, hw⟩
      · have hw := hw.2 c_13
        refine gw_aload_n F dX8_commandHere_83 1 rfl ?_
        refine gw_iload_n F dX8_commandHere_84 0 rfl ?_
        refine gw_iconst (v := (1 : Int32)) F dX8_commandHere_85 ic_iconst_1 ?_
        refine gw_iadd F dX8_commandHere_86 ?_
        refine gw_iconst (v := (1 : Int32)) F dX8_commandHere_87 ic_iconst_1 ?_
        refine gw_callV F (ct_X8_figures hw) 2 gX8_commandHere_X8_figures rfl rfl rfl hd_X8_figures ⟨(Nat.le_of_ble_eq_true rfl), (Nat.le_of_ble_eq_true rfl)⟩ rfl rfl (Nat.le_of_ble_eq_true rfl) ⟨Nat.zero_le _, Nat.zero_le _⟩ [0] (bsr := []) rfl rfl (q0 := 0) rfl rfl dX8_commandHere_88 ?_
        rintro _ _ ⟨r_43, v_44, rfl, rfl, hw⟩
        refine gw_sel [0] (bs' := [bMd G hMd qMd v_44]) rfl rfl ?_
        change GW C 0 0 _ 91 _ [.int r_43]
        refine gw_if_eq (tgt := 118) F dX8_commandHere_91 (by decide) (fun c_45 => ?_) (fun c_45 => ?_)
        · have hw := hw.1 c_45
          refine gw_lv [] rfl ?_
          exact lb_X8_commandHere_118 F E hw
        · have hw := hw.2 c_45
          refine gw_aload_n F dX8_commandHere_94 1 rfl ?_
          refine gw_bipush (v := (47 : Int32)) F dX8_commandHere_95 ic_bipush_47 ?_
          refine gw_callV F (ct_X8_skips hw) 1 gX8_commandHere_X8_skips rfl rfl rfl hd_X8_skips ⟨(Nat.le_of_ble_eq_true rfl), (Nat.le_of_ble_eq_true rfl)⟩ rfl rfl (Nat.le_of_ble_eq_true rfl) ⟨Nat.zero_le _, Nat.zero_le _⟩ [0] (bsr := []) rfl rfl (q0 := 0) rfl rfl dX8_commandHere_97 ?_
          rintro _ _ ⟨r_46, v_47, rfl, rfl, hw⟩
          refine gw_sel [0] (bs' := [bMd G hMd qMd v_47]) rfl rfl ?_
          change GW C 0 0 _ 100 _ [.int r_46]
          refine gw_if_eq (tgt := 118) F dX8_commandHere_100 (by decide) (fun c_48 => ?_) (fun c_48 => ?_)
          · have hw := hw.1 c_48
            refine gw_lv [] rfl ?_
            exact lb_X8_commandHere_118 F E hw
          · have hw := hw.2 c_48
            refine gw_aload_n F dX8_commandHere_103 1 rfl ?_
            refine gw_iload_n F dX8_commandHere_104 0 rfl ?_
            refine gw_iconst (v := (2 : Int32)) F dX8_commandHere_105 ic_iconst_2 ?_
            refine gw_iadd F dX8_commandHere_106 ?_
            refine gw_iconst (v := (2 : Int32)) F dX8_commandHere_107 ic_iconst_2 ?_
            refine gw_callV F (ct_X8_figures hw) 2 gX8_commandHere_X8_figures rfl rfl rfl hd_X8_figures ⟨(Nat.le_of_ble_eq_true rfl), (Nat.le_of_ble_eq_true rfl)⟩ rfl rfl (Nat.le_of_ble_eq_true rfl) ⟨Nat.zero_le _, Nat.zero_le _⟩ [0] (bsr := []) rfl rfl (q0 := 0) rfl rfl dX8_commandHere_108 ?_
            rintro _ _ ⟨r_49, v_50, rfl, rfl, hw⟩
            refine gw_sel [0] (bs' := [bMd G hMd qMd v_50]) rfl rfl ?_
            change GW C 0 0 _ 111 _ [.int r_49]
            refine gw_if_eq (tgt := 118) F dX8_commandHere_111 (by decide) (fun c_51 => ?_) (fun c_51 => ?_)
            · have hw := hw.1 c_51
              refine gw_lv [] rfl ?_
              exact lb_X8_commandHere_118 F E hw
            · have hw := hw.2 c_51
              refine gw_iconst (v := (1 : Int32)) F dX8_commandHere_114 ic_iconst_1 ?_
              refine gw_goto (tgt := 119) F dX8_commandHere_115 (by decide) ?_
              refine gw_lv [] rfl ?_
              exact lb_X8_commandHere_119 F E hw
    · have hw := hw.2 c_10
      refine gw_aload_n F dX8_commandHere_37 1 rfl ?_
      refine gw_iload_n F dX8_commandHere_38 0 rfl ?_
      refine gw_iconst (v := (1 : Int32)) F dX8_commandHere_39 ic_iconst_1 ?_
      refine gw_iadd F dX8_commandHere_40 ?_
      refine gw_iconst (v := (2 : Int32)) F dX8_commandHere_41 ic_iconst_2 ?_
      refine gw_callV F (ct_X8_figures hw) 2 gX8_commandHere_X8_figures rfl rfl rfl hd_X8_figures ⟨(Nat.le_of_ble_eq_true rfl), (Nat.le_of_ble_eq_true rfl)⟩ rfl rfl (Nat.le_of_ble_eq_true rfl) ⟨Nat.zero_le _, Nat.zero_le _⟩ [0] (bsr := []) rfl rfl (q0 := 0) rfl rfl dX8_commandHere_42 ?_
      rintro _ _ ⟨r_52, v_53, rfl, rfl, hw⟩
      refine gw_sel [0] (bs' := [bMd G hMd qMd v_53]) rfl rfl ?_
      change GW C 0 0 _ 45 _ [.int r_52]
      refine gw_if_eq (tgt := 72) F dX8_commandHere_45 (by decide) (fun c_54 => ?_) (fun c_54 => ?_)
      · have hw := hw.1 c_54
        refine gw_lv [] rfl ?_
        exact lb_X8_commandHere_72 F E hw
      · have hw := hw.2 c_54
        refine gw_aload_n F dX8_commandHere_48 1 rfl ?_
        refine gw_bipush (v := (47 : Int32)) F dX8_commandHere_49 ic_bipush_47 ?_
        refine gw_callV F (ct_X8_skips hw) 1 gX8_commandHere_X8_skips rfl rfl rfl hd_X8_skips ⟨(Nat.le_of_ble_eq_true rfl), (Nat.le_of_ble_eq_true rfl)⟩ rfl rfl (Nat.le_of_ble_eq_true rfl) ⟨Nat.zero_le _, Nat.zero_le _⟩ [0] (bsr := []) rfl rfl (q0 := 0) rfl rfl dX8_commandHere_51 ?_
        rintro _ _ ⟨r_55, v_56, rfl, rfl, hw⟩
        refine gw_sel [0] (bs' := [bMd G hMd qMd v_56]) rfl rfl ?_
        change GW C 0 0 _ 54 _ [.int r_55]
        refine gw_if_eq (tgt := 72) F dX8_commandHere_54 (by decide) (fun c_57 => ?_) (fun c_57 => ?_)
        · have hw := hw.1 c_57
          refine gw_lv [] rfl ?_
          exact lb_X8_commandHere_72 F E hw
        · have hw := hw.2 c_57
          refine gw_aload_n F dX8_commandHere_57 1 rfl ?_
          refine gw_iload_n F dX8_commandHere_58 0 rfl ?_
          refine gw_iconst (v := (2 : Int32)) F dX8_commandHere_59 ic_iconst_2 ?_
          refine gw_iadd F dX8_commandHere_60 ?_
          refine gw_iconst (v := (1 : Int32)) F dX8_commandHere_61 ic_iconst_1 ?_
          refine gw_callV F (ct_X8_figures hw) 2 gX8_commandHere_X8_figures rfl rfl rfl hd_X8_figures ⟨(Nat.le_of_ble_eq_true rfl), (Nat.le_of_ble_eq_true rfl)⟩ rfl rfl (Nat.le_of_ble_eq_true rfl) ⟨Nat.zero_le _, Nat.zero_le _⟩ [0] (bsr := []) rfl rfl (q0 := 0) rfl rfl dX8_commandHere_62 ?_
          rintro _ _ ⟨r_58, v_59, rfl, rfl, hw⟩
          refine gw_sel [0] (bs' := [bMd G hMd qMd v_59]) rfl rfl ?_
          change GW C 0 0 _ 65 _ [.int r_58]
          refine gw_if_eq (tgt := 72) F dX8_commandHere_65 (by decide) (fun c_60 => ?_) (fun c_60 => ?_)
          · have hw := hw.1 c_60
            refine gw_lv [] rfl ?_
            exact lb_X8_commandHere_72 F E hw
          · have hw := hw.2 c_60
            refine gw_iconst (v := (1 : Int32)) F dX8_commandHere_68 ic_iconst_1 ?_
            refine gw_goto (tgt := 73) F dX8_commandHere_69 (by decide) ?_
            refine gw_lv [] rfl ?_
            exact lb_X8_commandHere_73 F E hw
  · have hw := hw.2 c_7
    refine gw_iconst (v := (1 : Int32)) F dX8_commandHere_26 ic_iconst_1 ?_
    exact gw_iret F E rfl rfl (Nat.le_of_ble_eq_true rfl) (Nat.le_of_ble_eq_true rfl) dX8_commandHere_27 ⟨_, _, rfl, rfl, hw⟩
def wp_X8_commandHere (Q : Int32 → OV → Prop) (vMd : OV) : Prop := wp_X8_commandHere_0 Q vMd
theorem ct_X8_commandHere {X : List Cond} {l : Launch} {D : va_G} {G : Nat → ClassId} {hMd : Nat} {qMd : Nat → Nat} {Q : Int32 → OV → Prop} {vMd : OV} (hw : wp_X8_commandHere Q vMd) : CM X l yX8_commandHere wsX8_commandHere rm_X8_commandHere D G [.ref hMd] [bMd G hMd qMd vMd] 0 0 (po_X8_commandHere G hMd qMd Q) :=
  CM.of pn_RX8 rfl rfl (Nat.le_of_ble_eq_true rfl) rfl (fun C F E => lb_X8_commandHere_0 F E hw)
-- X8_isText
abbrev rm_X8_isText : Room := { frames := 4, cells := 0, slots := 0, locals := 126 }
def po_X8_isText (G : Nat → ClassId) (hMd : Nat) (qMd : Nat → Nat) (Q : Int32 → OV → Prop) : Option Value → List va_W → Prop := fun o bs => ∃ (r : Int32) (vMd : OV), o = some (.int r) ∧ bs = [bMd G hMd qMd vMd] ∧ Q r vMd
theorem hd_X8_isText : yX8_isText.cls = RX8 ∧ yX8_isText.cls ≠ "java/lang/invoke/MethodHandle" ∧ yX8_isText.cls ≠ "java/lang/invoke/VarHandle" ∧ (parseMethodDescriptor yX8_isText.desc).map (fun d => d.parameters.length) = some 0 := by decide +kernel
theorem in_X8_isText_RX8 : ∀ w ∈ wsX80, w ∈ wsX8_isText := fun w h => List.mem_cons_of_mem _ (List.mem_append_left _ (List.mem_append_right _ h))
theorem lk_X8_isText_165 : Cond.fieldLink RX8 165 "KeyWavesModel" "at" "I" ∈ wsX8_isText := List.mem_cons_of_mem _ (List.mem_append_left _ (List.mem_append_left _ (List.mem_append_left _ (List.mem_of_getElem? (i := 0) rfl))))
theorem lk_X8_isText_171 : Cond.fieldLink RX8 171 "KeyWavesModel" "toldMany" "I" ∈ wsX8_isText := List.mem_cons_of_mem _ (List.mem_append_left _ (List.mem_append_left _ (List.mem_append_left _ (List.mem_of_getElem? (i := 1) rfl))))
theorem lk_X8_isText_162 : Cond.fieldLink RX8 162 "KeyWavesModel" "length" "I" ∈ wsX8_isText := List.mem_cons_of_mem _ (List.mem_append_left _ (List.mem_append_left _ (List.mem_append_left _ (List.mem_of_getElem? (i := 2) rfl))))
def wp_X8_isText_54 (Q : Int32 → OV → Prop) (s0 : Int32) (vMd : OV) : Prop :=
  (narrow .boolean (.int s0) = .int s0 ∧ Q s0 vMd)
set_option maxRecDepth 20000 in
theorem lb_X8_isText_54 {X : List Cond} {l : Launch} {D : va_G} {G : Nat → ClassId} {C : Cx} {bs0 : List va_W} {hMd : Nat} {qMd : Nat → Nat} {Q : Int32 → OV → Prop} (F : GF C X cX8_isText wsX8_isText RX8 rm_X8_isText 1 (some .boolean) D G l) (E : GE C bs0 0 0 (po_X8_isText G hMd qMd Q)) {s0 : Int32} {vMd : OV} (hw : wp_X8_isText_54 Q s0 vMd) : GW C 0 0 [bMd G hMd qMd vMd] 54 [] [.int s0] := by
  unfold wp_X8_isText_54 at hw
  obtain ⟨hn, hw⟩ := hw
  exact gw_iret F E rfl hn (Nat.le_of_ble_eq_true rfl) (Nat.le_of_ble_eq_true rfl) dX8_isText_54 ⟨_, _, rfl, rfl, hw⟩
def wp_X8_isText_10 (Q : Int32 → OV → Prop) (K10 : OV → Prop) (vMd : OV) : Prop :=
  (wp_X8_commandHere (fun (r_3 : Int32) (v_4 : OV) => ((¬ r_3 = 0 → (∀ v_6 : OV, v_6 = sI v_4 23 ((v_4.2 23) + (1 : Int32)) → (wp_X8_skips (fun (r_7 : Int32) (v_8 : OV) => ((¬ r_7 = 0 → (K10 v_8)) ∧ (r_7 = 0 → ((¬ (v_8.2 21) = (v_8.2 14) → (wp_X8_isText_54 Q (0 : Int32) v_8)) ∧ ((v_8.2 21) = (v_8.2 14) → (wp_X8_isText_54 Q (1 : Int32) v_8)))))) (59 : Int32) v_6))) ∧ (r_3 = 0 → (Q (0 : Int32) v_4)))) vMd)
set_option maxRecDepth 20000 in
theorem lb_X8_isText_10 {X : List Cond} {l : Launch} {D : va_G} {G : Nat → ClassId} {C : Cx} {bs0 : List va_W} {hMd : Nat} {qMd : Nat → Nat} {Q : Int32 → OV → Prop} {K10 : OV → Prop} (F : GF C X cX8_isText wsX8_isText RX8 rm_X8_isText 1 (some .boolean) D G l) (E : GE C bs0 0 0 (po_X8_isText G hMd qMd Q)) (hK10 : ∀ (vMd : OV), K10 vMd → GW C 0 0 [bMd G hMd qMd vMd] 10 [(0, .ref hMd)] []) {vMd : OV} (hw : wp_X8_isText_10 Q K10 vMd) : GW C 0 0 [bMd G hMd qMd vMd] 10 [(0, .ref hMd)] [] := by
  unfold wp_X8_isText_10 at hw
  refine gw_aload_n F dX8_isText_10 0 rfl ?_
  refine gw_callV F (ct_X8_commandHere hw) 0 gX8_isText_X8_commandHere rfl rfl rfl hd_X8_commandHere ⟨(Nat.le_of_ble_eq_true rfl), (Nat.le_of_ble_eq_true rfl)⟩ rfl rfl (Nat.le_of_ble_eq_true rfl) ⟨Nat.zero_le _, Nat.zero_le _⟩ [0] (bsr := []) rfl rfl (q0 := 0) rfl rfl dX8_isText_11 ?_
  rintro _ _ ⟨r_3, v_4, rfl, rfl, hw⟩
  refine gw_sel [0] (bs' := [bMd G hMd qMd v_4]) rfl rfl ?_
  change GW C 0 0 _ 14 _ [.int r_3]
  refine gw_if_ne (tgt := 19) F dX8_isText_14 (by decide) (fun c_5 => ?_) (fun c_5 => ?_)
  · have hw := hw.1 c_5
    refine gw_aload_n F dX8_isText_19 0 rfl ?_
    refine gw_dup F dX8_isText_20 rfl ?_
    refine gw_get F in_X8_isText_RX8 0 rfl rfl 23 (by decide) lk_X8_isText_171 rfl dX8_isText_21 ?_
    refine gw_iconst (v := (1 : Int32)) F dX8_isText_24 ic_iconst_1 ?_
    refine gw_iadd F dX8_isText_25 ?_
    obtain ⟨v_6, e_v_6⟩ : ∃ z : OV, z = sI v_4 23 ((v_4.2 23) + (1 : Int32)) := ⟨_, rfl⟩
    have hw := hw v_6 e_v_6
    refine gw_put (bs' := [bMd G hMd qMd v_6]) F in_X8_isText_RX8 tyX8 tyX8_ok nmX8 0 rfl rfl 23 (by decide) lk_X8_isText_171 rfl rfl rfl (Nat.le_of_ble_eq_true rfl) dX8_isText_26 (by rw [e_v_6]; rfl) ?_
    refine gw_aload_n F dX8_isText_29 0 rfl ?_
    refine gw_bipush (v := (59 : Int32)) F dX8_isText_30 ic_bipush_59 ?_
    refine gw_callV F (ct_X8_skips hw) 1 gX8_isText_X8_skips rfl rfl rfl hd_X8_skips ⟨(Nat.le_of_ble_eq_true rfl), (Nat.le_of_ble_eq_true rfl)⟩ rfl rfl (Nat.le_of_ble_eq_true rfl) ⟨Nat.zero_le _, Nat.zero_le _⟩ [0] (bsr := []) rfl rfl (q0 := 0) rfl rfl dX8_isText_32 ?_
    rintro _ _ ⟨r_7, v_8, rfl, rfl, hw⟩
    refine gw_sel [0] (bs' := [bMd G hMd qMd v_8]) rfl rfl ?_
    change GW C 0 0 _ 35 _ [.int r_7]
    refine gw_if_ne (tgt := 10) F dX8_isText_35 (by decide) (fun c_9 => ?_) (fun c_9 => ?_)
    · have hw := hw.1 c_9
      exact hK10 _ hw
    · have hw := hw.2 c_9
      refine gw_aload_n F dX8_isText_38 0 rfl ?_
      refine gw_get F in_X8_isText_RX8 0 rfl rfl 21 (by decide) lk_X8_isText_165 rfl dX8_isText_39 ?_
      refine gw_aload_n F dX8_isText_42 0 rfl ?_
      refine gw_get F in_X8_isText_RX8 0 rfl rfl 14 (by decide) lk_X8_isText_162 rfl dX8_isText_43 ?_
      refine gw_icmp_ne (tgt := 53) F dX8_isText_46 (by decide) (fun c_10 => ?_) (fun c_10 => ?_)
      · have hw := hw.1 c_10
        refine gw_iconst (v := (0 : Int32)) F dX8_isText_53 ic_iconst_0 ?_
        refine gw_lv [] rfl ?_
        exact lb_X8_isText_54 F E hw
      · have hw := hw.2 c_10
        refine gw_iconst (v := (1 : Int32)) F dX8_isText_49 ic_iconst_1 ?_
        refine gw_goto (tgt := 54) F dX8_isText_50 (by decide) ?_
        refine gw_lv [] rfl ?_
        exact lb_X8_isText_54 F E hw
  · have hw := hw.2 c_5
    refine gw_iconst (v := (0 : Int32)) F dX8_isText_17 ic_iconst_0 ?_
    exact gw_iret F E rfl rfl (Nat.le_of_ble_eq_true rfl) (Nat.le_of_ble_eq_true rfl) dX8_isText_18 ⟨_, _, rfl, rfl, hw⟩
def wp_X8_isText_10_loop (Q : Int32 → OV → Prop) : Nat → OV → Prop
  | 0, _ => False
  | n + 1, vMd => wp_X8_isText_10 Q (wp_X8_isText_10_loop Q n) vMd
theorem lp_X8_isText_10 {X : List Cond} {l : Launch} {D : va_G} {G : Nat → ClassId} {C : Cx} {bs0 : List va_W} {hMd : Nat} {qMd : Nat → Nat} {Q : Int32 → OV → Prop} (F : GF C X cX8_isText wsX8_isText RX8 rm_X8_isText 1 (some .boolean) D G l) (E : GE C bs0 0 0 (po_X8_isText G hMd qMd Q)) : ∀ (n : Nat) (vMd : OV), wp_X8_isText_10_loop Q n vMd → GW C 0 0 [bMd G hMd qMd vMd] 10 [(0, .ref hMd)] [] := by
  intro n
  induction n with
  | zero => intro vMd hw; exact False.elim hw
  | succ n ih => intro vMd hw; exact lb_X8_isText_10 (K10 := wp_X8_isText_10_loop Q n) F E ih hw
def wp_X8_isText_0 (Q : Int32 → OV → Prop) (vMd : OV) : Prop :=
  (∀ v_1 : OV, v_1 = sI vMd 21 (0 : Int32) → (∀ v_2 : OV, v_2 = sI v_1 23 (0 : Int32) → (∃ n_11 : Nat, wp_X8_isText_10_loop Q n_11 v_2)))
set_option maxRecDepth 20000 in
theorem lb_X8_isText_0 {X : List Cond} {l : Launch} {D : va_G} {G : Nat → ClassId} {C : Cx} {bs0 : List va_W} {hMd : Nat} {qMd : Nat → Nat} {Q : Int32 → OV → Prop} (F : GF C X cX8_isText wsX8_isText RX8 rm_X8_isText 1 (some .boolean) D G l) (E : GE C bs0 0 0 (po_X8_isText G hMd qMd Q)) {vMd : OV} (hw : wp_X8_isText_0 Q vMd) : GW C 0 0 [bMd G hMd qMd vMd] 0 [(0, .ref hMd)] [] := by
  unfold wp_X8_isText_0 at hw
  refine gw_aload_n F dX8_isText_0 0 rfl ?_
  refine gw_iconst (v := (0 : Int32)) F dX8_isText_1 ic_iconst_0 ?_
  obtain ⟨v_1, e_v_1⟩ : ∃ z : OV, z = sI vMd 21 (0 : Int32) := ⟨_, rfl⟩
  have hw := hw v_1 e_v_1
  refine gw_put (bs' := [bMd G hMd qMd v_1]) F in_X8_isText_RX8 tyX8 tyX8_ok nmX8 0 rfl rfl 21 (by decide) lk_X8_isText_165 rfl rfl rfl (Nat.le_of_ble_eq_true rfl) dX8_isText_2 (by rw [e_v_1]; rfl) ?_
  refine gw_aload_n F dX8_isText_5 0 rfl ?_
  refine gw_iconst (v := (0 : Int32)) F dX8_isText_6 ic_iconst_0 ?_
  obtain ⟨v_2, e_v_2⟩ : ∃ z : OV, z = sI v_1 23 (0 : Int32) := ⟨_, rfl⟩
  have hw := hw v_2 e_v_2
  refine gw_put (bs' := [bMd G hMd qMd v_2]) F in_X8_isText_RX8 tyX8 tyX8_ok nmX8 0 rfl rfl 23 (by decide) lk_X8_isText_171 rfl rfl rfl (Nat.le_of_ble_eq_true rfl) dX8_isText_7 (by rw [e_v_2]; rfl) ?_
  obtain ⟨n_11, hw⟩ := hw
  exact lp_X8_isText_10 F E n_11 _ hw
def wp_X8_isText (Q : Int32 → OV → Prop) (vMd : OV) : Prop := wp_X8_isText_0 Q vMd
theorem ct_X8_isText {X : List Cond} {l : Launch} {D : va_G} {G : Nat → ClassId} {hMd : Nat} {qMd : Nat → Nat} {Q : Int32 → OV → Prop} {vMd : OV} (hw : wp_X8_isText Q vMd) : CM X l yX8_isText wsX8_isText rm_X8_isText D G [.ref hMd] [bMd G hMd qMd vMd] 0 0 (po_X8_isText G hMd qMd Q) :=
  CM.of pn_RX8 rfl rfl (Nat.le_of_ble_eq_true rfl) rfl (fun C F E => lb_X8_isText_0 F E hw)
-- X8_carries
abbrev rm_X8_carries : Room := { frames := 19, cells := 0, slots := 0, locals := 481 }
def po_X8_carries (G : Nat → ClassId) (hMd : Nat) (qMd : Nat → Nat) (Q : Int32 → OV → Prop) : Option Value → List va_W → Prop := fun o bs => ∃ (r : Int32) (vMd : OV), o = some (.int r) ∧ bs = [bMd G hMd qMd vMd] ∧ Q r vMd
theorem hd_X8_carries : yX8_carries.cls = RX8 ∧ yX8_carries.cls ≠ "java/lang/invoke/MethodHandle" ∧ yX8_carries.cls ≠ "java/lang/invoke/VarHandle" ∧ (parseMethodDescriptor yX8_carries.desc).map (fun d => d.parameters.length) = some 1 := by decide +kernel
theorem in_X8_carries_RX8 : ∀ w ∈ wsX80, w ∈ wsX8_carries := fun w h => List.mem_cons_of_mem _ (List.mem_append_left _ (List.mem_append_right _ h))
theorem lk_X8_carries_43 : Cond.fieldLink RX8 43 "KeyWavesModel" "told" "[I" ∈ wsX8_carries := List.mem_cons_of_mem _ (List.mem_append_left _ (List.mem_append_left _ (List.mem_append_left _ (List.mem_of_getElem? (i := 0) rfl))))
def wp_X8_carries_246 (Q : Int32 → OV → Prop) (x1 : Int32) (vMd : OV) : Prop :=
  (vp_in (x1 + (1 : Int32)) 124 ∧ (wp_X8_slack (fun (r_4 : Int32) (v_5 : OV) => (Q r_4 v_5)) (vMd.1 22 (x1 + (1 : Int32)).toNatClampNeg) vMd))
set_option maxRecDepth 20000 in
theorem lb_X8_carries_246 {X : List Cond} {l : Launch} {D : va_G} {G : Nat → ClassId} {C : Cx} {bs0 : List va_W} {hMd : Nat} {qMd : Nat → Nat} {Q : Int32 → OV → Prop} (F : GF C X cX8_carries wsX8_carries RX8 rm_X8_carries 2 (some .int) D G l) (E : GE C bs0 0 0 (po_X8_carries G hMd qMd Q)) {x1 : Int32} {vMd : OV} (hw : wp_X8_carries_246 Q x1 vMd) : GW C 0 0 [bMd G hMd qMd vMd] 246 [(0, .ref hMd), (1, .int x1)] [] := by
  unfold wp_X8_carries_246 at hw
  refine gw_aload_n F dX8_carries_246 0 rfl ?_
  refine gw_aload_n F dX8_carries_247 0 rfl ?_
  refine gw_get F in_X8_carries_RX8 0 rfl rfl 22 (by decide) lk_X8_carries_43 rfl dX8_carries_248 ?_
  refine gw_iload_n F dX8_carries_251 1 rfl ?_
  refine gw_iconst (v := (1 : Int32)) F dX8_carries_252 ic_iconst_1 ?_
  refine gw_iadd F dX8_carries_253 ?_
  obtain ⟨h_3, hw⟩ := hw
  refine gw_iald F 10 rfl h_3 dX8_carries_254 ?_
  refine gw_callV F (ct_X8_slack hw) 1 gX8_carries_X8_slack rfl rfl rfl hd_X8_slack ⟨(Nat.le_of_ble_eq_true rfl), (Nat.le_of_ble_eq_true rfl)⟩ rfl rfl (Nat.le_of_ble_eq_true rfl) ⟨Nat.zero_le _, Nat.zero_le _⟩ [0] (bsr := []) rfl rfl (q0 := 0) rfl rfl dX8_carries_255 ?_
  rintro _ _ ⟨r_4, v_5, rfl, rfl, hw⟩
  refine gw_sel [0] (bs' := [bMd G hMd qMd v_5]) rfl rfl ?_
  change GW C 0 0 _ 258 _ [.int r_4]
  exact gw_iret F E rfl rfl (Nat.le_of_ble_eq_true rfl) (Nat.le_of_ble_eq_true rfl) dX8_carries_258 ⟨_, _, rfl, rfl, hw⟩
def wp_X8_carries_0 (Q : Int32 → OV → Prop) (x1 : Int32) (vMd : OV) : Prop :=
  (vp_in x1 124 ∧ ((((vMd.1 22 x1.toNatClampNeg)).toInt < 98 ∨ 119 < ((vMd.1 22 x1.toNatClampNeg)).toInt → (wp_X8_carries_246 Q x1 vMd)) ∧ (((vMd.1 22 x1.toNatClampNeg)).toInt = 98 → (vp_in (x1 + (1 : Int32)) 124 ∧ (vp_in (x1 + (2 : Int32)) 124 ∧ (wp_X8_bar (fun (r_8 : Int32) (v_9 : OV) => (Q r_8 v_9)) (vMd.1 22 (x1 + (1 : Int32)).toNatClampNeg) (vMd.1 22 (x1 + (2 : Int32)).toNatClampNeg) (1 : Int32) vMd)))) ∧ (((vMd.1 22 x1.toNatClampNeg)).toInt = 99 → (vp_in (x1 + (1 : Int32)) 124 ∧ (vp_in (x1 + (2 : Int32)) 124 ∧ (wp_X8_cut (fun (r_12 : Int32) (v_13 : OV) => (Q r_12 v_13)) (vMd.1 22 (x1 + (1 : Int32)).toNatClampNeg) (vMd.1 22 (x1 + (2 : Int32)).toNatClampNeg) vMd)))) ∧ (((vMd.1 22 x1.toNatClampNeg)).toInt = 100 → (wp_X8_carries_246 Q x1 vMd)) ∧ (((vMd.1 22 x1.toNatClampNeg)).toInt = 101 → (wp_X8_carries_246 Q x1 vMd)) ∧ (((vMd.1 22 x1.toNatClampNeg)).toInt = 102 → (wp_X8_carries_246 Q x1 vMd)) ∧ (((vMd.1 22 x1.toNatClampNeg)).toInt = 103 → (wp_X8_carries_246 Q x1 vMd)) ∧ (((vMd.1 22 x1.toNatClampNeg)).toInt = 104 → (wp_X8_carries_246 Q x1 vMd)) ∧ (((vMd.1 22 x1.toNatClampNeg)).toInt = 105 → (wp_X8_carries_246 Q x1 vMd)) ∧ (((vMd.1 22 x1.toNatClampNeg)).toInt = 106 → (wp_X8_carries_246 Q x1 vMd)) ∧ (((vMd.1 22 x1.toNatClampNeg)).toInt = 107 → (vp_in (x1 + (1 : Int32)) 124 ∧ (vp_in (x1 + (2 : Int32)) 124 ∧ (wp_X8_key (fun (r_16 : Int32) (v_17 : OV) => (Q r_16 v_17)) (vMd.1 22 (x1 + (1 : Int32)).toNatClampNeg) (vMd.1 22 (x1 + (2 : Int32)).toNatClampNeg) vMd)))) ∧ (((vMd.1 22 x1.toNatClampNeg)).toInt = 108 → (vp_in (x1 + (1 : Int32)) 124 ∧ (wp_X8_lock (fun (r_19 : Int32) (v_20 : OV) => (Q r_19 v_20)) (vMd.1 22 (x1 + (1 : Int32)).toNatClampNeg) vMd))) ∧ (((vMd.1 22 x1.toNatClampNeg)).toInt = 109 → (wp_X8_carries_246 Q x1 vMd)) ∧ (((vMd.1 22 x1.toNatClampNeg)).toInt = 110 → (wp_X8_carries_246 Q x1 vMd)) ∧ (((vMd.1 22 x1.toNatClampNeg)).toInt = 111 → (wp_X8_carries_246 Q x1 vMd)) ∧ (((vMd.1 22 x1.toNatClampNeg)).toInt = 112 → (vp_in (x1 + (1 : Int32)) 124 ∧ (vp_in (x1 + (2 : Int32)) 124 ∧ (wp_X8_put (fun (r_23 : Int32) (v_24 : OV) => (Q r_23 v_24)) (vMd.1 22 (x1 + (1 : Int32)).toNatClampNeg) (vMd.1 22 (x1 + (2 : Int32)).toNatClampNeg) vMd)))) ∧ (((vMd.1 22 x1.toNatClampNeg)).toInt = 113 → (wp_X8_carries_246 Q x1 vMd)) ∧ (((vMd.1 22 x1.toNatClampNeg)).toInt = 114 → (wp_X8_carries_246 Q x1 vMd)) ∧ (((vMd.1 22 x1.toNatClampNeg)).toInt = 115 → (wp_X8_carries_246 Q x1 vMd)) ∧ (((vMd.1 22 x1.toNatClampNeg)).toInt = 116 → (vp_in (x1 + (1 : Int32)) 124 ∧ (wp_X8_take (fun (r_26 : Int32) (v_27 : OV) => (Q r_26 v_27)) (vMd.1 22 (x1 + (1 : Int32)).toNatClampNeg) vMd))) ∧ (((vMd.1 22 x1.toNatClampNeg)).toInt = 117 → (vp_in (x1 + (1 : Int32)) 124 ∧ (vp_in (x1 + (2 : Int32)) 124 ∧ (wp_X8_bar (fun (r_30 : Int32) (v_31 : OV) => (Q r_30 v_31)) (vMd.1 22 (x1 + (1 : Int32)).toNatClampNeg) (vMd.1 22 (x1 + (2 : Int32)).toNatClampNeg) (0 : Int32) vMd)))) ∧ (((vMd.1 22 x1.toNatClampNeg)).toInt = 118 → (wp_X8_carries_246 Q x1 vMd)) ∧ (((vMd.1 22 x1.toNatClampNeg)).toInt = 119 → (wp_X8_wave (fun (r_32 : Int32) (v_33 : OV) => (Q r_32 v_33)) vMd))))
set_option maxRecDepth 20000 in
theorem lb_X8_carries_0 {X : List Cond} {l : Launch} {D : va_G} {G : Nat → ClassId} {C : Cx} {bs0 : List va_W} {hMd : Nat} {qMd : Nat → Nat} {Q : Int32 → OV → Prop} (F : GF C X cX8_carries wsX8_carries RX8 rm_X8_carries 2 (some .int) D G l) (E : GE C bs0 0 0 (po_X8_carries G hMd qMd Q)) {x1 : Int32} {vMd : OV} (hw : wp_X8_carries_0 Q x1 vMd) : GW C 0 0 [bMd G hMd qMd vMd] 0 [(0, .ref hMd), (1, .int x1)] [] := by
  unfold wp_X8_carries_0 at hw
  refine gw_aload_n F dX8_carries_0 0 rfl ?_
  refine gw_get F in_X8_carries_RX8 0 rfl rfl 22 (by decide) lk_X8_carries_43 rfl dX8_carries_1 ?_
  refine gw_iload_n F dX8_carries_4 1 rfl ?_
  obtain ⟨h_1, hw⟩ := hw
  refine gw_iald F 10 rfl h_1 dX8_carries_5 ?_
  rcases tb_98_119 ((vMd.1 22 x1.toNatClampNeg)) with c_2 | c_2 | c_2 | c_2 | c_2 | c_2 | c_2 | c_2 | c_2 | c_2 | c_2 | c_2 | c_2 | c_2 | c_2 | c_2 | c_2 | c_2 | c_2 | c_2 | c_2 | c_2 | c_2
  · have hw := hw.1 c_2
    refine gw_tout (tgt := 246) F dX8_carries_6 c_2 (by decide) ?_
    exact lb_X8_carries_246 F E hw
  · have hw := hw.2.1 c_2
    refine gw_tin (j := 98) (off := 162) (tgt := 168) F dX8_carries_6 c_2 (by decide) (by decide) rfl (by decide) ?_
    refine gw_aload_n F dX8_carries_168 0 rfl ?_
    refine gw_aload_n F dX8_carries_169 0 rfl ?_
    refine gw_get F in_X8_carries_RX8 0 rfl rfl 22 (by decide) lk_X8_carries_43 rfl dX8_carries_170 ?_
    refine gw_iload_n F dX8_carries_173 1 rfl ?_
    refine gw_iconst (v := (1 : Int32)) F dX8_carries_174 ic_iconst_1 ?_
    refine gw_iadd F dX8_carries_175 ?_
    obtain ⟨h_6, hw⟩ := hw
    refine gw_iald F 10 rfl h_6 dX8_carries_176 ?_
    refine gw_aload_n F dX8_carries_177 0 rfl ?_
    refine gw_get F in_X8_carries_RX8 0 rfl rfl 22 (by decide) lk_X8_carries_43 rfl dX8_carries_178 ?_
    refine gw_iload_n F dX8_carries_181 1 rfl ?_
    refine gw_iconst (v := (2 : Int32)) F dX8_carries_182 ic_iconst_2 ?_
    refine gw_iadd F dX8_carries_183 ?_
    obtain ⟨h_7, hw⟩ := hw
    refine gw_iald F 10 rfl h_7 dX8_carries_184 ?_
    refine gw_iconst (v := (1 : Int32)) F dX8_carries_185 ic_iconst_1 ?_
    refine gw_callV F (ct_X8_bar hw) 3 gX8_carries_X8_bar rfl rfl rfl hd_X8_bar ⟨(Nat.le_of_ble_eq_true rfl), (Nat.le_of_ble_eq_true rfl)⟩ rfl rfl (Nat.le_of_ble_eq_true rfl) ⟨Nat.zero_le _, Nat.zero_le _⟩ [0] (bsr := []) rfl rfl (q0 := 0) rfl rfl dX8_carries_186 ?_
    rintro _ _ ⟨r_8, v_9, rfl, rfl, hw⟩
    refine gw_sel [0] (bs' := [bMd G hMd qMd v_9]) rfl rfl ?_
    change GW C 0 0 _ 189 _ [.int r_8]
    exact gw_iret F E rfl rfl (Nat.le_of_ble_eq_true rfl) (Nat.le_of_ble_eq_true rfl) dX8_carries_189 ⟨_, _, rfl, rfl, hw⟩
  · have hw := hw.2.2.1 c_2
    refine gw_tin (j := 99) (off := 128) (tgt := 134) F dX8_carries_6 c_2 (by decide) (by decide) rfl (by decide) ?_
    refine gw_aload_n F dX8_carries_134 0 rfl ?_
    refine gw_aload_n F dX8_carries_135 0 rfl ?_
    refine gw_get F in_X8_carries_RX8 0 rfl rfl 22 (by decide) lk_X8_carries_43 rfl dX8_carries_136 ?_
    refine gw_iload_n F dX8_carries_139 1 rfl ?_
    refine gw_iconst (v := (1 : Int32)) F dX8_carries_140 ic_iconst_1 ?_
    refine gw_iadd F dX8_carries_141 ?_
    obtain ⟨h_10, hw⟩ := hw
    refine gw_iald F 10 rfl h_10 dX8_carries_142 ?_
    refine gw_aload_n F dX8_carries_143 0 rfl ?_
    refine gw_get F in_X8_carries_RX8 0 rfl rfl 22 (by decide) lk_X8_carries_43 rfl dX8_carries_144 ?_
    refine gw_iload_n F dX8_carries_147 1 rfl ?_
    refine gw_iconst (v := (2 : Int32)) F dX8_carries_148 ic_iconst_2 ?_
    refine gw_iadd F dX8_carries_149 ?_
    obtain ⟨h_11, hw⟩ := hw
    refine gw_iald F 10 rfl h_11 dX8_carries_150 ?_
    refine gw_callV F (ct_X8_cut hw) 2 gX8_carries_X8_cut rfl rfl rfl hd_X8_cut ⟨(Nat.le_of_ble_eq_true rfl), (Nat.le_of_ble_eq_true rfl)⟩ rfl rfl (Nat.le_of_ble_eq_true rfl) ⟨Nat.zero_le _, Nat.zero_le _⟩ [0] (bsr := []) rfl rfl (q0 := 0) rfl rfl dX8_carries_151 ?_
    rintro _ _ ⟨r_12, v_13, rfl, rfl, hw⟩
    refine gw_sel [0] (bs' := [bMd G hMd qMd v_13]) rfl rfl ?_
    change GW C 0 0 _ 154 _ [.int r_12]
    exact gw_iret F E rfl rfl (Nat.le_of_ble_eq_true rfl) (Nat.le_of_ble_eq_true rfl) dX8_carries_154 ⟨_, _, rfl, rfl, hw⟩
  · have hw := hw.2.2.2.1 c_2
    refine gw_tin (j := 100) (off := 240) (tgt := 246) F dX8_carries_6 c_2 (by decide) (by decide) rfl (by decide) ?_
    exact lb_X8_carries_246 F E hw
  · have hw := hw.2.2.2.2.1 c_2
    refine gw_tin (j := 101) (off := 240) (tgt := 246) F dX8_carries_6 c_2 (by decide) (by decide) rfl (by decide) ?_
    exact lb_X8_carries_246 F E hw
  · have hw := hw.2.2.2.2.2.1 c_2
    refine gw_tin (j := 102) (off := 240) (tgt := 246) F dX8_carries_6 c_2 (by decide) (by decide) rfl (by decide) ?_
    exact lb_X8_carries_246 F E hw
  · have hw := hw.2.2.2.2.2.2.1 c_2
    refine gw_tin (j := 103) (off := 240) (tgt := 246) F dX8_carries_6 c_2 (by decide) (by decide) rfl (by decide) ?_
    exact lb_X8_carries_246 F E hw
  · have hw := hw.2.2.2.2.2.2.2.1 c_2
    refine gw_tin (j := 104) (off := 240) (tgt := 246) F dX8_carries_6 c_2 (by decide) (by decide) rfl (by decide) ?_
    exact lb_X8_carries_246 F E hw
  · have hw := hw.2.2.2.2.2.2.2.2.1 c_2
    refine gw_tin (j := 105) (off := 240) (tgt := 246) F dX8_carries_6 c_2 (by decide) (by decide) rfl (by decide) ?_
    exact lb_X8_carries_246 F E hw
  · have hw := hw.2.2.2.2.2.2.2.2.2.1 c_2
    refine gw_tin (j := 106) (off := 240) (tgt := 246) F dX8_carries_6 c_2 (by decide) (by decide) rfl (by decide) ?_
    exact lb_X8_carries_246 F E hw
  · have hw := hw.2.2.2.2.2.2.2.2.2.2.1 c_2
    refine gw_tin (j := 107) (off := 107) (tgt := 113) F dX8_carries_6 c_2 (by decide) (by decide) rfl (by decide) ?_
    refine gw_aload_n F dX8_carries_113 0 rfl ?_
    refine gw_aload_n F dX8_carries_114 0 rfl ?_
    refine gw_get F in_X8_carries_RX8 0 rfl rfl 22 (by decide) lk_X8_carries_43 rfl dX8_carries_115 ?_
    refine gw_iload_n F dX8_carries_118 1 rfl ?_
    refine gw_iconst (v := (1 : Int32)) F dX8_carries_119 ic_iconst_1 ?_
    refine gw_iadd F dX8_carries_120 ?_
    obtain ⟨h_14, hw⟩ := hw
    refine gw_iald F 10 rfl h_14 dX8_carries_121 ?_
    refine gw_aload_n F dX8_carries_122 0 rfl ?_
    refine gw_get F in_X8_carries_RX8 0 rfl rfl 22 (by decide) lk_X8_carries_43 rfl dX8_carries_123 ?_
    refine gw_iload_n F dX8_carries_126 1 rfl ?_
    refine gw_iconst (v := (2 : Int32)) F dX8_carries_127 ic_iconst_2 ?_
    refine gw_iadd F dX8_carries_128 ?_
    obtain ⟨h_15, hw⟩ := hw
    refine gw_iald F 10 rfl h_15 dX8_carries_129 ?_
    refine gw_callV F (ct_X8_key hw) 2 gX8_carries_X8_key rfl rfl rfl hd_X8_key ⟨(Nat.le_of_ble_eq_true rfl), (Nat.le_of_ble_eq_true rfl)⟩ rfl rfl (Nat.le_of_ble_eq_true rfl) ⟨Nat.zero_le _, Nat.zero_le _⟩ [0] (bsr := []) rfl rfl (q0 := 0) rfl rfl dX8_carries_130 ?_
    rintro _ _ ⟨r_16, v_17, rfl, rfl, hw⟩
    refine gw_sel [0] (bs' := [bMd G hMd qMd v_17]) rfl rfl ?_
    change GW C 0 0 _ 133 _ [.int r_16]
    exact gw_iret F E rfl rfl (Nat.le_of_ble_eq_true rfl) (Nat.le_of_ble_eq_true rfl) dX8_carries_133 ⟨_, _, rfl, rfl, hw⟩
  · have hw := hw.2.2.2.2.2.2.2.2.2.2.2.1 c_2
    refine gw_tin (j := 108) (off := 149) (tgt := 155) F dX8_carries_6 c_2 (by decide) (by decide) rfl (by decide) ?_
    refine gw_aload_n F dX8_carries_155 0 rfl ?_
    refine gw_aload_n F dX8_carries_156 0 rfl ?_
    refine gw_get F in_X8_carries_RX8 0 rfl rfl 22 (by decide) lk_X8_carries_43 rfl dX8_carries_157 ?_
    refine gw_iload_n F dX8_carries_160 1 rfl ?_
    refine gw_iconst (v := (1 : Int32)) F dX8_carries_161 ic_iconst_1 ?_
    refine gw_iadd F dX8_carries_162 ?_
    obtain ⟨h_18, hw⟩ := hw
    refine gw_iald F 10 rfl h_18 dX8_carries_163 ?_
    refine gw_callV F (ct_X8_lock hw) 1 gX8_carries_X8_lock rfl rfl rfl hd_X8_lock ⟨(Nat.le_of_ble_eq_true rfl), (Nat.le_of_ble_eq_true rfl)⟩ rfl rfl (Nat.le_of_ble_eq_true rfl) ⟨Nat.zero_le _, Nat.zero_le _⟩ [0] (bsr := []) rfl rfl (q0 := 0) rfl rfl dX8_carries_164 ?_
    rintro _ _ ⟨r_19, v_20, rfl, rfl, hw⟩
    refine gw_sel [0] (bs' := [bMd G hMd qMd v_20]) rfl rfl ?_
    change GW C 0 0 _ 167 _ [.int r_19]
    exact gw_iret F E rfl rfl (Nat.le_of_ble_eq_true rfl) (Nat.le_of_ble_eq_true rfl) dX8_carries_167 ⟨_, _, rfl, rfl, hw⟩
  · have hw := hw.2.2.2.2.2.2.2.2.2.2.2.2.1 c_2
    refine gw_tin (j := 109) (off := 240) (tgt := 246) F dX8_carries_6 c_2 (by decide) (by decide) rfl (by decide) ?_
    exact lb_X8_carries_246 F E hw
  · have hw := hw.2.2.2.2.2.2.2.2.2.2.2.2.2.1 c_2
    refine gw_tin (j := 110) (off := 240) (tgt := 246) F dX8_carries_6 c_2 (by decide) (by decide) rfl (by decide) ?_
    exact lb_X8_carries_246 F E hw
  · have hw := hw.2.2.2.2.2.2.2.2.2.2.2.2.2.2.1 c_2
    refine gw_tin (j := 111) (off := 240) (tgt := 246) F dX8_carries_6 c_2 (by decide) (by decide) rfl (by decide) ?_
    exact lb_X8_carries_246 F E hw
  · have hw := hw.2.2.2.2.2.2.2.2.2.2.2.2.2.2.2.1 c_2
    refine gw_tin (j := 112) (off := 206) (tgt := 212) F dX8_carries_6 c_2 (by decide) (by decide) rfl (by decide) ?_
    refine gw_aload_n F dX8_carries_212 0 rfl ?_
    refine gw_aload_n F dX8_carries_213 0 rfl ?_
    refine gw_get F in_X8_carries_RX8 0 rfl rfl 22 (by decide) lk_X8_carries_43 rfl dX8_carries_214 ?_
    refine gw_iload_n F dX8_carries_217 1 rfl ?_
    refine gw_iconst (v := (1 : Int32)) F dX8_carries_218 ic_iconst_1 ?_
    refine gw_iadd F dX8_carries_219 ?_
    obtain ⟨h_21, hw⟩ := hw
    refine gw_iald F 10 rfl h_21 dX8_carries_220 ?_
    refine gw_aload_n F dX8_carries_221 0 rfl ?_
    refine gw_get F in_X8_carries_RX8 0 rfl rfl 22 (by decide) lk_X8_carries_43 rfl dX8_carries_222 ?_
    refine gw_iload_n F dX8_carries_225 1 rfl ?_
    refine gw_iconst (v := (2 : Int32)) F dX8_carries_226 ic_iconst_2 ?_
    refine gw_iadd F dX8_carries_227 ?_
    obtain ⟨h_22, hw⟩ := hw
    refine gw_iald F 10 rfl h_22 dX8_carries_228 ?_
    refine gw_callV F (ct_X8_put hw) 2 gX8_carries_X8_put rfl rfl rfl hd_X8_put ⟨(Nat.le_of_ble_eq_true rfl), (Nat.le_of_ble_eq_true rfl)⟩ rfl rfl (Nat.le_of_ble_eq_true rfl) ⟨Nat.zero_le _, Nat.zero_le _⟩ [0] (bsr := []) rfl rfl (q0 := 0) rfl rfl dX8_carries_229 ?_
    rintro _ _ ⟨r_23, v_24, rfl, rfl, hw⟩
    refine gw_sel [0] (bs' := [bMd G hMd qMd v_24]) rfl rfl ?_
    change GW C 0 0 _ 232 _ [.int r_23]
    exact gw_iret F E rfl rfl (Nat.le_of_ble_eq_true rfl) (Nat.le_of_ble_eq_true rfl) dX8_carries_232 ⟨_, _, rfl, rfl, hw⟩
  · have hw := hw.2.2.2.2.2.2.2.2.2.2.2.2.2.2.2.2.1 c_2
    refine gw_tin (j := 113) (off := 240) (tgt := 246) F dX8_carries_6 c_2 (by decide) (by decide) rfl (by decide) ?_
    exact lb_X8_carries_246 F E hw
  · have hw := hw.2.2.2.2.2.2.2.2.2.2.2.2.2.2.2.2.2.1 c_2
    refine gw_tin (j := 114) (off := 240) (tgt := 246) F dX8_carries_6 c_2 (by decide) (by decide) rfl (by decide) ?_
    exact lb_X8_carries_246 F E hw
  · have hw := hw.2.2.2.2.2.2.2.2.2.2.2.2.2.2.2.2.2.2.1 c_2
    refine gw_tin (j := 115) (off := 240) (tgt := 246) F dX8_carries_6 c_2 (by decide) (by decide) rfl (by decide) ?_
    exact lb_X8_carries_246 F E hw
  · have hw := hw.2.2.2.2.2.2.2.2.2.2.2.2.2.2.2.2.2.2.2.1 c_2
    refine gw_tin (j := 116) (off := 227) (tgt := 233) F dX8_carries_6 c_2 (by decide) (by decide) rfl (by decide) ?_
    refine gw_aload_n F dX8_carries_233 0 rfl ?_
    refine gw_aload_n F dX8_carries_234 0 rfl ?_
    refine gw_get F in_X8_carries_RX8 0 rfl rfl 22 (by decide) lk_X8_carries_43 rfl dX8_carries_235 ?_
    refine gw_iload_n F dX8_carries_238 1 rfl ?_
    refine gw_iconst (v := (1 : Int32)) F dX8_carries_239 ic_iconst_1 ?_
    refine gw_iadd F dX8_carries_240 ?_
    obtain ⟨h_25, hw⟩ := hw
    refine gw_iald F 10 rfl h_25 dX8_carries_241 ?_
    refine gw_callV F (ct_X8_take hw) 1 gX8_carries_X8_take rfl rfl rfl hd_X8_take ⟨(Nat.le_of_ble_eq_true rfl), (Nat.le_of_ble_eq_true rfl)⟩ rfl rfl (Nat.le_of_ble_eq_true rfl) ⟨Nat.zero_le _, Nat.zero_le _⟩ [0] (bsr := []) rfl rfl (q0 := 0) rfl rfl dX8_carries_242 ?_
    rintro _ _ ⟨r_26, v_27, rfl, rfl, hw⟩
    refine gw_sel [0] (bs' := [bMd G hMd qMd v_27]) rfl rfl ?_
    change GW C 0 0 _ 245 _ [.int r_26]
    exact gw_iret F E rfl rfl (Nat.le_of_ble_eq_true rfl) (Nat.le_of_ble_eq_true rfl) dX8_carries_245 ⟨_, _, rfl, rfl, hw⟩
  · have hw := hw.2.2.2.2.2.2.2.2.2.2.2.2.2.2.2.2.2.2.2.2.1 c_2
    refine gw_tin (j := 117) (off := 184) (tgt := 190) F dX8_carries_6 c_2 (by decide) (by decide) rfl (by decide) ?_
    refine gw_aload_n F dX8_carries_190 0 rfl ?_
    refine gw_aload_n F dX8_carries_191 0 rfl ?_
    refine gw_get F in_X8_carries_RX8 0 rfl rfl 22 (by decide) lk_X8_carries_43 rfl dX8_carries_192 ?_
    refine gw_iload_n F dX8_carries_195 1 rfl ?_
    refine gw_iconst (v := (1 : Int32)) F dX8_carries_196 ic_iconst_1 ?_
    refine gw_iadd F dX8_carries_197 ?_
    obtain ⟨h_28, hw⟩ := hw
    refine gw_iald F 10 rfl h_28 dX8_carries_198 ?_
    refine gw_aload_n F dX8_carries_199 0 rfl ?_
    refine gw_get F in_X8_carries_RX8 0 rfl rfl 22 (by decide) lk_X8_carries_43 rfl dX8_carries_200 ?_
    refine gw_iload_n F dX8_carries_203 1 rfl ?_
    refine gw_iconst (v := (2 : Int32)) F dX8_carries_204 ic_iconst_2 ?_
    refine gw_iadd F dX8_carries_205 ?_
    obtain ⟨h_29, hw⟩ := hw
    refine gw_iald F 10 rfl h_29 dX8_carries_206 ?_
    refine gw_iconst (v := (0 : Int32)) F dX8_carries_207 ic_iconst_0 ?_
    refine gw_callV F (ct_X8_bar hw) 3 gX8_carries_X8_bar rfl rfl rfl hd_X8_bar ⟨(Nat.le_of_ble_eq_true rfl), (Nat.le_of_ble_eq_true rfl)⟩ rfl rfl (Nat.le_of_ble_eq_true rfl) ⟨Nat.zero_le _, Nat.zero_le _⟩ [0] (bsr := []) rfl rfl (q0 := 0) rfl rfl dX8_carries_208 ?_
    rintro _ _ ⟨r_30, v_31, rfl, rfl, hw⟩
    refine gw_sel [0] (bs' := [bMd G hMd qMd v_31]) rfl rfl ?_
    change GW C 0 0 _ 211 _ [.int r_30]
    exact gw_iret F E rfl rfl (Nat.le_of_ble_eq_true rfl) (Nat.le_of_ble_eq_true rfl) dX8_carries_211 ⟨_, _, rfl, rfl, hw⟩
  · have hw := hw.2.2.2.2.2.2.2.2.2.2.2.2.2.2.2.2.2.2.2.2.2.1 c_2
    refine gw_tin (j := 118) (off := 240) (tgt := 246) F dX8_carries_6 c_2 (by decide) (by decide) rfl (by decide) ?_
    exact lb_X8_carries_246 F E hw
  · have hw := hw.2.2.2.2.2.2.2.2.2.2.2.2.2.2.2.2.2.2.2.2.2.2 c_2
    refine gw_tin (j := 119) (off := 102) (tgt := 108) F dX8_carries_6 c_2 (by decide) (by decide) rfl (by decide) ?_
    refine gw_aload_n F dX8_carries_108 0 rfl ?_
    refine gw_callV F (ct_X8_wave hw) 0 gX8_carries_X8_wave rfl rfl rfl hd_X8_wave ⟨(Nat.le_of_ble_eq_true rfl), (Nat.le_of_ble_eq_true rfl)⟩ rfl rfl (Nat.le_of_ble_eq_true rfl) ⟨Nat.zero_le _, Nat.zero_le _⟩ [0] (bsr := []) rfl rfl (q0 := 0) rfl rfl dX8_carries_109 ?_
    rintro _ _ ⟨r_32, v_33, rfl, rfl, hw⟩
    refine gw_sel [0] (bs' := [bMd G hMd qMd v_33]) rfl rfl ?_
    change GW C 0 0 _ 112 _ [.int r_32]
    exact gw_iret F E rfl rfl (Nat.le_of_ble_eq_true rfl) (Nat.le_of_ble_eq_true rfl) dX8_carries_112 ⟨_, _, rfl, rfl, hw⟩
def wp_X8_carries (Q : Int32 → OV → Prop) (x1 : Int32) (vMd : OV) : Prop := wp_X8_carries_0 Q x1 vMd
theorem ct_X8_carries {X : List Cond} {l : Launch} {D : va_G} {G : Nat → ClassId} {hMd : Nat} {qMd : Nat → Nat} {Q : Int32 → OV → Prop} {x1 : Int32} {vMd : OV} (hw : wp_X8_carries Q x1 vMd) : CM X l yX8_carries wsX8_carries rm_X8_carries D G [.ref hMd, .int x1] [bMd G hMd qMd vMd] 0 0 (po_X8_carries G hMd qMd Q) :=
  CM.of pn_RX8 rfl rfl (Nat.le_of_ble_eq_true rfl) rfl (fun C F E => lb_X8_carries_0 F E hw)
-- X8_commands
abbrev rm_X8_commands : Room := { frames := 20, cells := 0, slots := 0, locals := 502 }
def po_X8_commands (G : Nat → ClassId) (hMd : Nat) (qMd : Nat → Nat) (Q : Int32 → OV → Prop) : Option Value → List va_W → Prop := fun o bs => ∃ (r : Int32) (vMd : OV), o = some (.int r) ∧ bs = [bMd G hMd qMd vMd] ∧ Q r vMd
theorem hd_X8_commands : yX8_commands.cls = RX8 ∧ yX8_commands.cls ≠ "java/lang/invoke/MethodHandle" ∧ yX8_commands.cls ≠ "java/lang/invoke/VarHandle" ∧ (parseMethodDescriptor yX8_commands.desc).map (fun d => d.parameters.length) = some 0 := by decide +kernel
theorem in_X8_commands_RX8 : ∀ w ∈ wsX80, w ∈ wsX8_commands := fun w h => List.mem_cons_of_mem _ (List.mem_append_left _ (List.mem_append_right _ h))
theorem lk_X8_commands_165 : Cond.fieldLink RX8 165 "KeyWavesModel" "at" "I" ∈ wsX8_commands := List.mem_cons_of_mem _ (List.mem_append_left _ (List.mem_append_left _ (List.mem_append_left _ (List.mem_of_getElem? (i := 0) rfl))))
theorem lk_X8_commands_28 : Cond.fieldLink RX8 28 "KeyWavesModel" "fault0" "I" ∈ wsX8_commands := List.mem_cons_of_mem _ (List.mem_append_left _ (List.mem_append_left _ (List.mem_append_left _ (List.mem_of_getElem? (i := 1) rfl))))
theorem lk_X8_commands_162 : Cond.fieldLink RX8 162 "KeyWavesModel" "length" "I" ∈ wsX8_commands := List.mem_cons_of_mem _ (List.mem_append_left _ (List.mem_append_left _ (List.mem_append_left _ (List.mem_of_getElem? (i := 2) rfl))))
theorem lk_X8_commands_7 : Cond.fieldLink RX8 7 "KeyWavesModel" "g" "[I" ∈ wsX8_commands := List.mem_cons_of_mem _ (List.mem_append_left _ (List.mem_append_left _ (List.mem_append_left _ (List.mem_of_getElem? (i := 3) rfl))))
theorem lk_X8_commands_19 : Cond.fieldLink RX8 19 "KeyWavesModel" "before" "[I" ∈ wsX8_commands := List.mem_cons_of_mem _ (List.mem_append_left _ (List.mem_append_left _ (List.mem_append_left _ (List.mem_of_getElem? (i := 4) rfl))))
theorem lk_X8_commands_55 : Cond.fieldLink RX8 55 "KeyWavesModel" "isWithin" "Z" ∈ wsX8_commands := List.mem_cons_of_mem _ (List.mem_append_left _ (List.mem_append_left _ (List.mem_append_left _ (List.mem_of_getElem? (i := 5) rfl))))
theorem lk_X8_commands_59 : Cond.fieldLink RX8 59 "KeyWavesModel" "done" "I" ∈ wsX8_commands := List.mem_cons_of_mem _ (List.mem_append_left _ (List.mem_append_left _ (List.mem_append_left _ (List.mem_of_getElem? (i := 6) rfl))))
theorem lk_X8_commands_171 : Cond.fieldLink RX8 171 "KeyWavesModel" "toldMany" "I" ∈ wsX8_commands := List.mem_cons_of_mem _ (List.mem_append_left _ (List.mem_append_left _ (List.mem_append_left _ (List.mem_of_getElem? (i := 7) rfl))))
theorem lk_X8_commands_46 : Cond.fieldLink RX8 46 "KeyWavesModel" "code" "I" ∈ wsX8_commands := List.mem_cons_of_mem _ (List.mem_append_left _ (List.mem_append_left _ (List.mem_append_left _ (List.mem_of_getElem? (i := 8) rfl))))
def wp_X8_commands_157 (Q : Int32 → OV → Prop) (s0 : Int32) (vMd : OV) : Prop :=
  (Q s0 vMd)
set_option maxRecDepth 20000 in
theorem lb_X8_commands_157 {X : List Cond} {l : Launch} {D : va_G} {G : Nat → ClassId} {C : Cx} {bs0 : List va_W} {hMd : Nat} {qMd : Nat → Nat} {Q : Int32 → OV → Prop} (F : GF C X cX8_commands wsX8_commands RX8 rm_X8_commands 3 (some .int) D G l) (E : GE C bs0 0 0 (po_X8_commands G hMd qMd Q)) {s0 : Int32} {vMd : OV} (hw : wp_X8_commands_157 Q s0 vMd) : GW C 0 0 [bMd G hMd qMd vMd] 157 [] [.int s0] := by
  unfold wp_X8_commands_157 at hw
  exact gw_iret F E rfl rfl (Nat.le_of_ble_eq_true rfl) (Nat.le_of_ble_eq_true rfl) dX8_commands_157 ⟨_, _, rfl, rfl, hw⟩
def wp_X8_commands_118 (Q : Int32 → OV → Prop) (x2 : Int32) (vMd : OV) : Prop :=
  (∀ v_15 : OV, v_15 = sI vMd 7 (0 : Int32) → (((v_15.2 9) ≤ 0 → (wp_X8_keeps3 (fun (v_17 : OV) => (Q (v_17.2 23) v_17)) v_15)) ∧ (¬ ((v_15.2 9) ≤ 0) → (wp_X8_copies (fun (v_18 : (Nat → Int32)) => (∀ v_19 : OV, v_19 = sF v_15 0 v_18 → (∀ v_20 : OV, v_20 = sI v_19 9 (2 : Int32) → ((x2 ≤ 0 → (wp_X8_commands_157 Q x2 v_20)) ∧ (¬ (x2 ≤ 0) → (wp_X8_commands_157 Q (0 : Int32) v_20)))))) 177 177 (0 : Int32) (0 : Int32) (v_15.1 3) (v_15.1 0)))))
set_option maxRecDepth 20000 in
theorem lb_X8_commands_118 {X : List Cond} {l : Launch} {D : va_G} {G : Nat → ClassId} {C : Cx} {bs0 : List va_W} {hMd : Nat} {qMd : Nat → Nat} {Q : Int32 → OV → Prop} (F : GF C X cX8_commands wsX8_commands RX8 rm_X8_commands 3 (some .int) D G l) (E : GE C bs0 0 0 (po_X8_commands G hMd qMd Q)) {x2 : Int32} {vMd : OV} (hw : wp_X8_commands_118 Q x2 vMd) : GW C 0 0 [bMd G hMd qMd vMd] 118 [(0, .ref hMd), (2, .int x2)] [] := by
  unfold wp_X8_commands_118 at hw
  refine gw_aload_n F dX8_commands_118 0 rfl ?_
  refine gw_iconst (v := (0 : Int32)) F dX8_commands_119 ic_iconst_0 ?_
  obtain ⟨v_15, e_v_15⟩ : ∃ z : OV, z = sI vMd 7 (0 : Int32) := ⟨_, rfl⟩
  have hw := hw v_15 e_v_15
  refine gw_put (bs' := [bMd G hMd qMd v_15]) F in_X8_commands_RX8 tyX8 tyX8_ok nmX8 0 rfl rfl 7 (by decide) lk_X8_commands_55 rfl rfl rfl (Nat.le_of_ble_eq_true rfl) dX8_commands_120 (by rw [e_v_15]; rfl) ?_
  refine gw_aload_n F dX8_commands_123 0 rfl ?_
  refine gw_get F in_X8_commands_RX8 0 rfl rfl 9 (by decide) lk_X8_commands_46 rfl dX8_commands_124 ?_
  refine gw_if_le (tgt := 158) F dX8_commands_127 (by decide) (fun c_16 => ?_) (fun c_16 => ?_)
  · have hw := hw.1 c_16
    refine gw_aload_n F dX8_commands_158 0 rfl ?_
    refine gw_aload_n F dX8_commands_159 0 rfl ?_
    refine gw_get F in_X8_commands_RX8 0 rfl rfl 3 (by decide) lk_X8_commands_19 rfl dX8_commands_160 ?_
    refine gw_callV F (ct_X8_keeps3 hw) 1 gX8_commands_X8_keeps rfl rfl rfl hd_X8_keeps ⟨(Nat.le_of_ble_eq_true rfl), (Nat.le_of_ble_eq_true rfl)⟩ rfl rfl (Nat.le_of_ble_eq_true rfl) ⟨Nat.zero_le _, Nat.zero_le _⟩ [0] (bsr := []) rfl rfl (q0 := 0) rfl rfl dX8_commands_163 ?_
    rintro _ _ ⟨v_17, rfl, rfl, hw⟩
    refine gw_sel [0] (bs' := [bMd G hMd qMd v_17]) rfl rfl ?_
    change GW C 0 0 _ 166 _ []
    refine gw_aload_n F dX8_commands_166 0 rfl ?_
    refine gw_get F in_X8_commands_RX8 0 rfl rfl 23 (by decide) lk_X8_commands_171 rfl dX8_commands_167 ?_
    exact gw_iret F E rfl rfl (Nat.le_of_ble_eq_true rfl) (Nat.le_of_ble_eq_true rfl) dX8_commands_170 ⟨_, _, rfl, rfl, hw⟩
  · have hw := hw.2 c_16
    refine gw_aload_n F dX8_commands_130 0 rfl ?_
    refine gw_get F in_X8_commands_RX8 0 rfl rfl 3 (by decide) lk_X8_commands_19 rfl dX8_commands_131 ?_
    refine gw_iconst (v := (0 : Int32)) F dX8_commands_134 ic_iconst_0 ?_
    refine gw_aload_n F dX8_commands_135 0 rfl ?_
    refine gw_get F in_X8_commands_RX8 0 rfl rfl 0 (by decide) lk_X8_commands_7 rfl dX8_commands_136 ?_
    refine gw_iconst (v := (0 : Int32)) F dX8_commands_139 ic_iconst_0 ?_
    refine gw_flat (bs' := mdB G hMd qMd v_15) rfl ?_
    refine gw_callS F (ct_X8_copies hw) 4 gX8_commands_X8_copies rfl rfl rfl hd_X8_copies ⟨(Nat.le_of_ble_eq_true rfl), (Nat.le_of_ble_eq_true rfl)⟩ rfl rfl (Nat.le_of_ble_eq_true rfl) ⟨Nat.zero_le _, Nat.zero_le _⟩ [0, 2, 3, 5, 6, 7, 8, 9, 10, 4, 1] (bsr := ((mdB G hMd qMd v_15).eraseIdx 4 |>.eraseIdx 1)) rfl rfl dX8_commands_140 ?_
    rintro _ _ ⟨v_18, rfl, rfl, hw⟩
    obtain ⟨v_19, e_v_19⟩ : ∃ z : OV, z = sF v_15 0 v_18 := ⟨_, rfl⟩
    have hw := hw v_19 e_v_19
    refine gw_sel [0, 10, 1, 2, 9, 3, 4, 5, 6, 7, 8] (bs' := mdB G hMd qMd v_19) (by rw [e_v_19]; rfl) rfl ?_
    refine gw_flat (bs' := [bMd G hMd qMd v_19]) rfl ?_
    change GW C 0 0 _ 143 _ []
    refine gw_aload_n F dX8_commands_143 0 rfl ?_
    refine gw_iconst (v := (2 : Int32)) F dX8_commands_144 ic_iconst_2 ?_
    obtain ⟨v_20, e_v_20⟩ : ∃ z : OV, z = sI v_19 9 (2 : Int32) := ⟨_, rfl⟩
    have hw := hw v_20 e_v_20
    refine gw_put (bs' := [bMd G hMd qMd v_20]) F in_X8_commands_RX8 tyX8 tyX8_ok nmX8 0 rfl rfl 9 (by decide) lk_X8_commands_46 rfl rfl rfl (Nat.le_of_ble_eq_true rfl) dX8_commands_145 (by rw [e_v_20]; rfl) ?_
    refine gw_iload_n F dX8_commands_148 1 rfl ?_
    refine gw_if_le (tgt := 156) F dX8_commands_149 (by decide) (fun c_21 => ?_) (fun c_21 => ?_)
    · have hw := hw.1 c_21
      refine gw_iload_n F dX8_commands_156 1 rfl ?_
      refine gw_lv [] rfl ?_
      exact lb_X8_commands_157 F E hw
    · have hw := hw.2 c_21
      refine gw_iconst (v := (0 : Int32)) F dX8_commands_152 ic_iconst_0 ?_
      refine gw_goto (tgt := 157) F dX8_commands_153 (by decide) ?_
      refine gw_lv [] rfl ?_
      exact lb_X8_commands_157 F E hw
def wp_X8_commands_69 (Q : Int32 → OV → Prop) (K69 : Int32 → OV → Prop) (x2 : Int32) (vMd : OV) : Prop :=
  (((vMd.2 23) ≤ (vMd.2 8) → (wp_X8_commands_118 Q x2 vMd)) ∧ (¬ ((vMd.2 23) ≤ (vMd.2 8)) → ((¬ (vMd.2 9) = 0 → (wp_X8_commands_118 Q x2 vMd)) ∧ ((vMd.2 9) = 0 → (wp_X8_carries (fun (r_23 : Int32) (v_24 : OV) => ((¬ (v_24.2 9) = 0 → (K69 r_23 v_24)) ∧ ((v_24.2 9) = 0 → (∀ v_26 : OV, v_26 = sI v_24 8 ((v_24.2 8) + (1 : Int32)) → (K69 r_23 v_26))))) ((4 : Int32) * (vMd.2 8)) vMd)))))
set_option maxRecDepth 20000 in
theorem lb_X8_commands_69 {X : List Cond} {l : Launch} {D : va_G} {G : Nat → ClassId} {C : Cx} {bs0 : List va_W} {hMd : Nat} {qMd : Nat → Nat} {Q : Int32 → OV → Prop} {K69 : Int32 → OV → Prop} (F : GF C X cX8_commands wsX8_commands RX8 rm_X8_commands 3 (some .int) D G l) (E : GE C bs0 0 0 (po_X8_commands G hMd qMd Q)) (hK69 : ∀ (x2 : Int32) (vMd : OV), K69 x2 vMd → GW C 0 0 [bMd G hMd qMd vMd] 69 [(0, .ref hMd), (2, .int x2)] []) {x2 : Int32} {vMd : OV} (hw : wp_X8_commands_69 Q K69 x2 vMd) : GW C 0 0 [bMd G hMd qMd vMd] 69 [(0, .ref hMd), (2, .int x2)] [] := by
  unfold wp_X8_commands_69 at hw
  refine gw_aload_n F dX8_commands_69 0 rfl ?_
  refine gw_get F in_X8_commands_RX8 0 rfl rfl 8 (by decide) lk_X8_commands_59 rfl dX8_commands_70 ?_
  refine gw_aload_n F dX8_commands_73 0 rfl ?_
  refine gw_get F in_X8_commands_RX8 0 rfl rfl 23 (by decide) lk_X8_commands_171 rfl dX8_commands_74 ?_
  refine gw_icmp_ge (tgt := 118) F dX8_commands_77 (by decide) (fun c_14 => ?_) (fun c_14 => ?_)
  · have hw := hw.1 c_14
    exact lb_X8_commands_118 F E hw
  · have hw := hw.2 c_14
    refine gw_aload_n F dX8_commands_80 0 rfl ?_
    refine gw_get F in_X8_commands_RX8 0 rfl rfl 9 (by decide) lk_X8_commands_46 rfl dX8_commands_81 ?_
    refine gw_if_ne (tgt := 118) F dX8_commands_84 (by decide) (fun c_22 => ?_) (fun c_22 => ?_)
    · have hw := hw.1 c_22
      exact lb_X8_commands_118 F E hw
    · have hw := hw.2 c_22
      refine gw_aload_n F dX8_commands_87 0 rfl ?_
      refine gw_iconst (v := (4 : Int32)) F dX8_commands_88 ic_iconst_4 ?_
      refine gw_aload_n F dX8_commands_89 0 rfl ?_
      refine gw_get F in_X8_commands_RX8 0 rfl rfl 8 (by decide) lk_X8_commands_59 rfl dX8_commands_90 ?_
      refine gw_imul F dX8_commands_93 ?_
      refine gw_callV F (ct_X8_carries hw) 1 gX8_commands_X8_carries rfl rfl rfl hd_X8_carries ⟨(Nat.le_of_ble_eq_true rfl), (Nat.le_of_ble_eq_true rfl)⟩ rfl rfl (Nat.le_of_ble_eq_true rfl) ⟨Nat.zero_le _, Nat.zero_le _⟩ [0] (bsr := []) rfl rfl (q0 := 0) rfl rfl dX8_commands_94 ?_
      rintro _ _ ⟨r_23, v_24, rfl, rfl, hw⟩
      refine gw_sel [0] (bs' := [bMd G hMd qMd v_24]) rfl rfl ?_
      change GW C 0 0 _ 97 _ [.int r_23]
      refine gw_istore_n (lv' := [(2, .int r_23), (0, .ref hMd)]) F dX8_commands_97 (by decide) rfl ?_
      refine gw_aload_n F dX8_commands_98 1 rfl ?_
      refine gw_get F in_X8_commands_RX8 0 rfl rfl 9 (by decide) lk_X8_commands_46 rfl dX8_commands_99 ?_
      refine gw_if_ne (tgt := 69) F dX8_commands_102 (by decide) (fun c_25 => ?_) (fun c_25 => ?_)
      · have hw := hw.1 c_25
        refine gw_lv [1, 0] rfl ?_
        exact hK69 _ _ hw
      · have hw := hw.2 c_25
        refine gw_aload_n F dX8_commands_105 1 rfl ?_
        refine gw_dup F dX8_commands_106 rfl ?_
        refine gw_get F in_X8_commands_RX8 0 rfl rfl 8 (by decide) lk_X8_commands_59 rfl dX8_commands_107 ?_
        refine gw_iconst (v := (1 : Int32)) F dX8_commands_110 ic_iconst_1 ?_
        refine gw_iadd F dX8_commands_111 ?_
        obtain ⟨v_26, e_v_26⟩ : ∃ z : OV, z = sI v_24 8 ((v_24.2 8) + (1 : Int32)) := ⟨_, rfl⟩
        have hw := hw v_26 e_v_26
        refine gw_put (bs' := [bMd G hMd qMd v_26]) F in_X8_commands_RX8 tyX8 tyX8_ok nmX8 0 rfl rfl 8 (by decide) lk_X8_commands_59 rfl rfl rfl (Nat.le_of_ble_eq_true rfl) dX8_commands_112 (by rw [e_v_26]; rfl) ?_
        refine gw_goto (tgt := 69) F dX8_commands_115 (by decide) ?_
        refine gw_lv [1, 0] rfl ?_
        exact hK69 _ _ hw
def wp_X8_commands_69_loop (Q : Int32 → OV → Prop) : Nat → Int32 → OV → Prop
  | 0, _, _ => False
  | n + 1, x2, vMd => wp_X8_commands_69 Q (wp_X8_commands_69_loop Q n) x2 vMd
theorem lp_X8_commands_69 {X : List Cond} {l : Launch} {D : va_G} {G : Nat → ClassId} {C : Cx} {bs0 : List va_W} {hMd : Nat} {qMd : Nat → Nat} {Q : Int32 → OV → Prop} (F : GF C X cX8_commands wsX8_commands RX8 rm_X8_commands 3 (some .int) D G l) (E : GE C bs0 0 0 (po_X8_commands G hMd qMd Q)) : ∀ (n : Nat) (x2 : Int32) (vMd : OV), wp_X8_commands_69_loop Q n x2 vMd → GW C 0 0 [bMd G hMd qMd vMd] 69 [(0, .ref hMd), (2, .int x2)] [] := by
  intro n
  induction n with
  | zero => intro x2 vMd hw; exact False.elim hw
  | succ n ih => intro x2 vMd hw; exact lb_X8_commands_69 (K69 := wp_X8_commands_69_loop Q n) F E ih hw
def wp_X8_commands_36 (Q : Int32 → OV → Prop) (s1 : Int32) (vMd : OV) : Prop :=
  (wp_X8_fails (fun (r_7 : Int32) (v_8 : OV) => ((r_7 = 0 → (wp_X8_copies (fun (v_10 : (Nat → Int32)) => (∀ v_11 : OV, v_11 = sF v_8 3 v_10 → (∀ v_12 : OV, v_12 = sI v_11 7 (1 : Int32) → (∀ v_13 : OV, v_13 = sI v_12 8 (0 : Int32) → (∃ n_27 : Nat, wp_X8_commands_69_loop Q n_27 (0 : Int32) v_13))))) 177 177 (0 : Int32) (0 : Int32) (v_8.1 0) (v_8.1 3))) ∧ (¬ (r_7 = 0) → (Q (0 : Int32) v_8)))) s1 vMd)
set_option maxRecDepth 20000 in
theorem lb_X8_commands_36 {X : List Cond} {l : Launch} {D : va_G} {G : Nat → ClassId} {C : Cx} {bs0 : List va_W} {hMd : Nat} {qMd : Nat → Nat} {Q : Int32 → OV → Prop} (F : GF C X cX8_commands wsX8_commands RX8 rm_X8_commands 3 (some .int) D G l) (E : GE C bs0 0 0 (po_X8_commands G hMd qMd Q)) {s1 : Int32} {vMd : OV} (hw : wp_X8_commands_36 Q s1 vMd) : GW C 0 0 [bMd G hMd qMd vMd] 36 [(0, .ref hMd)] [.int s1, .ref hMd] := by
  unfold wp_X8_commands_36 at hw
  refine gw_callV F (ct_X8_fails hw) 1 gX8_commands_X8_fails rfl rfl rfl hd_X8_fails ⟨(Nat.le_of_ble_eq_true rfl), (Nat.le_of_ble_eq_true rfl)⟩ rfl rfl (Nat.le_of_ble_eq_true rfl) ⟨Nat.zero_le _, Nat.zero_le _⟩ [0] (bsr := []) rfl rfl (q0 := 0) rfl rfl dX8_commands_36 ?_
  rintro _ _ ⟨r_7, v_8, rfl, rfl, hw⟩
  refine gw_sel [0] (bs' := [bMd G hMd qMd v_8]) rfl rfl ?_
  change GW C 0 0 _ 39 _ [.int r_7]
  refine gw_if_eq (tgt := 44) F dX8_commands_39 (by decide) (fun c_9 => ?_) (fun c_9 => ?_)
  · have hw := hw.1 c_9
    refine gw_aload_n F dX8_commands_44 0 rfl ?_
    refine gw_get F in_X8_commands_RX8 0 rfl rfl 0 (by decide) lk_X8_commands_7 rfl dX8_commands_45 ?_
    refine gw_iconst (v := (0 : Int32)) F dX8_commands_48 ic_iconst_0 ?_
    refine gw_aload_n F dX8_commands_49 0 rfl ?_
    refine gw_get F in_X8_commands_RX8 0 rfl rfl 3 (by decide) lk_X8_commands_19 rfl dX8_commands_50 ?_
    refine gw_iconst (v := (0 : Int32)) F dX8_commands_53 ic_iconst_0 ?_
    refine gw_flat (bs' := mdB G hMd qMd v_8) rfl ?_
    refine gw_callS F (ct_X8_copies hw) 4 gX8_commands_X8_copies rfl rfl rfl hd_X8_copies ⟨(Nat.le_of_ble_eq_true rfl), (Nat.le_of_ble_eq_true rfl)⟩ rfl rfl (Nat.le_of_ble_eq_true rfl) ⟨Nat.zero_le _, Nat.zero_le _⟩ [0, 2, 3, 5, 6, 7, 8, 9, 10, 1, 4] (bsr := ((mdB G hMd qMd v_8).eraseIdx 4 |>.eraseIdx 1)) rfl rfl dX8_commands_54 ?_
    rintro _ _ ⟨v_10, rfl, rfl, hw⟩
    obtain ⟨v_11, e_v_11⟩ : ∃ z : OV, z = sF v_8 3 v_10 := ⟨_, rfl⟩
    have hw := hw v_11 e_v_11
    refine gw_sel [0, 9, 1, 2, 10, 3, 4, 5, 6, 7, 8] (bs' := mdB G hMd qMd v_11) (by rw [e_v_11]; rfl) rfl ?_
    refine gw_flat (bs' := [bMd G hMd qMd v_11]) rfl ?_
    change GW C 0 0 _ 57 _ []
    refine gw_aload_n F dX8_commands_57 0 rfl ?_
    refine gw_iconst (v := (1 : Int32)) F dX8_commands_58 ic_iconst_1 ?_
    obtain ⟨v_12, e_v_12⟩ : ∃ z : OV, z = sI v_11 7 (1 : Int32) := ⟨_, rfl⟩
    have hw := hw v_12 e_v_12
    refine gw_put (bs' := [bMd G hMd qMd v_12]) F in_X8_commands_RX8 tyX8 tyX8_ok nmX8 0 rfl rfl 7 (by decide) lk_X8_commands_55 rfl rfl rfl (Nat.le_of_ble_eq_true rfl) dX8_commands_59 (by rw [e_v_12]; rfl) ?_
    refine gw_aload_n F dX8_commands_62 0 rfl ?_
    refine gw_iconst (v := (0 : Int32)) F dX8_commands_63 ic_iconst_0 ?_
    obtain ⟨v_13, e_v_13⟩ : ∃ z : OV, z = sI v_12 8 (0 : Int32) := ⟨_, rfl⟩
    have hw := hw v_13 e_v_13
    refine gw_put (bs' := [bMd G hMd qMd v_13]) F in_X8_commands_RX8 tyX8 tyX8_ok nmX8 0 rfl rfl 8 (by decide) lk_X8_commands_59 rfl rfl rfl (Nat.le_of_ble_eq_true rfl) dX8_commands_64 (by rw [e_v_13]; rfl) ?_
    refine gw_iconst (v := (0 : Int32)) F dX8_commands_67 ic_iconst_0 ?_
    refine gw_istore_n (lv' := [(2, .int (0 : Int32)), (0, .ref hMd)]) F dX8_commands_68 (by decide) rfl ?_
    refine gw_lv [1, 0] rfl ?_
    obtain ⟨n_27, hw⟩ := hw
    exact lp_X8_commands_69 F E n_27 _ _ hw
  · have hw := hw.2 c_9
    refine gw_iconst (v := (0 : Int32)) F dX8_commands_42 ic_iconst_0 ?_
    exact gw_iret F E rfl rfl (Nat.le_of_ble_eq_true rfl) (Nat.le_of_ble_eq_true rfl) dX8_commands_43 ⟨_, _, rfl, rfl, hw⟩
def wp_X8_commands_18 (Q : Int32 → OV → Prop) (x1 s1 : Int32) (vMd : OV) : Prop :=
  (∀ v_4 : OV, v_4 = sI vMd 15 s1 → (∀ v_5 : OV, v_5 = sI v_4 14 (0 : Int32) → ((x1 = 0 → (wp_X8_commands_36 Q (1 : Int32) v_5)) ∧ (¬ (x1 = 0) → (wp_X8_commands_36 Q (0 : Int32) v_5)))))
set_option maxRecDepth 20000 in
theorem lb_X8_commands_18 {X : List Cond} {l : Launch} {D : va_G} {G : Nat → ClassId} {C : Cx} {bs0 : List va_W} {hMd : Nat} {qMd : Nat → Nat} {Q : Int32 → OV → Prop} (F : GF C X cX8_commands wsX8_commands RX8 rm_X8_commands 3 (some .int) D G l) (E : GE C bs0 0 0 (po_X8_commands G hMd qMd Q)) {x1 s1 : Int32} {vMd : OV} (hw : wp_X8_commands_18 Q x1 s1 vMd) : GW C 0 0 [bMd G hMd qMd vMd] 18 [(0, .ref hMd), (1, .int x1)] [.int s1, .ref hMd] := by
  unfold wp_X8_commands_18 at hw
  obtain ⟨v_4, e_v_4⟩ : ∃ z : OV, z = sI vMd 15 s1 := ⟨_, rfl⟩
  have hw := hw v_4 e_v_4
  refine gw_put (bs' := [bMd G hMd qMd v_4]) F in_X8_commands_RX8 tyX8 tyX8_ok nmX8 0 rfl rfl 15 (by decide) lk_X8_commands_28 rfl rfl rfl (Nat.le_of_ble_eq_true rfl) dX8_commands_18 (by rw [e_v_4]; rfl) ?_
  refine gw_aload_n F dX8_commands_21 0 rfl ?_
  refine gw_iconst (v := (0 : Int32)) F dX8_commands_22 ic_iconst_0 ?_
  obtain ⟨v_5, e_v_5⟩ : ∃ z : OV, z = sI v_4 14 (0 : Int32) := ⟨_, rfl⟩
  have hw := hw v_5 e_v_5
  refine gw_put (bs' := [bMd G hMd qMd v_5]) F in_X8_commands_RX8 tyX8 tyX8_ok nmX8 0 rfl rfl 14 (by decide) lk_X8_commands_162 rfl rfl rfl (Nat.le_of_ble_eq_true rfl) dX8_commands_23 (by rw [e_v_5]; rfl) ?_
  refine gw_aload_n F dX8_commands_26 0 rfl ?_
  refine gw_iload_n F dX8_commands_27 1 rfl ?_
  refine gw_if_eq (tgt := 35) F dX8_commands_28 (by decide) (fun c_6 => ?_) (fun c_6 => ?_)
  · have hw := hw.1 c_6
    refine gw_iconst (v := (1 : Int32)) F dX8_commands_35 ic_iconst_1 ?_
    refine gw_lv [0] rfl ?_
    exact lb_X8_commands_36 F E hw
  · have hw := hw.2 c_6
    refine gw_iconst (v := (0 : Int32)) F dX8_commands_31 ic_iconst_0 ?_
    refine gw_goto (tgt := 36) F dX8_commands_32 (by decide) ?_
    refine gw_lv [0] rfl ?_
    exact lb_X8_commands_36 F E hw
def wp_X8_commands_0 (Q : Int32 → OV → Prop) (vMd : OV) : Prop :=
  (wp_X8_isText (fun (r_1 : Int32) (v_2 : OV) => ((r_1 = 0 → (wp_X8_commands_18 Q r_1 (v_2.2 21) v_2)) ∧ (¬ (r_1 = 0) → (wp_X8_commands_18 Q r_1 (-1 : Int32) v_2)))) vMd)
set_option maxRecDepth 20000 in
theorem lb_X8_commands_0 {X : List Cond} {l : Launch} {D : va_G} {G : Nat → ClassId} {C : Cx} {bs0 : List va_W} {hMd : Nat} {qMd : Nat → Nat} {Q : Int32 → OV → Prop} (F : GF C X cX8_commands wsX8_commands RX8 rm_X8_commands 3 (some .int) D G l) (E : GE C bs0 0 0 (po_X8_commands G hMd qMd Q)) {vMd : OV} (hw : wp_X8_commands_0 Q vMd) : GW C 0 0 [bMd G hMd qMd vMd] 0 [(0, .ref hMd)] [] := by
  unfold wp_X8_commands_0 at hw
  refine gw_aload_n F dX8_commands_0 0 rfl ?_
  refine gw_callV F (ct_X8_isText hw) 0 gX8_commands_X8_isText rfl rfl rfl hd_X8_isText ⟨(Nat.le_of_ble_eq_true rfl), (Nat.le_of_ble_eq_true rfl)⟩ rfl rfl (Nat.le_of_ble_eq_true rfl) ⟨Nat.zero_le _, Nat.zero_le _⟩ [0] (bsr := []) rfl rfl (q0 := 0) rfl rfl dX8_commands_1 ?_
  rintro _ _ ⟨r_1, v_2, rfl, rfl, hw⟩
  refine gw_sel [0] (bs' := [bMd G hMd qMd v_2]) rfl rfl ?_
  change GW C 0 0 _ 4 _ [.int r_1]
  refine gw_istore_n (lv' := [(1, .int r_1), (0, .ref hMd)]) F dX8_commands_4 (by decide) rfl ?_
  refine gw_aload_n F dX8_commands_5 1 rfl ?_
  refine gw_iload_n F dX8_commands_6 0 rfl ?_
  refine gw_if_eq (tgt := 14) F dX8_commands_7 (by decide) (fun c_3 => ?_) (fun c_3 => ?_)
  · have hw := hw.1 c_3
    refine gw_aload_n F dX8_commands_14 1 rfl ?_
    refine gw_get F in_X8_commands_RX8 0 rfl rfl 21 (by decide) lk_X8_commands_165 rfl dX8_commands_15 ?_
    refine gw_lv [1, 0] rfl ?_
    exact lb_X8_commands_18 F E hw
  · have hw := hw.2 c_3
    refine gw_iconst (v := (-1 : Int32)) F dX8_commands_10 ic_iconst_m1 ?_
    refine gw_goto (tgt := 18) F dX8_commands_11 (by decide) ?_
    refine gw_lv [1, 0] rfl ?_
    exact lb_X8_commands_18 F E hw
def wp_X8_commands (Q : Int32 → OV → Prop) (vMd : OV) : Prop := wp_X8_commands_0 Q vMd
theorem ct_X8_commands {X : List Cond} {l : Launch} {D : va_G} {G : Nat → ClassId} {hMd : Nat} {qMd : Nat → Nat} {Q : Int32 → OV → Prop} {vMd : OV} (hw : wp_X8_commands Q vMd) : CM X l yX8_commands wsX8_commands rm_X8_commands D G [.ref hMd] [bMd G hMd qMd vMd] 0 0 (po_X8_commands G hMd qMd Q) :=
  CM.of pn_RX8 rfl rfl (Nat.le_of_ble_eq_true rfl) rfl (fun C F E => lb_X8_commands_0 F E hw)
-- X8_faultPosition
abbrev rm_X8_faultPosition : Room := { frames := 1, cells := 0, slots := 0, locals := 60 }
def po_X8_faultPosition (G : Nat → ClassId) (hMd : Nat) (qMd : Nat → Nat) (Q : Int32 → OV → Prop) : Option Value → List va_W → Prop := fun o bs => ∃ (r : Int32) (vMd : OV), o = some (.int r) ∧ bs = [bMd G hMd qMd vMd] ∧ Q r vMd
theorem hd_X8_faultPosition : yX8_faultPosition.cls = RX8 ∧ yX8_faultPosition.cls ≠ "java/lang/invoke/MethodHandle" ∧ yX8_faultPosition.cls ≠ "java/lang/invoke/VarHandle" ∧ (parseMethodDescriptor yX8_faultPosition.desc).map (fun d => d.parameters.length) = some 0 := by decide +kernel
theorem in_X8_faultPosition_RX8 : ∀ w ∈ wsX80, w ∈ wsX8_faultPosition := fun w h => List.mem_cons_of_mem _ (List.mem_append_right _ h)
theorem lk_X8_faultPosition_46 : Cond.fieldLink RX8 46 "KeyWavesModel" "code" "I" ∈ wsX8_faultPosition := List.mem_cons_of_mem _ (List.mem_append_left _ (List.mem_of_getElem? (i := 0) rfl))
theorem lk_X8_faultPosition_28 : Cond.fieldLink RX8 28 "KeyWavesModel" "fault0" "I" ∈ wsX8_faultPosition := List.mem_cons_of_mem _ (List.mem_append_left _ (List.mem_of_getElem? (i := 1) rfl))
def wp_X8_faultPosition_0 (Q : Int32 → OV → Prop) (vMd : OV) : Prop :=
  (∀ v_1 : OV, v_1 = sI vMd 9 (0 : Int32) → (Q (v_1.2 15) v_1))
set_option maxRecDepth 20000 in
theorem lb_X8_faultPosition_0 {X : List Cond} {l : Launch} {D : va_G} {G : Nat → ClassId} {C : Cx} {bs0 : List va_W} {hMd : Nat} {qMd : Nat → Nat} {Q : Int32 → OV → Prop} (F : GF C X cX8_faultPosition wsX8_faultPosition RX8 rm_X8_faultPosition 1 (some .int) D G l) (E : GE C bs0 0 0 (po_X8_faultPosition G hMd qMd Q)) {vMd : OV} (hw : wp_X8_faultPosition_0 Q vMd) : GW C 0 0 [bMd G hMd qMd vMd] 0 [(0, .ref hMd)] [] := by
  unfold wp_X8_faultPosition_0 at hw
  refine gw_aload_n F dX8_faultPosition_0 0 rfl ?_
  refine gw_iconst (v := (0 : Int32)) F dX8_faultPosition_1 ic_iconst_0 ?_
  obtain ⟨v_1, e_v_1⟩ : ∃ z : OV, z = sI vMd 9 (0 : Int32) := ⟨_, rfl⟩
  have hw := hw v_1 e_v_1
  refine gw_put (bs' := [bMd G hMd qMd v_1]) F in_X8_faultPosition_RX8 tyX8 tyX8_ok nmX8 0 rfl rfl 9 (by decide) lk_X8_faultPosition_46 rfl rfl rfl (Nat.le_of_ble_eq_true rfl) dX8_faultPosition_2 (by rw [e_v_1]; rfl) ?_
  refine gw_aload_n F dX8_faultPosition_5 0 rfl ?_
  refine gw_get F in_X8_faultPosition_RX8 0 rfl rfl 15 (by decide) lk_X8_faultPosition_28 rfl dX8_faultPosition_6 ?_
  exact gw_iret F E rfl rfl (Nat.le_of_ble_eq_true rfl) (Nat.le_of_ble_eq_true rfl) dX8_faultPosition_9 ⟨_, _, rfl, rfl, hw⟩
def wp_X8_faultPosition (Q : Int32 → OV → Prop) (vMd : OV) : Prop := wp_X8_faultPosition_0 Q vMd
theorem ct_X8_faultPosition {X : List Cond} {l : Launch} {D : va_G} {G : Nat → ClassId} {hMd : Nat} {qMd : Nat → Nat} {Q : Int32 → OV → Prop} {vMd : OV} (hw : wp_X8_faultPosition Q vMd) : CM X l yX8_faultPosition wsX8_faultPosition rm_X8_faultPosition D G [.ref hMd] [bMd G hMd qMd vMd] 0 0 (po_X8_faultPosition G hMd qMd Q) :=
  CM.of pn_RX8 rfl rfl (Nat.le_of_ble_eq_true rfl) rfl (fun C F E => lb_X8_faultPosition_0 F E hw)
-- X8_reason
abbrev rm_X8_reason : Room := { frames := 2, cells := 0, slots := 0, locals := 82 }
def po_X8_reason (G : Nat → ClassId) (hMd : Nat) (qMd : Nat → Nat) (Q : Int32 → OV → Prop) : Option Value → List va_W → Prop := fun o bs => ∃ (r : Int32) (vMd : OV), o = some (.int r) ∧ bs = [bMd G hMd qMd vMd] ∧ Q r vMd
theorem hd_X8_reason : yX8_reason.cls = RX8 ∧ yX8_reason.cls ≠ "java/lang/invoke/MethodHandle" ∧ yX8_reason.cls ≠ "java/lang/invoke/VarHandle" ∧ (parseMethodDescriptor yX8_reason.desc).map (fun d => d.parameters.length) = some 1 := by decide +kernel
theorem in_X8_reason_RX8 : ∀ w ∈ wsX80, w ∈ wsX8_reason := fun w h => List.mem_cons_of_mem _ (List.mem_append_right _ h)
theorem lk_X8_reason_49 : Cond.fieldLink RX8 49 "KeyWavesModel" "why" "I" ∈ wsX8_reason := List.mem_cons_of_mem _ (List.mem_append_left _ (List.mem_of_getElem? (i := 0) rfl))
theorem lk_X8_reason_62 : Cond.fieldLink RX8 62 "KeyWavesModel" "index0" "I" ∈ wsX8_reason := List.mem_cons_of_mem _ (List.mem_append_left _ (List.mem_of_getElem? (i := 2) rfl))
theorem lk_X8_reason_52 : Cond.fieldLink RX8 52 "KeyWavesModel" "detail" "I" ∈ wsX8_reason := List.mem_cons_of_mem _ (List.mem_append_left _ (List.mem_of_getElem? (i := 1) rfl))
def wp_X8_reason_63 (Q : Int32 → OV → Prop) (s0 : Int32) (vMd : OV) : Prop :=
  (Q s0 vMd)
set_option maxRecDepth 20000 in
theorem lb_X8_reason_63 {X : List Cond} {l : Launch} {D : va_G} {G : Nat → ClassId} {C : Cx} {bs0 : List va_W} {hMd : Nat} {qMd : Nat → Nat} {Q : Int32 → OV → Prop} (F : GF C X cX8_reason wsX8_reason RX8 rm_X8_reason 2 (some .int) D G l) (E : GE C bs0 0 0 (po_X8_reason G hMd qMd Q)) {s0 : Int32} {vMd : OV} (hw : wp_X8_reason_63 Q s0 vMd) : GW C 0 0 [bMd G hMd qMd vMd] 63 [] [.int s0] := by
  unfold wp_X8_reason_63 at hw
  exact gw_iret F E rfl rfl (Nat.le_of_ble_eq_true rfl) (Nat.le_of_ble_eq_true rfl) dX8_reason_63 ⟨_, _, rfl, rfl, hw⟩
def wp_X8_reason_26 (Q : Int32 → OV → Prop) (x1 s1 : Int32) (vMd : OV) : Prop :=
  (wp_X8_fails (fun (r_4 : Int32) (v_5 : OV) => ((r_4 = 0 → ((¬ x1 = 0 → ((¬ x1 = (1 : Int32) → (wp_X8_reason_63 Q (v_5.2 12) v_5)) ∧ (x1 = (1 : Int32) → (wp_X8_reason_63 Q (v_5.2 11) v_5)))) ∧ (x1 = 0 → (wp_X8_reason_63 Q (v_5.2 10) v_5)))) ∧ (¬ (r_4 = 0) → (wp_X8_reason_63 Q (0 : Int32) v_5)))) s1 vMd)
set_option maxRecDepth 20000 in
theorem lb_X8_reason_26 {X : List Cond} {l : Launch} {D : va_G} {G : Nat → ClassId} {C : Cx} {bs0 : List va_W} {hMd : Nat} {qMd : Nat → Nat} {Q : Int32 → OV → Prop} (F : GF C X cX8_reason wsX8_reason RX8 rm_X8_reason 2 (some .int) D G l) (E : GE C bs0 0 0 (po_X8_reason G hMd qMd Q)) {x1 s1 : Int32} {vMd : OV} (hw : wp_X8_reason_26 Q x1 s1 vMd) : GW C 0 0 [bMd G hMd qMd vMd] 26 [(0, .ref hMd), (1, .int x1)] [.int s1, .ref hMd] := by
  unfold wp_X8_reason_26 at hw
  refine gw_callV F (ct_X8_fails hw) 1 gX8_reason_X8_fails rfl rfl rfl hd_X8_fails ⟨(Nat.le_of_ble_eq_true rfl), (Nat.le_of_ble_eq_true rfl)⟩ rfl rfl (Nat.le_of_ble_eq_true rfl) ⟨Nat.zero_le _, Nat.zero_le _⟩ [0] (bsr := []) rfl rfl (q0 := 0) rfl rfl dX8_reason_26 ?_
  rintro _ _ ⟨r_4, v_5, rfl, rfl, hw⟩
  refine gw_sel [0] (bs' := [bMd G hMd qMd v_5]) rfl rfl ?_
  change GW C 0 0 _ 29 _ [.int r_4]
  refine gw_if_eq (tgt := 36) F dX8_reason_29 (by decide) (fun c_6 => ?_) (fun c_6 => ?_)
  · have hw := hw.1 c_6
    refine gw_iload_n F dX8_reason_36 1 rfl ?_
    refine gw_if_ne (tgt := 47) F dX8_reason_37 (by decide) (fun c_7 => ?_) (fun c_7 => ?_)
    · have hw := hw.1 c_7
      refine gw_iload_n F dX8_reason_47 1 rfl ?_
      refine gw_iconst (v := (1 : Int32)) F dX8_reason_48 ic_iconst_1 ?_
      refine gw_icmp_ne (tgt := 59) F dX8_reason_49 (by decide) (fun c_8 => ?_) (fun c_8 => ?_)
      · have hw := hw.1 c_8
        refine gw_aload_n F dX8_reason_59 0 rfl ?_
        refine gw_get F in_X8_reason_RX8 0 rfl rfl 12 (by decide) lk_X8_reason_62 rfl dX8_reason_60 ?_
        refine gw_lv [] rfl ?_
        exact lb_X8_reason_63 F E hw
      · have hw := hw.2 c_8
        refine gw_aload_n F dX8_reason_52 0 rfl ?_
        refine gw_get F in_X8_reason_RX8 0 rfl rfl 11 (by decide) lk_X8_reason_52 rfl dX8_reason_53 ?_
        refine gw_goto (tgt := 63) F dX8_reason_56 (by decide) ?_
        refine gw_lv [] rfl ?_
        exact lb_X8_reason_63 F E hw
    · have hw := hw.2 c_7
      refine gw_aload_n F dX8_reason_40 0 rfl ?_
      refine gw_get F in_X8_reason_RX8 0 rfl rfl 10 (by decide) lk_X8_reason_49 rfl dX8_reason_41 ?_
      refine gw_goto (tgt := 63) F dX8_reason_44 (by decide) ?_
      refine gw_lv [] rfl ?_
      exact lb_X8_reason_63 F E hw
  · have hw := hw.2 c_6
    refine gw_iconst (v := (0 : Int32)) F dX8_reason_32 ic_iconst_0 ?_
    refine gw_goto (tgt := 63) F dX8_reason_33 (by decide) ?_
    refine gw_lv [] rfl ?_
    exact lb_X8_reason_63 F E hw
def wp_X8_reason_0 (Q : Int32 → OV → Prop) (x1 : Int32) (vMd : OV) : Prop :=
  (wp_X8_in (fun (r_1 : Int32) => ((¬ r_1 = 0 → ((¬ (vMd.2 10) = 0 → (wp_X8_reason_26 Q x1 (0 : Int32) vMd)) ∧ ((vMd.2 10) = 0 → (wp_X8_reason_26 Q x1 (2 : Int32) vMd)))) ∧ (r_1 = 0 → (wp_X8_reason_26 Q x1 (1 : Int32) vMd)))) x1 (0 : Int32) (2 : Int32))
set_option maxRecDepth 20000 in
theorem lb_X8_reason_0 {X : List Cond} {l : Launch} {D : va_G} {G : Nat → ClassId} {C : Cx} {bs0 : List va_W} {hMd : Nat} {qMd : Nat → Nat} {Q : Int32 → OV → Prop} (F : GF C X cX8_reason wsX8_reason RX8 rm_X8_reason 2 (some .int) D G l) (E : GE C bs0 0 0 (po_X8_reason G hMd qMd Q)) {x1 : Int32} {vMd : OV} (hw : wp_X8_reason_0 Q x1 vMd) : GW C 0 0 [bMd G hMd qMd vMd] 0 [(0, .ref hMd), (1, .int x1)] [] := by
  unfold wp_X8_reason_0 at hw
  refine gw_aload_n F dX8_reason_0 0 rfl ?_
  refine gw_iload_n F dX8_reason_1 1 rfl ?_
  refine gw_iconst (v := (0 : Int32)) F dX8_reason_2 ic_iconst_0 ?_
  refine gw_iconst (v := (2 : Int32)) F dX8_reason_3 ic_iconst_2 ?_
  refine gw_callS F (ct_X8_in hw) 3 gX8_reason_X8_in rfl rfl rfl hd_X8_in ⟨(Nat.le_of_ble_eq_true rfl), (Nat.le_of_ble_eq_true rfl)⟩ rfl rfl (Nat.le_of_ble_eq_true rfl) ⟨Nat.zero_le _, Nat.zero_le _⟩ [0] (bsr := [bMd G hMd qMd vMd]) rfl rfl dX8_reason_4 ?_
  rintro _ _ ⟨r_1, rfl, rfl, hw⟩
  refine gw_sel [0] (bs' := [bMd G hMd qMd vMd]) rfl rfl ?_
  change GW C 0 0 _ 7 _ [.int r_1, .ref hMd]
  refine gw_if_ne (tgt := 14) F dX8_reason_7 (by decide) (fun c_2 => ?_) (fun c_2 => ?_)
  · have hw := hw.1 c_2
    refine gw_aload_n F dX8_reason_14 0 rfl ?_
    refine gw_get F in_X8_reason_RX8 0 rfl rfl 10 (by decide) lk_X8_reason_49 rfl dX8_reason_15 ?_
    refine gw_if_ne (tgt := 25) F dX8_reason_18 (by decide) (fun c_3 => ?_) (fun c_3 => ?_)
    · have hw := hw.1 c_3
      refine gw_iconst (v := (0 : Int32)) F dX8_reason_25 ic_iconst_0 ?_
      exact lb_X8_reason_26 F E hw
    · have hw := hw.2 c_3
      refine gw_iconst (v := (2 : Int32)) F dX8_reason_21 ic_iconst_2 ?_
      refine gw_goto (tgt := 26) F dX8_reason_22 (by decide) ?_
      exact lb_X8_reason_26 F E hw
  · have hw := hw.2 c_2
    refine gw_iconst (v := (1 : Int32)) F dX8_reason_10 ic_iconst_1 ?_
    refine gw_goto (tgt := 26) F dX8_reason_11 (by decide) ?_
    exact lb_X8_reason_26 F E hw
def wp_X8_reason (Q : Int32 → OV → Prop) (x1 : Int32) (vMd : OV) : Prop := wp_X8_reason_0 Q x1 vMd
theorem ct_X8_reason {X : List Cond} {l : Launch} {D : va_G} {G : Nat → ClassId} {hMd : Nat} {qMd : Nat → Nat} {Q : Int32 → OV → Prop} {x1 : Int32} {vMd : OV} (hw : wp_X8_reason Q x1 vMd) : CM X l yX8_reason wsX8_reason rm_X8_reason D G [.ref hMd, .int x1] [bMd G hMd qMd vMd] 0 0 (po_X8_reason G hMd qMd Q) :=
  CM.of pn_RX8 rfl rfl (Nat.le_of_ble_eq_true rfl) rfl (fun C F E => lb_X8_reason_0 F E hw)
-- X8_writes
abbrev rm_X8_writes : Room := { frames := 1, cells := 0, slots := 0, locals := 60 }
def po_X8_writes (G : Nat → ClassId) (hMd : Nat) (qMd : Nat → Nat) (Q : OV → Prop) : Option Value → List va_W → Prop := fun o bs => ∃ (vMd : OV), o = none ∧ bs = [bMd G hMd qMd vMd] ∧ Q vMd
theorem hd_X8_writes : yX8_writes.cls = RX8 ∧ yX8_writes.cls ≠ "java/lang/invoke/MethodHandle" ∧ yX8_writes.cls ≠ "java/lang/invoke/VarHandle" ∧ (parseMethodDescriptor yX8_writes.desc).map (fun d => d.parameters.length) = some 1 := by decide +kernel
theorem in_X8_writes_RX8 : ∀ w ∈ wsX80, w ∈ wsX8_writes := fun w h => List.mem_cons_of_mem _ (List.mem_append_left _ (List.mem_append_right _ h))
theorem lk_X8_writes_32 : Cond.fieldLink RX8 32 "KeyWavesModel" "signs" "[C" ∈ wsX8_writes := List.mem_cons_of_mem _ (List.mem_append_left _ (List.mem_append_left _ (List.mem_of_getElem? (i := 0) rfl)))
theorem lk_X8_writes_214 : Cond.fieldLink RX8 214 "KeyWavesModel" "signMany" "I" ∈ wsX8_writes := List.mem_cons_of_mem _ (List.mem_append_left _ (List.mem_append_left _ (List.mem_of_getElem? (i := 1) rfl)))
def wp_X8_writes_0 (Q : OV → Prop) (x1 : Int32) (vMd : OV) : Prop :=
  (vp_in (vMd.2 17) 90 ∧ ∀ v_1 : OV, v_1 = sA vMd 16 (vMd.2 17).toNatClampNeg (vp_nar .char ((x1).toUInt32 % 65536).toInt32) → (∀ v_3 : OV, v_3 = sI v_1 17 ((v_1.2 17) + (1 : Int32)) → (Q v_3)))
set_option maxRecDepth 20000 in
theorem lb_X8_writes_0 {X : List Cond} {l : Launch} {D : va_G} {G : Nat → ClassId} {C : Cx} {bs0 : List va_W} {hMd : Nat} {qMd : Nat → Nat} {Q : OV → Prop} (F : GF C X cX8_writes wsX8_writes RX8 rm_X8_writes 2 none D G l) (E : GE C bs0 0 0 (po_X8_writes G hMd qMd Q)) {x1 : Int32} {vMd : OV} (hw : wp_X8_writes_0 Q x1 vMd) : GW C 0 0 [bMd G hMd qMd vMd] 0 [(0, .ref hMd), (1, .int x1)] [] := by
  unfold wp_X8_writes_0 at hw
  refine gw_aload_n F dX8_writes_0 0 rfl ?_
  refine gw_get F in_X8_writes_RX8 0 rfl rfl 16 (by decide) lk_X8_writes_32 rfl dX8_writes_1 ?_
  refine gw_aload_n F dX8_writes_4 0 rfl ?_
  refine gw_get F in_X8_writes_RX8 0 rfl rfl 17 (by decide) lk_X8_writes_214 rfl dX8_writes_5 ?_
  refine gw_iload_n F dX8_writes_8 1 rfl ?_
  refine gw_i2c F dX8_writes_9 ?_
  obtain ⟨h_2, hw⟩ := hw
  obtain ⟨v_1, e_v_1⟩ : ∃ z : OV, z = sA vMd 16 (vMd.2 17).toNatClampNeg (vp_nar .char ((x1).toUInt32 % 65536).toInt32) := ⟨_, rfl⟩
  have hw := hw v_1 e_v_1
  refine gw_cast (bs' := [bMd G hMd qMd v_1]) F 7 rfl h_2 dX8_writes_10 (by rw [e_v_1]; rfl) ?_
  refine gw_aload_n F dX8_writes_11 0 rfl ?_
  refine gw_dup F dX8_writes_12 rfl ?_
  refine gw_get F in_X8_writes_RX8 0 rfl rfl 17 (by decide) lk_X8_writes_214 rfl dX8_writes_13 ?_
  refine gw_iconst (v := (1 : Int32)) F dX8_writes_16 ic_iconst_1 ?_
  refine gw_iadd F dX8_writes_17 ?_
  obtain ⟨v_3, e_v_3⟩ : ∃ z : OV, z = sI v_1 17 ((v_1.2 17) + (1 : Int32)) := ⟨_, rfl⟩
  have hw := hw v_3 e_v_3
  refine gw_put (bs' := [bMd G hMd qMd v_3]) F in_X8_writes_RX8 tyX8 tyX8_ok nmX8 0 rfl rfl 17 (by decide) lk_X8_writes_214 rfl rfl rfl (Nat.le_of_ble_eq_true rfl) dX8_writes_18 (by rw [e_v_3]; rfl) ?_
  exact gw_vret F E rfl (Nat.le_of_ble_eq_true rfl) (Nat.le_of_ble_eq_true rfl) dX8_writes_21 ⟨_, rfl, rfl, hw⟩
def wp_X8_writes (Q : OV → Prop) (x1 : Int32) (vMd : OV) : Prop := wp_X8_writes_0 Q x1 vMd
theorem ct_X8_writes {X : List Cond} {l : Launch} {D : va_G} {G : Nat → ClassId} {hMd : Nat} {qMd : Nat → Nat} {Q : OV → Prop} {x1 : Int32} {vMd : OV} (hw : wp_X8_writes Q x1 vMd) : CM X l yX8_writes wsX8_writes rm_X8_writes D G [.ref hMd, .int x1] [bMd G hMd qMd vMd] 0 0 (po_X8_writes G hMd qMd Q) :=
  CM.of pn_RX8 rfl rfl (Nat.le_of_ble_eq_true rfl) rfl (fun C F E => lb_X8_writes_0 F E hw)
-- X8_writesNumber
abbrev rm_X8_writesNumber : Room := { frames := 2, cells := 0, slots := 0, locals := 81 }
def po_X8_writesNumber (G : Nat → ClassId) (hMd : Nat) (qMd : Nat → Nat) (Q : OV → Prop) : Option Value → List va_W → Prop := fun o bs => ∃ (vMd : OV), o = none ∧ bs = [bMd G hMd qMd vMd] ∧ Q vMd
theorem hd_X8_writesNumber : yX8_writesNumber.cls = RX8 ∧ yX8_writesNumber.cls ≠ "java/lang/invoke/MethodHandle" ∧ yX8_writesNumber.cls ≠ "java/lang/invoke/VarHandle" ∧ (parseMethodDescriptor yX8_writesNumber.desc).map (fun d => d.parameters.length) = some 1 := by decide +kernel
def wp_X8_writesNumber_17 (Q : OV → Prop) (x1 : Int32) (vMd : OV) : Prop :=
  (wp_X8_writes (fun (v_2 : OV) => (Q v_2)) ((48 : Int32) + (x1 - x1 / (10 : Int32) * (10 : Int32))) vMd)
set_option maxRecDepth 20000 in
theorem lb_X8_writesNumber_17 {X : List Cond} {l : Launch} {D : va_G} {G : Nat → ClassId} {C : Cx} {bs0 : List va_W} {hMd : Nat} {qMd : Nat → Nat} {Q : OV → Prop} (F : GF C X cX8_writesNumber wsX8_writesNumber RX8 rm_X8_writesNumber 2 none D G l) (E : GE C bs0 0 0 (po_X8_writesNumber G hMd qMd Q)) {x1 : Int32} {vMd : OV} (hw : wp_X8_writesNumber_17 Q x1 vMd) : GW C 0 0 [bMd G hMd qMd vMd] 17 [(0, .ref hMd), (1, .int x1)] [] := by
  unfold wp_X8_writesNumber_17 at hw
  refine gw_aload_n F dX8_writesNumber_17 0 rfl ?_
  refine gw_bipush (v := (48 : Int32)) F dX8_writesNumber_18 ic_bipush_48 ?_
  refine gw_iload_n F dX8_writesNumber_20 1 rfl ?_
  refine gw_bipush (v := (10 : Int32)) F dX8_writesNumber_21 ic_bipush_10 ?_
  refine gw_irem F dX8_writesNumber_23 (by decide) ?_
  refine gw_iadd F dX8_writesNumber_24 ?_
  refine gw_callV F (ct_X8_writes hw) 1 gX8_writesNumber_X8_writes rfl rfl rfl hd_X8_writes ⟨(Nat.le_of_ble_eq_true rfl), (Nat.le_of_ble_eq_true rfl)⟩ rfl rfl (Nat.le_of_ble_eq_true rfl) ⟨Nat.zero_le _, Nat.zero_le _⟩ [0] (bsr := []) rfl rfl (q0 := 0) rfl rfl dX8_writesNumber_25 ?_
  rintro _ _ ⟨v_2, rfl, rfl, hw⟩
  refine gw_sel [0] (bs' := [bMd G hMd qMd v_2]) rfl rfl ?_
  change GW C 0 0 _ 28 _ []
  exact gw_vret F E rfl (Nat.le_of_ble_eq_true rfl) (Nat.le_of_ble_eq_true rfl) dX8_writesNumber_28 ⟨_, rfl, rfl, hw⟩
def wp_X8_writesNumber_0 (Q : OV → Prop) (x1 : Int32) (vMd : OV) : Prop :=
  ((x1 ≤ (9 : Int32) → (wp_X8_writesNumber_17 Q x1 vMd)) ∧ (¬ (x1 ≤ (9 : Int32)) → (wp_X8_writes (fun (v_3 : OV) => (wp_X8_writesNumber_17 Q x1 v_3)) ((48 : Int32) + (x1 / (10 : Int32))) vMd)))
set_option maxRecDepth 20000 in
theorem lb_X8_writesNumber_0 {X : List Cond} {l : Launch} {D : va_G} {G : Nat → ClassId} {C : Cx} {bs0 : List va_W} {hMd : Nat} {qMd : Nat → Nat} {Q : OV → Prop} (F : GF C X cX8_writesNumber wsX8_writesNumber RX8 rm_X8_writesNumber 2 none D G l) (E : GE C bs0 0 0 (po_X8_writesNumber G hMd qMd Q)) {x1 : Int32} {vMd : OV} (hw : wp_X8_writesNumber_0 Q x1 vMd) : GW C 0 0 [bMd G hMd qMd vMd] 0 [(0, .ref hMd), (1, .int x1)] [] := by
  unfold wp_X8_writesNumber_0 at hw
  refine gw_iload_n F dX8_writesNumber_0 1 rfl ?_
  refine gw_bipush (v := (9 : Int32)) F dX8_writesNumber_1 ic_bipush_9 ?_
  refine gw_icmp_le (tgt := 17) F dX8_writesNumber_3 (by decide) (fun c_1 => ?_) (fun c_1 => ?_)
  · have hw := hw.1 c_1
    exact lb_X8_writesNumber_17 F E hw
  · have hw := hw.2 c_1
    refine gw_aload_n F dX8_writesNumber_6 0 rfl ?_
    refine gw_bipush (v := (48 : Int32)) F dX8_writesNumber_7 ic_bipush_48 ?_
    refine gw_iload_n F dX8_writesNumber_9 1 rfl ?_
    refine gw_bipush (v := (10 : Int32)) F dX8_writesNumber_10 ic_bipush_10 ?_
    refine gw_idiv F dX8_writesNumber_12 (by decide) ?_
    refine gw_iadd F dX8_writesNumber_13 ?_
    refine gw_callV F (ct_X8_writes hw) 1 gX8_writesNumber_X8_writes rfl rfl rfl hd_X8_writes ⟨(Nat.le_of_ble_eq_true rfl), (Nat.le_of_ble_eq_true rfl)⟩ rfl rfl (Nat.le_of_ble_eq_true rfl) ⟨Nat.zero_le _, Nat.zero_le _⟩ [0] (bsr := []) rfl rfl (q0 := 0) rfl rfl dX8_writesNumber_14 ?_
    rintro _ _ ⟨v_3, rfl, rfl, hw⟩
    refine gw_sel [0] (bs' := [bMd G hMd qMd v_3]) rfl rfl ?_
    change GW C 0 0 _ 17 _ []
    exact lb_X8_writesNumber_17 F E hw
def wp_X8_writesNumber (Q : OV → Prop) (x1 : Int32) (vMd : OV) : Prop := wp_X8_writesNumber_0 Q x1 vMd
theorem ct_X8_writesNumber {X : List Cond} {l : Launch} {D : va_G} {G : Nat → ClassId} {hMd : Nat} {qMd : Nat → Nat} {Q : OV → Prop} {x1 : Int32} {vMd : OV} (hw : wp_X8_writesNumber Q x1 vMd) : CM X l yX8_writesNumber wsX8_writesNumber rm_X8_writesNumber D G [.ref hMd, .int x1] [bMd G hMd qMd vMd] 0 0 (po_X8_writesNumber G hMd qMd Q) :=
  CM.of pn_RX8 rfl rfl (Nat.le_of_ble_eq_true rfl) rfl (fun C F E => lb_X8_writesNumber_0 F E hw)
-- X8_line
abbrev rm_X8_line : Room := { frames := 3, cells := 0, slots := 0, locals := 102 }
def po_X8_line (G : Nat → ClassId) (hMd : Nat) (qMd : Nat → Nat) (Q : Int32 → OV → Prop) : Option Value → List va_W → Prop := fun o bs => ∃ (r : Int32) (vMd : OV), o = some (.int r) ∧ bs = [bMd G hMd qMd vMd] ∧ Q r vMd
theorem hd_X8_line : yX8_line.cls = RX8 ∧ yX8_line.cls ≠ "java/lang/invoke/MethodHandle" ∧ yX8_line.cls ≠ "java/lang/invoke/VarHandle" ∧ (parseMethodDescriptor yX8_line.desc).map (fun d => d.parameters.length) = some 1 := by decide +kernel
theorem in_X8_line_RX8 : ∀ w ∈ wsX80, w ∈ wsX8_line := fun w h => List.mem_cons_of_mem _ (List.mem_append_left _ (List.mem_append_right _ h))
theorem lk_X8_line_46 : Cond.fieldLink RX8 46 "KeyWavesModel" "code" "I" ∈ wsX8_line := List.mem_cons_of_mem _ (List.mem_append_left _ (List.mem_append_left _ (List.mem_of_getElem? (i := 0) rfl)))
theorem lk_X8_line_214 : Cond.fieldLink RX8 214 "KeyWavesModel" "signMany" "I" ∈ wsX8_line := List.mem_cons_of_mem _ (List.mem_append_left _ (List.mem_append_left _ (List.mem_of_getElem? (i := 1) rfl)))
theorem lk_X8_line_7 : Cond.fieldLink RX8 7 "KeyWavesModel" "g" "[I" ∈ wsX8_line := List.mem_cons_of_mem _ (List.mem_append_left _ (List.mem_append_left _ (List.mem_of_getElem? (i := 2) rfl)))
def wp_X8_line_112 (Q : Int32 → OV → Prop) (K12 : Int32 → Int32 → OV → Prop) (x1 x2 : Int32) (vMd : OV) : Prop :=
  (∀ i_17 : Int32, i_17 = x2 + (1 : Int32) → (K12 x1 i_17 vMd))
set_option maxRecDepth 20000 in
theorem lb_X8_line_112 {X : List Cond} {l : Launch} {D : va_G} {G : Nat → ClassId} {C : Cx} {bs0 : List va_W} {hMd : Nat} {qMd : Nat → Nat} {Q : Int32 → OV → Prop} {K12 : Int32 → Int32 → OV → Prop} (F : GF C X cX8_line wsX8_line RX8 rm_X8_line 4 (some .int) D G l) (E : GE C bs0 0 0 (po_X8_line G hMd qMd Q)) (hK12 : ∀ (x1 x2 : Int32) (vMd : OV), K12 x1 x2 vMd → GW C 0 0 [bMd G hMd qMd vMd] 12 [(0, .ref hMd), (1, .int x1), (2, .int x2)] []) {x1 x2 : Int32} {vMd : OV} (hw : wp_X8_line_112 Q K12 x1 x2 vMd) : GW C 0 0 [bMd G hMd qMd vMd] 112 [(0, .ref hMd), (1, .int x1), (2, .int x2)] [] := by
  unfold wp_X8_line_112 at hw
  obtain ⟨i_17, e_i_17⟩ : ∃ z : Int32, z = x2 + (1 : Int32) := ⟨_, rfl⟩
  have hw := hw i_17 e_i_17
  refine gw_iinc (v := i_17) (lv' := [(2, .int i_17), (0, .ref hMd), (1, .int x1)]) F dX8_line_112 2 rfl (by rw [e_i_17]; rfl) (by decide) rfl ?_
  refine gw_goto (tgt := 12) F dX8_line_115 (by decide) ?_
  refine gw_lv [1, 2, 0] rfl ?_
  exact hK12 _ _ _ hw
def wp_X8_line_93 (Q : Int32 → OV → Prop) (K12 : Int32 → Int32 → OV → Prop) (x1 x2 s0 : Int32) (vMd : OV) : Prop :=
  ((0 ≤ s0 → (wp_X8_writes (fun (v_15 : OV) => (wp_X8_writesNumber (fun (v_16 : OV) => (wp_X8_line_112 Q K12 x1 x2 v_16)) s0 v_15)) (45 : Int32) vMd)) ∧ (¬ (0 ≤ s0) → (wp_X8_line_112 Q K12 x1 x2 vMd)))
set_option maxRecDepth 20000 in
theorem lb_X8_line_93 {X : List Cond} {l : Launch} {D : va_G} {G : Nat → ClassId} {C : Cx} {bs0 : List va_W} {hMd : Nat} {qMd : Nat → Nat} {Q : Int32 → OV → Prop} {K12 : Int32 → Int32 → OV → Prop} (F : GF C X cX8_line wsX8_line RX8 rm_X8_line 4 (some .int) D G l) (E : GE C bs0 0 0 (po_X8_line G hMd qMd Q)) (hK12 : ∀ (x1 x2 : Int32) (vMd : OV), K12 x1 x2 vMd → GW C 0 0 [bMd G hMd qMd vMd] 12 [(0, .ref hMd), (1, .int x1), (2, .int x2)] []) {x1 x2 s0 : Int32} {vMd : OV} (hw : wp_X8_line_93 Q K12 x1 x2 s0 vMd) : GW C 0 0 [bMd G hMd qMd vMd] 93 [(0, .ref hMd), (1, .int x1), (2, .int x2)] [.int s0] := by
  unfold wp_X8_line_93 at hw
  refine gw_istore_n (lv' := [(3, .int s0), (0, .ref hMd), (1, .int x1), (2, .int x2)]) F dX8_line_93 (by decide) rfl ?_
  refine gw_iload_n F dX8_line_94 0 rfl ?_
  refine gw_if_ge (tgt := 101) F dX8_line_95 (by decide) (fun c_14 => ?_) (fun c_14 => ?_)
  · have hw := hw.1 c_14
    refine gw_aload_n F dX8_line_101 1 rfl ?_
    refine gw_bipush (v := (45 : Int32)) F dX8_line_102 ic_bipush_45 ?_
    refine gw_callV F (ct_X8_writes hw) 1 gX8_line_X8_writes rfl rfl rfl hd_X8_writes ⟨(Nat.le_of_ble_eq_true rfl), (Nat.le_of_ble_eq_true rfl)⟩ rfl rfl (Nat.le_of_ble_eq_true rfl) ⟨Nat.zero_le _, Nat.zero_le _⟩ [0] (bsr := []) rfl rfl (q0 := 0) rfl rfl dX8_line_104 ?_
    rintro _ _ ⟨v_15, rfl, rfl, hw⟩
    refine gw_sel [0] (bs' := [bMd G hMd qMd v_15]) rfl rfl ?_
    change GW C 0 0 _ 107 _ []
    refine gw_aload_n F dX8_line_107 1 rfl ?_
    refine gw_iload_n F dX8_line_108 0 rfl ?_
    refine gw_callV F (ct_X8_writesNumber hw) 1 gX8_line_X8_writesNumber rfl rfl rfl hd_X8_writesNumber ⟨(Nat.le_of_ble_eq_true rfl), (Nat.le_of_ble_eq_true rfl)⟩ rfl rfl (Nat.le_of_ble_eq_true rfl) ⟨Nat.zero_le _, Nat.zero_le _⟩ [0] (bsr := []) rfl rfl (q0 := 0) rfl rfl dX8_line_109 ?_
    rintro _ _ ⟨v_16, rfl, rfl, hw⟩
    refine gw_sel [0] (bs' := [bMd G hMd qMd v_16]) rfl rfl ?_
    change GW C 0 0 _ 112 _ []
    refine gw_lv [1, 2, 3] rfl ?_
    exact lb_X8_line_112 F E hK12 hw
  · have hw := hw.2 c_14
    refine gw_goto (tgt := 112) F dX8_line_98 (by decide) ?_
    refine gw_lv [1, 2, 3] rfl ?_
    exact lb_X8_line_112 F E hK12 hw
def wp_X8_line_71 (Q : Int32 → OV → Prop) (K12 : Int32 → Int32 → OV → Prop) (x1 x2 s1 : Int32) (vMd : OV) : Prop :=
  (wp_X8_writesNumber (fun (v_11 : OV) => ((x1 = 0 → (wp_X8_ofKey (fun (r_13 : Int32) => (wp_X8_line_93 Q K12 x1 x2 r_13 v_11)) x2 (2 : Int32) v_11)) ∧ (¬ (x1 = 0) → (wp_X8_ofLock (fun (r_18 : Int32) => (wp_X8_line_93 Q K12 x1 x2 r_18 v_11)) x2 (1 : Int32) v_11)))) s1 vMd)
set_option maxRecDepth 20000 in
theorem lb_X8_line_71 {X : List Cond} {l : Launch} {D : va_G} {G : Nat → ClassId} {C : Cx} {bs0 : List va_W} {hMd : Nat} {qMd : Nat → Nat} {Q : Int32 → OV → Prop} {K12 : Int32 → Int32 → OV → Prop} (F : GF C X cX8_line wsX8_line RX8 rm_X8_line 4 (some .int) D G l) (E : GE C bs0 0 0 (po_X8_line G hMd qMd Q)) (hK12 : ∀ (x1 x2 : Int32) (vMd : OV), K12 x1 x2 vMd → GW C 0 0 [bMd G hMd qMd vMd] 12 [(0, .ref hMd), (1, .int x1), (2, .int x2)] []) {x1 x2 s1 : Int32} {vMd : OV} (hw : wp_X8_line_71 Q K12 x1 x2 s1 vMd) : GW C 0 0 [bMd G hMd qMd vMd] 71 [(0, .ref hMd), (1, .int x1), (2, .int x2)] [.int s1, .ref hMd] := by
  unfold wp_X8_line_71 at hw
  refine gw_callV F (ct_X8_writesNumber hw) 1 gX8_line_X8_writesNumber rfl rfl rfl hd_X8_writesNumber ⟨(Nat.le_of_ble_eq_true rfl), (Nat.le_of_ble_eq_true rfl)⟩ rfl rfl (Nat.le_of_ble_eq_true rfl) ⟨Nat.zero_le _, Nat.zero_le _⟩ [0] (bsr := []) rfl rfl (q0 := 0) rfl rfl dX8_line_71 ?_
  rintro _ _ ⟨v_11, rfl, rfl, hw⟩
  refine gw_sel [0] (bs' := [bMd G hMd qMd v_11]) rfl rfl ?_
  change GW C 0 0 _ 74 _ []
  refine gw_iload_n F dX8_line_74 1 rfl ?_
  refine gw_if_eq (tgt := 87) F dX8_line_75 (by decide) (fun c_12 => ?_) (fun c_12 => ?_)
  · have hw := hw.1 c_12
    refine gw_aload_n F dX8_line_87 0 rfl ?_
    refine gw_iload_n F dX8_line_88 2 rfl ?_
    refine gw_iconst (v := (2 : Int32)) F dX8_line_89 ic_iconst_2 ?_
    refine gw_callV F (ct_X8_ofKey hw) 2 gX8_line_X8_ofKey rfl rfl rfl hd_X8_ofKey ⟨(Nat.le_of_ble_eq_true rfl), (Nat.le_of_ble_eq_true rfl)⟩ rfl rfl (Nat.le_of_ble_eq_true rfl) ⟨Nat.zero_le _, Nat.zero_le _⟩ [0] (bsr := []) rfl rfl (q0 := 0) rfl rfl dX8_line_90 ?_
    rintro _ _ ⟨r_13, rfl, rfl, hw⟩
    refine gw_sel [0] (bs' := [bMd G hMd qMd v_11]) rfl rfl ?_
    change GW C 0 0 _ 93 _ [.int r_13]
    exact lb_X8_line_93 F E hK12 hw
  · have hw := hw.2 c_12
    refine gw_aload_n F dX8_line_78 0 rfl ?_
    refine gw_iload_n F dX8_line_79 2 rfl ?_
    refine gw_iconst (v := (1 : Int32)) F dX8_line_80 ic_iconst_1 ?_
    refine gw_callV F (ct_X8_ofLock hw) 2 gX8_line_X8_ofLock rfl rfl rfl hd_X8_ofLock ⟨(Nat.le_of_ble_eq_true rfl), (Nat.le_of_ble_eq_true rfl)⟩ rfl rfl (Nat.le_of_ble_eq_true rfl) ⟨Nat.zero_le _, Nat.zero_le _⟩ [0] (bsr := []) rfl rfl (q0 := 0) rfl rfl dX8_line_81 ?_
    rintro _ _ ⟨r_18, rfl, rfl, hw⟩
    refine gw_sel [0] (bs' := [bMd G hMd qMd v_11]) rfl rfl ?_
    change GW C 0 0 _ 84 _ [.int r_18]
    refine gw_goto (tgt := 93) F dX8_line_84 (by decide) ?_
    exact lb_X8_line_93 F E hK12 hw
def wp_X8_line_40 (Q : Int32 → OV → Prop) (K12 : Int32 → Int32 → OV → Prop) (x1 x2 : Int32) (vMd : OV) : Prop :=
  (wp_X8_writesNumber (fun (v_7 : OV) => (wp_X8_writes (fun (v_8 : OV) => ((x1 = 0 → (wp_X8_ofKey (fun (r_10 : Int32) => (wp_X8_line_71 Q K12 x1 x2 r_10 v_8)) x2 (0 : Int32) v_8)) ∧ (¬ (x1 = 0) → (wp_X8_ofLock (fun (r_19 : Int32) => (wp_X8_line_71 Q K12 x1 x2 r_19 v_8)) x2 (0 : Int32) v_8)))) (35 : Int32) v_7)) x2 vMd)
set_option maxRecDepth 20000 in
theorem lb_X8_line_40 {X : List Cond} {l : Launch} {D : va_G} {G : Nat → ClassId} {C : Cx} {bs0 : List va_W} {hMd : Nat} {qMd : Nat → Nat} {Q : Int32 → OV → Prop} {K12 : Int32 → Int32 → OV → Prop} (F : GF C X cX8_line wsX8_line RX8 rm_X8_line 4 (some .int) D G l) (E : GE C bs0 0 0 (po_X8_line G hMd qMd Q)) (hK12 : ∀ (x1 x2 : Int32) (vMd : OV), K12 x1 x2 vMd → GW C 0 0 [bMd G hMd qMd vMd] 12 [(0, .ref hMd), (1, .int x1), (2, .int x2)] []) {x1 x2 : Int32} {vMd : OV} (hw : wp_X8_line_40 Q K12 x1 x2 vMd) : GW C 0 0 [bMd G hMd qMd vMd] 40 [(0, .ref hMd), (1, .int x1), (2, .int x2)] [] := by
  unfold wp_X8_line_40 at hw
  refine gw_aload_n F dX8_line_40 0 rfl ?_
  refine gw_iload_n F dX8_line_41 2 rfl ?_
  refine gw_callV F (ct_X8_writesNumber hw) 1 gX8_line_X8_writesNumber rfl rfl rfl hd_X8_writesNumber ⟨(Nat.le_of_ble_eq_true rfl), (Nat.le_of_ble_eq_true rfl)⟩ rfl rfl (Nat.le_of_ble_eq_true rfl) ⟨Nat.zero_le _, Nat.zero_le _⟩ [0] (bsr := []) rfl rfl (q0 := 0) rfl rfl dX8_line_42 ?_
  rintro _ _ ⟨v_7, rfl, rfl, hw⟩
  refine gw_sel [0] (bs' := [bMd G hMd qMd v_7]) rfl rfl ?_
  change GW C 0 0 _ 45 _ []
  refine gw_aload_n F dX8_line_45 0 rfl ?_
  refine gw_bipush (v := (35 : Int32)) F dX8_line_46 ic_bipush_35 ?_
  refine gw_callV F (ct_X8_writes hw) 1 gX8_line_X8_writes rfl rfl rfl hd_X8_writes ⟨(Nat.le_of_ble_eq_true rfl), (Nat.le_of_ble_eq_true rfl)⟩ rfl rfl (Nat.le_of_ble_eq_true rfl) ⟨Nat.zero_le _, Nat.zero_le _⟩ [0] (bsr := []) rfl rfl (q0 := 0) rfl rfl dX8_line_48 ?_
  rintro _ _ ⟨v_8, rfl, rfl, hw⟩
  refine gw_sel [0] (bs' := [bMd G hMd qMd v_8]) rfl rfl ?_
  change GW C 0 0 _ 51 _ []
  refine gw_aload_n F dX8_line_51 0 rfl ?_
  refine gw_iload_n F dX8_line_52 1 rfl ?_
  refine gw_if_eq (tgt := 65) F dX8_line_53 (by decide) (fun c_9 => ?_) (fun c_9 => ?_)
  · have hw := hw.1 c_9
    refine gw_aload_n F dX8_line_65 0 rfl ?_
    refine gw_iload_n F dX8_line_66 2 rfl ?_
    refine gw_iconst (v := (0 : Int32)) F dX8_line_67 ic_iconst_0 ?_
    refine gw_callV F (ct_X8_ofKey hw) 2 gX8_line_X8_ofKey rfl rfl rfl hd_X8_ofKey ⟨(Nat.le_of_ble_eq_true rfl), (Nat.le_of_ble_eq_true rfl)⟩ rfl rfl (Nat.le_of_ble_eq_true rfl) ⟨Nat.zero_le _, Nat.zero_le _⟩ [0] (bsr := []) rfl rfl (q0 := 0) rfl rfl dX8_line_68 ?_
    rintro _ _ ⟨r_10, rfl, rfl, hw⟩
    refine gw_sel [0] (bs' := [bMd G hMd qMd v_8]) rfl rfl ?_
    change GW C 0 0 _ 71 _ [.int r_10, .ref hMd]
    exact lb_X8_line_71 F E hK12 hw
  · have hw := hw.2 c_9
    refine gw_aload_n F dX8_line_56 0 rfl ?_
    refine gw_iload_n F dX8_line_57 2 rfl ?_
    refine gw_iconst (v := (0 : Int32)) F dX8_line_58 ic_iconst_0 ?_
    refine gw_callV F (ct_X8_ofLock hw) 2 gX8_line_X8_ofLock rfl rfl rfl hd_X8_ofLock ⟨(Nat.le_of_ble_eq_true rfl), (Nat.le_of_ble_eq_true rfl)⟩ rfl rfl (Nat.le_of_ble_eq_true rfl) ⟨Nat.zero_le _, Nat.zero_le _⟩ [0] (bsr := []) rfl rfl (q0 := 0) rfl rfl dX8_line_59 ?_
    rintro _ _ ⟨r_19, rfl, rfl, hw⟩
    refine gw_sel [0] (bs' := [bMd G hMd qMd v_8]) rfl rfl ?_
    change GW C 0 0 _ 62 _ [.int r_19, .ref hMd]
    refine gw_goto (tgt := 71) F dX8_line_62 (by decide) ?_
    exact lb_X8_line_71 F E hK12 hw
def wp_X8_line_26 (Q : Int32 → OV → Prop) (K12 : Int32 → Int32 → OV → Prop) (x1 x2 s0 s2 : Int32) (vMd : OV) : Prop :=
  (vp_in s2 177 ∧ (((vMd.1 0 s2.toNatClampNeg) ≤ s0 → (Q (vMd.2 17) vMd)) ∧ (¬ ((vMd.1 0 s2.toNatClampNeg) ≤ s0) → ((x2 ≤ 0 → (wp_X8_line_40 Q K12 x1 x2 vMd)) ∧ (¬ (x2 ≤ 0) → (wp_X8_writes (fun (v_20 : OV) => (wp_X8_line_40 Q K12 x1 x2 v_20)) (32 : Int32) vMd))))))
set_option maxRecDepth 20000 in
theorem lb_X8_line_26 {X : List Cond} {l : Launch} {D : va_G} {G : Nat → ClassId} {C : Cx} {bs0 : List va_W} {hMd : Nat} {qMd : Nat → Nat} {Q : Int32 → OV → Prop} {K12 : Int32 → Int32 → OV → Prop} (F : GF C X cX8_line wsX8_line RX8 rm_X8_line 4 (some .int) D G l) (E : GE C bs0 0 0 (po_X8_line G hMd qMd Q)) (hK12 : ∀ (x1 x2 : Int32) (vMd : OV), K12 x1 x2 vMd → GW C 0 0 [bMd G hMd qMd vMd] 12 [(0, .ref hMd), (1, .int x1), (2, .int x2)] []) {x1 x2 s0 s2 : Int32} {vMd : OV} (hw : wp_X8_line_26 Q K12 x1 x2 s0 s2 vMd) : GW C 0 0 [bMd G hMd qMd vMd] 26 [(0, .ref hMd), (1, .int x1), (2, .int x2)] [.int s2, .ref (qMd 0), .int s0] := by
  unfold wp_X8_line_26 at hw
  obtain ⟨h_4, hw⟩ := hw
  refine gw_iald F 1 rfl h_4 dX8_line_26 ?_
  refine gw_icmp_ge (tgt := 118) F dX8_line_27 (by decide) (fun c_5 => ?_) (fun c_5 => ?_)
  · have hw := hw.1 c_5
    refine gw_aload_n F dX8_line_118 0 rfl ?_
    refine gw_get F in_X8_line_RX8 0 rfl rfl 17 (by decide) lk_X8_line_214 rfl dX8_line_119 ?_
    exact gw_iret F E rfl rfl (Nat.le_of_ble_eq_true rfl) (Nat.le_of_ble_eq_true rfl) dX8_line_122 ⟨_, _, rfl, rfl, hw⟩
  · have hw := hw.2 c_5
    refine gw_iload_n F dX8_line_30 2 rfl ?_
    refine gw_if_le (tgt := 40) F dX8_line_31 (by decide) (fun c_6 => ?_) (fun c_6 => ?_)
    · have hw := hw.1 c_6
      exact lb_X8_line_40 F E hK12 hw
    · have hw := hw.2 c_6
      refine gw_aload_n F dX8_line_34 0 rfl ?_
      refine gw_bipush (v := (32 : Int32)) F dX8_line_35 ic_bipush_32 ?_
      refine gw_callV F (ct_X8_writes hw) 1 gX8_line_X8_writes rfl rfl rfl hd_X8_writes ⟨(Nat.le_of_ble_eq_true rfl), (Nat.le_of_ble_eq_true rfl)⟩ rfl rfl (Nat.le_of_ble_eq_true rfl) ⟨Nat.zero_le _, Nat.zero_le _⟩ [0] (bsr := []) rfl rfl (q0 := 0) rfl rfl dX8_line_37 ?_
      rintro _ _ ⟨v_20, rfl, rfl, hw⟩
      refine gw_sel [0] (bs' := [bMd G hMd qMd v_20]) rfl rfl ?_
      change GW C 0 0 _ 40 _ []
      exact lb_X8_line_40 F E hK12 hw
def wp_X8_line_12 (Q : Int32 → OV → Prop) (K12 : Int32 → Int32 → OV → Prop) (x1 x2 : Int32) (vMd : OV) : Prop :=
  ((x1 = 0 → (wp_X8_line_26 Q K12 x1 x2 x2 (0 : Int32) vMd)) ∧ (¬ (x1 = 0) → (wp_X8_line_26 Q K12 x1 x2 x2 (1 : Int32) vMd)))
set_option maxRecDepth 20000 in
theorem lb_X8_line_12 {X : List Cond} {l : Launch} {D : va_G} {G : Nat → ClassId} {C : Cx} {bs0 : List va_W} {hMd : Nat} {qMd : Nat → Nat} {Q : Int32 → OV → Prop} {K12 : Int32 → Int32 → OV → Prop} (F : GF C X cX8_line wsX8_line RX8 rm_X8_line 4 (some .int) D G l) (E : GE C bs0 0 0 (po_X8_line G hMd qMd Q)) (hK12 : ∀ (x1 x2 : Int32) (vMd : OV), K12 x1 x2 vMd → GW C 0 0 [bMd G hMd qMd vMd] 12 [(0, .ref hMd), (1, .int x1), (2, .int x2)] []) {x1 x2 : Int32} {vMd : OV} (hw : wp_X8_line_12 Q K12 x1 x2 vMd) : GW C 0 0 [bMd G hMd qMd vMd] 12 [(0, .ref hMd), (1, .int x1), (2, .int x2)] [] := by
  unfold wp_X8_line_12 at hw
  refine gw_iload_n F dX8_line_12 2 rfl ?_
  refine gw_aload_n F dX8_line_13 0 rfl ?_
  refine gw_get F in_X8_line_RX8 0 rfl rfl 0 (by decide) lk_X8_line_7 rfl dX8_line_14 ?_
  refine gw_iload_n F dX8_line_17 1 rfl ?_
  refine gw_if_eq (tgt := 25) F dX8_line_18 (by decide) (fun c_3 => ?_) (fun c_3 => ?_)
  · have hw := hw.1 c_3
    refine gw_iconst (v := (0 : Int32)) F dX8_line_25 ic_iconst_0 ?_
    exact lb_X8_line_26 F E hK12 hw
  · have hw := hw.2 c_3
    refine gw_iconst (v := (1 : Int32)) F dX8_line_21 ic_iconst_1 ?_
    refine gw_goto (tgt := 26) F dX8_line_22 (by decide) ?_
    exact lb_X8_line_26 F E hK12 hw
def wp_X8_line_12_loop (Q : Int32 → OV → Prop) : Nat → Int32 → Int32 → OV → Prop
  | 0, _, _, _ => False
  | n + 1, x1, x2, vMd => wp_X8_line_12 Q (wp_X8_line_12_loop Q n) x1 x2 vMd
theorem lp_X8_line_12 {X : List Cond} {l : Launch} {D : va_G} {G : Nat → ClassId} {C : Cx} {bs0 : List va_W} {hMd : Nat} {qMd : Nat → Nat} {Q : Int32 → OV → Prop} (F : GF C X cX8_line wsX8_line RX8 rm_X8_line 4 (some .int) D G l) (E : GE C bs0 0 0 (po_X8_line G hMd qMd Q)) : ∀ (n : Nat) (x1 x2 : Int32) (vMd : OV), wp_X8_line_12_loop Q n x1 x2 vMd → GW C 0 0 [bMd G hMd qMd vMd] 12 [(0, .ref hMd), (1, .int x1), (2, .int x2)] [] := by
  intro n
  induction n with
  | zero => intro x1 x2 vMd hw; exact False.elim hw
  | succ n ih => intro x1 x2 vMd hw; exact lb_X8_line_12 (K12 := wp_X8_line_12_loop Q n) F E ih hw
def wp_X8_line_0 (Q : Int32 → OV → Prop) (x1 : Int32) (vMd : OV) : Prop :=
  (∀ v_1 : OV, v_1 = sI vMd 9 (0 : Int32) → (∀ v_2 : OV, v_2 = sI v_1 17 (0 : Int32) → (∃ n_21 : Nat, wp_X8_line_12_loop Q n_21 x1 (0 : Int32) v_2)))
set_option maxRecDepth 20000 in
theorem lb_X8_line_0 {X : List Cond} {l : Launch} {D : va_G} {G : Nat → ClassId} {C : Cx} {bs0 : List va_W} {hMd : Nat} {qMd : Nat → Nat} {Q : Int32 → OV → Prop} (F : GF C X cX8_line wsX8_line RX8 rm_X8_line 4 (some .int) D G l) (E : GE C bs0 0 0 (po_X8_line G hMd qMd Q)) {x1 : Int32} {vMd : OV} (hw : wp_X8_line_0 Q x1 vMd) : GW C 0 0 [bMd G hMd qMd vMd] 0 [(0, .ref hMd), (1, .int x1)] [] := by
  unfold wp_X8_line_0 at hw
  refine gw_aload_n F dX8_line_0 0 rfl ?_
  refine gw_iconst (v := (0 : Int32)) F dX8_line_1 ic_iconst_0 ?_
  obtain ⟨v_1, e_v_1⟩ : ∃ z : OV, z = sI vMd 9 (0 : Int32) := ⟨_, rfl⟩
  have hw := hw v_1 e_v_1
  refine gw_put (bs' := [bMd G hMd qMd v_1]) F in_X8_line_RX8 tyX8 tyX8_ok nmX8 0 rfl rfl 9 (by decide) lk_X8_line_46 rfl rfl rfl (Nat.le_of_ble_eq_true rfl) dX8_line_2 (by rw [e_v_1]; rfl) ?_
  refine gw_aload_n F dX8_line_5 0 rfl ?_
  refine gw_iconst (v := (0 : Int32)) F dX8_line_6 ic_iconst_0 ?_
  obtain ⟨v_2, e_v_2⟩ : ∃ z : OV, z = sI v_1 17 (0 : Int32) := ⟨_, rfl⟩
  have hw := hw v_2 e_v_2
  refine gw_put (bs' := [bMd G hMd qMd v_2]) F in_X8_line_RX8 tyX8 tyX8_ok nmX8 0 rfl rfl 17 (by decide) lk_X8_line_214 rfl rfl rfl (Nat.le_of_ble_eq_true rfl) dX8_line_7 (by rw [e_v_2]; rfl) ?_
  refine gw_iconst (v := (0 : Int32)) F dX8_line_10 ic_iconst_0 ?_
  refine gw_istore_n (lv' := [(2, .int (0 : Int32)), (0, .ref hMd), (1, .int x1)]) F dX8_line_11 (by decide) rfl ?_
  refine gw_lv [1, 2, 0] rfl ?_
  obtain ⟨n_21, hw⟩ := hw
  exact lp_X8_line_12 F E n_21 _ _ _ hw
def wp_X8_line (Q : Int32 → OV → Prop) (x1 : Int32) (vMd : OV) : Prop := wp_X8_line_0 Q x1 vMd
theorem ct_X8_line {X : List Cond} {l : Launch} {D : va_G} {G : Nat → ClassId} {hMd : Nat} {qMd : Nat → Nat} {Q : Int32 → OV → Prop} {x1 : Int32} {vMd : OV} (hw : wp_X8_line Q x1 vMd) : CM X l yX8_line wsX8_line rm_X8_line D G [.ref hMd, .int x1] [bMd G hMd qMd vMd] 0 0 (po_X8_line G hMd qMd Q) :=
  CM.of pn_RX8 rfl rfl (Nat.le_of_ble_eq_true rfl) rfl (fun C F E => lb_X8_line_0 F E hw)
-- X8_character
abbrev rm_X8_character : Room := { frames := 2, cells := 0, slots := 0, locals := 82 }
def po_X8_character (G : Nat → ClassId) (hMd : Nat) (qMd : Nat → Nat) (Q : Int32 → OV → Prop) : Option Value → List va_W → Prop := fun o bs => ∃ (r : Int32) (vMd : OV), o = some (.int r) ∧ bs = [bMd G hMd qMd vMd] ∧ Q r vMd
theorem hd_X8_character : yX8_character.cls = RX8 ∧ yX8_character.cls ≠ "java/lang/invoke/MethodHandle" ∧ yX8_character.cls ≠ "java/lang/invoke/VarHandle" ∧ (parseMethodDescriptor yX8_character.desc).map (fun d => d.parameters.length) = some 1 := by decide +kernel
theorem in_X8_character_RX8 : ∀ w ∈ wsX80, w ∈ wsX8_character := fun w h => List.mem_cons_of_mem _ (List.mem_append_left _ (List.mem_append_right _ h))
theorem lk_X8_character_214 : Cond.fieldLink RX8 214 "KeyWavesModel" "signMany" "I" ∈ wsX8_character := List.mem_cons_of_mem _ (List.mem_append_left _ (List.mem_append_left _ (List.mem_of_getElem? (i := 0) rfl)))
theorem lk_X8_character_32 : Cond.fieldLink RX8 32 "KeyWavesModel" "signs" "[C" ∈ wsX8_character := List.mem_cons_of_mem _ (List.mem_append_left _ (List.mem_append_left _ (List.mem_of_getElem? (i := 1) rfl)))
def wp_X8_character_37 (Q : Int32 → OV → Prop) (s0 : Int32) (vMd : OV) : Prop :=
  (narrow .char (.int s0) = .int s0 ∧ Q s0 vMd)
set_option maxRecDepth 20000 in
theorem lb_X8_character_37 {X : List Cond} {l : Launch} {D : va_G} {G : Nat → ClassId} {C : Cx} {bs0 : List va_W} {hMd : Nat} {qMd : Nat → Nat} {Q : Int32 → OV → Prop} (F : GF C X cX8_character wsX8_character RX8 rm_X8_character 2 (some .char) D G l) (E : GE C bs0 0 0 (po_X8_character G hMd qMd Q)) {s0 : Int32} {vMd : OV} (hw : wp_X8_character_37 Q s0 vMd) : GW C 0 0 [bMd G hMd qMd vMd] 37 [] [.int s0] := by
  unfold wp_X8_character_37 at hw
  obtain ⟨hn, hw⟩ := hw
  exact gw_iret F E rfl hn (Nat.le_of_ble_eq_true rfl) (Nat.le_of_ble_eq_true rfl) dX8_character_37 ⟨_, _, rfl, rfl, hw⟩
def wp_X8_character_20 (Q : Int32 → OV → Prop) (x1 s1 : Int32) (vMd : OV) : Prop :=
  (wp_X8_fails (fun (r_3 : Int32) (v_4 : OV) => ((r_3 = 0 → (vp_in x1 90 ∧ (wp_X8_character_37 Q (v_4.1 16 x1.toNatClampNeg) v_4))) ∧ (¬ (r_3 = 0) → (wp_X8_character_37 Q (32 : Int32) v_4)))) s1 vMd)
set_option maxRecDepth 20000 in
theorem lb_X8_character_20 {X : List Cond} {l : Launch} {D : va_G} {G : Nat → ClassId} {C : Cx} {bs0 : List va_W} {hMd : Nat} {qMd : Nat → Nat} {Q : Int32 → OV → Prop} (F : GF C X cX8_character wsX8_character RX8 rm_X8_character 2 (some .char) D G l) (E : GE C bs0 0 0 (po_X8_character G hMd qMd Q)) {x1 s1 : Int32} {vMd : OV} (hw : wp_X8_character_20 Q x1 s1 vMd) : GW C 0 0 [bMd G hMd qMd vMd] 20 [(0, .ref hMd), (1, .int x1)] [.int s1, .ref hMd] := by
  unfold wp_X8_character_20 at hw
  refine gw_callV F (ct_X8_fails hw) 1 gX8_character_X8_fails rfl rfl rfl hd_X8_fails ⟨(Nat.le_of_ble_eq_true rfl), (Nat.le_of_ble_eq_true rfl)⟩ rfl rfl (Nat.le_of_ble_eq_true rfl) ⟨Nat.zero_le _, Nat.zero_le _⟩ [0] (bsr := []) rfl rfl (q0 := 0) rfl rfl dX8_character_20 ?_
  rintro _ _ ⟨r_3, v_4, rfl, rfl, hw⟩
  refine gw_sel [0] (bs' := [bMd G hMd qMd v_4]) rfl rfl ?_
  change GW C 0 0 _ 23 _ [.int r_3]
  refine gw_if_eq (tgt := 31) F dX8_character_23 (by decide) (fun c_5 => ?_) (fun c_5 => ?_)
  · have hw := hw.1 c_5
    refine gw_aload_n F dX8_character_31 0 rfl ?_
    refine gw_get F in_X8_character_RX8 0 rfl rfl 16 (by decide) lk_X8_character_32 rfl dX8_character_32 ?_
    refine gw_iload_n F dX8_character_35 1 rfl ?_
    obtain ⟨h_6, hw⟩ := hw
    refine gw_cald F 7 rfl h_6 dX8_character_36 ?_
    refine gw_lv [] rfl ?_
    exact lb_X8_character_37 F E hw
  · have hw := hw.2 c_5
    refine gw_bipush (v := (32 : Int32)) F dX8_character_26 ic_bipush_32 ?_
    refine gw_goto (tgt := 37) F dX8_character_28 (by decide) ?_
    refine gw_lv [] rfl ?_
    exact lb_X8_character_37 F E hw
def wp_X8_character_0 (Q : Int32 → OV → Prop) (x1 : Int32) (vMd : OV) : Prop :=
  (wp_X8_in (fun (r_1 : Int32) => ((r_1 = 0 → (wp_X8_character_20 Q x1 (1 : Int32) vMd)) ∧ (¬ (r_1 = 0) → (wp_X8_character_20 Q x1 (0 : Int32) vMd)))) x1 (0 : Int32) ((vMd.2 17) - (1 : Int32)))
set_option maxRecDepth 20000 in
theorem lb_X8_character_0 {X : List Cond} {l : Launch} {D : va_G} {G : Nat → ClassId} {C : Cx} {bs0 : List va_W} {hMd : Nat} {qMd : Nat → Nat} {Q : Int32 → OV → Prop} (F : GF C X cX8_character wsX8_character RX8 rm_X8_character 2 (some .char) D G l) (E : GE C bs0 0 0 (po_X8_character G hMd qMd Q)) {x1 : Int32} {vMd : OV} (hw : wp_X8_character_0 Q x1 vMd) : GW C 0 0 [bMd G hMd qMd vMd] 0 [(0, .ref hMd), (1, .int x1)] [] := by
  unfold wp_X8_character_0 at hw
  refine gw_aload_n F dX8_character_0 0 rfl ?_
  refine gw_iload_n F dX8_character_1 1 rfl ?_
  refine gw_iconst (v := (0 : Int32)) F dX8_character_2 ic_iconst_0 ?_
  refine gw_aload_n F dX8_character_3 0 rfl ?_
  refine gw_get F in_X8_character_RX8 0 rfl rfl 17 (by decide) lk_X8_character_214 rfl dX8_character_4 ?_
  refine gw_iconst (v := (1 : Int32)) F dX8_character_7 ic_iconst_1 ?_
  refine gw_isub F dX8_character_8 ?_
  refine gw_callS F (ct_X8_in hw) 3 gX8_character_X8_in rfl rfl rfl hd_X8_in ⟨(Nat.le_of_ble_eq_true rfl), (Nat.le_of_ble_eq_true rfl)⟩ rfl rfl (Nat.le_of_ble_eq_true rfl) ⟨Nat.zero_le _, Nat.zero_le _⟩ [0] (bsr := [bMd G hMd qMd vMd]) rfl rfl dX8_character_9 ?_
  rintro _ _ ⟨r_1, rfl, rfl, hw⟩
  refine gw_sel [0] (bs' := [bMd G hMd qMd vMd]) rfl rfl ?_
  change GW C 0 0 _ 12 _ [.int r_1, .ref hMd]
  refine gw_if_eq (tgt := 19) F dX8_character_12 (by decide) (fun c_2 => ?_) (fun c_2 => ?_)
  · have hw := hw.1 c_2
    refine gw_iconst (v := (1 : Int32)) F dX8_character_19 ic_iconst_1 ?_
    exact lb_X8_character_20 F E hw
  · have hw := hw.2 c_2
    refine gw_iconst (v := (0 : Int32)) F dX8_character_15 ic_iconst_0 ?_
    refine gw_goto (tgt := 20) F dX8_character_16 (by decide) ?_
    exact lb_X8_character_20 F E hw
def wp_X8_character (Q : Int32 → OV → Prop) (x1 : Int32) (vMd : OV) : Prop := wp_X8_character_0 Q x1 vMd
theorem ct_X8_character {X : List Cond} {l : Launch} {D : va_G} {G : Nat → ClassId} {hMd : Nat} {qMd : Nat → Nat} {Q : Int32 → OV → Prop} {x1 : Int32} {vMd : OV} (hw : wp_X8_character Q x1 vMd) : CM X l yX8_character wsX8_character rm_X8_character D G [.ref hMd, .int x1] [bMd G hMd qMd vMd] 0 0 (po_X8_character G hMd qMd Q) :=
  CM.of pn_RX8 rfl rfl (Nat.le_of_ble_eq_true rfl) rfl (fun C F E => lb_X8_character_0 F E hw)
-- X8_pairs
abbrev rm_X8_pairs : Room := { frames := 5, cells := 0, slots := 0, locals := 149 }
def po_X8_pairs (G : Nat → ClassId) (hMd : Nat) (qMd : Nat → Nat) (vMd : OV) (Q : Int32 → Prop) : Option Value → List va_W → Prop := fun o bs => ∃ (r : Int32), o = some (.int r) ∧ bs = [bMd G hMd qMd vMd] ∧ Q r
theorem hd_X8_pairs : yX8_pairs.cls = RX8 ∧ yX8_pairs.cls ≠ "java/lang/invoke/MethodHandle" ∧ yX8_pairs.cls ≠ "java/lang/invoke/VarHandle" ∧ (parseMethodDescriptor yX8_pairs.desc).map (fun d => d.parameters.length) = some 0 := by decide +kernel
theorem in_X8_pairs_RX8 : ∀ w ∈ wsX80, w ∈ wsX8_pairs := fun w h => List.mem_cons_of_mem _ (List.mem_append_left _ (List.mem_append_right _ h))
theorem lk_X8_pairs_7 : Cond.fieldLink RX8 7 "KeyWavesModel" "g" "[I" ∈ wsX8_pairs := List.mem_cons_of_mem _ (List.mem_append_left _ (List.mem_append_left _ (List.mem_append_left _ (List.mem_of_getElem? (i := 0) rfl))))
def wp_X8_pairs_4 (Q : Int32 → Prop) (K4 : Int32 → Int32 → Prop) (vMd : OV) (x1 x2 : Int32) : Prop :=
  (vp_in (0 : Int32) 177 ∧ (((vMd.1 0 (0 : Int32).toNatClampNeg) ≤ x2 → (Q x1)) ∧ (¬ ((vMd.1 0 (0 : Int32).toNatClampNeg) ≤ x2) → (wp_X8_fitsOf (fun (r_3 : Int32) => (∀ i_4 : Int32, i_4 = (x1 + r_3) → (∀ i_5 : Int32, i_5 = x2 + (1 : Int32) → (K4 i_4 i_5)))) x2 vMd))))
set_option maxRecDepth 20000 in
theorem lb_X8_pairs_4 {X : List Cond} {l : Launch} {D : va_G} {G : Nat → ClassId} {C : Cx} {bs0 : List va_W} {hMd : Nat} {qMd : Nat → Nat} {Q : Int32 → Prop} {K4 : Int32 → Int32 → Prop} {vMd : OV} (F : GF C X cX8_pairs wsX8_pairs RX8 rm_X8_pairs 3 (some .int) D G l) (E : GE C bs0 0 0 (po_X8_pairs G hMd qMd vMd Q)) (hK4 : ∀ (x1 x2 : Int32), K4 x1 x2 → GW C 0 0 [bMd G hMd qMd vMd] 4 [(0, .ref hMd), (1, .int x1), (2, .int x2)] []) {x1 x2 : Int32} (hw : wp_X8_pairs_4 Q K4 vMd x1 x2) : GW C 0 0 [bMd G hMd qMd vMd] 4 [(0, .ref hMd), (1, .int x1), (2, .int x2)] [] := by
  unfold wp_X8_pairs_4 at hw
  refine gw_iload_n F dX8_pairs_4 2 rfl ?_
  refine gw_aload_n F dX8_pairs_5 0 rfl ?_
  refine gw_get F in_X8_pairs_RX8 0 rfl rfl 0 (by decide) lk_X8_pairs_7 rfl dX8_pairs_6 ?_
  refine gw_iconst (v := (0 : Int32)) F dX8_pairs_9 ic_iconst_0 ?_
  obtain ⟨h_1, hw⟩ := hw
  refine gw_iald F 1 rfl h_1 dX8_pairs_10 ?_
  refine gw_icmp_ge (tgt := 28) F dX8_pairs_11 (by decide) (fun c_2 => ?_) (fun c_2 => ?_)
  · have hw := hw.1 c_2
    refine gw_iload_n F dX8_pairs_28 1 rfl ?_
    exact gw_iret F E rfl rfl (Nat.le_of_ble_eq_true rfl) (Nat.le_of_ble_eq_true rfl) dX8_pairs_29 ⟨_, rfl, rfl, hw⟩
  · have hw := hw.2 c_2
    refine gw_iload_n F dX8_pairs_14 1 rfl ?_
    refine gw_aload_n F dX8_pairs_15 0 rfl ?_
    refine gw_iload_n F dX8_pairs_16 2 rfl ?_
    refine gw_callV F (ct_X8_fitsOf hw) 1 gX8_pairs_X8_fitsOf rfl rfl rfl hd_X8_fitsOf ⟨(Nat.le_of_ble_eq_true rfl), (Nat.le_of_ble_eq_true rfl)⟩ rfl rfl (Nat.le_of_ble_eq_true rfl) ⟨Nat.zero_le _, Nat.zero_le _⟩ [0] (bsr := []) rfl rfl (q0 := 0) rfl rfl dX8_pairs_17 ?_
    rintro _ _ ⟨r_3, rfl, rfl, hw⟩
    refine gw_sel [0] (bs' := [bMd G hMd qMd vMd]) rfl rfl ?_
    change GW C 0 0 _ 20 _ [.int r_3, .int x1]
    refine gw_iadd F dX8_pairs_20 ?_
    refine gw_topi (fun i_4 e_i_4 => ?_)
    have hw := hw i_4 e_i_4
    refine gw_istore_n (lv' := [(1, .int i_4), (0, .ref hMd), (2, .int x2)]) F dX8_pairs_21 (by decide) rfl ?_
    obtain ⟨i_5, e_i_5⟩ : ∃ z : Int32, z = x2 + (1 : Int32) := ⟨_, rfl⟩
    have hw := hw i_5 e_i_5
    refine gw_iinc (v := i_5) (lv' := [(2, .int i_5), (1, .int i_4), (0, .ref hMd)]) F dX8_pairs_22 2 rfl (by rw [e_i_5]; rfl) (by decide) rfl ?_
    refine gw_goto (tgt := 4) F dX8_pairs_25 (by decide) ?_
    refine gw_lv [2, 1, 0] rfl ?_
    exact hK4 _ _ hw
def wp_X8_pairs_4_loop (Q : Int32 → Prop) (vMd : OV) : Nat → Int32 → Int32 → Prop
  | 0, _, _ => False
  | n + 1, x1, x2 => wp_X8_pairs_4 Q (wp_X8_pairs_4_loop Q vMd n) vMd x1 x2
theorem lp_X8_pairs_4 {X : List Cond} {l : Launch} {D : va_G} {G : Nat → ClassId} {C : Cx} {bs0 : List va_W} {hMd : Nat} {qMd : Nat → Nat} {Q : Int32 → Prop} {vMd : OV} (F : GF C X cX8_pairs wsX8_pairs RX8 rm_X8_pairs 3 (some .int) D G l) (E : GE C bs0 0 0 (po_X8_pairs G hMd qMd vMd Q)) : ∀ (n : Nat) (x1 x2 : Int32), wp_X8_pairs_4_loop Q vMd n x1 x2 → GW C 0 0 [bMd G hMd qMd vMd] 4 [(0, .ref hMd), (1, .int x1), (2, .int x2)] [] := by
  intro n
  induction n with
  | zero => intro x1 x2 hw; exact False.elim hw
  | succ n ih => intro x1 x2 hw; exact lb_X8_pairs_4 (K4 := wp_X8_pairs_4_loop Q vMd n) F E ih hw
def wp_X8_pairs_0 (Q : Int32 → Prop) (vMd : OV) : Prop :=
  (∃ n_6 : Nat, wp_X8_pairs_4_loop Q vMd n_6 (0 : Int32) (0 : Int32))
set_option maxRecDepth 20000 in
theorem lb_X8_pairs_0 {X : List Cond} {l : Launch} {D : va_G} {G : Nat → ClassId} {C : Cx} {bs0 : List va_W} {hMd : Nat} {qMd : Nat → Nat} {Q : Int32 → Prop} {vMd : OV} (F : GF C X cX8_pairs wsX8_pairs RX8 rm_X8_pairs 3 (some .int) D G l) (E : GE C bs0 0 0 (po_X8_pairs G hMd qMd vMd Q)) (hw : wp_X8_pairs_0 Q vMd ) : GW C 0 0 [bMd G hMd qMd vMd] 0 [(0, .ref hMd)] [] := by
  unfold wp_X8_pairs_0 at hw
  refine gw_iconst (v := (0 : Int32)) F dX8_pairs_0 ic_iconst_0 ?_
  refine gw_istore_n (lv' := [(1, .int (0 : Int32)), (0, .ref hMd)]) F dX8_pairs_1 (by decide) rfl ?_
  refine gw_iconst (v := (0 : Int32)) F dX8_pairs_2 ic_iconst_0 ?_
  refine gw_istore_n (lv' := [(2, .int (0 : Int32)), (1, .int (0 : Int32)), (0, .ref hMd)]) F dX8_pairs_3 (by decide) rfl ?_
  refine gw_lv [2, 1, 0] rfl ?_
  obtain ⟨n_6, hw⟩ := hw
  exact lp_X8_pairs_4 F E n_6 _ _ hw
def wp_X8_pairs (Q : Int32 → Prop) (vMd : OV) : Prop := wp_X8_pairs_0 Q vMd
theorem ct_X8_pairs {X : List Cond} {l : Launch} {D : va_G} {G : Nat → ClassId} {hMd : Nat} {qMd : Nat → Nat} {Q : Int32 → Prop} {vMd : OV} (hw : wp_X8_pairs Q vMd) : CM X l yX8_pairs wsX8_pairs rm_X8_pairs D G [.ref hMd] [bMd G hMd qMd vMd] 0 0 (po_X8_pairs G hMd qMd vMd Q) :=
  CM.of pn_RX8 rfl rfl (Nat.le_of_ble_eq_true rfl) rfl (fun C F E => lb_X8_pairs_0 F E hw)
-- X8_account
abbrev rm_X8_account : Room := { frames := 6, cells := 0, slots := 0, locals := 171 }
def po_X8_account (G : Nat → ClassId) (hMd : Nat) (qMd : Nat → Nat) (Q : Int32 → OV → Prop) : Option Value → List va_W → Prop := fun o bs => ∃ (r : Int32) (vMd : OV), o = some (.int r) ∧ bs = [bMd G hMd qMd vMd] ∧ Q r vMd
theorem hd_X8_account : yX8_account.cls = RX8 ∧ yX8_account.cls ≠ "java/lang/invoke/MethodHandle" ∧ yX8_account.cls ≠ "java/lang/invoke/VarHandle" ∧ (parseMethodDescriptor yX8_account.desc).map (fun d => d.parameters.length) = some 1 := by decide +kernel
theorem in_X8_account_RX8 : ∀ w ∈ wsX80, w ∈ wsX8_account := fun w h => List.mem_cons_of_mem _ (List.mem_append_left _ (List.mem_append_right _ h))
theorem lk_X8_account_162 : Cond.fieldLink RX8 162 "KeyWavesModel" "length" "I" ∈ wsX8_account := List.mem_cons_of_mem _ (List.mem_append_left _ (List.mem_append_left _ (List.mem_append_left _ (List.mem_of_getElem? (i := 2) rfl))))
theorem lk_X8_account_7 : Cond.fieldLink RX8 7 "KeyWavesModel" "g" "[I" ∈ wsX8_account := List.mem_cons_of_mem _ (List.mem_append_left _ (List.mem_append_left _ (List.mem_append_left _ (List.mem_of_getElem? (i := 0) rfl))))
theorem lk_X8_account_65 : Cond.fieldLink RX8 65 "KeyWavesModel" "changes" "I" ∈ wsX8_account := List.mem_cons_of_mem _ (List.mem_append_left _ (List.mem_append_left _ (List.mem_append_left _ (List.mem_of_getElem? (i := 1) rfl))))
def wp_X8_account_84 (Q : Int32 → OV → Prop) (x1 : Int32) (vMd : OV) : Prop :=
  (vp_in x1 177 ∧ (Q (vMd.1 0 x1.toNatClampNeg) vMd))
set_option maxRecDepth 20000 in
theorem lb_X8_account_84 {X : List Cond} {l : Launch} {D : va_G} {G : Nat → ClassId} {C : Cx} {bs0 : List va_W} {hMd : Nat} {qMd : Nat → Nat} {Q : Int32 → OV → Prop} (F : GF C X cX8_account wsX8_account RX8 rm_X8_account 2 (some .int) D G l) (E : GE C bs0 0 0 (po_X8_account G hMd qMd Q)) {x1 : Int32} {vMd : OV} (hw : wp_X8_account_84 Q x1 vMd) : GW C 0 0 [bMd G hMd qMd vMd] 84 [(0, .ref hMd), (1, .int x1)] [] := by
  unfold wp_X8_account_84 at hw
  refine gw_aload_n F dX8_account_84 0 rfl ?_
  refine gw_get F in_X8_account_RX8 0 rfl rfl 0 (by decide) lk_X8_account_7 rfl dX8_account_85 ?_
  refine gw_iload_n F dX8_account_88 1 rfl ?_
  obtain ⟨h_7, hw⟩ := hw
  refine gw_iald F 1 rfl h_7 dX8_account_89 ?_
  exact gw_iret F E rfl rfl (Nat.le_of_ble_eq_true rfl) (Nat.le_of_ble_eq_true rfl) dX8_account_90 ⟨_, _, rfl, rfl, hw⟩
def wp_X8_account_16 (Q : Int32 → OV → Prop) (x1 s1 : Int32) (vMd : OV) : Prop :=
  (wp_X8_fails (fun (r_3 : Int32) (v_4 : OV) => ((r_3 = 0 → (((x1).toInt < 0 ∨ 10 < (x1).toInt → (Q (v_4.2 14) v_4)) ∧ ((x1).toInt = 0 → (wp_X8_account_84 Q x1 v_4)) ∧ ((x1).toInt = 1 → (wp_X8_account_84 Q x1 v_4)) ∧ ((x1).toInt = 2 → (wp_X8_openMany (fun (r_8 : Int32) => (Q r_8 v_4)) v_4)) ∧ ((x1).toInt = 3 → (wp_X8_pairs (fun (r_9 : Int32) => (Q r_9 v_4)) v_4)) ∧ ((x1).toInt = 4 → (wp_X8_barredMany (fun (r_10 : Int32) => (Q r_10 v_4)) v_4)) ∧ ((x1).toInt = 5 → (vp_in (2 : Int32) 177 ∧ (Q (v_4.1 0 (2 : Int32).toNatClampNeg) v_4))) ∧ ((x1).toInt = 6 → (vp_in (3 : Int32) 177 ∧ (Q (v_4.1 0 (3 : Int32).toNatClampNeg) v_4))) ∧ ((x1).toInt = 7 → (vp_in (4 : Int32) 177 ∧ (Q (v_4.1 0 (4 : Int32).toNatClampNeg) v_4))) ∧ ((x1).toInt = 8 → (vp_in (5 : Int32) 177 ∧ (Q (v_4.1 0 (5 : Int32).toNatClampNeg) v_4))) ∧ ((x1).toInt = 9 → (vp_in (6 : Int32) 177 ∧ (Q (v_4.1 0 (6 : Int32).toNatClampNeg) v_4))) ∧ ((x1).toInt = 10 → (Q (v_4.2 6) v_4)))) ∧ (¬ (r_3 = 0) → (Q (0 : Int32) v_4)))) s1 vMd)
set_option maxRecDepth 20000 in
theorem lb_X8_account_16 {X : List Cond} {l : Launch} {D : va_G} {G : Nat → ClassId} {C : Cx} {bs0 : List va_W} {hMd : Nat} {qMd : Nat → Nat} {Q : Int32 → OV → Prop} (F : GF C X cX8_account wsX8_account RX8 rm_X8_account 2 (some .int) D G l) (E : GE C bs0 0 0 (po_X8_account G hMd qMd Q)) {x1 s1 : Int32} {vMd : OV} (hw : wp_X8_account_16 Q x1 s1 vMd) : GW C 0 0 [bMd G hMd qMd vMd] 16 [(0, .ref hMd), (1, .int x1)] [.int s1, .ref hMd] := by
  unfold wp_X8_account_16 at hw
  refine gw_callV F (ct_X8_fails hw) 1 gX8_account_X8_fails rfl rfl rfl hd_X8_fails ⟨(Nat.le_of_ble_eq_true rfl), (Nat.le_of_ble_eq_true rfl)⟩ rfl rfl (Nat.le_of_ble_eq_true rfl) ⟨Nat.zero_le _, Nat.zero_le _⟩ [0] (bsr := []) rfl rfl (q0 := 0) rfl rfl dX8_account_16 ?_
  rintro _ _ ⟨r_3, v_4, rfl, rfl, hw⟩
  refine gw_sel [0] (bs' := [bMd G hMd qMd v_4]) rfl rfl ?_
  change GW C 0 0 _ 19 _ [.int r_3]
  refine gw_if_eq (tgt := 24) F dX8_account_19 (by decide) (fun c_5 => ?_) (fun c_5 => ?_)
  · have hw := hw.1 c_5
    refine gw_iload_n F dX8_account_24 1 rfl ?_
    rcases tb_0_10 x1 with c_6 | c_6 | c_6 | c_6 | c_6 | c_6 | c_6 | c_6 | c_6 | c_6 | c_6 | c_6
    · have hw := hw.1 c_6
      refine gw_tout (tgt := 147) F dX8_account_25 c_6 (by decide) ?_
      refine gw_aload_n F dX8_account_147 0 rfl ?_
      refine gw_get F in_X8_account_RX8 0 rfl rfl 14 (by decide) lk_X8_account_162 rfl dX8_account_148 ?_
      exact gw_iret F E rfl rfl (Nat.le_of_ble_eq_true rfl) (Nat.le_of_ble_eq_true rfl) dX8_account_151 ⟨_, _, rfl, rfl, hw⟩
    · have hw := hw.2.1 c_6
      refine gw_tin (j := 0) (off := 59) (tgt := 84) F dX8_account_25 c_6 (by decide) (by decide) rfl (by decide) ?_
      exact lb_X8_account_84 F E hw
    · have hw := hw.2.2.1 c_6
      refine gw_tin (j := 1) (off := 59) (tgt := 84) F dX8_account_25 c_6 (by decide) (by decide) rfl (by decide) ?_
      exact lb_X8_account_84 F E hw
    · have hw := hw.2.2.2.1 c_6
      refine gw_tin (j := 2) (off := 66) (tgt := 91) F dX8_account_25 c_6 (by decide) (by decide) rfl (by decide) ?_
      refine gw_aload_n F dX8_account_91 0 rfl ?_
      refine gw_callV F (ct_X8_openMany hw) 0 gX8_account_X8_openMany rfl rfl rfl hd_X8_openMany ⟨(Nat.le_of_ble_eq_true rfl), (Nat.le_of_ble_eq_true rfl)⟩ rfl rfl (Nat.le_of_ble_eq_true rfl) ⟨Nat.zero_le _, Nat.zero_le _⟩ [0] (bsr := []) rfl rfl (q0 := 0) rfl rfl dX8_account_92 ?_
      rintro _ _ ⟨r_8, rfl, rfl, hw⟩
      refine gw_sel [0] (bs' := [bMd G hMd qMd v_4]) rfl rfl ?_
      change GW C 0 0 _ 95 _ [.int r_8]
      exact gw_iret F E rfl rfl (Nat.le_of_ble_eq_true rfl) (Nat.le_of_ble_eq_true rfl) dX8_account_95 ⟨_, _, rfl, rfl, hw⟩
    · have hw := hw.2.2.2.2.1 c_6
      refine gw_tin (j := 3) (off := 71) (tgt := 96) F dX8_account_25 c_6 (by decide) (by decide) rfl (by decide) ?_
      refine gw_aload_n F dX8_account_96 0 rfl ?_
      refine gw_callV F (ct_X8_pairs hw) 0 gX8_account_X8_pairs rfl rfl rfl hd_X8_pairs ⟨(Nat.le_of_ble_eq_true rfl), (Nat.le_of_ble_eq_true rfl)⟩ rfl rfl (Nat.le_of_ble_eq_true rfl) ⟨Nat.zero_le _, Nat.zero_le _⟩ [0] (bsr := []) rfl rfl (q0 := 0) rfl rfl dX8_account_97 ?_
      rintro _ _ ⟨r_9, rfl, rfl, hw⟩
      refine gw_sel [0] (bs' := [bMd G hMd qMd v_4]) rfl rfl ?_
      change GW C 0 0 _ 100 _ [.int r_9]
      exact gw_iret F E rfl rfl (Nat.le_of_ble_eq_true rfl) (Nat.le_of_ble_eq_true rfl) dX8_account_100 ⟨_, _, rfl, rfl, hw⟩
    · have hw := hw.2.2.2.2.2.1 c_6
      refine gw_tin (j := 4) (off := 76) (tgt := 101) F dX8_account_25 c_6 (by decide) (by decide) rfl (by decide) ?_
      refine gw_aload_n F dX8_account_101 0 rfl ?_
      refine gw_callV F (ct_X8_barredMany hw) 0 gX8_account_X8_barredMany rfl rfl rfl hd_X8_barredMany ⟨(Nat.le_of_ble_eq_true rfl), (Nat.le_of_ble_eq_true rfl)⟩ rfl rfl (Nat.le_of_ble_eq_true rfl) ⟨Nat.zero_le _, Nat.zero_le _⟩ [0] (bsr := []) rfl rfl (q0 := 0) rfl rfl dX8_account_102 ?_
      rintro _ _ ⟨r_10, rfl, rfl, hw⟩
      refine gw_sel [0] (bs' := [bMd G hMd qMd v_4]) rfl rfl ?_
      change GW C 0 0 _ 105 _ [.int r_10]
      exact gw_iret F E rfl rfl (Nat.le_of_ble_eq_true rfl) (Nat.le_of_ble_eq_true rfl) dX8_account_105 ⟨_, _, rfl, rfl, hw⟩
    · have hw := hw.2.2.2.2.2.2.1 c_6
      refine gw_tin (j := 5) (off := 81) (tgt := 106) F dX8_account_25 c_6 (by decide) (by decide) rfl (by decide) ?_
      refine gw_aload_n F dX8_account_106 0 rfl ?_
      refine gw_get F in_X8_account_RX8 0 rfl rfl 0 (by decide) lk_X8_account_7 rfl dX8_account_107 ?_
      refine gw_iconst (v := (2 : Int32)) F dX8_account_110 ic_iconst_2 ?_
      obtain ⟨h_11, hw⟩ := hw
      refine gw_iald F 1 rfl h_11 dX8_account_111 ?_
      exact gw_iret F E rfl rfl (Nat.le_of_ble_eq_true rfl) (Nat.le_of_ble_eq_true rfl) dX8_account_112 ⟨_, _, rfl, rfl, hw⟩
    · have hw := hw.2.2.2.2.2.2.2.1 c_6
      refine gw_tin (j := 6) (off := 88) (tgt := 113) F dX8_account_25 c_6 (by decide) (by decide) rfl (by decide) ?_
      refine gw_aload_n F dX8_account_113 0 rfl ?_
      refine gw_get F in_X8_account_RX8 0 rfl rfl 0 (by decide) lk_X8_account_7 rfl dX8_account_114 ?_
      refine gw_iconst (v := (3 : Int32)) F dX8_account_117 ic_iconst_3 ?_
      obtain ⟨h_12, hw⟩ := hw
      refine gw_iald F 1 rfl h_12 dX8_account_118 ?_
      exact gw_iret F E rfl rfl (Nat.le_of_ble_eq_true rfl) (Nat.le_of_ble_eq_true rfl) dX8_account_119 ⟨_, _, rfl, rfl, hw⟩
    · have hw := hw.2.2.2.2.2.2.2.2.1 c_6
      refine gw_tin (j := 7) (off := 95) (tgt := 120) F dX8_account_25 c_6 (by decide) (by decide) rfl (by decide) ?_
      refine gw_aload_n F dX8_account_120 0 rfl ?_
      refine gw_get F in_X8_account_RX8 0 rfl rfl 0 (by decide) lk_X8_account_7 rfl dX8_account_121 ?_
      refine gw_iconst (v := (4 : Int32)) F dX8_account_124 ic_iconst_4 ?_
      obtain ⟨h_13, hw⟩ := hw
      refine gw_iald F 1 rfl h_13 dX8_account_125 ?_
      exact gw_iret F E rfl rfl (Nat.le_of_ble_eq_true rfl) (Nat.le_of_ble_eq_true rfl) dX8_account_126 ⟨_, _, rfl, rfl, hw⟩
    · have hw := hw.2.2.2.2.2.2.2.2.2.1 c_6
      refine gw_tin (j := 8) (off := 102) (tgt := 127) F dX8_account_25 c_6 (by decide) (by decide) rfl (by decide) ?_
      refine gw_aload_n F dX8_account_127 0 rfl ?_
      refine gw_get F in_X8_account_RX8 0 rfl rfl 0 (by decide) lk_X8_account_7 rfl dX8_account_128 ?_
      refine gw_iconst (v := (5 : Int32)) F dX8_account_131 ic_iconst_5 ?_
      obtain ⟨h_14, hw⟩ := hw
      refine gw_iald F 1 rfl h_14 dX8_account_132 ?_
      exact gw_iret F E rfl rfl (Nat.le_of_ble_eq_true rfl) (Nat.le_of_ble_eq_true rfl) dX8_account_133 ⟨_, _, rfl, rfl, hw⟩
    · have hw := hw.2.2.2.2.2.2.2.2.2.2.1 c_6
      refine gw_tin (j := 9) (off := 109) (tgt := 134) F dX8_account_25 c_6 (by decide) (by decide) rfl (by decide) ?_
      refine gw_aload_n F dX8_account_134 0 rfl ?_
      refine gw_get F in_X8_account_RX8 0 rfl rfl 0 (by decide) lk_X8_account_7 rfl dX8_account_135 ?_
      refine gw_bipush (v := (6 : Int32)) F dX8_account_138 ic_bipush_6 ?_
      obtain ⟨h_15, hw⟩ := hw
      refine gw_iald F 1 rfl h_15 dX8_account_140 ?_
      exact gw_iret F E rfl rfl (Nat.le_of_ble_eq_true rfl) (Nat.le_of_ble_eq_true rfl) dX8_account_141 ⟨_, _, rfl, rfl, hw⟩
    · have hw := hw.2.2.2.2.2.2.2.2.2.2.2 c_6
      refine gw_tin (j := 10) (off := 117) (tgt := 142) F dX8_account_25 c_6 (by decide) (by decide) rfl (by decide) ?_
      refine gw_aload_n F dX8_account_142 0 rfl ?_
      refine gw_get F in_X8_account_RX8 0 rfl rfl 6 (by decide) lk_X8_account_65 rfl dX8_account_143 ?_
      exact gw_iret F E rfl rfl (Nat.le_of_ble_eq_true rfl) (Nat.le_of_ble_eq_true rfl) dX8_account_146 ⟨_, _, rfl, rfl, hw⟩
  · have hw := hw.2 c_5
    refine gw_iconst (v := (0 : Int32)) F dX8_account_22 ic_iconst_0 ?_
    exact gw_iret F E rfl rfl (Nat.le_of_ble_eq_true rfl) (Nat.le_of_ble_eq_true rfl) dX8_account_23 ⟨_, _, rfl, rfl, hw⟩
def wp_X8_account_0 (Q : Int32 → OV → Prop) (x1 : Int32) (vMd : OV) : Prop :=
  (wp_X8_in (fun (r_1 : Int32) => ((r_1 = 0 → (wp_X8_account_16 Q x1 (1 : Int32) vMd)) ∧ (¬ (r_1 = 0) → (wp_X8_account_16 Q x1 (0 : Int32) vMd)))) x1 (0 : Int32) (11 : Int32))
set_option maxRecDepth 20000 in
theorem lb_X8_account_0 {X : List Cond} {l : Launch} {D : va_G} {G : Nat → ClassId} {C : Cx} {bs0 : List va_W} {hMd : Nat} {qMd : Nat → Nat} {Q : Int32 → OV → Prop} (F : GF C X cX8_account wsX8_account RX8 rm_X8_account 2 (some .int) D G l) (E : GE C bs0 0 0 (po_X8_account G hMd qMd Q)) {x1 : Int32} {vMd : OV} (hw : wp_X8_account_0 Q x1 vMd) : GW C 0 0 [bMd G hMd qMd vMd] 0 [(0, .ref hMd), (1, .int x1)] [] := by
  unfold wp_X8_account_0 at hw
  refine gw_aload_n F dX8_account_0 0 rfl ?_
  refine gw_iload_n F dX8_account_1 1 rfl ?_
  refine gw_iconst (v := (0 : Int32)) F dX8_account_2 ic_iconst_0 ?_
  refine gw_bipush (v := (11 : Int32)) F dX8_account_3 ic_bipush_11 ?_
  refine gw_callS F (ct_X8_in hw) 3 gX8_account_X8_in rfl rfl rfl hd_X8_in ⟨(Nat.le_of_ble_eq_true rfl), (Nat.le_of_ble_eq_true rfl)⟩ rfl rfl (Nat.le_of_ble_eq_true rfl) ⟨Nat.zero_le _, Nat.zero_le _⟩ [0] (bsr := [bMd G hMd qMd vMd]) rfl rfl dX8_account_5 ?_
  rintro _ _ ⟨r_1, rfl, rfl, hw⟩
  refine gw_sel [0] (bs' := [bMd G hMd qMd vMd]) rfl rfl ?_
  change GW C 0 0 _ 8 _ [.int r_1, .ref hMd]
  refine gw_if_eq (tgt := 15) F dX8_account_8 (by decide) (fun c_2 => ?_) (fun c_2 => ?_)
  · have hw := hw.1 c_2
    refine gw_iconst (v := (1 : Int32)) F dX8_account_15 ic_iconst_1 ?_
    exact lb_X8_account_16 F E hw
  · have hw := hw.2 c_2
    refine gw_iconst (v := (0 : Int32)) F dX8_account_11 ic_iconst_0 ?_
    refine gw_goto (tgt := 16) F dX8_account_12 (by decide) ?_
    exact lb_X8_account_16 F E hw
def wp_X8_account (Q : Int32 → OV → Prop) (x1 : Int32) (vMd : OV) : Prop := wp_X8_account_0 Q x1 vMd
theorem ct_X8_account {X : List Cond} {l : Launch} {D : va_G} {G : Nat → ClassId} {hMd : Nat} {qMd : Nat → Nat} {Q : Int32 → OV → Prop} {x1 : Int32} {vMd : OV} (hw : wp_X8_account Q x1 vMd) : CM X l yX8_account wsX8_account rm_X8_account D G [.ref hMd, .int x1] [bMd G hMd qMd vMd] 0 0 (po_X8_account G hMd qMd Q) :=
  CM.of pn_RX8 rfl rfl (Nat.le_of_ble_eq_true rfl) rfl (fun C F E => lb_X8_account_0 F E hw)
-- X8_undo
abbrev rm_X8_undo : Room := { frames := 2, cells := 0, slots := 0, locals := 84 }
def po_X8_undo (G : Nat → ClassId) (hMd : Nat) (qMd : Nat → Nat) (Q : Int32 → OV → Prop) : Option Value → List va_W → Prop := fun o bs => ∃ (r : Int32) (vMd : OV), o = some (.int r) ∧ bs = [bMd G hMd qMd vMd] ∧ Q r vMd
theorem hd_X8_undo : yX8_undo.cls = RX8 ∧ yX8_undo.cls ≠ "java/lang/invoke/MethodHandle" ∧ yX8_undo.cls ≠ "java/lang/invoke/VarHandle" ∧ (parseMethodDescriptor yX8_undo.desc).map (fun d => d.parameters.length) = some 0 := by decide +kernel
theorem in_X8_undo_RX8 : ∀ w ∈ wsX80, w ∈ wsX8_undo := fun w h => List.mem_cons_of_mem _ (List.mem_append_left _ (List.mem_append_right _ h))
theorem lk_X8_undo_65 : Cond.fieldLink RX8 65 "KeyWavesModel" "changes" "I" ∈ wsX8_undo := List.mem_cons_of_mem _ (List.mem_append_left _ (List.mem_append_left _ (List.mem_of_getElem? (i := 0) rfl)))
theorem lk_X8_undo_13 : Cond.fieldLink RX8 13 "KeyWavesModel" "kept" "[I" ∈ wsX8_undo := List.mem_cons_of_mem _ (List.mem_append_left _ (List.mem_append_left _ (List.mem_of_getElem? (i := 1) rfl)))
theorem lk_X8_undo_7 : Cond.fieldLink RX8 7 "KeyWavesModel" "g" "[I" ∈ wsX8_undo := List.mem_cons_of_mem _ (List.mem_append_left _ (List.mem_append_left _ (List.mem_of_getElem? (i := 2) rfl)))
def wp_X8_undo_13 (Q : Int32 → OV → Prop) (s1 : Int32) (vMd : OV) : Prop :=
  (wp_X8_fails (fun (r_2 : Int32) (v_3 : OV) => ((r_2 = 0 → (∀ v_5 : OV, v_5 = sI v_3 6 ((v_3.2 6) - (1 : Int32)) → (wp_X8_copies (fun (v_6 : (Nat → Int32)) => (∀ v_7 : OV, v_7 = sF v_5 0 v_6 → (Q (v_7.2 6) v_7))) 1416 177 ((177 : Int32) * (v_5.2 6)) (0 : Int32) (v_5.1 1) (v_5.1 0)))) ∧ (¬ (r_2 = 0) → (Q (0 : Int32) v_3)))) s1 vMd)
set_option maxRecDepth 20000 in
theorem lb_X8_undo_13 {X : List Cond} {l : Launch} {D : va_G} {G : Nat → ClassId} {C : Cx} {bs0 : List va_W} {hMd : Nat} {qMd : Nat → Nat} {Q : Int32 → OV → Prop} (F : GF C X cX8_undo wsX8_undo RX8 rm_X8_undo 1 (some .int) D G l) (E : GE C bs0 0 0 (po_X8_undo G hMd qMd Q)) {s1 : Int32} {vMd : OV} (hw : wp_X8_undo_13 Q s1 vMd) : GW C 0 0 [bMd G hMd qMd vMd] 13 [(0, .ref hMd)] [.int s1, .ref hMd] := by
  unfold wp_X8_undo_13 at hw
  refine gw_callV F (ct_X8_fails hw) 1 gX8_undo_X8_fails rfl rfl rfl hd_X8_fails ⟨(Nat.le_of_ble_eq_true rfl), (Nat.le_of_ble_eq_true rfl)⟩ rfl rfl (Nat.le_of_ble_eq_true rfl) ⟨Nat.zero_le _, Nat.zero_le _⟩ [0] (bsr := []) rfl rfl (q0 := 0) rfl rfl dX8_undo_13 ?_
  rintro _ _ ⟨r_2, v_3, rfl, rfl, hw⟩
  refine gw_sel [0] (bs' := [bMd G hMd qMd v_3]) rfl rfl ?_
  change GW C 0 0 _ 16 _ [.int r_2]
  refine gw_if_eq (tgt := 21) F dX8_undo_16 (by decide) (fun c_4 => ?_) (fun c_4 => ?_)
  · have hw := hw.1 c_4
    refine gw_aload_n F dX8_undo_21 0 rfl ?_
    refine gw_dup F dX8_undo_22 rfl ?_
    refine gw_get F in_X8_undo_RX8 0 rfl rfl 6 (by decide) lk_X8_undo_65 rfl dX8_undo_23 ?_
    refine gw_iconst (v := (1 : Int32)) F dX8_undo_26 ic_iconst_1 ?_
    refine gw_isub F dX8_undo_27 ?_
    obtain ⟨v_5, e_v_5⟩ : ∃ z : OV, z = sI v_3 6 ((v_3.2 6) - (1 : Int32)) := ⟨_, rfl⟩
    have hw := hw v_5 e_v_5
    refine gw_put (bs' := [bMd G hMd qMd v_5]) F in_X8_undo_RX8 tyX8 tyX8_ok nmX8 0 rfl rfl 6 (by decide) lk_X8_undo_65 rfl rfl rfl (Nat.le_of_ble_eq_true rfl) dX8_undo_28 (by rw [e_v_5]; rfl) ?_
    refine gw_aload_n F dX8_undo_31 0 rfl ?_
    refine gw_get F in_X8_undo_RX8 0 rfl rfl 1 (by decide) lk_X8_undo_13 rfl dX8_undo_32 ?_
    refine gw_sipush (v := (177 : Int32)) F dX8_undo_35 ic_sipush_177 ?_
    refine gw_aload_n F dX8_undo_38 0 rfl ?_
    refine gw_get F in_X8_undo_RX8 0 rfl rfl 6 (by decide) lk_X8_undo_65 rfl dX8_undo_39 ?_
    refine gw_imul F dX8_undo_42 ?_
    refine gw_aload_n F dX8_undo_43 0 rfl ?_
    refine gw_get F in_X8_undo_RX8 0 rfl rfl 0 (by decide) lk_X8_undo_7 rfl dX8_undo_44 ?_
    refine gw_iconst (v := (0 : Int32)) F dX8_undo_47 ic_iconst_0 ?_
    refine gw_flat (bs' := mdB G hMd qMd v_5) rfl ?_
    refine gw_callS F (ct_X8_copies hw) 4 gX8_undo_X8_copies rfl rfl rfl hd_X8_copies ⟨(Nat.le_of_ble_eq_true rfl), (Nat.le_of_ble_eq_true rfl)⟩ rfl rfl (Nat.le_of_ble_eq_true rfl) ⟨Nat.zero_le _, Nat.zero_le _⟩ [0, 3, 4, 5, 6, 7, 8, 9, 10, 2, 1] (bsr := ((mdB G hMd qMd v_5).eraseIdx 2 |>.eraseIdx 1)) rfl rfl dX8_undo_48 ?_
    rintro _ _ ⟨v_6, rfl, rfl, hw⟩
    obtain ⟨v_7, e_v_7⟩ : ∃ z : OV, z = sF v_5 0 v_6 := ⟨_, rfl⟩
    have hw := hw v_7 e_v_7
    refine gw_sel [0, 10, 9, 1, 2, 3, 4, 5, 6, 7, 8] (bs' := mdB G hMd qMd v_7) (by rw [e_v_7]; rfl) rfl ?_
    refine gw_flat (bs' := [bMd G hMd qMd v_7]) rfl ?_
    change GW C 0 0 _ 51 _ []
    refine gw_aload_n F dX8_undo_51 0 rfl ?_
    refine gw_get F in_X8_undo_RX8 0 rfl rfl 6 (by decide) lk_X8_undo_65 rfl dX8_undo_52 ?_
    exact gw_iret F E rfl rfl (Nat.le_of_ble_eq_true rfl) (Nat.le_of_ble_eq_true rfl) dX8_undo_55 ⟨_, _, rfl, rfl, hw⟩
  · have hw := hw.2 c_4
    refine gw_iconst (v := (0 : Int32)) F dX8_undo_19 ic_iconst_0 ?_
    exact gw_iret F E rfl rfl (Nat.le_of_ble_eq_true rfl) (Nat.le_of_ble_eq_true rfl) dX8_undo_20 ⟨_, _, rfl, rfl, hw⟩
def wp_X8_undo_0 (Q : Int32 → OV → Prop) (vMd : OV) : Prop :=
  ((¬ (vMd.2 6) = 0 → (wp_X8_undo_13 Q (0 : Int32) vMd)) ∧ ((vMd.2 6) = 0 → (wp_X8_undo_13 Q (1 : Int32) vMd)))
set_option maxRecDepth 20000 in
theorem lb_X8_undo_0 {X : List Cond} {l : Launch} {D : va_G} {G : Nat → ClassId} {C : Cx} {bs0 : List va_W} {hMd : Nat} {qMd : Nat → Nat} {Q : Int32 → OV → Prop} (F : GF C X cX8_undo wsX8_undo RX8 rm_X8_undo 1 (some .int) D G l) (E : GE C bs0 0 0 (po_X8_undo G hMd qMd Q)) {vMd : OV} (hw : wp_X8_undo_0 Q vMd) : GW C 0 0 [bMd G hMd qMd vMd] 0 [(0, .ref hMd)] [] := by
  unfold wp_X8_undo_0 at hw
  refine gw_aload_n F dX8_undo_0 0 rfl ?_
  refine gw_aload_n F dX8_undo_1 0 rfl ?_
  refine gw_get F in_X8_undo_RX8 0 rfl rfl 6 (by decide) lk_X8_undo_65 rfl dX8_undo_2 ?_
  refine gw_if_ne (tgt := 12) F dX8_undo_5 (by decide) (fun c_1 => ?_) (fun c_1 => ?_)
  · have hw := hw.1 c_1
    refine gw_iconst (v := (0 : Int32)) F dX8_undo_12 ic_iconst_0 ?_
    exact lb_X8_undo_13 F E hw
  · have hw := hw.2 c_1
    refine gw_iconst (v := (1 : Int32)) F dX8_undo_8 ic_iconst_1 ?_
    refine gw_goto (tgt := 13) F dX8_undo_9 (by decide) ?_
    exact lb_X8_undo_13 F E hw
def wp_X8_undo (Q : Int32 → OV → Prop) (vMd : OV) : Prop := wp_X8_undo_0 Q vMd
theorem ct_X8_undo {X : List Cond} {l : Launch} {D : va_G} {G : Nat → ClassId} {hMd : Nat} {qMd : Nat → Nat} {Q : Int32 → OV → Prop} {vMd : OV} (hw : wp_X8_undo Q vMd) : CM X l yX8_undo wsX8_undo rm_X8_undo D G [.ref hMd] [bMd G hMd qMd vMd] 0 0 (po_X8_undo G hMd qMd Q) :=
  CM.of pn_RX8 rfl rfl (Nat.le_of_ble_eq_true rfl) rfl (fun C F E => lb_X8_undo_0 F E hw)
-- X8_save
abbrev rm_X8_save : Room := { frames := 3, cells := 0, slots := 0, locals := 104 }
def po_X8_save (G : Nat → ClassId) (hMd : Nat) (qMd : Nat → Nat) (Q : Int32 → OV → Prop) : Option Value → List va_W → Prop := fun o bs => ∃ (r : Int32) (vMd : OV), o = some (.int r) ∧ bs = [bMd G hMd qMd vMd] ∧ Q r vMd
theorem hd_X8_save : yX8_save.cls = RX8 ∧ yX8_save.cls ≠ "java/lang/invoke/MethodHandle" ∧ yX8_save.cls ≠ "java/lang/invoke/VarHandle" ∧ (parseMethodDescriptor yX8_save.desc).map (fun d => d.parameters.length) = some 0 := by decide +kernel
theorem in_X8_save_RX8 : ∀ w ∈ wsX80, w ∈ wsX8_save := fun w h => List.mem_cons_of_mem _ (List.mem_append_left _ (List.mem_append_right _ h))
theorem lk_X8_save_46 : Cond.fieldLink RX8 46 "KeyWavesModel" "code" "I" ∈ wsX8_save := List.mem_cons_of_mem _ (List.mem_append_left _ (List.mem_append_left _ (List.mem_of_getElem? (i := 0) rfl)))
theorem lk_X8_save_227 : Cond.fieldLink RX8 227 "KeyWavesModel" "isSaved" "Z" ∈ wsX8_save := List.mem_cons_of_mem _ (List.mem_append_left _ (List.mem_append_left _ (List.mem_of_getElem? (i := 1) rfl)))
theorem lk_X8_save_7 : Cond.fieldLink RX8 7 "KeyWavesModel" "g" "[I" ∈ wsX8_save := List.mem_cons_of_mem _ (List.mem_append_left _ (List.mem_append_left _ (List.mem_of_getElem? (i := 2) rfl)))
theorem lk_X8_save_16 : Cond.fieldLink RX8 16 "KeyWavesModel" "saved" "[I" ∈ wsX8_save := List.mem_cons_of_mem _ (List.mem_append_left _ (List.mem_append_left _ (List.mem_of_getElem? (i := 3) rfl)))
def wp_X8_save_0 (Q : Int32 → OV → Prop) (vMd : OV) : Prop :=
  (∀ v_1 : OV, v_1 = sI vMd 9 (0 : Int32) → (∀ v_2 : OV, v_2 = sI v_1 5 (1 : Int32) → (wp_X8_copies (fun (v_3 : (Nat → Int32)) => (∀ v_4 : OV, v_4 = sF v_2 2 v_3 → (wp_X8_openMany (fun (r_5 : Int32) => (Q r_5 v_4)) v_4))) 177 177 (0 : Int32) (0 : Int32) (v_2.1 0) (v_2.1 2))))
set_option maxRecDepth 20000 in
theorem lb_X8_save_0 {X : List Cond} {l : Launch} {D : va_G} {G : Nat → ClassId} {C : Cx} {bs0 : List va_W} {hMd : Nat} {qMd : Nat → Nat} {Q : Int32 → OV → Prop} (F : GF C X cX8_save wsX8_save RX8 rm_X8_save 1 (some .int) D G l) (E : GE C bs0 0 0 (po_X8_save G hMd qMd Q)) {vMd : OV} (hw : wp_X8_save_0 Q vMd) : GW C 0 0 [bMd G hMd qMd vMd] 0 [(0, .ref hMd)] [] := by
  unfold wp_X8_save_0 at hw
  refine gw_aload_n F dX8_save_0 0 rfl ?_
  refine gw_iconst (v := (0 : Int32)) F dX8_save_1 ic_iconst_0 ?_
  obtain ⟨v_1, e_v_1⟩ : ∃ z : OV, z = sI vMd 9 (0 : Int32) := ⟨_, rfl⟩
  have hw := hw v_1 e_v_1
  refine gw_put (bs' := [bMd G hMd qMd v_1]) F in_X8_save_RX8 tyX8 tyX8_ok nmX8 0 rfl rfl 9 (by decide) lk_X8_save_46 rfl rfl rfl (Nat.le_of_ble_eq_true rfl) dX8_save_2 (by rw [e_v_1]; rfl) ?_
  refine gw_aload_n F dX8_save_5 0 rfl ?_
  refine gw_iconst (v := (1 : Int32)) F dX8_save_6 ic_iconst_1 ?_
  obtain ⟨v_2, e_v_2⟩ : ∃ z : OV, z = sI v_1 5 (1 : Int32) := ⟨_, rfl⟩
  have hw := hw v_2 e_v_2
  refine gw_put (bs' := [bMd G hMd qMd v_2]) F in_X8_save_RX8 tyX8 tyX8_ok nmX8 0 rfl rfl 5 (by decide) lk_X8_save_227 rfl rfl rfl (Nat.le_of_ble_eq_true rfl) dX8_save_7 (by rw [e_v_2]; rfl) ?_
  refine gw_aload_n F dX8_save_10 0 rfl ?_
  refine gw_get F in_X8_save_RX8 0 rfl rfl 0 (by decide) lk_X8_save_7 rfl dX8_save_11 ?_
  refine gw_iconst (v := (0 : Int32)) F dX8_save_14 ic_iconst_0 ?_
  refine gw_aload_n F dX8_save_15 0 rfl ?_
  refine gw_get F in_X8_save_RX8 0 rfl rfl 2 (by decide) lk_X8_save_16 rfl dX8_save_16 ?_
  refine gw_iconst (v := (0 : Int32)) F dX8_save_19 ic_iconst_0 ?_
  refine gw_flat (bs' := mdB G hMd qMd v_2) rfl ?_
  refine gw_callS F (ct_X8_copies hw) 4 gX8_save_X8_copies rfl rfl rfl hd_X8_copies ⟨(Nat.le_of_ble_eq_true rfl), (Nat.le_of_ble_eq_true rfl)⟩ rfl rfl (Nat.le_of_ble_eq_true rfl) ⟨Nat.zero_le _, Nat.zero_le _⟩ [0, 2, 4, 5, 6, 7, 8, 9, 10, 1, 3] (bsr := ((mdB G hMd qMd v_2).eraseIdx 3 |>.eraseIdx 1)) rfl rfl dX8_save_20 ?_
  rintro _ _ ⟨v_3, rfl, rfl, hw⟩
  obtain ⟨v_4, e_v_4⟩ : ∃ z : OV, z = sF v_2 2 v_3 := ⟨_, rfl⟩
  have hw := hw v_4 e_v_4
  refine gw_sel [0, 9, 1, 10, 2, 3, 4, 5, 6, 7, 8] (bs' := mdB G hMd qMd v_4) (by rw [e_v_4]; rfl) rfl ?_
  refine gw_flat (bs' := [bMd G hMd qMd v_4]) rfl ?_
  change GW C 0 0 _ 23 _ []
  refine gw_aload_n F dX8_save_23 0 rfl ?_
  refine gw_callV F (ct_X8_openMany hw) 0 gX8_save_X8_openMany rfl rfl rfl hd_X8_openMany ⟨(Nat.le_of_ble_eq_true rfl), (Nat.le_of_ble_eq_true rfl)⟩ rfl rfl (Nat.le_of_ble_eq_true rfl) ⟨Nat.zero_le _, Nat.zero_le _⟩ [0] (bsr := []) rfl rfl (q0 := 0) rfl rfl dX8_save_24 ?_
  rintro _ _ ⟨r_5, rfl, rfl, hw⟩
  refine gw_sel [0] (bs' := [bMd G hMd qMd v_4]) rfl rfl ?_
  change GW C 0 0 _ 27 _ [.int r_5]
  exact gw_iret F E rfl rfl (Nat.le_of_ble_eq_true rfl) (Nat.le_of_ble_eq_true rfl) dX8_save_27 ⟨_, _, rfl, rfl, hw⟩
def wp_X8_save (Q : Int32 → OV → Prop) (vMd : OV) : Prop := wp_X8_save_0 Q vMd
theorem ct_X8_save {X : List Cond} {l : Launch} {D : va_G} {G : Nat → ClassId} {hMd : Nat} {qMd : Nat → Nat} {Q : Int32 → OV → Prop} {vMd : OV} (hw : wp_X8_save Q vMd) : CM X l yX8_save wsX8_save rm_X8_save D G [.ref hMd] [bMd G hMd qMd vMd] 0 0 (po_X8_save G hMd qMd Q) :=
  CM.of pn_RX8 rfl rfl (Nat.le_of_ble_eq_true rfl) rfl (fun C F E => lb_X8_save_0 F E hw)
-- X8_restore
abbrev rm_X8_restore : Room := { frames := 3, cells := 0, slots := 0, locals := 104 }
def po_X8_restore (G : Nat → ClassId) (hMd : Nat) (qMd : Nat → Nat) (Q : Int32 → OV → Prop) : Option Value → List va_W → Prop := fun o bs => ∃ (r : Int32) (vMd : OV), o = some (.int r) ∧ bs = [bMd G hMd qMd vMd] ∧ Q r vMd
theorem hd_X8_restore : yX8_restore.cls = RX8 ∧ yX8_restore.cls ≠ "java/lang/invoke/MethodHandle" ∧ yX8_restore.cls ≠ "java/lang/invoke/VarHandle" ∧ (parseMethodDescriptor yX8_restore.desc).map (fun d => d.parameters.length) = some 0 := by decide +kernel
theorem in_X8_restore_RX8 : ∀ w ∈ wsX80, w ∈ wsX8_restore := fun w h => List.mem_cons_of_mem _ (List.mem_append_left _ (List.mem_append_right _ h))
theorem lk_X8_restore_227 : Cond.fieldLink RX8 227 "KeyWavesModel" "isSaved" "Z" ∈ wsX8_restore := List.mem_cons_of_mem _ (List.mem_append_left _ (List.mem_append_left _ (List.mem_of_getElem? (i := 0) rfl)))
theorem lk_X8_restore_16 : Cond.fieldLink RX8 16 "KeyWavesModel" "saved" "[I" ∈ wsX8_restore := List.mem_cons_of_mem _ (List.mem_append_left _ (List.mem_append_left _ (List.mem_of_getElem? (i := 1) rfl)))
theorem lk_X8_restore_7 : Cond.fieldLink RX8 7 "KeyWavesModel" "g" "[I" ∈ wsX8_restore := List.mem_cons_of_mem _ (List.mem_append_left _ (List.mem_append_left _ (List.mem_of_getElem? (i := 2) rfl)))
theorem lk_X8_restore_65 : Cond.fieldLink RX8 65 "KeyWavesModel" "changes" "I" ∈ wsX8_restore := List.mem_cons_of_mem _ (List.mem_append_left _ (List.mem_append_left _ (List.mem_of_getElem? (i := 3) rfl)))
def wp_X8_restore_13 (Q : Int32 → OV → Prop) (s1 : Int32) (vMd : OV) : Prop :=
  (wp_X8_fails (fun (r_2 : Int32) (v_3 : OV) => ((r_2 = 0 → (wp_X8_copies (fun (v_5 : (Nat → Int32)) => (∀ v_6 : OV, v_6 = sF v_3 0 v_5 → (∀ v_7 : OV, v_7 = sI v_6 6 (0 : Int32) → (wp_X8_openMany (fun (r_8 : Int32) => (Q r_8 v_7)) v_7)))) 177 177 (0 : Int32) (0 : Int32) (v_3.1 2) (v_3.1 0))) ∧ (¬ (r_2 = 0) → (Q (0 : Int32) v_3)))) s1 vMd)
set_option maxRecDepth 20000 in
theorem lb_X8_restore_13 {X : List Cond} {l : Launch} {D : va_G} {G : Nat → ClassId} {C : Cx} {bs0 : List va_W} {hMd : Nat} {qMd : Nat → Nat} {Q : Int32 → OV → Prop} (F : GF C X cX8_restore wsX8_restore RX8 rm_X8_restore 1 (some .int) D G l) (E : GE C bs0 0 0 (po_X8_restore G hMd qMd Q)) {s1 : Int32} {vMd : OV} (hw : wp_X8_restore_13 Q s1 vMd) : GW C 0 0 [bMd G hMd qMd vMd] 13 [(0, .ref hMd)] [.int s1, .ref hMd] := by
  unfold wp_X8_restore_13 at hw
  refine gw_callV F (ct_X8_fails hw) 1 gX8_restore_X8_fails rfl rfl rfl hd_X8_fails ⟨(Nat.le_of_ble_eq_true rfl), (Nat.le_of_ble_eq_true rfl)⟩ rfl rfl (Nat.le_of_ble_eq_true rfl) ⟨Nat.zero_le _, Nat.zero_le _⟩ [0] (bsr := []) rfl rfl (q0 := 0) rfl rfl dX8_restore_13 ?_
  rintro _ _ ⟨r_2, v_3, rfl, rfl, hw⟩
  refine gw_sel [0] (bs' := [bMd G hMd qMd v_3]) rfl rfl ?_
  change GW C 0 0 _ 16 _ [.int r_2]
  refine gw_if_eq (tgt := 21) F dX8_restore_16 (by decide) (fun c_4 => ?_) (fun c_4 => ?_)
  · have hw := hw.1 c_4
    refine gw_aload_n F dX8_restore_21 0 rfl ?_
    refine gw_get F in_X8_restore_RX8 0 rfl rfl 2 (by decide) lk_X8_restore_16 rfl dX8_restore_22 ?_
    refine gw_iconst (v := (0 : Int32)) F dX8_restore_25 ic_iconst_0 ?_
    refine gw_aload_n F dX8_restore_26 0 rfl ?_
    refine gw_get F in_X8_restore_RX8 0 rfl rfl 0 (by decide) lk_X8_restore_7 rfl dX8_restore_27 ?_
    refine gw_iconst (v := (0 : Int32)) F dX8_restore_30 ic_iconst_0 ?_
    refine gw_flat (bs' := mdB G hMd qMd v_3) rfl ?_
    refine gw_callS F (ct_X8_copies hw) 4 gX8_restore_X8_copies rfl rfl rfl hd_X8_copies ⟨(Nat.le_of_ble_eq_true rfl), (Nat.le_of_ble_eq_true rfl)⟩ rfl rfl (Nat.le_of_ble_eq_true rfl) ⟨Nat.zero_le _, Nat.zero_le _⟩ [0, 2, 4, 5, 6, 7, 8, 9, 10, 3, 1] (bsr := ((mdB G hMd qMd v_3).eraseIdx 3 |>.eraseIdx 1)) rfl rfl dX8_restore_31 ?_
    rintro _ _ ⟨v_5, rfl, rfl, hw⟩
    obtain ⟨v_6, e_v_6⟩ : ∃ z : OV, z = sF v_3 0 v_5 := ⟨_, rfl⟩
    have hw := hw v_6 e_v_6
    refine gw_sel [0, 10, 1, 9, 2, 3, 4, 5, 6, 7, 8] (bs' := mdB G hMd qMd v_6) (by rw [e_v_6]; rfl) rfl ?_
    refine gw_flat (bs' := [bMd G hMd qMd v_6]) rfl ?_
    change GW C 0 0 _ 34 _ []
    refine gw_aload_n F dX8_restore_34 0 rfl ?_
    refine gw_iconst (v := (0 : Int32)) F dX8_restore_35 ic_iconst_0 ?_
    obtain ⟨v_7, e_v_7⟩ : ∃ z : OV, z = sI v_6 6 (0 : Int32) := ⟨_, rfl⟩
    have hw := hw v_7 e_v_7
    refine gw_put (bs' := [bMd G hMd qMd v_7]) F in_X8_restore_RX8 tyX8 tyX8_ok nmX8 0 rfl rfl 6 (by decide) lk_X8_restore_65 rfl rfl rfl (Nat.le_of_ble_eq_true rfl) dX8_restore_36 (by rw [e_v_7]; rfl) ?_
    refine gw_aload_n F dX8_restore_39 0 rfl ?_
    refine gw_callV F (ct_X8_openMany hw) 0 gX8_restore_X8_openMany rfl rfl rfl hd_X8_openMany ⟨(Nat.le_of_ble_eq_true rfl), (Nat.le_of_ble_eq_true rfl)⟩ rfl rfl (Nat.le_of_ble_eq_true rfl) ⟨Nat.zero_le _, Nat.zero_le _⟩ [0] (bsr := []) rfl rfl (q0 := 0) rfl rfl dX8_restore_40 ?_
    rintro _ _ ⟨r_8, rfl, rfl, hw⟩
    refine gw_sel [0] (bs' := [bMd G hMd qMd v_7]) rfl rfl ?_
    change GW C 0 0 _ 43 _ [.int r_8]
    exact gw_iret F E rfl rfl (Nat.le_of_ble_eq_true rfl) (Nat.le_of_ble_eq_true rfl) dX8_restore_43 ⟨_, _, rfl, rfl, hw⟩
  · have hw := hw.2 c_4
    refine gw_iconst (v := (0 : Int32)) F dX8_restore_19 ic_iconst_0 ?_
    exact gw_iret F E rfl rfl (Nat.le_of_ble_eq_true rfl) (Nat.le_of_ble_eq_true rfl) dX8_restore_20 ⟨_, _, rfl, rfl, hw⟩
def wp_X8_restore_0 (Q : Int32 → OV → Prop) (vMd : OV) : Prop :=
  (((vMd.2 5) = 0 → (wp_X8_restore_13 Q (1 : Int32) vMd)) ∧ (¬ ((vMd.2 5) = 0) → (wp_X8_restore_13 Q (0 : Int32) vMd)))
set_option maxRecDepth 20000 in
theorem lb_X8_restore_0 {X : List Cond} {l : Launch} {D : va_G} {G : Nat → ClassId} {C : Cx} {bs0 : List va_W} {hMd : Nat} {qMd : Nat → Nat} {Q : Int32 → OV → Prop} (F : GF C X cX8_restore wsX8_restore RX8 rm_X8_restore 1 (some .int) D G l) (E : GE C bs0 0 0 (po_X8_restore G hMd qMd Q)) {vMd : OV} (hw : wp_X8_restore_0 Q vMd) : GW C 0 0 [bMd G hMd qMd vMd] 0 [(0, .ref hMd)] [] := by
  unfold wp_X8_restore_0 at hw
  refine gw_aload_n F dX8_restore_0 0 rfl ?_
  refine gw_aload_n F dX8_restore_1 0 rfl ?_
  refine gw_get F in_X8_restore_RX8 0 rfl rfl 5 (by decide) lk_X8_restore_227 rfl dX8_restore_2 ?_
  refine gw_if_eq (tgt := 12) F dX8_restore_5 (by decide) (fun c_1 => ?_) (fun c_1 => ?_)
  · have hw := hw.1 c_1
    refine gw_iconst (v := (1 : Int32)) F dX8_restore_12 ic_iconst_1 ?_
    exact lb_X8_restore_13 F E hw
  · have hw := hw.2 c_1
    refine gw_iconst (v := (0 : Int32)) F dX8_restore_8 ic_iconst_0 ?_
    refine gw_goto (tgt := 13) F dX8_restore_9 (by decide) ?_
    exact lb_X8_restore_13 F E hw
def wp_X8_restore (Q : Int32 → OV → Prop) (vMd : OV) : Prop := wp_X8_restore_0 Q vMd
theorem ct_X8_restore {X : List Cond} {l : Launch} {D : va_G} {G : Nat → ClassId} {hMd : Nat} {qMd : Nat → Nat} {Q : Int32 → OV → Prop} {vMd : OV} (hw : wp_X8_restore Q vMd) : CM X l yX8_restore wsX8_restore rm_X8_restore D G [.ref hMd] [bMd G hMd qMd vMd] 0 0 (po_X8_restore G hMd qMd Q) :=
  CM.of pn_RX8 rfl rfl (Nat.le_of_ble_eq_true rfl) rfl (fun C F E => lb_X8_restore_0 F E hw)
