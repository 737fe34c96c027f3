/-! THE CLAIM OUT OF ONE WALK OF THE LAW'S BODY. Your part is whole_start (and what it stands on); all else here is the same for every law, but numbers. -/
def R_law : String := "KeyWavesLaw"
def lw_P (b : Addr) (xs : List Int32) (args : Array Value) (s : State) : Prop := args = #[.ref b] ∧ s.IntsAt b xs ∧ xs.length ≤ 2048 ∧ (Jvm.Cond.and given_1 narrow_1).before args s = true
/-- what a walk over the start with the record d0 says of its end, said of the start itself -/
theorem lw_closed {s t : State} {o : Outcome} {d0 : Drawn} {L : List Loc} {k n : Nat} (hd0 : s.drawn.sameBut d0 lw_cs) (hv : ∃ v, o = .returned v) (hW : (s.setDrawn d0).WarmedH t.vm) (hs : (s.setDrawn d0).sameButNew ({ t with vm := s.vm } : State) L k n) : State.butDraws s t lw_cs (fun t1 => Framed s o t1 L k n) := by
  have h2 : t.drawn = d0 := congrArg State.drawn hs.1
  refine ⟨⟨hv, hW, State.sameButNew.setDrawn hs s.drawn⟩, ?_, by decide⟩
  rw [h2]
  exact hd0
def lw_Q (_ : Array Value) (s : State) (o : Outcome) (t : State) : Prop := o = .returned (some (.int 1)) ∧ State.butDraws s t lw_cs (fun t1 => Framed s o t1 [] 603072 7207018)
def lw_Z (below : List Frame) (a : Array Value) (s : State) : State → Prop := fun t => ∃ o, t.status = .running ∧ Ended t below o ∧ lw_Q a s o t
/-- the law's own end, with 1 on the stack, nothing written that was there before, its room as the claim has it; d0: the record of draws at this point (at the entry s.drawn: begin with 'refine W.base ?_' and 'have hd0 := Drawn.sameBut.refl s.drawn lw_cs') -/
theorem lw_ret {p : Program} {l : Launch} {e : Env} {s : State} {m : MethodId} {below : List Frame} {meth : Method} {c : Code} {b : Nat} {d0 : Drawn} (hd0 : s.drawn.sameBut d0 lw_cs) (hx : p.tables.exec = Jvm.exec) (hb : c.code = code) (hr : meth.sig.returnType = ret) (hlocks : meth.locks = false) {pc : Nat} {H : Heap} {ls : Array Slot} (hdg : decode code pc = .ok (.ireturn, 1)) : W p l e room_1 (s.setDrawn d0) m #[Value.ref b] below meth c H [] 603072 7207018 (lw_Z below #[Value.ref b] s) (F0 m pc ls [.int 1]) := by
  intro T hT X
  obtain ⟨fs, hret, hrun, hended, hW, hframe⟩ := X.leave (v := some (.int 1)) (hlocks := hlocks) (fun h => by rw [hr] at h; cases h)
  have hmeth' : T.vm.method? m = some meth := X.method'
  refine ⟨T.setFrames fs, ?_, .returned (some (.int 1)), hrun, hended, rfl, lw_closed hd0 ⟨_, rfl⟩ hW hframe⟩
  jvm_step X.here [X.here.top, hx, hb, hdg, hmeth', hr, ret, narrow_b1]
  (try refine ⟨rfl, ?_⟩); (try refine ⟨rfl, ?_⟩)
  first | (intro acts; rw [hret _ acts rfl rfl rfl]) | rw [hret _ _ rfl rfl rfl]
  exact Steps.refl _
/-- what holds at the law's entry: the machine, the code, the tables' words (any of lw_tbl by 'hts w (by decide +kernel)'), the script of L ints xs at the cell b, what the Statement gives of the start (any of its parts by flat_of_before) -/
def lw_At (p : Program) (s : State) (m : MethodId) (meth : Method) (c : Code) (b L : Nat) (xs : Nat → Int32) : Prop :=
  p.tables.exec = Jvm.exec ∧ c.code = code ∧ meth.sig.returnType = ret ∧ c.maxLocals = 9 ∧ s.vm.findClass R_law = some m.cls ∧ (∀ w ∈ lw_tbl, w.before #[Value.ref b] s = true) ∧ va_X b L xs s s.heap ∧ b < s.heap.size ∧ meth.locks = false ∧ (Jvm.Cond.and given_1 narrow_1).before #[Value.ref b] s = true

theorem st_arr {s : State} {A : Array Value} {ty : FieldType} (h : (Cond.arrayClass ty).before A s = true) : ∃ cA : ClassId, ArrOfT s cA ty ∧ s.vm.findClass ("[" ++ ty.toString) = some cA := by
  obtain ⟨cA, kA, comp, h1, h2, h3⟩ := Cond.arrayClass_spec h
  exact ⟨cA, fun n z => ⟨fun k h => (by cases h), kA, h2, comp, h3⟩, h1⟩
theorem st_arrq {s : State} {A : Array Value} {C : String} (h : (Cond.arrayOver (.object C)).before A s = true) : ∃ cA : ClassId, ArrOfT s cA (.object C) ∧ va_RA s cA (.object C) := by
  obtain ⟨comp, cA, kA, h1, h2, h3, h4, h5⟩ := Cond.arrayOver_spec h
  exact ⟨cA, fun n z => ⟨fun k h => (by cases h), kA, h3, comp, h4⟩, kA, comp, h3, h4, h1, h5⟩
theorem st_not {C T : String} {U : State} (h : va_Nc C T U) : va_Nw (.not (.castable C T)) U := by
  obtain ⟨c, t, h1, h2, h3⟩ := h
  simp [va_Nw, Cond.before, Cond.holds, Cond.value, h1, h2, h3]
theorem st_word {s : State} {A : Array Value} {w : Cond} (hw : (w.onTables && w.keeps) = true) (h : w.before A s = true) : va_St w s := fun U hW => word_at hW (Or.inl hw) h
theorem st_nest {s : State} {A : Array Value} {a : String} {i : Nat} {x : MethodName} {h : String} (h0 : (Cond.methodLinkNest a i x h).before A s = true) : va_St (.methodLinkNest a i x h) s := fun U hW => va_Nw.warmM hW (va_Nw.of rfl h0)
theorem st_str {s : State} {A : Array Value} {own tx : String} {i : Nat} (h0 : (Cond.stringRef own i tx).before A s = true) (hc : ∃ c, s.vm.findClass own = some c) : ∃ sa : Nat, vk_R own i tx sa s := by
  obtain ⟨cur, hcur⟩ := hc
  obtain ⟨k, cf, i9, a, h1, h2, h3, h4, h5, h6⟩ := Cond.stringRef_spec (args := A) hcur h0
  exact ⟨a, vk_R.of h0 h6⟩

theorem mi_0 : Cond.instantiable RX0 7 ∈ lw_tbl := List.mem_of_getElem? (i := 221) (by decide +kernel)
theorem mi_1 : Cond.instantiable RX1 2 ∈ lw_tbl := List.mem_of_getElem? (i := 156) (by decide +kernel)
theorem mi_2 : Cond.instantiable RX2 2 ∈ lw_tbl := List.mem_of_getElem? (i := 255) (by decide +kernel)
theorem mi_3 : Cond.instantiable RX3 14 ∈ lw_tbl := List.mem_of_getElem? (i := 92) (by decide +kernel)
theorem mi_4 : Cond.instantiable RX4 2 ∈ lw_tbl := List.mem_of_getElem? (i := 190) (by decide +kernel)
theorem mi_5 : Cond.instantiable RX5 3 ∈ lw_tbl := List.mem_of_getElem? (i := 203) (by decide +kernel)
theorem mi_6 : Cond.instantiable RX6 3 ∈ lw_tbl := List.mem_of_getElem? (i := 173) (by decide +kernel)
theorem mi_7 : Cond.instantiable RX7 12 ∈ lw_tbl := List.mem_of_getElem? (i := 84) (by decide +kernel)
theorem mi_8 : Cond.instantiable RX8 24 ∈ lw_tbl := List.mem_of_getElem? (i := 1099) (by decide +kernel)
theorem ma_int : Cond.arrayClass .int ∈ lw_tbl := List.mem_of_getElem? (i := 154) (by decide +kernel)
theorem ma_boolean : Cond.arrayClass .boolean ∈ lw_tbl := List.mem_of_getElem? (i := 188) (by decide +kernel)
theorem ma_char : Cond.arrayClass .char ∈ lw_tbl := List.mem_of_getElem? (i := 253) (by decide +kernel)
theorem ma_long : Cond.arrayClass .long ∈ lw_tbl := List.mem_of_getElem? (i := 1474) (by decide +kernel)
theorem ma_double : Cond.arrayClass .double ∈ lw_tbl := List.mem_of_getElem? (i := 1475) (by decide +kernel)
theorem ma_q : Cond.arrayOver (.object "KeyWaves$Lodge") ∈ lw_tbl := List.mem_of_getElem? (i := 162) (by decide +kernel)
theorem mn_0 : Cond.methodLinkNest RX7 9 yX3_init RX7 ∈ lw_tbl := List.mem_of_getElem? (i := 93) (by decide +kernel)
theorem mn_1 : Cond.methodLinkNest RX1 21 yX3_init RX7 ∈ lw_tbl := List.mem_of_getElem? (i := 163) (by decide +kernel)
theorem mn_2 : Cond.methodLinkNest RX7 34 yX6_init RX7 ∈ lw_tbl := List.mem_of_getElem? (i := 174) (by decide +kernel)
theorem mn_3 : Cond.methodLinkNest RX7 41 yX4_init RX7 ∈ lw_tbl := List.mem_of_getElem? (i := 191) (by decide +kernel)
theorem mn_4 : Cond.methodLinkNest RX7 48 yX5_init RX7 ∈ lw_tbl := List.mem_of_getElem? (i := 204) (by decide +kernel)
theorem mn_5 : Cond.methodLinkNest RX7 55 yX0_init RX7 ∈ lw_tbl := List.mem_of_getElem? (i := 222) (by decide +kernel)
theorem mn_6 : Cond.methodLinkNest RX7 62 yX2_init RX7 ∈ lw_tbl := List.mem_of_getElem? (i := 256) (by decide +kernel)
theorem mn_7 : Cond.methodLinkNest RX3 92 yX7_isSet RX7 ∈ lw_tbl := List.mem_of_getElem? (i := 478) (by decide +kernel)
theorem mn_8 : Cond.methodLinkNest RX3 95 yX7_isPorter RX7 ∈ lw_tbl := List.mem_of_getElem? (i := 481) (by decide +kernel)
theorem ms_0 : Cond.stringRef RX7 342 "it is refused" ∈ lw_tbl := List.mem_of_getElem? (i := 537) (by decide +kernel)
theorem ms_1 : Cond.stringRef RX7 354 "there is no such key" ∈ lw_tbl := List.mem_of_getElem? (i := 727) (by decide +kernel)
theorem ms_2 : Cond.stringRef RX7 137 "what is not from 0 to 5" ∈ lw_tbl := List.mem_of_getElem? (i := 758) (by decide +kernel)
theorem ms_3 : Cond.stringRef RX7 359 "there is no such lock" ∈ lw_tbl := List.mem_of_getElem? (i := 777) (by decide +kernel)
theorem ms_4 : Cond.stringRef RX7 157 "what is not from 0 to 3" ∈ lw_tbl := List.mem_of_getElem? (i := 788) (by decide +kernel)
theorem ms_5 : Cond.stringRef RX7 174 "there is no such place" ∈ lw_tbl := List.mem_of_getElem? (i := 845) (by decide +kernel)
theorem ms_6 : Cond.stringRef RX7 181 "there are no ways" ∈ lw_tbl := List.mem_of_getElem? (i := 863) (by decide +kernel)
theorem ms_7 : Cond.stringRef RX7 206 "there is no such porter" ∈ lw_tbl := List.mem_of_getElem? (i := 886) (by decide +kernel)
theorem ms_8 : Cond.stringRef RX7 217 "what is not from 0 to 2" ∈ lw_tbl := List.mem_of_getElem? (i := 901) (by decide +kernel)
theorem ms_9 : Cond.stringRef RX7 228 "the buffer is full" ∈ lw_tbl := List.mem_of_getElem? (i := 943) (by decide +kernel)
theorem ms_10 : Cond.stringRef RX7 240 "the text has a fault" ∈ lw_tbl := List.mem_of_getElem? (i := 994) (by decide +kernel)
theorem ms_11 : Cond.stringRef RX7 264 "nothing was refused" ∈ lw_tbl := List.mem_of_getElem? (i := 1007) (by decide +kernel)
theorem ms_12 : Cond.stringRef RX7 285 "there is no such index" ∈ lw_tbl := List.mem_of_getElem? (i := 1019) (by decide +kernel)
theorem ms_13 : Cond.stringRef RX7 297 "there are no keys" ∈ lw_tbl := List.mem_of_getElem? (i := 1047) (by decide +kernel)
theorem ms_14 : Cond.stringRef RX7 306 "there are no locks" ∈ lw_tbl := List.mem_of_getElem? (i := 1060) (by decide +kernel)
theorem ms_15 : Cond.stringRef RX7 327 "what is not from 0 to 11" ∈ lw_tbl := List.mem_of_getElem? (i := 1073) (by decide +kernel)
theorem ms_16 : Cond.stringRef RX7 333 "there is nothing to undo" ∈ lw_tbl := List.mem_of_getElem? (i := 1085) (by decide +kernel)
theorem ms_17 : Cond.stringRef RX7 335 "there is no snapshot" ∈ lw_tbl := List.mem_of_getElem? (i := 1093) (by decide +kernel)
theorem mx_0 : Cond.castable "java/lang/UnsupportedOperationException" "java/lang/UnsupportedOperationException" ∈ lw_tbl := List.mem_of_getElem? (i := 494) (by decide +kernel)
theorem mx_1 : Cond.castable "java/lang/IllegalArgumentException" "java/lang/IllegalArgumentException" ∈ lw_tbl := List.mem_of_getElem? (i := 751) (by decide +kernel)
theorem mx_2 : Cond.castable "java/lang/IndexOutOfBoundsException" "java/lang/IndexOutOfBoundsException" ∈ lw_tbl := List.mem_of_getElem? (i := 720) (by decide +kernel)
theorem mx_3 : Cond.castable "java/lang/IllegalStateException" "java/lang/IllegalStateException" ∈ lw_tbl := List.mem_of_getElem? (i := 936) (by decide +kernel)
theorem mx_4 : Cond.castable "java/lang/ArithmeticException" "java/lang/ArithmeticException" ∈ lw_tbl := List.mem_of_getElem? (i := 1040) (by decide +kernel)
theorem mx_5 : Cond.castable nse_N nse_N ∈ lw_tbl := List.mem_of_getElem? (i := 838) (by decide +kernel)
theorem mx_6 : Cond.declares (Bundle.initS "java/lang/RuntimeException") ∈ lw_tbl := List.mem_of_getElem? (i := 496) (by decide +kernel)
theorem mx_7 : Cond.declares (Bundle.initS "java/lang/Exception") ∈ lw_tbl := List.mem_of_getElem? (i := 498) (by decide +kernel)
theorem mx_8 : Cond.declares (Bundle.initS Bundle.tN) ∈ lw_tbl := List.mem_of_getElem? (i := 500) (by decide +kernel)
theorem ml_0 : Cond.laysStatic Bundle.tN "UNASSIGNED_STACK" Bundle.steD ∈ lw_tbl := List.mem_of_getElem? (i := 519) (by decide +kernel)
theorem ml_1 : Cond.laysStatic Bundle.tN "SUPPRESSED_SENTINEL" Bundle.listD ∈ lw_tbl := List.mem_of_getElem? (i := 521) (by decide +kernel)
theorem ml_2 : Cond.initialized Bundle.tN ∈ lw_tbl := List.mem_of_getElem? (i := 70) (by decide +kernel)
theorem st_K {s : State} {A : Array Value} (hts : ∀ w ∈ lw_tbl, w.before A s = true) : ∃ (D : va_G) (G : Nat → ClassId), va_K D myCl (tyG G) s := by
  obtain ⟨c0, i0, k0⟩ := u_known (C := RX0) (T := TX0) (N := 7) (n := 7) hts inX0 (hts _ mi_0)
  obtain ⟨c1, i1, k1⟩ := u_known (C := RX1) (T := TX1) (N := 2) (n := 2) hts inX1 (hts _ mi_1)
  obtain ⟨c2, i2, k2⟩ := u_known (C := RX2) (T := TX2) (N := 2) (n := 2) hts inX2 (hts _ mi_2)
  obtain ⟨c3, i3, k3⟩ := u_known (C := RX3) (T := TX3) (N := 14) (n := 14) hts inX3 (hts _ mi_3)
  obtain ⟨c4, i4, k4⟩ := u_known (C := RX4) (T := TX4) (N := 2) (n := 2) hts inX4 (hts _ mi_4)
  obtain ⟨c5, i5, k5⟩ := u_known (C := RX5) (T := TX5) (N := 3) (n := 3) hts inX5 (hts _ mi_5)
  obtain ⟨c6, i6, k6⟩ := u_known (C := RX6) (T := TX6) (N := 3) (n := 3) hts inX6 (hts _ mi_6)
  obtain ⟨c7, i7, k7⟩ := u_known (C := RX7) (T := TX7) (N := 12) (n := 12) hts inX7 (hts _ mi_7)
  obtain ⟨c8, i8, k8⟩ := u_known (C := RX8) (T := TX8) (N := 24) (n := 24) hts inX8 (hts _ mi_8)
  obtain ⟨g0, a0, r0⟩ := st_arr (hts _ ma_int)
  obtain ⟨g1, a1, r1⟩ := st_arr (hts _ ma_boolean)
  obtain ⟨g2, a2, r2⟩ := st_arr (hts _ ma_char)
  obtain ⟨g3, a3, r3⟩ := st_arr (hts _ ma_long)
  obtain ⟨g4, a4, r4⟩ := st_arr (hts _ ma_double)
  obtain ⟨g5, a5, r5⟩ := st_arrq (hts _ ma_q)
  refine ⟨(fun k => match k with | 0 => c0 | 1 => c1 | 2 => c2 | 3 => c3 | 4 => c4 | 5 => c5 | 6 => c6 | 7 => c7 | _ => c8, fun k => match k with | 0 => i0 | 1 => i1 | 2 => i2 | 3 => i3 | 4 => i4 | 5 => i5 | 6 => i6 | 7 => i7 | _ => i8), fun k => match k with | 0 => g0 | 1 => g1 | 2 => g2 | 3 => g3 | 4 => g4 | _ => g5, ?_, ?_⟩
  · intro k q hq
    match k, hq with
    | 0, hq => cases hq; exact k0
    | 1, hq => cases hq; exact k1
    | 2, hq => cases hq; exact k2
    | 3, hq => cases hq; exact k3
    | 4, hq => cases hq; exact k4
    | 5, hq => cases hq; exact k5
    | 6, hq => cases hq; exact k6
    | 7, hq => cases hq; exact k7
    | 8, hq => cases hq; exact k8
    | k + 9, hq => exact nomatch hq
  · intro k q hq
    match k, hq with
    | 0, hq => cases hq; exact ⟨a0, r0⟩
    | 1, hq => cases hq; exact ⟨a1, r1⟩
    | 2, hq => cases hq; exact ⟨a2, r2⟩
    | 3, hq => cases hq; exact ⟨a3, r3⟩
    | 4, hq => cases hq; exact ⟨a4, r4⟩
    | 5, hq => cases hq; exact ⟨a5, r5⟩
    | k + 6, hq => exact nomatch hq
theorem st_SF {s : State} {b : Nat} (hts : ∀ w ∈ lw_tbl, w.before #[Value.ref b] s = true) (hgv : (Jvm.Cond.and given_1 narrow_1).before #[Value.ref b] s = true) : SF XL (va_A [] s.heap.size) s := by
  have hs := flat_of_before _ hgv
  have hcl : ∃ c, s.vm.findClass RX7 = some c := by
    obtain ⟨cC, kC, hfc, -⟩ := Cond.instantiable_spec (hts _ mi_7)
    exact ⟨cC, hfc⟩
  have hA : ∀ a : Nat, a < s.heap.size → ¬ va_A [] s.heap.size a := fun a ha h => by
    rcases wm_A.mp h with ⟨e, he⟩ | h
    · exact absurd he List.not_mem_nil
    · omega
  refine ⟨?_, ?_, ?_, vx_Zqof (hts _ ml_0) (hts _ ml_2) (hs _ (by decide +kernel)) hA, vx_Zqof (hts _ ml_1) (hts _ ml_2) (hs _ (by decide +kernel)) hA⟩
  · intro w hw
    simp only [nestW, List.mem_cons, List.not_mem_nil, or_false] at hw
    rcases hw with rfl | rfl | rfl | rfl | rfl | rfl | rfl | rfl | rfl
    · exact st_nest (hts _ mn_0)
    · exact st_nest (hts _ mn_1)
    · exact st_nest (hts _ mn_2)
    · exact st_nest (hts _ mn_3)
    · exact st_nest (hts _ mn_4)
    · exact st_nest (hts _ mn_5)
    · exact st_nest (hts _ mn_6)
    · exact st_nest (hts _ mn_7)
    · exact st_nest (hts _ mn_8)
  · intro w hw
    rcases List.mem_append.mp hw with hw | hw
    · rcases List.mem_append.mp hw with hw | hw
      · simp only [XW0, List.mem_cons, List.not_mem_nil, or_false] at hw
        rcases hw with rfl | rfl | rfl | rfl | rfl | rfl | rfl | rfl | rfl
        · exact fun U hW => va_Nw.warmC hW (va_Nw.of rfl (hts _ mx_0))
        · exact fun U hW => va_Nw.warmC hW (va_Nw.of rfl (hts _ mx_1))
        · exact fun U hW => va_Nw.warmC hW (va_Nw.of rfl (hts _ mx_2))
        · exact fun U hW => va_Nw.warmC hW (va_Nw.of rfl (hts _ mx_3))
        · exact fun U hW => va_Nw.warmC hW (va_Nw.of rfl (hts _ mx_4))
        · exact fun U hW => va_Nw.warmC hW (va_Nw.of rfl (hts _ mx_5))
        · exact fun U hW => va_Nw.warmD hW (va_Nw.of rfl (hts _ mx_6))
        · exact fun U hW => va_Nw.warmD hW (va_Nw.of rfl (hts _ mx_7))
        · exact fun U hW => va_Nw.warmD hW (va_Nw.of rfl (hts _ mx_8))
      · cases List.mem_singleton.mp hw
        exact fun U hW => va_AO.moved hW.alike (va_AO.of (hts _ ma_q))
    · simp only [List.mem_cons, List.not_mem_nil, or_false] at hw
      rcases hw with rfl | rfl | rfl | rfl
      · exact fun U hW => st_not (va_Nc.moved hW.alike (va_Nc.of (hs _ (by decide +kernel))))
      · exact fun U hW => st_not (va_Nc.moved hW.alike (va_Nc.of (hs _ (by decide +kernel))))
      · exact fun U hW => st_not (va_Nc.moved hW.alike (va_Nc.of (hs _ (by decide +kernel))))
      · exact fun U hW => st_not (va_Nc.moved hW.alike (va_Nc.of (hs _ (by decide +kernel))))
  · intro q hq
    simp only [strK, List.mem_cons, List.not_mem_nil, or_false] at hq
    rcases hq with rfl | rfl | rfl | rfl | rfl | rfl | rfl | rfl | rfl | rfl | rfl | rfl | rfl | rfl | rfl | rfl | rfl | rfl
    · exact st_str (hts _ ms_0) hcl
    · exact st_str (hts _ ms_1) hcl
    · exact st_str (hts _ ms_2) hcl
    · exact st_str (hts _ ms_3) hcl
    · exact st_str (hts _ ms_4) hcl
    · exact st_str (hts _ ms_5) hcl
    · exact st_str (hts _ ms_6) hcl
    · exact st_str (hts _ ms_7) hcl
    · exact st_str (hts _ ms_8) hcl
    · exact st_str (hts _ ms_9) hcl
    · exact st_str (hts _ ms_10) hcl
    · exact st_str (hts _ ms_11) hcl
    · exact st_str (hts _ ms_12) hcl
    · exact st_str (hts _ ms_13) hcl
    · exact st_str (hts _ ms_14) hcl
    · exact st_str (hts _ ms_15) hcl
    · exact st_str (hts _ ms_16) hcl
    · exact st_str (hts _ ms_17) hcl
theorem mb_0 : Cond.classLink RL 8 RX7 ∈ lw_tbl := List.mem_of_getElem? (i := 83) (by decide +kernel)
theorem mb_1 : Cond.classLink RL 116 RX8 ∈ lw_tbl := List.mem_of_getElem? (i := 1098) (by decide +kernel)
theorem mb_2 : Cond.initialized RX7 ∈ lw_tbl := List.mem_of_getElem? (i := 60) (by decide +kernel)
theorem mb_3 : Cond.initialized RX8 ∈ lw_tbl := List.mem_of_getElem? (i := 68) (by decide +kernel)
theorem mb_4 : Cond.methodLink RL 115 yX7_init ∈ lw_tbl := List.mem_of_getElem? (i := 85) (by decide +kernel)
theorem mb_5 : Cond.methodLink RL 118 yX8_init ∈ lw_tbl := List.mem_of_getElem? (i := 1100) (by decide +kernel)
theorem mb_6 : Cond.instanceMethod yX7_init ∈ lw_tbl := List.mem_of_getElem? (i := 86) (by decide +kernel)
theorem mb_7 : Cond.instanceMethod yX8_init ∈ lw_tbl := List.mem_of_getElem? (i := 1101) (by decide +kernel)
/-- what the loop is to be shown for: the script, from the first objects on -/
def wp_law (L : Nat) (xs : Nat → Int32) : Prop := ∃ n : Nat, 200 + 2 * n ≤ 603000 ∧ 4000 + 12 * n ≤ 7206000 ∧ wp_L_law_28_loop L xs n (0 : Int32) v0KW v0Lg v0Lg v0Lg v0Lg v0Wv v0Pr v0Rf v0Tx v0Ln v0Hs v0Md (fun _ => 0) (fun _ => 0)
set_option maxRecDepth 20000 in
theorem st_begin {l : Launch} {D : va_G} {G : Nat → ClassId} {C : Cx} {bS L : Nat} {xs : Nat → Int32} (hl0 : l.stackTraces = false) (F : GF C XL cL_law lw_tbl RL room_1 9 (some .boolean) D G l) (E : GL C bS L xs) (hw : wp_law L xs) : GW C 0 0 [] 0 [(0, .ref bS)] [] := by
  obtain ⟨n, hn1, hn2, hw⟩ := hw
  refine gw_new (fs := [.null, .null, .null, .null, .null, .null, .null, .null, .null, .null, .int 0, .int 0]) F inX7 tyX7 tyX7_ok mb_0 mi_7 mb_2 (ci := 7) rfl dfX7 (by show _ ≤ 603072; omega) (by show _ ≤ 7207018; omega) dL_law_0 (fun h1 => ?_)
  change GW C 1 12 [[(h1, .inr (7, [.null, .null, .null, .null, .null, .null, .null, .null, .null, .null, .int 0, .int 0]))]] 3 _ _
  refine gw_dup F dL_law_3 rfl ?_
  refine gw_callI (F.mono XL_sub) ct_X7_init 0 gw_wsX7_init mb_2 mb_4 mb_6 rfl rfl rfl rfl hd_X7_init ⟨(Nat.le_of_ble_eq_true rfl), (Nat.le_of_ble_eq_true rfl)⟩ rfl rfl (Nat.le_of_ble_eq_true rfl) ⟨by show _ ≤ 603072; omega, by show _ ≤ 7207018; omega⟩ [0] (bsr := []) rfl rfl dL_law_4 ?_
  rintro _ _ ⟨rfl, qKW, qLg, qLg2, qLg3, qLg4, qWv, qPr, qRf, qTx, qLn, qHs, rfl⟩
  change GW C 122 1347 [bKW G h1 qKW v0KW, bLg G (qKW 0) qLg v0Lg, bLg G (qKW 1) qLg2 v0Lg, bLg G (qKW 2) qLg3 v0Lg, bLg G (qKW 3) qLg4 v0Lg, bWv G (qKW 5) qWv v0Wv, bPr G (qKW 6) qPr v0Pr, bRf G (qKW 7) qRf v0Rf, bTx G (qKW 8) qTx v0Tx, bLn G (qKW 9) qLn v0Ln, bHo G (qKW 4) qHs v0Hs, bRo G qHs v0Hs 0, bRo G qHs v0Hs 1, bRo G qHs v0Hs 2, bRo G qHs v0Hs 3, bRo G qHs v0Hs 4, bRo G qHs v0Hs 5, bRo G qHs v0Hs 6, bRo G qHs v0Hs 7] 7 _ [.ref h1]
  refine gw_astore_n (lv' := [(1, .ref h1), (0, .ref bS)]) F dL_law_7 (by decide) rfl ?_
  refine gw_new (fs := [.null, .null, .null, .null, .null, .int 0, .int 0, .int 0, .int 0, .int 0, .int 0, .int 0, .int 0, .null, .int 0, .int 0, .null, .int 0, .null, .null, .int 0, .int 0, .null, .int 0]) F inX8 tyX8 tyX8_ok mb_1 mi_8 mb_3 (ci := 8) rfl dfX8 (by show _ ≤ 603072; omega) (by show _ ≤ 7207018; omega) dL_law_8 (fun h2 => ?_)
  change GW C 123 1371 ([bKW G h1 qKW v0KW, bLg G (qKW 0) qLg v0Lg, bLg G (qKW 1) qLg2 v0Lg, bLg G (qKW 2) qLg3 v0Lg, bLg G (qKW 3) qLg4 v0Lg, bWv G (qKW 5) qWv v0Wv, bPr G (qKW 6) qPr v0Pr, bRf G (qKW 7) qRf v0Rf, bTx G (qKW 8) qTx v0Tx, bLn G (qKW 9) qLn v0Ln, bHo G (qKW 4) qHs v0Hs, bRo G qHs v0Hs 0, bRo G qHs v0Hs 1, bRo G qHs v0Hs 2, bRo G qHs v0Hs 3, bRo G qHs v0Hs 4, bRo G qHs v0Hs 5, bRo G qHs v0Hs 6, bRo G qHs v0Hs 7] ++ [[(h2, .inr (8, [.null, .null, .null, .null, .null, .int 0, .int 0, .int 0, .int 0, .int 0, .int 0, .int 0, .int 0, .null, .int 0, .int 0, .null, .int 0, .null, .null, .int 0, .int 0, .null, .int 0]))]]) 11 _ _
  refine gw_dup F dL_law_11 rfl ?_
  refine gw_callI F ct_X8_init 0 gw_wsX8_init mb_3 mb_5 mb_7 rfl rfl rfl rfl hd_X8_init ⟨(Nat.le_of_ble_eq_true rfl), (Nat.le_of_ble_eq_true rfl)⟩ rfl rfl (Nat.le_of_ble_eq_true rfl) ⟨by show _ ≤ 603072; omega, by show _ ≤ 7207018; omega⟩ [0, 1, 2, 3, 4, 5, 6, 7, 8, 9, 10, 11, 12, 13, 14, 15, 16, 17, 18, 19] (bsr := [bKW G h1 qKW v0KW, bLg G (qKW 0) qLg v0Lg, bLg G (qKW 1) qLg2 v0Lg, bLg G (qKW 2) qLg3 v0Lg, bLg G (qKW 3) qLg4 v0Lg, bWv G (qKW 5) qWv v0Wv, bPr G (qKW 6) qPr v0Pr, bRf G (qKW 7) qRf v0Rf, bTx G (qKW 8) qTx v0Tx, bLn G (qKW 9) qLn v0Ln, bHo G (qKW 4) qHs v0Hs, bRo G qHs v0Hs 0, bRo G qHs v0Hs 1, bRo G qHs v0Hs 2, bRo G qHs v0Hs 3, bRo G qHs v0Hs 4, bRo G qHs v0Hs 5, bRo G qHs v0Hs 6, bRo G qHs v0Hs 7]) rfl rfl dL_law_12 ?_
  rintro _ _ ⟨rfl, qMd, rfl⟩
  change GW C 133 3789 ([bKW G h1 qKW v0KW, bLg G (qKW 0) qLg v0Lg, bLg G (qKW 1) qLg2 v0Lg, bLg G (qKW 2) qLg3 v0Lg, bLg G (qKW 3) qLg4 v0Lg, bWv G (qKW 5) qWv v0Wv, bPr G (qKW 6) qPr v0Pr, bRf G (qKW 7) qRf v0Rf, bTx G (qKW 8) qTx v0Tx, bLn G (qKW 9) qLn v0Ln, bHo G (qKW 4) qHs v0Hs, bRo G qHs v0Hs 0, bRo G qHs v0Hs 1, bRo G qHs v0Hs 2, bRo G qHs v0Hs 3, bRo G qHs v0Hs 4, bRo G qHs v0Hs 5, bRo G qHs v0Hs 6, bRo G qHs v0Hs 7] ++ [bMd G h2 qMd v0Md]) 15 _ [.ref h2]
  refine gw_astore_n (lv' := [(2, .ref h2), (1, .ref h1), (0, .ref bS)]) F dL_law_15 (by decide) rfl ?_
  refine gw_iconst (v := (1 : Int32)) F dL_law_16 ic_iconst_1 ?_
  refine gw_newa (atype := .long) (ty := .long) (a0 := (1, .inr (.inl (fun _ => 0)))) (N' := 1) F ma_long rfl 3 (fun _ => rfl) (fun _ => rfl) (by decide) (by decide) (Nat.le_of_ble_eq_true rfl) (by show _ ≤ 603072; omega) (by show _ ≤ 7207018; omega) dL_law_17 (fun aLa => ?_)
  change GW C 134 3790 ([bKW G h1 qKW v0KW, bLg G (qKW 0) qLg v0Lg, bLg G (qKW 1) qLg2 v0Lg, bLg G (qKW 2) qLg3 v0Lg, bLg G (qKW 3) qLg4 v0Lg, bWv G (qKW 5) qWv v0Wv, bPr G (qKW 6) qPr v0Pr, bRf G (qKW 7) qRf v0Rf, bTx G (qKW 8) qTx v0Tx, bLn G (qKW 9) qLn v0Ln, bHo G (qKW 4) qHs v0Hs, bRo G qHs v0Hs 0, bRo G qHs v0Hs 1, bRo G qHs v0Hs 2, bRo G qHs v0Hs 3, bRo G qHs v0Hs 4, bRo G qHs v0Hs 5, bRo G qHs v0Hs 6, bRo G qHs v0Hs 7] ++ [bMd G h2 qMd v0Md, bLa G aLa (fun _ => 0)]) 19 _ [.ref aLa]
  refine gw_astore_n (lv' := [(3, .ref aLa), (2, .ref h2), (1, .ref h1), (0, .ref bS)]) F dL_law_19 (by decide) rfl ?_
  refine gw_iconst (v := (1 : Int32)) F dL_law_20 ic_iconst_1 ?_
  refine gw_newa (atype := .double) (ty := .double) (a0 := (1, .inr (.inr (.inr (.inl (fun _ => 0)))))) (N' := 1) F ma_double rfl 4 (fun _ => rfl) (fun _ => rfl) (by decide) (by decide) (Nat.le_of_ble_eq_true rfl) (by show _ ≤ 603072; omega) (by show _ ≤ 7207018; omega) dL_law_21 (fun aDa => ?_)
  change GW C 135 3791 ([bKW G h1 qKW v0KW, bLg G (qKW 0) qLg v0Lg, bLg G (qKW 1) qLg2 v0Lg, bLg G (qKW 2) qLg3 v0Lg, bLg G (qKW 3) qLg4 v0Lg, bWv G (qKW 5) qWv v0Wv, bPr G (qKW 6) qPr v0Pr, bRf G (qKW 7) qRf v0Rf, bTx G (qKW 8) qTx v0Tx, bLn G (qKW 9) qLn v0Ln, bHo G (qKW 4) qHs v0Hs, bRo G qHs v0Hs 0, bRo G qHs v0Hs 1, bRo G qHs v0Hs 2, bRo G qHs v0Hs 3, bRo G qHs v0Hs 4, bRo G qHs v0Hs 5, bRo G qHs v0Hs 6, bRo G qHs v0Hs 7] ++ [bMd G h2 qMd v0Md, bLa G aLa (fun _ => 0), bDa G aDa (fun _ => 0)]) 23 _ [.ref aDa]
  refine gw_astore (lv' := [(4, .ref aDa), (3, .ref aLa), (2, .ref h2), (1, .ref h1), (0, .ref bS)]) F dL_law_23 (by decide) rfl ?_
  refine gw_iconst (v := (0 : Int32)) F dL_law_25 ic_iconst_0 ?_
  refine gw_istore (lv' := [(5, .int (0 : Int32)), (4, .ref aDa), (3, .ref aLa), (2, .ref h2), (1, .ref h1), (0, .ref bS)]) F dL_law_26 (by decide) rfl ?_
  refine gw_lv [5, 4, 3, 2, 1, 0] rfl ?_
  exact lp_L_law hl0 F E n _ _ _ _ _ _ _ _ _ _ _ _ _ _ _ _ _ (by omega) (by omega) hw
/-- YOUR PART: from the entry, for every script of at most 2048 ints, the law comes to its end with true, if the loop does -/
theorem st_whole {p : Program} {e : Env} {s : State} {m : MethodId} {below : List Frame} {meth : Method} {c : Code} (l : Launch) (hflags : l.flags = flags0) {b L : Nat} {xs : Nat → Int32} (hw : wp_law L xs) (C0 : lw_At p s m meth c b L xs) : W p l e room_1 s m #[Value.ref b] below meth c s.heap [] 0 0 (lw_Z below #[Value.ref b] s) (entryFrame m ([Value.ref b] : List Value).toArray 9) := by
  obtain ⟨hx, hb, hr, hml, hown, hts, hX, hbl, hlocks, hgv⟩ := id C0
  have hl0 : l.stackTraces = false := by
    unfold Launch.stackTraces
    rw [hflags]
    decide +kernel
  obtain ⟨D, G, hK⟩ := st_K hts
  have hSF := st_SF hts hgv
  have hl := lv_entry ([.ref b]) (n := 9) (Nat.le_of_ble_eq_true rfl)
  rw [lg_entry_eq]
  generalize (lg_sl ([.ref b]) ++ List.replicate (9 - (lg_sl ([.ref b])).length) Slot.unset).toArray = ls at hl ⊢
  have hl : lv_has ls 9 [(0, .ref b)] := hl
  have hA0 : ∀ q, va_A [] s.heap.size q ↔ s.heap.size ≤ q := fun q => by
    rw [wm_A]
    exact ⟨fun h => h.elim (fun ⟨e, he⟩ => absurd he List.not_mem_nil) id, Or.inr⟩
  have F : GF (p, l, e, room_1, s, m, #[Value.ref b], below, meth, c, va_A [] s.heap.size, D, G, lw_Z below #[Value.ref b] s, 9) XL cL_law lw_tbl RL room_1 9 (some .boolean) D G l := ⟨hx, hb, hts, hown, hK, hml, fun q h => (hA0 q).mpr h, hSF, rfl, rfl, hr, hlocks, rfl, rfl, rfl⟩
  have E : GL (p, l, e, room_1, s, m, #[Value.ref b], below, meth, c, va_A [] s.heap.size, D, G, lw_Z below #[Value.ref b] s, 9) b L xs := by
    refine ⟨hX, hbl, fun h => absurd ((hA0 b).mp h) (Nat.not_le.mpr hbl), fun H locs ls pc hS d => ?_⟩
    exact va_forget (fun q hq => (hA0 _).mp (hS.2.2 q hq)) (lw_ret (Drawn.sameBut.refl s.drawn lw_cs) hx hb hr hlocks d)
  exact st_begin hl0 F E hw s.heap [] ls (fun k q h => (nomatch h)) ⟨fun i j p q h => (nomatch h), fun k q h => (nomatch h)⟩ va_S.rf hl
