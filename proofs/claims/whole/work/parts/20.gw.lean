/-! The walk's own layer: a world is a list of bundles (an object with its arrays); GW: from here, over any heap that holds these bundles, the machine comes to a state with Q. -/
abbrev Cx : Type := Program × Launch × Env × Room × State × MethodId × Array Value × List Frame × Method × Code × (Nat → Prop) × va_G × (Nat → ClassId) × (State → Prop) × Nat
/-- the classes whose objects the worlds hold -/
abbrev myCl : List vw_C := [(RX0, TX0, 7), (RX1, TX1, 2), (RX2, TX2, 2), (RX3, TX3, 14), (RX4, TX4, 2), (RX5, TX5, 3), (RX6, TX6, 3), (RX7, TX7, 12), (RX8, TX8, 24)]
abbrev tyG (G : Nat → ClassId) : List (ClassId × FieldType) := [(G 0, .int), (G 1, .boolean), (G 2, .char), (G 3, .long), (G 4, .double), (G 5, .object "KeyWaves$Lodge")]
/-- a word of the tables that stays, whatever is noted later -/
def va_St (w : Cond) (U : State) : Prop := ∀ U' : State, U.WarmedH U'.vm → va_Nw w U'
theorem va_St.warm {w : Cond} {s U : State} (hW : s.WarmedH U.vm) (h : va_St w s) : va_St w U := fun U' h' => h U' (State.WarmedH.trans hW h')
theorem va_St.now {w : Cond} {s : State} (h : va_St w s) : va_Nw w s := h s (State.WarmedH.refl s)
def nestW : List Cond := [.methodLinkNest RX7 9 yX3_init RX7, .methodLinkNest RX1 21 yX3_init RX7, .methodLinkNest RX7 34 yX6_init RX7, .methodLinkNest RX7 41 yX4_init RX7, .methodLinkNest RX7 48 yX5_init RX7, .methodLinkNest RX7 55 yX0_init RX7, .methodLinkNest RX7 62 yX2_init RX7, .methodLinkNest RX3 92 yX7_isSet RX7, .methodLinkNest RX3 95 yX7_isPorter RX7]
def strK : List (Nat × String) := [(342, "it is refused"), (354, "there is no such key"), (137, "what is not from 0 to 5"), (359, "there is no such lock"), (157, "what is not from 0 to 3"), (174, "there is no such place"), (181, "there are no ways"), (206, "there is no such porter"), (217, "what is not from 0 to 2"), (228, "the buffer is full"), (240, "the text has a fault"), (264, "nothing was refused"), (285, "there is no such index"), (297, "there are no keys"), (306, "there are no locks"), (327, "what is not from 0 to 11"), (333, "there is nothing to undo"), (335, "there is no snapshot")]
/-- what every method here may take of the state: words that stay, text constants, the two statics of Throwable -/
def SF (X : List Cond) (A : Nat → Prop) (U : State) : Prop := (∀ w ∈ nestW, va_St w U) ∧ (∀ w ∈ X, va_St w U) ∧ (∀ q ∈ strK, ∃ sa : Nat, vk_R RX7 q.1 q.2 sa U) ∧ vx_Zq Bundle.tN "UNASSIGNED_STACK" Bundle.steD A U U.heap ∧ vx_Zq Bundle.tN "SUPPRESSED_SENTINEL" Bundle.listD A U U.heap
theorem SF.to {X : List Cond} {A B : Nat → Prop} {s U : State} {H : Heap} {locs : List Loc} (h : SF X A s) (hS : va_S A s.heap H locs) (hU : U.heap = H) (hW : s.WarmedH U.vm) (hAB : ∀ q, B q → A q) : SF X B U := by
  obtain ⟨h1, h2, h3, h4, h5⟩ := h
  refine ⟨fun w hw => (h1 w hw).warm hW, fun w hw => (h2 w hw).warm hW, fun q hq => ?_, ?_, ?_⟩
  · obtain ⟨sa, hs⟩ := h3 q hq
    exact ⟨sa, vk_R.warm hW hs⟩
  · rw [hU]; exact (vx_Zq.moved hW.alike (h4.kept hS.2.1)).narrow hAB
  · rw [hU]; exact (vx_Zq.moved hW.alike (h5.kept hS.2.1)).narrow hAB
theorem SF.same {X : List Cond} {A : Nat → Prop} {s U : State} (h : SF X A s) (hU : U.heap = s.heap) (hv : U.vm = s.vm) : SF X A U :=
  h.to (locs := []) va_S.rf hU (by rw [hv]; exact State.WarmedH.refl s) (fun _ h => h)
-- worlds
theorem wm_P {D : va_G} {cl : List vw_C} {ws : va_W} {H : Heap} : va_P D cl ws H ↔ ∀ q ∈ ws, va_at D cl q H :=
  ⟨fun h q hq => by obtain ⟨k, hk⟩ := List.getElem?_of_mem hq; exact h k q hk, fun h k q hk => h q (List.mem_of_getElem? hk)⟩
theorem wm_D {A : Nat → Prop} {ws : va_W} : va_D A ws ↔ ws.Pairwise (fun x y => x.1 ≠ y.1) ∧ ∀ q ∈ ws, A q.1 := by
  constructor
  · rintro ⟨h1, h2⟩
    refine ⟨List.pairwise_iff_getElem.mpr fun i j hi hj hij e => ?_, fun q hq => ?_⟩
    · have := h1 i j _ _ (List.getElem?_eq_getElem hi) (List.getElem?_eq_getElem hj) e
      omega
    · obtain ⟨k, hk⟩ := List.getElem?_of_mem hq
      exact h2 k q hk
  · rintro ⟨h1, h2⟩
    refine ⟨fun i j p q hi hj e => ?_, fun k q hk => h2 q (List.mem_of_getElem? hk)⟩
    obtain ⟨li, rfl⟩ := List.getElem?_eq_some_iff.mp hi
    obtain ⟨lj, rfl⟩ := List.getElem?_eq_some_iff.mp hj
    rcases Nat.lt_trichotomy i j with c | c | c
    · exact absurd e (List.pairwise_iff_getElem.mp h1 i j li lj c)
    · exact c
    · exact absurd e.symm (List.pairwise_iff_getElem.mp h1 j i lj li c)
theorem sel_mem {α : Type} {l l' : List α} {is : List Nat} (h : is.map (fun i => l[i]?) = l'.map some) {x : α} (hx : x ∈ l') : x ∈ l := by
  have h1 : some x ∈ is.map (fun i => l[i]?) := by rw [h]; exact List.mem_map.mpr ⟨x, hx, rfl⟩
  obtain ⟨i, -, hi⟩ := List.mem_map.mp h1
  exact List.mem_of_getElem? hi
theorem sel_at {α : Type} {l l' : List α} {is : List Nat} (h : is.map (fun i => l[i]?) = l'.map some) {k : Nat} {x : α} (hx : l'[k]? = some x) : ∃ i, is[k]? = some i ∧ l[i]? = some x := by
  have h1 : (is.map (fun i => l[i]?))[k]? = some (some x) := by rw [h, List.getElem?_map, hx]; rfl
  rw [List.getElem?_map] at h1
  cases hi : is[k]? with
  | none => rw [hi] at h1; cases h1
  | some i => rw [hi] at h1; exact ⟨i, rfl, Option.some.inj h1⟩
theorem sel_P {D : va_G} {cl : List vw_C} {bs bs' : List va_W} {H : Heap} {is : List Nat} (h : va_P D cl bs.flatten H) (hs : is.map (fun i => bs[i]?) = bs'.map some) : va_P D cl bs'.flatten H := by
  rw [wm_P] at h ⊢
  intro q hq
  obtain ⟨b, hb, hqb⟩ := List.mem_flatten.mp hq
  exact h q (List.mem_flatten.mpr ⟨b, sel_mem hs hb, hqb⟩)
theorem sel_D {A : Nat → Prop} {bs bs' : List va_W} {is : List Nat} (h : va_D A bs.flatten) (hs : is.map (fun i => bs[i]?) = bs'.map some) (hn : va_nd is = true) : va_D A bs'.flatten := by
  rw [wm_D] at h ⊢
  obtain ⟨h1, h2⟩ := h
  rw [List.pairwise_flatten] at h1
  refine ⟨List.pairwise_flatten.mpr ⟨fun b hb => h1.1 b (sel_mem hs hb), List.pairwise_iff_getElem.mpr fun i j hi hj hij => ?_⟩, fun q hq => ?_⟩
  · obtain ⟨a, ha1, ha2⟩ := sel_at hs (List.getElem?_eq_getElem hi)
    obtain ⟨b, hb1, hb2⟩ := sel_at hs (List.getElem?_eq_getElem hj)
    have hab : a ≠ b := by
      rintro rfl
      have := va_nd_inj is hn i j a ha1 hb1
      omega
    obtain ⟨la, ea⟩ := List.getElem?_eq_some_iff.mp ha2
    obtain ⟨lb, eb⟩ := List.getElem?_eq_some_iff.mp hb2
    rw [← ea, ← eb]
    intro x hx y hy
    rcases Nat.lt_or_ge a b with c | c
    · exact List.pairwise_iff_getElem.mp h1.2 a b la lb c x hx y hy
    · have c : b < a := by omega
      exact fun e => List.pairwise_iff_getElem.mp h1.2 b a lb la c y hy x hx e.symm
  · obtain ⟨b, hb, hqb⟩ := List.mem_flatten.mp hq
    exact h2 q (List.mem_flatten.mpr ⟨b, sel_mem hs hb, hqb⟩)
theorem wm_lt {D : va_G} {cl : List vw_C} {ws : va_W} {H : Heap} (h : va_P D cl ws H) {q : Nat × va_E} (hq : q ∈ ws) : q.1 < H.size := (wm_P.mp h q hq).lt
theorem wm_A {ws : va_W} {sz q : Nat} : va_A ws sz q ↔ (∃ e, (q, e) ∈ ws) ∨ sz ≤ q := by
  constructor
  · rintro (⟨k, e, h⟩ | h)
    · exact Or.inl ⟨e, List.mem_of_getElem? h⟩
    · exact Or.inr h
  · rintro (⟨e, h⟩ | h)
    · obtain ⟨k, hk⟩ := List.getElem?_of_mem h
      exact Or.inl ⟨k, e, hk⟩
    · exact Or.inr h
/-- behind a call: the caller's other bundles, and the callee's -/
theorem wm_join {A : Nat → Prop} {D : va_G} {cl : List vw_C} {bs bsr bs1 bs2 : List va_W} {H H1 : Heap} {is : List Nat} (hP : va_P D cl bs.flatten H) (hD : va_D A bs.flatten) (hs : is.map (fun i => bs[i]?) = (bsr ++ bs1).map some) (hn : va_nd is = true)
    (hk : ∀ q : Nat, q < H.size → ¬ va_A bs1.flatten H.size q → H1[q]? = H[q]?) (hF : ∀ q, va_A bs1.flatten H.size q → A q) (hP1 : va_P D cl bs2.flatten H1) (hD1 : va_D (va_A bs1.flatten H.size) bs2.flatten) : va_P D cl (bsr ++ bs2).flatten H1 ∧ va_D A (bsr ++ bs2).flatten := by
  have hPs := sel_P hP hs
  have hDs := sel_D hD hs hn
  rw [List.flatten_append] at hPs hDs ⊢
  rw [wm_D] at hDs hD1 ⊢
  rw [wm_P] at hPs hP1 ⊢
  obtain ⟨hDp, hDa⟩ := hDs
  rw [List.pairwise_append] at hDp
  have off : ∀ q ∈ bsr.flatten, q.1 < H.size ∧ ¬ va_A bs1.flatten H.size q.1 := by
    intro q hq
    have hl := (hPs q (List.mem_append_left _ hq)).lt
    refine ⟨hl, fun h => ?_⟩
    rcases wm_A.mp h with ⟨e, he⟩ | h
    · exact hDp.2.2 q hq _ he rfl
    · omega
  refine ⟨fun q hq => ?_, List.pairwise_append.mpr ⟨hDp.1, hD1.1, fun x hx y hy e => ?_⟩, fun q hq => ?_⟩
  · rcases List.mem_append.mp hq with h | h
    · obtain ⟨g1, g2⟩ := off q h
      exact (hPs q (List.mem_append_left _ h)).kept (hk q.1 g1 g2)
    · exact hP1 q h
  · exact (off x hx).2 (by rw [e]; exact hD1.2 y hy)
  · rcases List.mem_append.mp hq with h | h
    · exact hDa q (List.mem_append_left _ h)
    · exact hF q.1 (hD1.2 q h)
theorem wm_free {A : Nat → Prop} {bs bsr bs1 : List va_W} {H0 H : Heap} {locs : List Loc} {is : List Nat} (hD : va_D A bs.flatten) (hS : va_S A H0 H locs) (hA : ∀ q, H0.size ≤ q → A q) (hs : is.map (fun i => bs[i]?) = (bsr ++ bs1).map some) : ∀ q, va_A bs1.flatten H.size q → A q := by
  intro q h
  rcases wm_A.mp h with ⟨e, he⟩ | h
  · obtain ⟨b, hb, hqb⟩ := List.mem_flatten.mp he
    exact (wm_D.mp hD).2 (q, e) (List.mem_flatten.mpr ⟨b, sel_mem hs (List.mem_append_right _ hb), hqb⟩)
  · exact hA q (Nat.le_trans hS.1 h)
theorem wm_call {A : Nat → Prop} {D : va_G} {bs bsr bs1 : List va_W} {H : Heap} {is : List Nat} (hP : va_P D myCl bs.flatten H) (hD : va_D A bs.flatten) (hs : is.map (fun i => bs[i]?) = (bsr ++ bs1).map some) (hn : va_nd is = true) : va_P D myCl bs1.flatten H ∧ va_D (fun _ => True) bs1.flatten := by
  have hPs := sel_P hP hs
  have hDs := sel_D hD hs hn
  rw [List.flatten_append] at hPs hDs
  rw [wm_D] at hDs ⊢
  rw [wm_P] at hPs ⊢
  exact ⟨fun q hq => hPs q (List.mem_append_right _ hq), (List.pairwise_append.mp hDs.1).2.1, fun _ _ => trivial⟩
-- contracts
def PreB (X : List Cond) (D : va_G) (G : Nat → ClassId) (As : List Value) (bs : List va_W) (sz : Nat) : Array Value → State → Prop := va_Pc As (fun U => U.heap.size = sz ∧ va_P D myCl bs.flatten U.heap ∧ va_K D myCl (tyG G) U ∧ va_D (fun _ => True) bs.flatten ∧ SF X (va_A bs.flatten sz) U)
def PosB (D : va_G) (bs : List va_W) (sz : Nat) (Post : Option Value → List va_W → Prop) : Array Value → State → Outcome → State → Prop := fun _ st oc t => (∃ (v : Option Value) (bs' : List va_W), oc = .returned v ∧ Post v bs' ∧ va_P D myCl bs'.flatten t.heap ∧ va_D (va_A bs.flatten sz) bs'.flatten) ∧ va_F (va_A bs.flatten sz) st t
def XCB (D : va_G) (bs : List va_W) (sz : Nat) (PostX : String → List va_W → Prop) : String → State → State → Prop := fun E st t => (∃ bs' : List va_W, PostX E bs' ∧ va_P D myCl bs'.flatten t.heap ∧ va_D (va_A bs.flatten sz) bs'.flatten) ∧ va_F (va_A bs.flatten sz) st t
/-- a method's contract: it returns -/
def CM (X : List Cond) (l : Launch) (y : MethodName) (ws : List Cond) (rm : Room) (D : va_G) (G : Nat → ClassId) (As : List Value) (bs : List va_W) (mc ms : Nat) (Post : Option Value → List va_W → Prop) : Prop := ∀ sz : Nat, Met l y ws rm (PreB X D G As bs sz) (PosB D bs sz Post) mc ms (va_A bs.flatten sz)
/-- .. or throws -/
def CMX (X : List Cond) (l : Launch) (y : MethodName) (ws : List Cond) (rm : Room) (D : va_G) (G : Nat → ClassId) (As : List Value) (bs : List va_W) (mc ms : Nat) (Post : Option Value → List va_W → Prop) (PostX : String → List va_W → Prop) : Prop := ∀ sz : Nat, vx_Met l y ws rm (PreB X D G As bs sz) (PosB D bs sz Post) (XCB D bs sz PostX) mc ms (va_A bs.flatten sz)
theorem blindB {X : List Cond} {D : va_G} {G : Nat → ClassId} {As : List Value} {bs : List va_W} {sz : Nat} : FrameBlind (PreB X D G As bs sz) := by
  rintro a U g mk ⟨h0, h1, h2, h3, h4, h5⟩
  exact ⟨h0, h1, h2, va_K.moved (u := U) (U := U.calling g mk a) (Vm.Alike.refl U.vm) h3, h4, h5.same rfl rfl⟩
def GW (C : Cx) (k n : Nat) (bs : List va_W) (pc : Nat) (lv : List (Nat × Value)) (st : List Value) : Prop :=
  match C with
  | (p, l, e, R, s, m, args, below, meth, c, A, D, _, Q, nL) => ∀ (H : Heap) (locs : List Loc) (ls : Array Slot), va_P D myCl bs.flatten H → va_D A bs.flatten → va_S A s.heap H locs → lv_has ls nL lv → W p l e R s m args below meth c H locs k n Q (F0 m pc ls st)
def GWX (C : Cx) (k n : Nat) (bs : List va_W) (pc : Nat) (lv : List (Nat × Value)) (E : String) : Prop :=
  match C with
  | (p, l, e, R, s, m, args, below, meth, c, A, D, _, Q, nL) => ∀ (H : Heap) (locs : List Loc) (ls : Array Slot) (rest : List Value) (q : Nat) (ce : Cell), va_P D myCl bs.flatten H → va_D A bs.flatten → va_S A s.heap H locs → lv_has ls nL lv → H[q]? = some ce → ce.vm = .none → s.vm.findClass E = some ce.cls → vx_W p l e R s m args below meth c H locs k n Q (F0 m pc ls rest) q
/-- what holds of a walk all along -/
def GF (C : Cx) (X : List Cond) (cc : ByteArray) (Ts : List Cond) (own : String) (R0 : Room) (n0 : Nat) (ret : Option FieldType) (D0 : va_G) (G0 : Nat → ClassId) (l0 : Launch) : Prop :=
  match C with
  | (p, l, _, R, s, m, args, _, meth, c, A, D, G, _, nL) => p.tables.exec = Jvm.exec ∧ c.code = cc ∧ (∀ w ∈ Ts, w.before args s = true) ∧ s.vm.findClass own = some m.cls ∧ va_K D myCl (tyG G) s ∧ c.maxLocals = nL ∧ (∀ q, s.heap.size ≤ q → A q) ∧ SF X A s ∧ R = R0 ∧ nL = n0 ∧ meth.sig.returnType = ret ∧ meth.locks = false ∧ D = D0 ∧ G = G0 ∧ l = l0
/-- the end of a method that returns -/
def GE (C : Cx) (bs0 : List va_W) (mc ms : Nat) (Post : Option Value → List va_W → Prop) : Prop :=
  match C with
  | (p, l, e, R, s, m, args, below, meth, c, A, D, _, Q, _) => A = va_A bs0.flatten s.heap.size ∧ ∀ (H : Heap) (locs : List Loc) (k n : Nat) (g : JFrame), k ≤ mc → n ≤ ms → W p l e R s m args below meth c H locs mc ms (MQ below (PosB D bs0 s.heap.size Post) args s mc ms A) g → W p l e R s m args below meth c H locs k n Q g
/-- .. or throws -/
def GEX (C : Cx) (bs0 : List va_W) (mc ms : Nat) (Post : Option Value → List va_W → Prop) (PostX : String → List va_W → Prop) : Prop :=
  match C with
  | (_, _, _, _, s, _, args, below, _, c, A, D, _, Q, _) => A = va_A bs0.flatten s.heap.size ∧ Q = vx_MQ below (PosB D bs0 s.heap.size Post) (XCB D bs0 s.heap.size PostX) args s mc ms A ∧ ∀ x ∈ c.exceptionTable.toList, False
theorem GEX.ret {C : Cx} {bs0 : List va_W} {mc ms : Nat} {Post : Option Value → List va_W → Prop} {PostX : String → List va_W → Prop} (h : GEX C bs0 mc ms Post PostX) : GE C bs0 mc ms Post := by
  obtain ⟨p, l, e, R, s, m, args, below, meth, c, A, D, G, Q, nL⟩ := C
  obtain ⟨h1, h2, -⟩ := h
  refine ⟨h1, fun H locs k n g hk hn w => ?_⟩
  rw [h2]
  exact W.widen hk hn (vx_ret w)
section GWR
variable {C : Cx} {X : List Cond} {cc : ByteArray} {Ts : List Cond} {own : String} {R0 : Room} {n0 : Nat} {ret : Option FieldType} {D0 : va_G} {G0 : Nat → ClassId} {l0 : Launch} {k n pc : Nat} {bs : List va_W} {lv lv' : List (Nat × Value)} {st : List Value}
theorem gw_nm {P : Int32 → Prop} {x : Int32} (K : ∀ y : Int32, y = x → P y) : P x := K x rfl
theorem gw_sel (is : List Nat) {bs' : List va_W} (hs : is.map (fun i => bs[i]?) = bs'.map some) (hn : va_nd is = true) (K : GW C k n bs' pc lv st) : GW C k n bs pc lv st := by
  obtain ⟨p, l, e, R, s, m, args, below, meth, c, A, D, G, Q, nL⟩ := C
  exact fun H locs ls hP hD hS hl => K H locs ls (sel_P hP hs) (sel_D hD hs hn) hS hl
theorem gw_flat {bs' : List va_W} (hs : bs.flatten = bs'.flatten) (K : GW C k n bs' pc lv st) : GW C k n bs pc lv st := by
  obtain ⟨p, l, e, R, s, m, args, below, meth, c, A, D, G, Q, nL⟩ := C
  exact fun H locs ls hP hD hS hl => K H locs ls (hs ▸ hP) (hs ▸ hD) hS hl
theorem gw_lv (is : List Nat) (hs : lv_pick lv is = lv') (K : GW C k n bs pc lv' st) : GW C k n bs pc lv st := by
  obtain ⟨p, l, e, R, s, m, args, below, meth, c, A, D, G, Q, nL⟩ := C
  exact fun H locs ls hP hD hS hl => K H locs ls hP hD hS (lv_sub hl is hs)
theorem gw_aload_n (F : GF C X cc Ts own R0 n0 ret D0 G0 l0) {j : Fin 4} {x : Nat} (d : decode cc pc = .ok (.aload_n j, 1)) (i : Nat) (h : lv[i]? = some ((j : Nat), .ref x)) (K : GW C k n bs (pc + 1) lv (.ref x :: st)) : GW C k n bs pc lv st := by
  obtain ⟨p, l, e, R, s, m, args, below, meth, c, A, D, G, Q, nL⟩ := C
  obtain ⟨hx, hb, -⟩ := F
  exact fun H locs ls hP hD hS hl => lv_aload_n hx hb d rfl (lv_at hl i h) (K H locs ls hP hD hS hl)
theorem gw_aload (F : GF C X cc Ts own R0 n0 ret D0 G0 l0) {j : Nat} {x : Nat} (d : decode cc pc = .ok (.aload j, 2)) (i : Nat) (h : lv[i]? = some (j, .ref x)) (K : GW C k n bs (pc + 2) lv (.ref x :: st)) : GW C k n bs pc lv st := by
  obtain ⟨p, l, e, R, s, m, args, below, meth, c, A, D, G, Q, nL⟩ := C
  obtain ⟨hx, hb, -⟩ := F
  exact fun H locs ls hP hD hS hl => lv_aload hx hb d (lv_at hl i h) (K H locs ls hP hD hS hl)
theorem gw_iload_n (F : GF C X cc Ts own R0 n0 ret D0 G0 l0) {j : Fin 4} {x : Int32} (d : decode cc pc = .ok (.iload_n j, 1)) (i : Nat) (h : lv[i]? = some ((j : Nat), .int x)) (K : GW C k n bs (pc + 1) lv (.int x :: st)) : GW C k n bs pc lv st := by
  obtain ⟨p, l, e, R, s, m, args, below, meth, c, A, D, G, Q, nL⟩ := C
  obtain ⟨hx, hb, -⟩ := F
  exact fun H locs ls hP hD hS hl => lv_iload_n hx hb d rfl (lv_at hl i h) (K H locs ls hP hD hS hl)
theorem gw_iload (F : GF C X cc Ts own R0 n0 ret D0 G0 l0) {j : Nat} {x : Int32} (d : decode cc pc = .ok (.iload j, 2)) (i : Nat) (h : lv[i]? = some (j, .int x)) (K : GW C k n bs (pc + 2) lv (.int x :: st)) : GW C k n bs pc lv st := by
  obtain ⟨p, l, e, R, s, m, args, below, meth, c, A, D, G, Q, nL⟩ := C
  obtain ⟨hx, hb, -⟩ := F
  exact fun H locs ls hP hD hS hl => lv_iload hx hb d (lv_at hl i h) (K H locs ls hP hD hS hl)
theorem gw_istore_n (F : GF C X cc Ts own R0 n0 ret D0 G0 l0) {j : Fin 4} {x : Int32} (d : decode cc pc = .ok (.istore_n j, 1)) (hn : (j : Nat) < n0) (hl' : ((j : Nat), Value.int x) :: lv.filter (fun q => !(q.1 == (j : Nat)) && !(q.1 + 1 == (j : Nat) && q.2.category == 2)) = lv') (K : GW C k n bs (pc + 1) lv' st) : GW C k n bs pc lv (.int x :: st) := by
  obtain ⟨p, l, e, R, s, m, args, below, meth, c, A, D, G, Q, nL⟩ := C
  obtain ⟨hx, hb, -, -, -, -, -, -, -, h0, -⟩ := F
  exact fun H locs ls hP hD hS hl => lv_istore_n hx hb d rfl hl (h0 ▸ hn) hl' (fun ls' hl => K H locs ls' hP hD hS hl)
theorem gw_istore (F : GF C X cc Ts own R0 n0 ret D0 G0 l0) {j : Nat} {x : Int32} (d : decode cc pc = .ok (.istore j, 2)) (hn : j < n0) (hl' : (j, Value.int x) :: lv.filter (fun q => !(q.1 == j) && !(q.1 + 1 == j && q.2.category == 2)) = lv') (K : GW C k n bs (pc + 2) lv' st) : GW C k n bs pc lv (.int x :: st) := by
  obtain ⟨p, l, e, R, s, m, args, below, meth, c, A, D, G, Q, nL⟩ := C
  obtain ⟨hx, hb, -, -, -, -, -, -, -, h0, -⟩ := F
  exact fun H locs ls hP hD hS hl => lv_istore hx hb d hl (h0 ▸ hn) hl' (fun ls' hl => K H locs ls' hP hD hS hl)
theorem gw_astore_n (F : GF C X cc Ts own R0 n0 ret D0 G0 l0) {j : Fin 4} {x : Nat} (d : decode cc pc = .ok (.astore_n j, 1)) (hn : (j : Nat) < n0) (hl' : ((j : Nat), Value.ref x) :: lv.filter (fun q => !(q.1 == (j : Nat)) && !(q.1 + 1 == (j : Nat) && q.2.category == 2)) = lv') (K : GW C k n bs (pc + 1) lv' st) : GW C k n bs pc lv (.ref x :: st) := by
  obtain ⟨p, l, e, R, s, m, args, below, meth, c, A, D, G, Q, nL⟩ := C
  obtain ⟨hx, hb, -, -, -, -, -, -, -, h0, -⟩ := F
  exact fun H locs ls hP hD hS hl => lv_astore_n hx hb d rfl hl (h0 ▸ hn) hl' (fun ls' hl => K H locs ls' hP hD hS hl)
theorem gw_astore (F : GF C X cc Ts own R0 n0 ret D0 G0 l0) {j : Nat} {x : Nat} (d : decode cc pc = .ok (.astore j, 2)) (hn : j < n0) (hl' : (j, Value.ref x) :: lv.filter (fun q => !(q.1 == j) && !(q.1 + 1 == j && q.2.category == 2)) = lv') (K : GW C k n bs (pc + 2) lv' st) : GW C k n bs pc lv (.ref x :: st) := by
  obtain ⟨p, l, e, R, s, m, args, below, meth, c, A, D, G, Q, nL⟩ := C
  obtain ⟨hx, hb, -, -, -, -, -, -, -, h0, -⟩ := F
  exact fun H locs ls hP hD hS hl => lv_astore hx hb d hl (h0 ▸ hn) hl' (fun ls' hl => K H locs ls' hP hD hS hl)
theorem gw_iinc (F : GF C X cc Ts own R0 n0 ret D0 G0 l0) {j : Nat} {x v : Int32} {z : Int} (d : decode cc pc = .ok (.iinc j z, 3)) (i : Nat) (h : lv[i]? = some (j, .int x)) (hv : x + Int32.ofInt z = v) (hn : j < n0) (hl' : (j, Value.int v) :: lv.filter (fun q => !(q.1 == j) && !(q.1 + 1 == j && q.2.category == 2)) = lv') (K : GW C k n bs (pc + 3) lv' st) : GW C k n bs pc lv st := by
  obtain ⟨p, l, e, R, s, m, args, below, meth, c, A, D, G, Q, nL⟩ := C
  obtain ⟨hx, hb, -, -, -, -, -, -, -, h0, -⟩ := F
  exact fun H locs ls hP hD hS hl => lv_iinc hx hb d hl h hv (h0 ▸ hn) hl' (fun ls' hl => K H locs ls' hP hD hS hl)
theorem gw_iconst (F : GF C X cc Ts own R0 n0 ret D0 G0 l0) {z : Int} {v : Int32} (d : decode cc pc = .ok (.iconst z, 1)) (hv : Int32.ofInt z = v) (K : GW C k n bs (pc + 1) lv (.int v :: st)) : GW C k n bs pc lv st := by
  obtain ⟨p, l, e, R, s, m, args, below, meth, c, A, D, G, Q, nL⟩ := C
  obtain ⟨hx, hb, -⟩ := F
  exact fun H locs ls hP hD hS hl => lv_iconst hx hb d hv (K H locs ls hP hD hS hl)
theorem gw_bipush (F : GF C X cc Ts own R0 n0 ret D0 G0 l0) {z : Int} {v : Int32} (d : decode cc pc = .ok (.bipush z, 2)) (hv : (Int8.ofInt z).toInt32 = v) (K : GW C k n bs (pc + 2) lv (.int v :: st)) : GW C k n bs pc lv st := by
  obtain ⟨p, l, e, R, s, m, args, below, meth, c, A, D, G, Q, nL⟩ := C
  obtain ⟨hx, hb, -⟩ := F
  exact fun H locs ls hP hD hS hl => lv_bipush hx hb d hv (K H locs ls hP hD hS hl)
theorem gw_sipush (F : GF C X cc Ts own R0 n0 ret D0 G0 l0) {z : Int} {v : Int32} (d : decode cc pc = .ok (.sipush z, 3)) (hv : (Int16.ofInt z).toInt32 = v) (K : GW C k n bs (pc + 3) lv (.int v :: st)) : GW C k n bs pc lv st := by
  obtain ⟨p, l, e, R, s, m, args, below, meth, c, A, D, G, Q, nL⟩ := C
  obtain ⟨hx, hb, -⟩ := F
  exact fun H locs ls hP hD hS hl => lv_sipush hx hb d hv (K H locs ls hP hD hS hl)
theorem gw_dup (F : GF C X cc Ts own R0 n0 ret D0 G0 l0) {va : Value} (d : decode cc pc = .ok (.dup, 1)) (hv : va.category = 1) (K : GW C k n bs (pc + 1) lv (va :: va :: st)) : GW C k n bs pc lv (va :: st) := by
  obtain ⟨p, l, e, R, s, m, args, below, meth, c, A, D, G, Q, nL⟩ := C
  obtain ⟨hx, hb, -⟩ := F
  exact fun H locs ls hP hD hS hl => lv_dup hx hb d hv (K H locs ls hP hD hS hl)
theorem gw_dup2 (F : GF C X cc Ts own R0 n0 ret D0 G0 l0) {va vb : Value} (d : decode cc pc = .ok (.dup2, 1)) (hv : va.category = 1) (hw : vb.category = 1) (K : GW C k n bs (pc + 1) lv (va :: vb :: va :: vb :: st)) : GW C k n bs pc lv (va :: vb :: st) := by
  obtain ⟨p, l, e, R, s, m, args, below, meth, c, A, D, G, Q, nL⟩ := C
  obtain ⟨hx, hb, -⟩ := F
  exact fun H locs ls hP hD hS hl => lv_dup2_11 hx hb d hv hw (K H locs ls hP hD hS hl)
theorem gw_pop (F : GF C X cc Ts own R0 n0 ret D0 G0 l0) {va : Value} (d : decode cc pc = .ok (.pop, 1)) (hv : va.category = 1) (K : GW C k n bs (pc + 1) lv st) : GW C k n bs pc lv (va :: st) := by
  obtain ⟨p, l, e, R, s, m, args, below, meth, c, A, D, G, Q, nL⟩ := C
  obtain ⟨hx, hb, -⟩ := F
  exact fun H locs ls hP hD hS hl => lv_pop hx hb d hv (K H locs ls hP hD hS hl)
theorem gw_iadd (F : GF C X cc Ts own R0 n0 ret D0 G0 l0) {x y : Int32} (d : decode cc pc = .ok (.iadd, 1)) (K : GW C k n bs (pc + 1) lv (.int (x + y) :: st)) : GW C k n bs pc lv (.int y :: .int x :: st) := by
  obtain ⟨p, l, e, R, s, m, args, below, meth, c, A, D, G, Q, nL⟩ := C
  obtain ⟨hx, hb, -⟩ := F
  exact fun H locs ls hP hD hS hl => lv_iadd hx hb d (K H locs ls hP hD hS hl)
theorem gw_isub (F : GF C X cc Ts own R0 n0 ret D0 G0 l0) {x y : Int32} (d : decode cc pc = .ok (.isub, 1)) (K : GW C k n bs (pc + 1) lv (.int (x - y) :: st)) : GW C k n bs pc lv (.int y :: .int x :: st) := by
  obtain ⟨p, l, e, R, s, m, args, below, meth, c, A, D, G, Q, nL⟩ := C
  obtain ⟨hx, hb, -⟩ := F
  exact fun H locs ls hP hD hS hl => lv_isub hx hb d (K H locs ls hP hD hS hl)
theorem gw_imul (F : GF C X cc Ts own R0 n0 ret D0 G0 l0) {x y : Int32} (d : decode cc pc = .ok (.imul, 1)) (K : GW C k n bs (pc + 1) lv (.int (x * y) :: st)) : GW C k n bs pc lv (.int y :: .int x :: st) := by
  obtain ⟨p, l, e, R, s, m, args, below, meth, c, A, D, G, Q, nL⟩ := C
  obtain ⟨hx, hb, -⟩ := F
  exact fun H locs ls hP hD hS hl => lv_imul hx hb d (K H locs ls hP hD hS hl)
theorem gw_idiv (F : GF C X cc Ts own R0 n0 ret D0 G0 l0) {x y : Int32} (d : decode cc pc = .ok (.idiv, 1)) (hne : ¬ y = 0) (K : GW C k n bs (pc + 1) lv (.int (x / y) :: st)) : GW C k n bs pc lv (.int y :: .int x :: st) := by
  obtain ⟨p, l, e, R, s, m, args, below, meth, c, A, D, G, Q, nL⟩ := C
  obtain ⟨hx, hb, -⟩ := F
  exact fun H locs ls hP hD hS hl => lv_idiv hx hb d hne (K H locs ls hP hD hS hl)
theorem gw_irem (F : GF C X cc Ts own R0 n0 ret D0 G0 l0) {x y : Int32} (d : decode cc pc = .ok (.irem, 1)) (hne : ¬ y = 0) (K : GW C k n bs (pc + 1) lv (.int (x - x / y * y) :: st)) : GW C k n bs pc lv (.int y :: .int x :: st) := by
  obtain ⟨p, l, e, R, s, m, args, below, meth, c, A, D, G, Q, nL⟩ := C
  obtain ⟨hx, hb, -⟩ := F
  exact fun H locs ls hP hD hS hl => lv_irem hx hb d hne (K H locs ls hP hD hS hl)
theorem gw_iand (F : GF C X cc Ts own R0 n0 ret D0 G0 l0) {x y : Int32} (d : decode cc pc = .ok (.iand, 1)) (K : GW C k n bs (pc + 1) lv (.int (x &&& y) :: st)) : GW C k n bs pc lv (.int y :: .int x :: st) := by
  obtain ⟨p, l, e, R, s, m, args, below, meth, c, A, D, G, Q, nL⟩ := C
  obtain ⟨hx, hb, -⟩ := F
  exact fun H locs ls hP hD hS hl => lv_iand hx hb d (K H locs ls hP hD hS hl)
theorem gw_ior (F : GF C X cc Ts own R0 n0 ret D0 G0 l0) {x y : Int32} (d : decode cc pc = .ok (.ior, 1)) (K : GW C k n bs (pc + 1) lv (.int (x ||| y) :: st)) : GW C k n bs pc lv (.int y :: .int x :: st) := by
  obtain ⟨p, l, e, R, s, m, args, below, meth, c, A, D, G, Q, nL⟩ := C
  obtain ⟨hx, hb, -⟩ := F
  exact fun H locs ls hP hD hS hl => lv_ior hx hb d (K H locs ls hP hD hS hl)
theorem gw_ixor (F : GF C X cc Ts own R0 n0 ret D0 G0 l0) {x y : Int32} (d : decode cc pc = .ok (.ixor, 1)) (K : GW C k n bs (pc + 1) lv (.int (x ^^^ y) :: st)) : GW C k n bs pc lv (.int y :: .int x :: st) := by
  obtain ⟨p, l, e, R, s, m, args, below, meth, c, A, D, G, Q, nL⟩ := C
  obtain ⟨hx, hb, -⟩ := F
  exact fun H locs ls hP hD hS hl => lv_ixor hx hb d (K H locs ls hP hD hS hl)
theorem gw_ishl (F : GF C X cc Ts own R0 n0 ret D0 G0 l0) {x y : Int32} (d : decode cc pc = .ok (.ishl, 1)) (K : GW C k n bs (pc + 1) lv (.int (x <<< (y &&& 31)) :: st)) : GW C k n bs pc lv (.int y :: .int x :: st) := by
  obtain ⟨p, l, e, R, s, m, args, below, meth, c, A, D, G, Q, nL⟩ := C
  obtain ⟨hx, hb, -⟩ := F
  exact fun H locs ls hP hD hS hl => lv_ishl hx hb d (K H locs ls hP hD hS hl)
theorem gw_ishr (F : GF C X cc Ts own R0 n0 ret D0 G0 l0) {x y : Int32} (d : decode cc pc = .ok (.ishr, 1)) (K : GW C k n bs (pc + 1) lv (.int (x >>> (y &&& 31)) :: st)) : GW C k n bs pc lv (.int y :: .int x :: st) := by
  obtain ⟨p, l, e, R, s, m, args, below, meth, c, A, D, G, Q, nL⟩ := C
  obtain ⟨hx, hb, -⟩ := F
  exact fun H locs ls hP hD hS hl => lv_ishr hx hb d (K H locs ls hP hD hS hl)
/-- the unsigned shift, as the machine reckons it -/
def ushr (x y : Int32) : Int32 := (x.toUInt32 >>> (y.toUInt32 &&& Int32.toUInt32 31)).toInt32
theorem gw_iushr (F : GF C X cc Ts own R0 n0 ret D0 G0 l0) {x y : Int32} (d : decode cc pc = .ok (.iushr, 1)) (K : GW C k n bs (pc + 1) lv (.int (ushr x y) :: st)) : GW C k n bs pc lv (.int y :: .int x :: st) := by
  obtain ⟨p, l, e, R, s, m, args, below, meth, c, A, D, G, Q, nL⟩ := C
  obtain ⟨hx, hb, -⟩ := F
  exact fun H locs ls hP hD hS hl => lv_iushr hx hb d rfl (K H locs ls hP hD hS hl)
theorem gw_i2l (F : GF C X cc Ts own R0 n0 ret D0 G0 l0) {x : Int32} (d : decode cc pc = .ok (.i2l, 1)) (K : GW C k n bs (pc + 1) lv (.long x.toInt64 :: st)) : GW C k n bs pc lv (.int x :: st) := by
  obtain ⟨p, l, e, R, s, m, args, below, meth, c, A, D, G, Q, nL⟩ := C
  obtain ⟨hx, hb, -⟩ := F
  exact fun H locs ls hP hD hS hl => lv_i2l hx hb d rfl (K H locs ls hP hD hS hl)
theorem gw_i2c (F : GF C X cc Ts own R0 n0 ret D0 G0 l0) {x : Int32} (d : decode cc pc = .ok (.i2c, 1)) (K : GW C k n bs (pc + 1) lv (.int (x.toUInt32 % 65536).toInt32 :: st)) : GW C k n bs pc lv (.int x :: st) := by
  obtain ⟨p, l, e, R, s, m, args, below, meth, c, A, D, G, Q, nL⟩ := C
  obtain ⟨hx, hb, -⟩ := F
  exact fun H locs ls hP hD hS hl => lv_i2c hx hb d rfl (K H locs ls hP hD hS hl)
theorem gw_goto (F : GF C X cc Ts own R0 n0 ret D0 G0 l0) {off : Int} {tgt : Nat} (d : decode cc pc = .ok (.goto off, 3)) (ht : (pc : Int) + off = (tgt : Int)) (K : GW C k n bs tgt lv st) : GW C k n bs pc lv st := by
  obtain ⟨p, l, e, R, s, m, args, below, meth, c, A, D, G, Q, nL⟩ := C
  obtain ⟨hx, hb, -⟩ := F
  exact fun H locs ls hP hD hS hl => lv_goto hx hb d ht (K H locs ls hP hD hS hl)
theorem gw_if_eq (F : GF C X cc Ts own R0 n0 ret D0 G0 l0) {x : Int32} {off : Int} {tgt : Nat} (d : decode cc pc = .ok (.ifCond .eq off, 3)) (ht : (pc : Int) + off = (tgt : Int)) (kt : x = 0 → GW C k n bs tgt lv st) (kf : ¬ x = 0 → GW C k n bs (pc + 3) lv st) : GW C k n bs pc lv (.int x :: st) := by
  obtain ⟨p, l, e, R, s, m, args, below, meth, c, A, D, G, Q, nL⟩ := C
  obtain ⟨hx, hb, -⟩ := F
  exact fun H locs ls hP hD hS hl => lv_if_eq hx hb d ht (fun c9 => kt c9 H locs ls hP hD hS hl) (fun c9 => kf c9 H locs ls hP hD hS hl)
theorem gw_icmp_eq (F : GF C X cc Ts own R0 n0 ret D0 G0 l0) {x y : Int32} {off : Int} {tgt : Nat} (d : decode cc pc = .ok (.if_icmp .eq off, 3)) (ht : (pc : Int) + off = (tgt : Int)) (kt : x = y → GW C k n bs tgt lv st) (kf : ¬ x = y → GW C k n bs (pc + 3) lv st) : GW C k n bs pc lv (.int y :: .int x :: st) := by
  obtain ⟨p, l, e, R, s, m, args, below, meth, c, A, D, G, Q, nL⟩ := C
  obtain ⟨hx, hb, -⟩ := F
  exact fun H locs ls hP hD hS hl => lv_icmp_eq hx hb d ht (fun c9 => kt c9 H locs ls hP hD hS hl) (fun c9 => kf c9 H locs ls hP hD hS hl)
theorem gw_if_ne (F : GF C X cc Ts own R0 n0 ret D0 G0 l0) {x : Int32} {off : Int} {tgt : Nat} (d : decode cc pc = .ok (.ifCond .ne off, 3)) (ht : (pc : Int) + off = (tgt : Int)) (kt : ¬ x = 0 → GW C k n bs tgt lv st) (kf : x = 0 → GW C k n bs (pc + 3) lv st) : GW C k n bs pc lv (.int x :: st) := by
  obtain ⟨p, l, e, R, s, m, args, below, meth, c, A, D, G, Q, nL⟩ := C
  obtain ⟨hx, hb, -⟩ := F
  exact fun H locs ls hP hD hS hl => lv_if_ne hx hb d ht (fun c9 => kt c9 H locs ls hP hD hS hl) (fun c9 => kf c9 H locs ls hP hD hS hl)
theorem gw_icmp_ne (F : GF C X cc Ts own R0 n0 ret D0 G0 l0) {x y : Int32} {off : Int} {tgt : Nat} (d : decode cc pc = .ok (.if_icmp .ne off, 3)) (ht : (pc : Int) + off = (tgt : Int)) (kt : ¬ x = y → GW C k n bs tgt lv st) (kf : x = y → GW C k n bs (pc + 3) lv st) : GW C k n bs pc lv (.int y :: .int x :: st) := by
  obtain ⟨p, l, e, R, s, m, args, below, meth, c, A, D, G, Q, nL⟩ := C
  obtain ⟨hx, hb, -⟩ := F
  exact fun H locs ls hP hD hS hl => lv_icmp_ne hx hb d ht (fun c9 => kt c9 H locs ls hP hD hS hl) (fun c9 => kf c9 H locs ls hP hD hS hl)
theorem gw_if_lt (F : GF C X cc Ts own R0 n0 ret D0 G0 l0) {x : Int32} {off : Int} {tgt : Nat} (d : decode cc pc = .ok (.ifCond .lt off, 3)) (ht : (pc : Int) + off = (tgt : Int)) (kt : x < 0 → GW C k n bs tgt lv st) (kf : ¬ x < 0 → GW C k n bs (pc + 3) lv st) : GW C k n bs pc lv (.int x :: st) := by
  obtain ⟨p, l, e, R, s, m, args, below, meth, c, A, D, G, Q, nL⟩ := C
  obtain ⟨hx, hb, -⟩ := F
  exact fun H locs ls hP hD hS hl => lv_if_lt hx hb d ht (fun c9 => kt c9 H locs ls hP hD hS hl) (fun c9 => kf c9 H locs ls hP hD hS hl)
theorem gw_icmp_lt (F : GF C X cc Ts own R0 n0 ret D0 G0 l0) {x y : Int32} {off : Int} {tgt : Nat} (d : decode cc pc = .ok (.if_icmp .lt off, 3)) (ht : (pc : Int) + off = (tgt : Int)) (kt : x < y → GW C k n bs tgt lv st) (kf : ¬ x < y → GW C k n bs (pc + 3) lv st) : GW C k n bs pc lv (.int y :: .int x :: st) := by
  obtain ⟨p, l, e, R, s, m, args, below, meth, c, A, D, G, Q, nL⟩ := C
  obtain ⟨hx, hb, -⟩ := F
  exact fun H locs ls hP hD hS hl => lv_icmp_lt hx hb d ht (fun c9 => kt c9 H locs ls hP hD hS hl) (fun c9 => kf c9 H locs ls hP hD hS hl)
theorem gw_if_ge (F : GF C X cc Ts own R0 n0 ret D0 G0 l0) {x : Int32} {off : Int} {tgt : Nat} (d : decode cc pc = .ok (.ifCond .ge off, 3)) (ht : (pc : Int) + off = (tgt : Int)) (kt : 0 ≤ x → GW C k n bs tgt lv st) (kf : ¬ 0 ≤ x → GW C k n bs (pc + 3) lv st) : GW C k n bs pc lv (.int x :: st) := by
  obtain ⟨p, l, e, R, s, m, args, below, meth, c, A, D, G, Q, nL⟩ := C
  obtain ⟨hx, hb, -⟩ := F
  exact fun H locs ls hP hD hS hl => lv_if_ge hx hb d ht (fun c9 => kt c9 H locs ls hP hD hS hl) (fun c9 => kf c9 H locs ls hP hD hS hl)
theorem gw_icmp_ge (F : GF C X cc Ts own R0 n0 ret D0 G0 l0) {x y : Int32} {off : Int} {tgt : Nat} (d : decode cc pc = .ok (.if_icmp .ge off, 3)) (ht : (pc : Int) + off = (tgt : Int)) (kt : y ≤ x → GW C k n bs tgt lv st) (kf : ¬ y ≤ x → GW C k n bs (pc + 3) lv st) : GW C k n bs pc lv (.int y :: .int x :: st) := by
  obtain ⟨p, l, e, R, s, m, args, below, meth, c, A, D, G, Q, nL⟩ := C
  obtain ⟨hx, hb, -⟩ := F
  exact fun H locs ls hP hD hS hl => lv_icmp_ge hx hb d ht (fun c9 => kt c9 H locs ls hP hD hS hl) (fun c9 => kf c9 H locs ls hP hD hS hl)
theorem gw_if_gt (F : GF C X cc Ts own R0 n0 ret D0 G0 l0) {x : Int32} {off : Int} {tgt : Nat} (d : decode cc pc = .ok (.ifCond .gt off, 3)) (ht : (pc : Int) + off = (tgt : Int)) (kt : 0 < x → GW C k n bs tgt lv st) (kf : ¬ 0 < x → GW C k n bs (pc + 3) lv st) : GW C k n bs pc lv (.int x :: st) := by
  obtain ⟨p, l, e, R, s, m, args, below, meth, c, A, D, G, Q, nL⟩ := C
  obtain ⟨hx, hb, -⟩ := F
  exact fun H locs ls hP hD hS hl => lv_if_gt hx hb d ht (fun c9 => kt c9 H locs ls hP hD hS hl) (fun c9 => kf c9 H locs ls hP hD hS hl)
theorem gw_icmp_gt (F : GF C X cc Ts own R0 n0 ret D0 G0 l0) {x y : Int32} {off : Int} {tgt : Nat} (d : decode cc pc = .ok (.if_icmp .gt off, 3)) (ht : (pc : Int) + off = (tgt : Int)) (kt : y < x → GW C k n bs tgt lv st) (kf : ¬ y < x → GW C k n bs (pc + 3) lv st) : GW C k n bs pc lv (.int y :: .int x :: st) := by
  obtain ⟨p, l, e, R, s, m, args, below, meth, c, A, D, G, Q, nL⟩ := C
  obtain ⟨hx, hb, -⟩ := F
  exact fun H locs ls hP hD hS hl => lv_icmp_gt hx hb d ht (fun c9 => kt c9 H locs ls hP hD hS hl) (fun c9 => kf c9 H locs ls hP hD hS hl)
theorem gw_if_le (F : GF C X cc Ts own R0 n0 ret D0 G0 l0) {x : Int32} {off : Int} {tgt : Nat} (d : decode cc pc = .ok (.ifCond .le off, 3)) (ht : (pc : Int) + off = (tgt : Int)) (kt : x ≤ 0 → GW C k n bs tgt lv st) (kf : ¬ x ≤ 0 → GW C k n bs (pc + 3) lv st) : GW C k n bs pc lv (.int x :: st) := by
  obtain ⟨p, l, e, R, s, m, args, below, meth, c, A, D, G, Q, nL⟩ := C
  obtain ⟨hx, hb, -⟩ := F
  exact fun H locs ls hP hD hS hl => lv_if_le hx hb d ht (fun c9 => kt c9 H locs ls hP hD hS hl) (fun c9 => kf c9 H locs ls hP hD hS hl)
theorem gw_icmp_le (F : GF C X cc Ts own R0 n0 ret D0 G0 l0) {x y : Int32} {off : Int} {tgt : Nat} (d : decode cc pc = .ok (.if_icmp .le off, 3)) (ht : (pc : Int) + off = (tgt : Int)) (kt : x ≤ y → GW C k n bs tgt lv st) (kf : ¬ x ≤ y → GW C k n bs (pc + 3) lv st) : GW C k n bs pc lv (.int y :: .int x :: st) := by
  obtain ⟨p, l, e, R, s, m, args, below, meth, c, A, D, G, Q, nL⟩ := C
  obtain ⟨hx, hb, -⟩ := F
  exact fun H locs ls hP hD hS hl => lv_icmp_le hx hb d ht (fun c9 => kt c9 H locs ls hP hD hS hl) (fun c9 => kf c9 H locs ls hP hD hS hl)
end GWR
