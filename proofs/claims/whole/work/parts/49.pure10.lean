/-- a change was made: the row before it is kept (outside a run of commands), the rest is as it was -/
def KO (m m' : OV) (c : Nat) : Prop := (m.2 7 = 0 → m'.1 1 = kp (m.1 1) (m.1 0) c ∧ m'.2 6 = nI (kc c)) ∧ (¬ m.2 7 = 0 → m'.1 1 = m.1 1 ∧ m'.2 6 = m.2 6) ∧ m'.2 9 = 0 ∧ (∀ j, j ≠ 0 → j ≠ 1 → m'.1 j = m.1 j) ∧ ∀ j, j ≠ 6 → j ≠ 9 → m'.2 j = m.2 j
theorem KO.mg {m m' m'' : OV} {c : Nat} (h : KO m m' c) (h' : MG m' m'') : KO m m'' c := by
  obtain ⟨h1, h2, h3, h4, h5⟩ := h
  obtain ⟨g1, g2⟩ := h'
  refine ⟨fun z => ⟨(g1 1 (by omega)).trans (h1 z).1, (congrFun g2 6).trans (h1 z).2⟩, fun z => ⟨(g1 1 (by omega)).trans (h2 z).1, (congrFun g2 6).trans (h2 z).2⟩, (congrFun g2 9).trans h3, fun j h0 h1 => (g1 j h0).trans (h4 j h0 h1), fun j h6 h9 => (congrFun g2 j).trans (h5 j h6 h9)⟩
theorem m_keepsK {m : OV} {Q : OV → Prop} {c : Nat} (hc : m.2 6 = nI c) (hc8 : c ≤ 8) (hq : ∀ m' : OV, m'.1 0 = m.1 0 → KO m m' c → Q m') : wp_X8_keeps0 Q m := by
  by_cases w : m.2 7 = 0
  · exact m_keeps0 w hc hc8 (fun m' e1 e2 e3 e4 e5 => hq m' (e4 0 (by omega)) ⟨fun _ => ⟨e1, e2⟩, fun z => absurd w z, e3, fun j _ h1 => e4 j h1, e5⟩)
  · rintro _ rfl
    refine ⟨fun z => absurd z w, fun _ => hq _ rfl ⟨fun z => absurd z w, fun _ => ⟨rfl, ?_⟩, ?_, fun j _ _ => rfl, fun j _ h9 => ?_⟩⟩
    · simp [sI, upd]
    · simp [sI, upd]
    · simp [sI, upd, h9]
/-- a change was refused -/
def RFd (m m' : OV) (r d : Int32) : Prop := m'.1 = m.1 ∧ m'.2 9 = 1 ∧ m'.2 10 = r ∧ m'.2 11 = d ∧ m'.2 12 = (if m.2 7 = 0 then 0 else m.2 8) ∧ ∀ j, j ≠ 9 → j ≠ 10 → j ≠ 11 → j ≠ 12 → m'.2 j = m.2 j
theorem m_refuses {m : OV} {Q : Int32 → OV → Prop} {r d : Int32} (hq : ∀ m', RFd m m' r d → Q 0 m') : wp_X8_refuses Q r d m := by
  rintro _ rfl _ rfl _ rfl
  have e7 : (sI (sI (sI m 9 1) 10 r) 11 d).2 7 = m.2 7 := by simp [sI, upd]
  have e8 : (sI (sI (sI m 9 1) 10 r) 11 d).2 8 = m.2 8 := by simp [sI, upd]
  rw [e7, e8]
  have fin : ∀ x, x = (if m.2 7 = 0 then 0 else m.2 8) → wp_X8_refuses_31 Q x (sI (sI (sI m 9 1) 10 r) 11 d) := fun x hx => by
    rintro _ rfl
    refine hq _ ⟨rfl, by simp [sI, upd], by simp [sI, upd], by simp [sI, upd], by simp [sI, upd]; exact hx, fun j h1 h2 h3 h4 => by simp [sI, upd, h1, h2, h3, h4]⟩
  exact ⟨fun z => fin 0 (by rw [if_pos z]), fun z => fin (m.2 8) (by rw [if_neg z])⟩
section MOPS
variable {m : OV} {A : AL} {Q : Int32 → OV → Prop} {x y : Int32} {c : Nat}
theorem m_take (h : RR (m.1 0) A) (hI : Inv A) (hc : m.2 6 = nI c) (hc8 : c ≤ 8) (hr : ∀ r d, oTake A x = .inl (r, d) → ∀ m', RFd m m' r d → Q 0 m') (hk : ∀ n B, oTake A x = .inr (n, B) → ∀ m', RR (m'.1 0) B → KO m m' c → Q n m') : wp_X8_take Q x m := by
  unfold wp_X8_take wp_X8_take_0
  refine m_isKey h hI (fun ck => ⟨fun _ => ?_, fun z => absurd z (by decide)⟩) (fun ck => ⟨fun z => absurd rfl z, fun _ => m_refuses (hr _ _ (by rw [oTake, if_neg ck]))⟩)
  obtain ⟨k, hkk, e, e2⟩ := isR_nI hI.1 ck
  rw [e]
  refine m_Ik h hI hkk ⟨fun z => ?_, fun z => ?_⟩
  · have c' : ¬ aIk A k = 0 := fun w => absurd ((nI_m1 (ik_lt hI hkk)).2.mpr w) (Int32.not_lt.mpr z)
    obtain ⟨l, hl⟩ : ∃ l, aIk A k = l + 1 := ⟨aIk A k - 1, by omega⟩
    have hll : l < aNl A := by have := (hI.2.2.2.1 k hkk).2.2.1; omega
    refine m_keepsK hc hc8 (fun m' e0 ko => ?_)
    rw [hl, nI_pred]
    refine m_lets (by rw [e0]; exact h) hI hkk hll (fun m'' hr' hg => hk _ (aLet A k l) ?_ m'' hr' (ko.mg hg))
    rw [oTake, if_pos ck, e2, if_neg c', hl, nI_pred, Nat.add_sub_cancel]
  · have c' : aIk A k = 0 := Classical.byContradiction fun w => z (Int32.not_lt.mp fun y => w ((nI_m1 (ik_lt hI hkk)).2.mp y))
    refine m_refuses (hr _ _ ?_)
    rw [oTake, if_pos ck, e2, if_pos c', e]
end MOPS
