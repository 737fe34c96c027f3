theorem m_isAhead {m : OV} {A : AL} {Q : Int32 → Prop} (h : RR (m.1 0) A) (hI : Inv A) {o k : Nat} (ho : o < aNk A) (hk : k < aNk A) (h1 : rankB A k o → Q 1) (h0 : ¬ rankB A k o → Q 0) : wp_X8_isAhead Q (nI o) (nI k) m := by
  have f1 := sFor_lt hI (k := o); have f2 := sFor_lt hI (k := k); have n10 := hI.1
  have p1 := pop_le (aWd A o); have p2 := pop_le (aWd A k); have w1 := (hI.2.2.2.1 o ho).1; have w2 := (hI.2.2.2.1 k hk).1
  have yes : rankB A k o → wp_X8_isAhead_65 Q m := fun z => ⟨rfl, h1 z⟩
  have no : ¬ rankB A k o → wp_X8_isAhead_69 Q m := fun z => ⟨rfl, h0 z⟩
  unfold wp_X8_isAhead wp_X8_isAhead_0
  refine m_fitsOf h hI ho (m_fitsOf h hI hk ⟨fun c => m_Wd h hI ho (m_many w1 (m_Wd h hI hk (m_many w2 ?_))), fun c => m_fitsOf h hI ho (m_fitsOf h hI hk ?_)⟩)
  · have c' := (nI_eq (by omega) (by omega)).mp c
    rintro _ rfl
    by_cases d : pop (aWd A k) ≤ pop (aWd A o)
    · rw [pk_sub d]
      by_cases d0 : pop (aWd A o) - pop (aWd A k) = 0
      · rw [d0]
        refine ⟨fun z => absurd z (by decide), fun _ => ⟨fun z => absurd rfl z, fun _ => ⟨fun e => no fun z => ?_, fun e => yes (Or.inr ⟨c', Or.inr ⟨by omega, ?_⟩⟩)⟩⟩⟩
        · have e' := (nI_leI (by omega) (by omega)).mp e
          unfold rankB at z; omega
        · have e' : ¬ k ≤ o := fun z => e ((nI_leI (by omega) (by omega)).mpr z)
          omega
      · exact ⟨fun _ => yes (Or.inr ⟨c', Or.inl (by omega)⟩), fun z => absurd (by rw [← nI_0]; exact nI_lt (by omega) (by omega)) z⟩
    · have hneg := pk_sneg (a := pop (aWd A o)) (b := pop (aWd A k)) (by omega) (by omega)
      refine ⟨fun z => absurd (Int32.lt_trans z hneg) (by decide), fun _ => ⟨fun _ => no fun z => ?_, fun z => absurd hneg (by rw [z]; decide)⟩⟩
      unfold rankB at z; omega
  · have c' : ¬ sFor A o = sFor A k := fun z => c (by rw [z])
    refine ⟨fun e => ⟨rfl, h0 fun z => ?_⟩, fun e => ⟨rfl, h1 (Or.inl ?_)⟩⟩
    · have e' := (nI_leI (by omega) (by omega)).mp e
      unfold rankB at z; omega
    · have e' : ¬ sFor A k ≤ sFor A o := fun z => e ((nI_leI (by omega) (by omega)).mpr z)
      omega
