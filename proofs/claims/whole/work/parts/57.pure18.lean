theorem tb_or : ∀ w : Nat, w < 64 → ∀ p : Nat, p < 64 → (nI w ||| nI p) = nI (w ||| p) ∧ w ||| p < 64 ∧ pop (w ||| p) = pop w + pop (lk p w) ∧ pop p ≤ pop (w ||| p) := by decide +kernel
theorem m_costOf {m : OV} {A : AL} {Q : Int32 → Prop} (h : RR (m.1 0) A) (hI : Inv A) {k l : Nat} (hk : k < aNk A) (hl : l < aNl A) (hq : Q (nI (costA A k l))) : wp_X8_costOf Q (nI k) (nI l) m := by
  have hw := (hI.2.2.2.1 k hk).1
  have hp := (hI.2.2.2.2.1 l hl).1
  obtain ⟨t1, t2, t3, t4⟩ := tb_or _ hw _ hp
  have p1 := pop_le (aWd A k); have p2 := pop_le (aPn A l); have p3 := pop_le (lk (aPn A l) (aWd A k)); have hs := hI.2.2.1
  unfold wp_X8_costOf wp_X8_costOf_0
  refine m_Wd h hI hk (m_Pn h hI hl ?_)
  rw [t1]
  refine m_many t2 (m_Pn h hI hl (m_many hp ⟨v2i, ?_⟩))
  rintro _ rfl
  refine m_lacks h hI hk hl ?_
  rw [cn2, h.2.2.1, pk_sub t4]
  have fin : ∀ s : Int32, s = nI (pop (aWd A k) + pop (lk (aPn A l) (aWd A k)) - (pop (aPn A l) + aSl A)) → wp_X8_costOf_49 Q m (nI (pop (lk (aPn A l) (aWd A k)))) s := fun s e => by
    show Q _
    rw [e, nI_add]; exact hq
  by_cases c : aSl A ≤ pop (aWd A k ||| aPn A l) - pop (aPn A l)
  · rw [pk_sub c, t3]
    refine ⟨fun z => ?_, fun z => fin _ (by congr 1; omega)⟩
    have z' := (nI_leI (a := pop (aWd A k) + pop (lk (aPn A l) (aWd A k)) - pop (aPn A l) - aSl A) (b := 0) (by omega) (by omega)).mp (by rw [nI_0]; exact z)
    exact fin 0 (by rw [← nI_0]; congr 1; omega)
  · have hneg := pk_sneg (a := pop (aWd A k ||| aPn A l) - pop (aPn A l)) (b := aSl A) (by omega) (by omega)
    refine ⟨fun _ => fin 0 ?_, fun z => absurd (Int32.le_of_lt hneg) z⟩
    rw [t3] at c
    rw [← nI_0]; congr 1; omega
