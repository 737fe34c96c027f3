theorem oSlack_inv {A B : AL} {x n : Int32} (hI : Inv A) (h : oSlack A x = .inr (n, B)) : Inv B ∧ InvF B := by
  unfold oSlack at h
  split at h
  · rename_i c
    obtain ⟨s, hs, ex⟩ := nI_of2 (x := x) (M := 6) (n := 6) (by decide) (Int32.not_lt.mpr c.1) c.2
    have ex2 : x.toNatClampNeg = s := by rw [ex]; exact nI_clamp (by omega)
    split at h
    · cases h
    · cases h
      rw [ex2]
      exact ⟨Inv_drop (Inv_sl hI hs), InvF_drop⟩
  · cases h
theorem oPut_inv {A B : AL} {x y n : Int32} (hI : Inv A) (hF : InvF A) (h : oPut A x y = .inr (n, B)) : Inv B ∧ InvF B := by
  unfold oPut at h
  split at h
  · rename_i ck
    obtain ⟨k, hk, -, ex⟩ := isR_nI hI.1 ck
    split at h
    · rename_i cl
      obtain ⟨l, hl, -, ey⟩ := isR_nI hI.2.1 cl
      rw [ex, ey] at h
      split at h
      · rename_i c1
        split at h
        · rename_i c2
          split at h
          · rename_i c3
            cases h
            exact ⟨Inv_put hI hk hl c1 c2, InvF_put hF c3⟩
          · cases h
        · cases h
      · cases h
    · cases h
  · cases h
theorem oTake_inv {A B : AL} {x n : Int32} (hI : Inv A) (hF : InvF A) (h : oTake A x = .inr (n, B)) : Inv B ∧ InvF B := by
  unfold oTake at h
  split at h
  · rename_i ck
    obtain ⟨k, hk, -, ex⟩ := isR_nI hI.1 ck
    rw [ex] at h
    split at h
    · cases h
    · rename_i c
      cases h
      exact ⟨Inv_let hI hk (by omega), InvF_let hF _ _⟩
  · cases h
/-- a lodge that is copied holds what the other holds -/
theorem CR_copy {v w : OV} {A : AL} (h : CR w A) (hI : Inv A) : CR (cpLg v w) A := by
  obtain ⟨h0, h1, h2, h3, h4, h5, hk, hl⟩ := h
  have n1 := hI.1; have n2 := hI.2.1
  have e : ∀ s, s < 8 → ∀ i, i < 10 → (cpLg v w).1 s i = w.1 s i := by
    intro s hs i hi
    have c0 : (0 : Int32).toNatClampNeg = 0 := by decide
    have c10 : (10 : Int32).toNatClampNeg = 10 := by decide
    have key : ∀ g : Nat → Int32, va_cpy (w.1 s) g (0 : Int32).toNatClampNeg (0 : Int32).toNatClampNeg (10 : Int32).toNatClampNeg i = w.1 s i := fun g => by
      rw [c0, c10, pk_cpy_in (by omega) (by omega), show 0 + (i - 0) = i by omega]
    match s, hs with
    | 0, _ => simpa [cpLg, sF, sI] using key _
    | 1, _ => simpa [cpLg, sF, sI] using key _
    | 2, _ => simpa [cpLg, sF, sI] using key _
    | 3, _ => simpa [cpLg, sF, sI] using key _
    | 4, _ => simpa [cpLg, sF, sI] using key _
    | 5, _ => simpa [cpLg, sF, sI] using key _
    | 6, _ => simpa [cpLg, sF, sI] using key _
    | 7, _ => simpa [cpLg, sF, sI] using key _
    | s + 8, h => exact absurd h (by omega)
  refine ⟨by simpa [cpLg, sF, sI, upd] using h0, by simpa [cpLg, sF, sI, upd] using h1, by simpa [cpLg, sF, sI, upd] using h2, by simpa [cpLg, sF, sI, upd] using h3, by simpa [cpLg, sF, sI, upd] using h4, by simpa [cpLg, sF, sI, upd] using h5, fun k hkk => ?_, fun l hll => ?_⟩
  · obtain ⟨e0, e1, e2, e3, e4⟩ := hk k hkk
    exact ⟨by rw [e 0 (by omega) k (by omega)]; exact e0, by rw [e 1 (by omega) k (by omega)]; exact e1, by rw [e 2 (by omega) k (by omega)]; exact e2, by rw [e 3 (by omega) k (by omega)]; exact e3, by rw [e 4 (by omega) k (by omega)]; exact e4⟩
  · obtain ⟨e0, e1, e2⟩ := hl l hll
    exact ⟨by rw [e 5 (by omega) l (by omega)]; exact e0, by rw [e 6 (by omega) l (by omega)]; exact e1, by rw [e 7 (by omega) l (by omega)]; exact e2⟩
