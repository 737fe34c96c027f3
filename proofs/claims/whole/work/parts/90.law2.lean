/-! one round of the law's loop, and the loop -/
theorem lw_case {L i : Nat} {xs : Nat → Int32} {K28 : Int32 → OV → OV → OV → OV → OV → OV → OV → OV → OV → OV → HV → OV → (Nat → Int64) → (Nat → UInt64) → Prop} {A : AL} {c : Nat} {K : Nat → AL} {S : AL} {vKW vLg vLg2 vLg3 vLg4 vWv vPr vRf vTx vLn : OV} {vHs : HV} {vMd : OV} {vLa : Nat → Int64} {vDa : Nat → UInt64} (hL : L ≤ 2048) (hi : i ≤ L) (G : GIs A c K S vKW vLg vLg3 vRf vTx vLn vHs vMd) (HK : i + 4 ≤ L → ∀ (vKW vLg vLg2 vLg3 vLg4 vWv vPr vRf vTx vLn : OV) (vHs : HV) (vMd : OV) (vLa : Nat → Int64) (vDa : Nat → UInt64), GIx vKW vLg vLg3 vRf vTx vLn vHs vMd → K28 (nI (i + 4)) vKW vLg vLg2 vLg3 vLg4 vWv vPr vRf vTx vLn vHs vMd vLa vDa) : wp_L_law_28 L xs K28 (nI i) vKW vLg vLg2 vLg3 vLg4 vWv vPr vRf vTx vLn vHs vMd vLa vDa := by
  unfold wp_L_law_28 wp_L_law_423 wp_L_law_456 wp_L_law_1249 wp_L_law_1267 wp_L_law_1711 wp_L_law_1729
  refine ⟨fun _ => rfl, fun z => ?_⟩
  have e4 : (4 : Int32) = nI 4 := by decide
  have h4 : i + 4 ≤ L := by
    by_cases k : i + 4 ≤ L
    · exact k
    · refine absurd ?_ z
      rw [e4]
      show nI L - nI 4 < nI i
      by_cases k2 : 4 ≤ L
      · rw [pk_sub k2]
        exact nI_lt (by omega) (by omega)
      · exact Int32.lt_of_lt_of_le (pk_sneg (by omega) (by omega)) (nI_pos' (by omega))
  have p0 : vp_in (nI i) L := vp_in_nI (by omega) (by omega)
  have p1 : vp_in (nI i + (1 : Int32)) L := by
    rw [nI_1]
    exact vp_in_nI (by omega) (by omega)
  have p2 : vp_in (nI i + (2 : Int32)) L := by
    rw [show (2 : Int32) = nI 2 by decide, nI_add]
    exact vp_in_nI (by omega) (by omega)
  have p3 : vp_in (nI i + (3 : Int32)) L := by
    rw [show (3 : Int32) = nI 3 by decide, nI_add]
    exact vp_in_nI (by omega) (by omega)
  have nx : ∀ {vKW vLg vLg2 vLg3 vLg4 vWv vPr vRf vTx vLn : OV} {vHs : HV} {vMd : OV} {vLa : Nat → Int64} {vDa : Nat → UInt64}, GIx vKW vLg vLg3 vRf vTx vLn vHs vMd → wp_L_law_2081 L xs K28 (nI i) vKW vLg vLg2 vLg3 vLg4 vWv vPr vRf vTx vLn vHs vMd vLa vDa := by
    intro vKW vLg vLg2 vLg3 vLg4 vWv vPr vRf vTx vLn vHs vMd vLa vDa g i4 e
    rw [e, e4, nI_add]
    exact HK h4 _ _ _ _ _ _ _ _ _ _ _ _ _ _ g
  refine ⟨p0, fun _ => nx G.x, ?_, ?_, ?_, ?_, ?_, ?_, ?_, ?_, ?_, ?_, ?_, ?_, ?_, ?_, ?_, ?_, ?_, ?_, ?_, ?_, ?_, ?_, ?_, ?_, ?_, ?_, ?_, ?_, ?_, ?_, ?_, ?_, ?_, ?_, ?_, ?_⟩
  · exact fun _ => ⟨p1, p2, lw_key G p1 p2 (fun _ _ _ _ _ _ g => nx g)⟩
  · exact fun _ => ⟨p1, lw_lock G p1 (fun _ _ _ _ _ _ g => nx g)⟩
  · exact fun _ => ⟨p1, p2, lw_cut G p1 p2 (fun _ _ _ _ _ _ g => nx g)⟩
  · exact fun _ => ⟨p1, p2, p3, fun z => lw_bar1 (b0 := 0) G (by decide) nI_0.symm (fun _ => rfl) (fun n => absurd z n) p1 p2 p3 (fun _ _ _ _ _ _ g => nx g), fun z => lw_bar1 (b0 := 1) G (by decide) (by decide) (fun n => absurd n z) (fun _ => rfl) p1 p2 p3 (fun _ _ _ _ _ _ g => nx g)⟩
  · exact fun _ => ⟨p1, lw_slack G p1 (fun _ _ _ _ _ _ g => nx g)⟩
  · exact fun _ => ⟨p1, p2, lw_put G p1 p2 (fun _ _ _ _ _ _ g => nx g)⟩
  · exact fun _ => ⟨p1, lw_take G p1 (fun _ _ _ _ _ _ g => nx g)⟩
  · exact fun _ => lw_wave G (fun _ _ _ _ _ _ _ g => nx g)
  · exact fun _ => ⟨p1, p2, lw_keyOf G p1 p2 (fun _ _ _ g => nx g)⟩
  · exact fun _ => ⟨p1, p2, lw_lockOf G p1 p2 (fun _ _ g => nx g)⟩
  · exact fun _ => ⟨p1, p2, lw_fits G p1 p2 (fun _ _ g => nx g)⟩
  · exact fun _ => ⟨p1, p2, lw_isBarred G p1 p2 (fun _ _ g => nx g)⟩
  · exact fun _ => ⟨p1, p2, lw_costFor G p1 p2 (fun _ _ g => nx g)⟩
  · exact fun _ => ⟨p1, p2, lw_cheapest G p1 p2 (fun _ _ g => nx g)⟩
  · exact fun _ => lw_length G (fun _ _ _ g => nx g)
  · exact fun _ => lw_adds G (fun _ _ _ g => nx g)
  · exact fun _ => lw_waves G (fun _ _ _ g => nx g)
  · exact fun _ => lw_most G (fun _ _ _ g => nx g)
  · exact fun _ => lw_mostAgain G (fun _ _ g => nx g)
  · exact fun _ => ⟨p1, lw_cover G p1 (fun _ _ _ g => nx g)⟩
  · exact fun _ => ⟨p1, lw_canBeOpen G p1 (fun _ _ g => nx g)⟩
  · exact fun _ => ⟨p1, lw_isNeeded G p1 (fun _ _ _ g => nx g)⟩
  · exact fun _ => ⟨p1, p2, lw_porterOf G p1 p2 (fun _ _ g => nx g)⟩
  · exact fun _ => ⟨p1, lw_ranked G p1 (fun _ _ g => nx g)⟩
  · exact fun _ => ⟨p1, lw_append G (Nat.mod_lt _ (by decide)) (pk_char _) p1 (fun _ _ _ g => nx g)⟩
  · exact fun _ => lw_commands G (fun _ _ _ _ _ _ _ _ _ g => nx g)
  · exact fun _ => lw_faultPosition G (fun _ g => nx g)
  · exact fun _ => ⟨p1, lw_reason G p1 (fun _ _ g => nx g)⟩
  · exact fun _ => ⟨p1, lw_line G p1 (fun _ _ g => nx g)⟩
  · exact fun _ => ⟨p1, lw_character G p1 (fun _ _ g => nx g)⟩
  · exact fun _ => lw_meanFits G (fun _ _ g => nx g)
  · exact fun _ => lw_openShare G (fun _ _ g => nx g)
  · exact fun _ => ⟨p1, lw_account G p1 (fun _ _ g => nx g)⟩
  · exact fun _ => lw_undo G (fun _ _ _ _ g => nx g)
  · exact fun _ => lw_save G (fun _ _ _ g => nx g)
  · exact fun _ => lw_restore G (fun _ _ _ _ g => nx g)
theorem lw_loop {L : Nat} {xs : Nat → Int32} (hL : L ≤ 2048) : ∀ (f i : Nat), i ≤ L → L < i + 4 * f → ∀ (vKW vLg vLg2 vLg3 vLg4 vWv vPr vRf vTx vLn : OV) (vHs : HV) (vMd : OV) (vLa : Nat → Int64) (vDa : Nat → UInt64), GIx vKW vLg vLg3 vRf vTx vLn vHs vMd → wp_L_law_28_loop L xs f (nI i) vKW vLg vLg2 vLg3 vLg4 vWv vPr vRf vTx vLn vHs vMd vLa vDa := by
  intro f
  induction f with
  | zero => intro i h1 h2; omega
  | succ n ih =>
    intro i h1 h2 vKW vLg vLg2 vLg3 vLg4 vWv vPr vRf vTx vLn vHs vMd vLa vDa g
    obtain ⟨A, c, K, S, G⟩ := g
    exact lw_case hL h1 G (fun h4 => ih (i + 4) h4 (by omega))
theorem the_pure_theorem {L : Nat} {xs : Nat → Int32} (hL : L ≤ 2048) : wp_law L xs := by
  have t := lw_loop (xs := xs) hL 513 0 (Nat.zero_le _) (by omega) v0KW v0Lg v0Lg v0Lg v0Lg v0Wv v0Pr v0Rf v0Tx v0Ln v0Hs v0Md (fun _ => 0) (fun _ => 0) GI_start
  rw [nI_0] at t
  exact ⟨513, by omega, by omega, t⟩
