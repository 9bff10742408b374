set_option maxHeartbeats 8000000 in
set_option maxRecDepth 100000 in
theorem law_known {s : State} {b : Nat} (hts0 : ∀ w ∈ lw_tbl, w.before #[Value.ref b] s = true) (hts : ∀ w ∈ wsL_law, w.before #[Value.ref b] s = true) : ∃ (dC : Nat → ClassId) (dI : Nat → Nat → Nat) (cI cC cG cZ : ClassId), va_K (dC, dI) vwCl (tyL cI cC cG cZ) s ∧ va_AO RX1 s := by
  obtain ⟨c0, iS0, hKn0⟩ := u_known (C := RX0) (T := TX0) (N := 5) (n := 5) hts inlX0 (hts (.instantiable RX0 5) (by decide +kernel))
  obtain ⟨c1, iS1, hKn1⟩ := u_known (C := RX1) (T := TX1) (N := 5) (n := 5) hts inlX1 (hts (.instantiable RX1 5) (by decide +kernel))
  obtain ⟨c2, iS2, hKn2⟩ := u_known (C := RX2) (T := TX2) (N := 3) (n := 3) hts inlX2 (hts (.instantiable RX2 3) (by decide +kernel))
  obtain ⟨c3, iS3, hKn3⟩ := u_known (C := RX3) (T := TX3) (N := 2) (n := 2) hts inlX3 (hts (.instantiable RX3 2) (by decide +kernel))
  obtain ⟨c4, iS4, hKn4⟩ := u_known (C := RX4) (T := TX4) (N := 2) (n := 2) hts inlX4 (hts (.instantiable RX4 2) (by decide +kernel))
  obtain ⟨c5, iS5, hKn5⟩ := u_known (C := RX5) (T := TX5) (N := 9) (n := 9) hts inlX5 (hts (.instantiable RX5 9) (by decide +kernel))
  obtain ⟨c6, iS6, hKn6⟩ := u_known (C := RX6) (T := TX6) (N := 5) (n := 5) hts inlX6 (hts (.instantiable RX6 5) (by decide +kernel))
  obtain ⟨c7, iS7, hKn7⟩ := u_known (C := RX7) (T := TX7) (N := 9) (n := 9) hts inlX7 (hts (.instantiable RX7 9) (by decide +kernel))
  obtain ⟨dC, dI, hKc⟩ : ∃ (dC : Nat → ClassId) (dI : Nat → Nat → Nat), ∀ (k : Nat) (q : vw_C), vwCl[k]? = some q → u_Kn s q.1 q.2.1 q.2.2 (dC k) (dI k) := by
    refine ⟨fun k => [c0, c1, c2, c3, c4, c5, c6, c7].getD k c0, fun k => [iS0, iS1, iS2, iS3, iS4, iS5, iS6, iS7].getD k iS0, ?_⟩
    intro k q hq
    match k, hq with
    | 0, hq => cases hq; exact hKn0
    | 1, hq => cases hq; exact hKn1
    | 2, hq => cases hq; exact hKn2
    | 3, hq => cases hq; exact hKn3
    | 4, hq => cases hq; exact hKn4
    | 5, hq => cases hq; exact hKn5
    | 6, hq => cases hq; exact hKn6
    | 7, hq => cases hq; exact hKn7
    | k + 8, hq => simp [vwCl] at hq
  obtain ⟨cI, hcIa, hcIb⟩ := ty_arr (ty := .int) (hts0 (.arrayClass .int) (by decide +kernel)) (fun _ h => h)
  obtain ⟨cC, hcCa, hcCb⟩ := ty_arr (ty := .char) (hts0 (.arrayClass .char) (by decide +kernel)) (fun _ h => h)
  obtain ⟨cG, hcGa, hcGb⟩ := ty_obj (C := "TailorChalks$Game") (hts0 (.arrayOver (.object "TailorChalks$Game")) (by decide +kernel))
  obtain ⟨cZ, hcZa, hcZb⟩ := ty_arr (ty := .boolean) (hts0 (.arrayClass .boolean) (by decide +kernel)) (fun _ h => h)
  have hO : va_AO RX1 s := va_AO.of (hts0 (.arrayOver (.object "TailorChalks$Game")) (by decide +kernel))
  have hK : va_K (dC, dI) vwCl (tyL cI cC cG cZ) s := by
    refine ⟨hKc, fun k q h => ?_⟩
    match k, h with
    | 0, h => cases h; exact ⟨hcIa, hcIb⟩
    | 1, h => cases h; exact ⟨hcCa, hcCb⟩
    | 2, h => cases h; exact ⟨hcGa, hcGb⟩
    | 3, h => cases h; exact ⟨hcZa, hcZb⟩
    | k + 4, h => simp [tyL] at h
  exact ⟨dC, dI, cI, cC, cG, cZ, hK, hO⟩
