theorem j82 {P : Int32 → Prop} (h : ∀ j : Fin 82, P (nI j.val)) {x : Int32} (hx : vp_in x 82) : P x := by
  obtain ⟨j, hj, rfl⟩ := vp_in_of hx (by decide)
  exact h ⟨j, hj⟩
theorem j48 {P : Int32 → Prop} (h : ∀ j : Fin 48, P (nI j.val)) {x : Int32} (hx : vp_in x 48) : P x := by
  obtain ⟨j, hj, rfl⟩ := vp_in_of hx (by decide)
  exact h ⟨j, hj⟩
theorem yj {y : Int32} (h : vp_in y 82) : ¬ F_Cloth_isJoint y = 0 ∧ ¬ F_Model_isJoint y = 0 := ⟨j82 (P := fun y => ¬ F_Cloth_isJoint y = 0) (by decide +kernel) h, j82 (P := fun y => ¬ F_Model_isJoint y = 0) (by decide +kernel) h⟩
theorem yc {y : Int32} (h : vp_in y 48) : ¬ F_Cloth_isCell y = 0 ∧ ¬ F_Model_isCell y = 0 := ⟨j48 (P := fun y => ¬ F_Cloth_isCell y = 0) (by decide +kernel) h, j48 (P := fun y => ¬ F_Model_isCell y = 0) (by decide +kernel) h⟩
theorem nc {y : Int32} (h : ¬ vp_in y 48) : F_Cloth_isCell y = 0 ∧ F_Model_isCell y = 0 := by
  refine ⟨?_, Decidable.byContradiction fun q => h (mcl_in q)⟩
  unfold F_Cloth_isCell
  by_cases h0 : y < 0
  · rw [if_pos h0]
  · rw [if_neg h0]
    by_cases h1 : (48 : Int32) ≤ y
    · rw [if_pos h1]
    · exact absurd (vp_rng rfl h0 h1) h
/-- a turn of a fresh object; of a fresh reference -/
abbrev fC (o y : Int32) : Int32 := F_TC_takeTurn o y 0 0 0 140185576636287 1099511627775 (fun _ => 0) (fun _ => -6) 0 0 5 0 0 0 0 0 (fun _ => 0) 0 0 5 0 0 0 0 0 (fun _ => 0)
abbrev fM (o y : Int32) : Int32 := (F_Model_turns o y 0 ms_0 (fun _ => 0) (fun _ => 0)).1
theorem fM_eq (o y : Int32) : fM o y = (F_Model_does o y ms_0 (fun _ => 0)).1 := by
  unfold fM F_Model_turns
  simp only [bnd]
  split <;> rfl
theorem fC_eq (o y : Int32) : fC o y = (F_Game_obey o y 0 0 0 140185576636287 1099511627775 (fun _ => 0) (fun _ => -6) 0 0 5 0 0 0 0 0 (fun _ => 0) 0 0 5 0 0 0 0 0 (fun _ => 0)).1 := by
  unfold fC F_TC_takeTurn bnd
  exact ite_self _
theorem fC_out {o y : Int32} (ho : ¬ o = 112) (h : ¬ vp_in y 82) : fC o y = -1 := by
  rw [fC_eq]
  unfold F_Game_obey
  dsimp only [bnd]
  rw [if_neg ho, if_pos (nj h).1]
theorem fM98 (y : Int32) : fM 98 y = (F_Model_bluffs y ms_0).1 := by
  rw [fM_eq]; unfold F_Model_does; dsimp only [bnd]; rw [if_pos rfl]
theorem fM99 (y : Int32) : fM 99 y = (F_Model_chalks y ms_0).1 := by
  rw [fM_eq]; unfold F_Model_does; dsimp only [bnd]; rw [if_neg (by decide), if_pos rfl]
theorem fM100 (y : Int32) : fM 100 y = (F_Model_doubts y ms_0).1 := by
  rw [fM_eq]; unfold F_Model_does; dsimp only [bnd]; rw [if_neg (by decide), if_neg (by decide), if_pos rfl]
theorem fM115 (y : Int32) : fM 115 y = (F_Model_snips y ms_0 (fun _ => 0)).1 := by
  rw [fM_eq]; unfold F_Model_does; dsimp only [bnd]; rw [if_neg (by decide), if_neg (by decide), if_neg (by decide), if_pos rfl]
theorem fM119 (y : Int32) : fM 119 y = (F_Model_sews y ms_0).1 := by
  rw [fM_eq]; unfold F_Model_does; dsimp only [bnd]; rw [if_neg (by decide), if_neg (by decide), if_neg (by decide), if_neg (by decide), if_pos rfl]
theorem c99 : ∀ j : Fin 82, fC 99 (nI j.val) = 1 := by decide +kernel
theorem m99 : ∀ j : Fin 82, (F_Model_chalks (nI j.val) ms_0).1 = 1 := by decide +kernel
theorem m99o {y : Int32} (h : ¬ vp_in y 82) : (F_Model_chalks y ms_0).1 = -1 := by unfold F_Model_chalks; simp only [bnd]; rw [if_pos (nj h).2]
theorem eq_0 (y1 : Int32) : fC 99 y1 = fM 99 y1 := by
  rw [fM99]
  by_cases h : vp_in y1 82
  · exact j82 (P := fun y => fC 99 y = (F_Model_chalks y ms_0).1) (fun j => (c99 j).trans (m99 j).symm) h
  · rw [fC_out (by decide) h, m99o h]
theorem c119 : ∀ j : Fin 82, fC 119 (nI j.val) = -5 := by decide +kernel
theorem m119 : ∀ j : Fin 82, (F_Model_sews (nI j.val) ms_0).1 = -5 := by decide +kernel
theorem m119o {y : Int32} (h : ¬ vp_in y 82) : (F_Model_sews y ms_0).1 = -1 := by unfold F_Model_sews; simp only [bnd]; rw [if_pos (nj h).2]
theorem eq_2 (y1 : Int32) : fC 119 y1 = fM 119 y1 := by
  rw [fM119]
  by_cases h : vp_in y1 82
  · exact j82 (P := fun y => fC 119 y = (F_Model_sews y ms_0).1) (fun j => (c119 j).trans (m119 j).symm) h
  · rw [fC_out (by decide) h, m119o h]
theorem c98 : ∀ j : Fin 82, fC 98 (nI j.val) = -5 := by decide +kernel
theorem m98 : ∀ j : Fin 82, (F_Model_bluffs (nI j.val) ms_0).1 = -5 := by decide +kernel
theorem m98o {y : Int32} (h : ¬ vp_in y 82) : (F_Model_bluffs y ms_0).1 = -1 := by unfold F_Model_bluffs; simp only [bnd]; rw [if_pos (nj h).2]
theorem eq_3 (y1 : Int32) : fC 98 y1 = fM 98 y1 := by
  rw [fM98]
  by_cases h : vp_in y1 82
  · exact j82 (P := fun y => fC 98 y = (F_Model_bluffs y ms_0).1) (fun j => (c98 j).trans (m98 j).symm) h
  · rw [fC_out (by decide) h, m98o h]
theorem c100 : ∀ j : Fin 82, fC 100 (nI j.val) = -5 := by decide +kernel
theorem m100 : ∀ j : Fin 82, (F_Model_doubts (nI j.val) ms_0).1 = -5 := by decide +kernel
theorem m100o {y : Int32} (h : ¬ vp_in y 82) : (F_Model_doubts y ms_0).1 = -1 := by unfold F_Model_doubts; simp only [bnd]; rw [if_pos (nj h).2]
theorem eq_4 (y1 : Int32) : fC 100 y1 = fM 100 y1 := by
  rw [fM100]
  by_cases h : vp_in y1 82
  · exact j82 (P := fun y => fC 100 y = (F_Model_doubts y ms_0).1) (fun j => (c100 j).trans (m100 j).symm) h
  · rw [fC_out (by decide) h, m100o h]
theorem eq_5 : fC 112 0 = fM 112 0 := by decide +kernel
theorem c115 : ∀ j : Fin 82, fC 115 (nI j.val) = 0 := by decide +kernel
theorem m115o {y : Int32} (h : ¬ vp_in y 82) : (F_Model_snips y ms_0 (fun _ => 0)).1 = -1 := by unfold F_Model_snips; simp only [bnd]; rw [if_pos (nj h).2]
theorem rank0 {p j : Int32} {vs : Nat → Int32} (h : vs (F_Model_at p 2).toNatClampNeg = 0) : F_Model_rankOf p j vs = -6 := by
  unfold F_Model_rankOf
  rw [F_Model_rankOf_L6]
  simp only [bnd]
  rw [if_pos (by rw [h]; exact Int32.le_refl _)]
theorem chalk0 {p j : Int32} {vs : Nat → Int32} (h : vs (F_Model_at p 2).toNatClampNeg = 0) : F_Model_hasChalk p j vs = 0 := by
  unfold F_Model_hasChalk
  simp only [bnd]
  rw [if_pos (rank0 h)]
theorem rubs0 {p j : Int32} {vs : Nat → Int32} (h : vs (F_Model_at p 2).toNatClampNeg = 0) : F_Model_rubs p j vs = vs := by
  unfold F_Model_rubs
  simp only [bnd]
  rw [if_pos (rank0 h)]
-- snip: nothing falls off a whole cloth
/-- the reference's state with joint j cut -/
abbrev vz (j : Nat) (x y : Int32) : Nat → Int32 := upd (upd (upd (upd ms_0 ((0 : Int32) + nI j).toNatClampNeg 1) ((82 : Int32) + nI j).toNatClampNeg (-6)) (F_Model_at 0 0).toNatClampNeg x) (F_Model_at 0 5).toNatClampNeg y
theorem vz_val {j : Nat} (hj : j < 82) {x y : Int32} {i : Nat} (h : i ≠ j) (h2 : i ≠ 82 + j) (h3 : i ≠ 212) (h4 : i ≠ 217) : vz j x y i = ms_0 i := by
  unfold vz
  rw [show (0 : Int32) + nI j = nI (0 + j) from nI_add 0 j, show (82 : Int32) + nI j = nI (82 + j) from nI_add 82 j, nI_clamp (by omega), nI_clamp (by omega), show (F_Model_at 0 0).toNatClampNeg = 212 by decide +kernel, show (F_Model_at 0 5).toNatClampNeg = 217 by decide +kernel]
  rw [pk_un h4, pk_un h3, pk_un h2, pk_un (by omega)]
theorem gone_eq {vs : Nat → Int32} {c : Nat} (hc : c < 48) (h : vs (164 + c) = ms_0 (164 + c)) : F_Model_isGone (nI c) vs = 0 := by
  have e : (164 : Int32) + nI c = nI (164 + c) := nI_add 164 c
  have h1 : F_Model_isGone (nI c) vs = F_Model_isGone (nI c) ms_0 := by
    unfold F_Model_isGone
    rw [e, nI_clamp (by omega), h]
  rw [h1]; exact g0 ⟨c, hc⟩
theorem first_nat {j : Nat} (hj : j < 82) : ∃ c, c < 48 ∧ F_Model_first (nI j) = nI c := by
  obtain ⟨c, hc, e⟩ := vp_in_of (first_in (vp_in_nI hj (by decide))) (by decide)
  exact ⟨c, hc, e⟩
theorem second_nat {j : Nat} (hj : j < 82) : ∃ c, c < 48 ∧ F_Model_second (nI j) = nI c := by
  obtain ⟨c, hc, e⟩ := vp_in_of (second_in (vp_in_nI hj (by decide))) (by decide)
  exact ⟨c, hc, e⟩
theorem holds_eq {vs : Nat → Int32} {j : Nat} (hj : j < 82) (hg : ∀ c, c < 48 → F_Model_isGone (nI c) vs = 0) (h : vs j = ms_0 j) : F_Model_holds (nI j) vs ≠ 0 := by
  obtain ⟨a, ha, ea⟩ := first_nat hj
  obtain ⟨b, hb, eb⟩ := second_nat hj
  have hv : F_Model_isVoid (nI j) vs = 0 := by
    unfold F_Model_isVoid
    simp only [bnd]
    rw [ea, eb, if_pos (hg a ha), if_pos (hg b hb)]
  have e : (0 : Int32) + nI j = nI (0 + j) := nI_add 0 j
  have hs : vs ((0 : Int32) + nI j).toNatClampNeg = 0 := by
    rw [e, nI_clamp (by omega), Nat.zero_add, h]
    unfold ms_0
    rw [if_neg (by omega), if_neg (by omega)]
  unfold F_Model_holds
  simp only [bnd]
  rw [if_pos hv, if_pos hs]
  decide
theorem vz_lay {j : Nat} (hj : j < 82) {x y : Int32} {vlb : Nat → Int32} : (F_Model_fallsBy (nI j) (vz j x y) vlb).1 = -6 := by
  have hg : ∀ c, c < 48 → F_Model_isGone (nI c) (vz j x y) = 0 := fun c hc => gone_eq hc (vz_val hj (by omega) (by omega) (by omega) (by omega))
  exact falls_zero (vp_in_nI hj (by decide)) (lay_zero (b := j) (by omega) (fun i hi hij e => hij ((nI_eq (by omega) (by omega)).mp e)) hg (fun i hi hij => holds_eq hi hg (vz_val hj hij (by omega) (by omega) (by omega))))
theorem ms245 : ms_0 (245 : Int32).toNatClampNeg = 0 := by decide +kernel
theorem m115 {j : Nat} (hj : j < 82) : (F_Model_snips (nI j) ms_0 (fun _ => 0)).1 = 0 := by
  have hr : F_Model_reason (nI j) ms_0 = 0 := (by decide +kernel : ∀ j : Fin 82, F_Model_reason (nI j.val) ms_0 = 0) ⟨j, hj⟩
  have hc1 : (upd (upd ms_0 ((0 : Int32) + nI j).toNatClampNeg 1) ((82 : Int32) + nI j).toNatClampNeg (-6)) (F_Model_at ((1 : Int32) - 0) 2).toNatClampNeg = 0 := (by decide +kernel : ∀ j : Fin 82, (upd (upd ms_0 ((0 : Int32) + nI j.val).toNatClampNeg 1) ((82 : Int32) + nI j.val).toNatClampNeg (-6)) (F_Model_at ((1 : Int32) - 0) 2).toNatClampNeg = 0) ⟨j, hj⟩
  have hc2 : (upd (upd ms_0 ((0 : Int32) + nI j).toNatClampNeg 1) ((82 : Int32) + nI j).toNatClampNeg (-6)) (F_Model_at 0 2).toNatClampNeg = 0 := (by decide +kernel : ∀ j : Fin 82, (upd (upd ms_0 ((0 : Int32) + nI j.val).toNatClampNeg 1) ((82 : Int32) + nI j.val).toNatClampNeg (-6)) (F_Model_at 0 2).toNatClampNeg = 0) ⟨j, hj⟩
  have hv0 : ∀ x y, vz j x y (F_Model_at 0 2).toNatClampNeg = 0 := fun x y => by
    rw [show (F_Model_at 0 2).toNatClampNeg = 214 by decide +kernel, vz_val hj (by omega) (by omega) (by omega) (by omega)]; decide +kernel
  have hv1 : ∀ x y, vz j x y (F_Model_at 1 2).toNatClampNeg = 0 := fun x y => by
    rw [show (F_Model_at 1 2).toNatClampNeg = 230 by decide +kernel, vz_val hj (by omega) (by omega) (by omega) (by omega)]; decide +kernel
  unfold F_Model_snips
  simp only [bnd]
  rw [if_neg (yj (vp_in_nI hj (by decide))).2, if_pos (by rw [hr]; decide), ms245, if_pos (chalk0 hc1), if_pos (chalk0 hc2)]
  rw [rubs0 (p := 0) (j := nI j) (hv0 _ _), rubs0 (p := 1) (j := nI j) (hv1 _ _)]
  rw [if_pos (vz_lay hj)]
  (repeat' split) <;> rfl
theorem eq_1 (y1 : Int32) : fC 115 y1 = fM 115 y1 := by
  rw [fM115]
  by_cases h : vp_in y1 82
  · obtain ⟨j, hj, rfl⟩ := vp_in_of h (by decide)
    rw [m115 hj]; exact c115 ⟨j, hj⟩
  · rw [fC_out (by decide) h, m115o h]
-- of
abbrev oC (y w : Int32) : Int32 := F_TC_of y w 0 0 140185576636287 1099511627775 (fun _ => 0) (fun _ => -6) 0 (fun _ => 0) 0 (fun _ => 0)
theorem o0 : ∀ j : Fin 82, oC (nI j.val) 0 = F_Model_of (nI j.val) 0 ms_0 := by decide +kernel
theorem o1 : ∀ j : Fin 82, oC (nI j.val) 1 = F_Model_of (nI j.val) 1 ms_0 := by decide +kernel
theorem o2 : ∀ j : Fin 82, oC (nI j.val) 2 = F_Model_of (nI j.val) 2 ms_0 := by decide +kernel
theorem o3 : ∀ j : Fin 82, oC (nI j.val) 3 = F_Model_of (nI j.val) 3 ms_0 := by decide +kernel
theorem o4 : ∀ j : Fin 82, oC (nI j.val) 4 = F_Model_of (nI j.val) 4 ms_0 := by decide +kernel
theorem o5 : ∀ j : Fin 82, oC (nI j.val) 5 = F_Model_of (nI j.val) 5 ms_0 := by decide +kernel
theorem o6 : ∀ j : Fin 82, oC (nI j.val) 6 = F_Model_of (nI j.val) 6 ms_0 := by decide +kernel
theorem eq_6 (y1 y2 : Int32) : oC y1 y2 = F_Model_of y1 y2 ms_0 := by
  by_cases h : vp_in y1 82
  · by_cases e0 : y2 = 0
    · subst e0; exact j82 (P := fun y => oC y 0 = F_Model_of y 0 ms_0) o0 h
    by_cases e1 : y2 = 1
    · subst e1; exact j82 (P := fun y => oC y 1 = F_Model_of y 1 ms_0) o1 h
    by_cases e2 : y2 = 2
    · subst e2; exact j82 (P := fun y => oC y 2 = F_Model_of y 2 ms_0) o2 h
    by_cases e3 : y2 = 3
    · subst e3; exact j82 (P := fun y => oC y 3 = F_Model_of y 3 ms_0) o3 h
    by_cases e4 : y2 = 4
    · subst e4; exact j82 (P := fun y => oC y 4 = F_Model_of y 4 ms_0) o4 h
    by_cases e5 : y2 = 5
    · subst e5; exact j82 (P := fun y => oC y 5 = F_Model_of y 5 ms_0) o5 h
    by_cases e6 : y2 = 6
    · subst e6; exact j82 (P := fun y => oC y 6 = F_Model_of y 6 ms_0) o6 h
    unfold oC F_TC_of F_Model_of
    simp only [bnd]
    rw [if_neg (yj h).1, if_neg (yj h).2, if_neg e0, if_neg e1, if_neg e2, if_neg e3, if_neg e4, if_neg e5, if_neg e6, if_neg e0, if_neg e1, if_neg e2, if_neg e3, if_neg e4, if_neg e5, if_neg e6]
  · unfold oC F_TC_of F_Model_of
    simp only [bnd]
    rw [if_pos (nj h).1, if_pos (nj h).2]
-- cell
abbrev cC (y w : Int32) : Int32 := F_TC_cell y w 0 140185576636287 1099511627775
theorem cc0 : ∀ j : Fin 48, cC (nI j.val) 0 = (F_Model_cell (nI j.val) 0 ms_0 (fun _ => 0)).1 := by decide +kernel
theorem cc1 : ∀ j : Fin 48, cC (nI j.val) 1 = 48 := by decide +kernel
theorem cc2 : ∀ j : Fin 48, cC (nI j.val) 2 = 0 := by decide +kernel
theorem cc3 : ∀ j : Fin 48, cC (nI j.val) 3 = (F_Model_cell (nI j.val) 3 ms_0 (fun _ => 0)).1 := by decide +kernel
theorem eq_7 (y1 y2 : Int32) : cC y1 y2 = (F_Model_cell y1 y2 ms_0 (fun _ => 0)).1 := by
  by_cases h : vp_in y1 48
  · by_cases e0 : y2 = 0
    · subst e0; exact j48 (P := fun y => cC y 0 = (F_Model_cell y 0 ms_0 (fun _ => 0)).1) cc0 h
    by_cases e1 : y2 = 1
    · subst e1
      obtain ⟨c, hc, rfl⟩ := vp_in_of h (by decide)
      rw [cc1 ⟨c, hc⟩]
      unfold F_Model_cell F_Model_pieceOf
      dsimp only [bnd]
      rw [if_neg (yc h).2, if_neg (by decide), if_pos rfl, if_pos (g0 ⟨c, hc⟩), if_pos rfl, nI_clamp (by omega), lay0 c hc, cellsOf_all lay0]
    by_cases e2 : y2 = 2
    · subst e2
      obtain ⟨c, hc, rfl⟩ := vp_in_of h (by decide)
      rw [cc2 ⟨c, hc⟩]
      unfold F_Model_cell F_Model_pieceOf
      dsimp only [bnd]
      rw [if_neg (yc h).2, if_neg (by decide), if_neg (by decide), if_pos rfl, if_pos (g0 ⟨c, hc⟩), if_neg (by decide), nI_clamp (by omega), lay0 c hc]
    by_cases e3 : y2 = 3
    · subst e3; exact j48 (P := fun y => cC y 3 = (F_Model_cell y 3 ms_0 (fun _ => 0)).1) cc3 h
    unfold cC F_TC_cell F_Model_cell
    simp only [bnd]
    rw [if_neg (yc h).1, if_neg (yc h).2, if_neg e0, if_neg e1, if_neg e2, if_neg e3, if_neg e0, if_neg e1, if_neg e2, if_neg e3]
  · unfold cC F_TC_cell F_Model_cell
    simp only [bnd]
    rw [if_pos (nc h).1, if_pos (nc h).2]
