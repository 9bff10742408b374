-- player, chalked
abbrev pC (p w : Int32) : Int32 := F_TC_player p w 0 0 5 0 0 0 0 0 0 0 5 0 0 0 0 0
theorem in17b {x : Int32} (h : ¬ F_Model_in x 1 7 = 0) : 1 ≤ x.toInt ∧ x.toInt ≤ 7 := by
  unfold F_Model_in at h
  by_cases h0 : x < 1
  · rw [if_pos h0] at h; exact absurd rfl h
  · rw [if_neg h0] at h
    by_cases h1 : (7 : Int32) < x
    · rw [if_pos h1] at h; exact absurd rfl h
    · rw [Int32.lt_iff_toInt_lt] at h0 h1
      have e1 : (1 : Int32).toInt = 1 := rfl
      have e2 : (7 : Int32).toInt = 7 := rfl
      omega
theorem nin17 {x : Int32} (e1 : ¬ x = 1) (e2 : ¬ x = 2) (e3 : ¬ x = 3) (e4 : ¬ x = 4) (e5 : ¬ x = 5) (e6 : ¬ x = 6) (e7 : ¬ x = 7) : F_Model_in x 1 7 = 0 := by
  refine Decidable.byContradiction fun q => ?_
  have h := in17b q
  rcases (show x.toInt = 1 ∨ x.toInt = 2 ∨ x.toInt = 3 ∨ x.toInt = 4 ∨ x.toInt = 5 ∨ x.toInt = 6 ∨ x.toInt = 7 by omega) with e | e | e | e | e | e | e
  · exact e1 (Int32.toInt_inj.mp e)
  · exact e2 (Int32.toInt_inj.mp e)
  · exact e3 (Int32.toInt_inj.mp e)
  · exact e4 (Int32.toInt_inj.mp e)
  · exact e5 (Int32.toInt_inj.mp e)
  · exact e6 (Int32.toInt_inj.mp e)
  · exact e7 (Int32.toInt_inj.mp e)
theorem nplay {p : Int32} (h0 : ¬ p = 0) (h1 : ¬ p = 1) : F_Game_isPlayer p = 0 ∧ F_Model_in p 0 1 = 0 := by
  refine ⟨by unfold F_Game_isPlayer; rw [if_neg h0, if_neg h1], Decidable.byContradiction fun q => ?_⟩
  rcases in01 q with e | e
  · exact h0 e
  · exact h1 e
theorem eq_8 (y1 y2 : Int32) : pC y1 y2 = F_Model_player y1 y2 ms_0 := by
  by_cases a0 : y1 = 0
  · subst a0
    by_cases e0 : y2 = 0
    · subst e0; decide +kernel
    by_cases e1 : y2 = 1
    · subst e1; decide +kernel
    by_cases e2 : y2 = 2
    · subst e2; decide +kernel
    by_cases e3 : y2 = 3
    · subst e3; decide +kernel
    by_cases e4 : y2 = 4
    · subst e4; decide +kernel
    by_cases e5 : y2 = 5
    · subst e5; decide +kernel
    by_cases e6 : y2 = 6
    · subst e6; decide +kernel
    by_cases e7 : y2 = 7
    · subst e7; decide +kernel
    unfold pC F_TC_player F_Model_player
    dsimp only [bnd]
    rw [if_neg (by decide +kernel : ¬ F_Game_isPlayer 0 = 0), if_pos rfl, if_neg e0, if_neg e1, if_neg e2, if_neg e3, if_neg e4, if_neg e5, if_neg e6, if_neg e7, if_neg (by decide +kernel : ¬ F_Model_in 0 0 1 = 0), if_neg e0, if_pos (nin17 e1 e2 e3 e4 e5 e6 e7)]
  by_cases a1 : y1 = 1
  · subst a1
    by_cases e0 : y2 = 0
    · subst e0; decide +kernel
    by_cases e1 : y2 = 1
    · subst e1; decide +kernel
    by_cases e2 : y2 = 2
    · subst e2; decide +kernel
    by_cases e3 : y2 = 3
    · subst e3; decide +kernel
    by_cases e4 : y2 = 4
    · subst e4; decide +kernel
    by_cases e5 : y2 = 5
    · subst e5; decide +kernel
    by_cases e6 : y2 = 6
    · subst e6; decide +kernel
    by_cases e7 : y2 = 7
    · subst e7; decide +kernel
    unfold pC F_TC_player F_Model_player
    dsimp only [bnd]
    rw [if_neg (by decide +kernel : ¬ F_Game_isPlayer 1 = 0), if_neg (by decide : ¬ (1 : Int32) = 0), if_neg e0, if_neg e1, if_neg e2, if_neg e3, if_neg e4, if_neg e5, if_neg e6, if_neg e7, if_neg (by decide +kernel : ¬ F_Model_in 1 0 1 = 0), if_neg e0, if_pos (nin17 e1 e2 e3 e4 e5 e6 e7)]
  unfold pC F_TC_player F_Model_player
  simp only [bnd]
  rw [if_pos (nplay a0 a1).1, if_pos (nplay a0 a1).2]
theorem mark0 (r : Int32) (f : Nat → Int32) : F_Tailor_markAt r 0 f = -1 := by
  unfold F_Tailor_markAt
  by_cases h : r < 0
  · rw [if_pos h]
  · rw [if_neg h, if_pos (by rw [Int32.lt_iff_toInt_lt] at h; rw [Int32.le_iff_toInt_le]; omega)]
theorem in_m1 (r : Int32) : F_Model_in r 0 (-1) = 0 := by
  unfold F_Model_in
  by_cases h : r < 0
  · rw [if_pos h]
  · rw [if_neg h, if_pos (by
      rw [Int32.lt_iff_toInt_lt] at h ⊢
      have e1 : (0 : Int32).toInt = 0 := rfl
      have e2 : (-1 : Int32).toInt = -1 := rfl
      omega)]
abbrev kC (p r : Int32) : Int32 := F_TC_chalked p r 0 (fun _ => 0) 0 (fun _ => 0)
theorem kC_m1 (p r : Int32) : kC p r = -1 := by
  unfold kC F_TC_chalked
  simp only [bnd]
  rw [mark0]
  (repeat' split) <;> rfl
theorem eq_9 (y1 y2 : Int32) : kC y1 y2 = F_Model_chalked y1 y2 ms_0 := by
  rw [kC_m1]
  unfold F_Model_chalked
  simp only [bnd]
  by_cases a0 : y1 = 0
  · subst a0
    rw [if_neg (by decide +kernel : ¬ F_Model_in 0 0 1 = 0), show ms_0 (F_Model_at 0 2).toNatClampNeg - 1 = -1 by decide +kernel, if_pos (in_m1 y2)]
  by_cases a1 : y1 = 1
  · subst a1
    rw [if_neg (by decide +kernel : ¬ F_Model_in 1 0 1 = 0), show ms_0 (F_Model_at 1 2).toNatClampNeg - 1 = -1 by decide +kernel, if_pos (in_m1 y2)]
  rw [if_pos (nplay a0 a1).2]
-- count
abbrev nC (w : Int32) : Int32 := F_TC_count w 0 0 0 140185576636287 1099511627775 (fun _ => 0) 0 0 0 0
theorem pieces_go (vs vlb w : Nat → Int32) (hw : ∀ c, c < 48 → w c = 0) : ∀ (n k : Nat) (x1 : Int32), 1 ≤ k → k ≤ 48 → 48 - k < n → (F_Model_pieces_L11 vs vlb n (nI k) x1 w).2.1 = x1 := by
  intro n
  induction n with
  | zero => intro k x1 h1 hk hn; exact absurd hn (Nat.not_lt_zero _)
  | succ n ih =>
    intro k x1 h1 hk hn
    rw [F_Model_pieces_L11]
    by_cases c : (48 : Int32) ≤ nI k
    · rw [if_pos c]
    · have hlt : k < 48 := lp_lt rfl rfl hk c
      rw [if_neg c, nI_clamp (by omega), hw k hlt, if_neg (fun e => nI_ne0 (by omega) (by omega) e.symm), nI_1, Int32.add_zero]
      exact ih (k + 1) x1 (by omega) (by omega) (by omega)
theorem pieces1g (vlb w : Nat → Int32) (hw : ∀ c, c < 48 → w c = 0) (fu n : Nat) (hfu : fu = n + 1) (hn : 47 < n) : (F_Model_pieces_L11 ms_0 vlb fu (nI 0) 0 w).2.1 = 1 := by
  subst hfu
  rw [F_Model_pieces_L11, if_neg (by decide), nI_clamp (by omega), hw 0 (by omega), if_pos nI_0.symm, nI_1]
  exact pieces_go _ _ _ hw n (0 + 1) _ (by omega) (by omega) (by omega)
theorem pieces1 : (F_Model_pieces ms_0 (fun _ => 0)).1 = 1 := by
  unfold F_Model_pieces
  dsimp only [bnd]
  have h := pieces1g (fun _ => 0) (F_Model_layPieces (-6) 0 ms_0 (fun _ => 0)) lay0 49 48 rfl (by omega)
  rw [nI_0] at h
  exact h
theorem eq_10 (y1 : Int32) : nC y1 = (F_Model_count y1 0 0 ms_0 (fun _ => 0)).1 := by
  by_cases e0 : y1 = 0
  · subst e0; decide +kernel
  by_cases e1 : y1 = 1
  · subst e1; decide +kernel
  by_cases e2 : y1 = 2
  · subst e2; decide +kernel
  by_cases e3 : y1 = 3
  · subst e3; decide +kernel
  by_cases e4 : y1 = 4
  · subst e4; decide +kernel
  by_cases e5 : y1 = 5
  · subst e5
    rw [show nC 5 = 1 by decide +kernel]
    unfold F_Model_count
    dsimp only [bnd]
    rw [if_neg (by decide), if_neg (by decide), if_neg (by decide), if_neg (by decide), if_neg (by decide), if_pos rfl, pieces1]
  by_cases e6 : y1 = 6
  · subst e6; decide +kernel
  by_cases e7 : y1 = 7
  · subst e7; decide +kernel
  by_cases e8 : y1 = 8
  · subst e8; decide +kernel
  by_cases e9 : y1 = 9
  · subst e9; decide +kernel
  by_cases e10 : y1 = 10
  · subst e10; decide +kernel
  unfold nC F_TC_count F_Model_count
  rw [if_neg e0, if_neg e1, if_neg e2, if_neg e3, if_neg e4, if_neg e5, if_neg e6, if_neg e7, if_neg e8, if_neg e9, if_neg e10, if_neg e0, if_neg e1, if_neg e2, if_neg e3, if_neg e4, if_neg e5, if_neg e6, if_neg e7, if_neg e8, if_neg e9, if_neg e10]
-- why, ifSnipped
abbrev wC (y : Int32) : Int32 := F_TC_why y 0 0 (fun _ => 0)
theorem w0 : ∀ j : Fin 82, wC (nI j.val) = F_Model_why (nI j.val) ms_0 := by decide +kernel
theorem eq_11 (y1 : Int32) : wC y1 = F_Model_why y1 ms_0 := by
  by_cases h : vp_in y1 82
  · exact j82 (P := fun y => wC y = F_Model_why y ms_0) w0 h
  · unfold wC F_TC_why F_Model_why
    simp only [bnd]
    rw [if_pos (nj h).1, if_pos (nj h).2]
abbrev iC (y : Int32) : Int32 := F_TC_ifSnipped y 0 0 140185576636287 1099511627775 (fun _ => 0)
theorem i0 : ∀ j : Fin 82, iC (nI j.val) = 0 := by decide +kernel
theorem r0 : ∀ j : Fin 82, F_Model_reason (nI j.val) ms_0 = 0 := by decide +kernel
theorem cb0 {j : Nat} (hj : j < 82) (vlb : Nat → Int32) : (F_Model_cellsBy (nI j) ms_0 vlb).1 = 0 := cells_zero (vp_in_nI hj (by decide)) lay0
theorem eq_12 (y1 : Int32) : iC y1 = (F_Model_ifSnipped y1 ms_0 (fun _ => 0)).1 := by
  by_cases h : vp_in y1 82
  · obtain ⟨j, hj, rfl⟩ := vp_in_of h (by decide)
    rw [i0 ⟨j, hj⟩]
    unfold F_Model_ifSnipped
    dsimp only [bnd]
    rw [if_neg (yj h).2, if_pos (by rw [r0 ⟨j, hj⟩]; decide), cb0 hj]
  · unfold iC F_TC_ifSnipped F_Model_ifSnipped
    simp only [bnd]
    rw [if_pos (nj h).1, if_pos (nj h).2]
-- bestSnip, weak
abbrev bC (w : Int32) : Int32 := F_TC_bestSnip w 0 0 0 140185576636287 1099511627775 (fun _ => 0) 0 (fun _ => 0) 0 (fun _ => 0)
theorem hc0 (y : Int32) : F_Model_hasChalk (ms_0 (245 : Int32).toNatClampNeg) y ms_0 = 0 := chalk0 (by decide +kernel)
theorem best_go (what : Int32) (vlb : Nat → Int32) : ∀ (n k : Nat) (w : Nat → Int32), k ≤ 82 → 82 - k < n → (F_Model_bestSnip_L21 what ms_0 vlb n (nI k) 0 0 w).2.1 = 0 ∧ (F_Model_bestSnip_L21 what ms_0 vlb n (nI k) 0 0 w).2.2.1 = 0 := by
  intro n
  induction n with
  | zero => intro k w hk hn; exact absurd hn (Nat.not_lt_zero _)
  | succ n ih =>
    intro k w hk hn
    rw [F_Model_bestSnip_L21]
    simp only [bnd]
    by_cases c : (82 : Int32) ≤ nI k
    · rw [if_pos c]; exact ⟨rfl, rfl⟩
    · have hlt : k < 82 := lp_lt rfl rfl hk c
      rw [if_neg c, if_pos (r0 ⟨k, hlt⟩), if_pos (hc0 _), cb0 hlt, if_pos (by decide), nI_1]
      exact ih (k + 1) _ (by omega) (by omega)
theorem best0g (what : Int32) (vlb : Nat → Int32) (fu n : Nat) (hfu : fu = n + 1) (hn : 81 < n) : (F_Model_bestSnip_L21 what ms_0 vlb fu (nI 0) (-6) (-6) vlb).2.1 = 0 ∧ (F_Model_bestSnip_L21 what ms_0 vlb fu (nI 0) (-6) (-6) vlb).2.2.1 = 0 := by
  subst hfu
  rw [F_Model_bestSnip_L21]
  dsimp only [bnd]
  rw [if_neg (by decide), if_pos (r0 ⟨0, by decide⟩), if_pos (hc0 _), cb0 (by decide), if_neg (by decide), nI_1, Int32.add_zero, nI_0]
  exact best_go what vlb n (0 + 1) _ (by omega) (by omega)
theorem best0 (what : Int32) (vlb : Nat → Int32) : (F_Model_bestSnip_L21 what ms_0 vlb 83 0 (-6) (-6) vlb).2.1 = 0 ∧ (F_Model_bestSnip_L21 what ms_0 vlb 83 0 (-6) (-6) vlb).2.2.1 = 0 := by
  have h := best0g what vlb 83 82 rfl (by omega)
  rw [nI_0] at h
  exact h
theorem eq_13 (y1 : Int32) : bC y1 = (F_Model_bestSnip y1 ms_0 (fun _ => 0)).1 := by
  by_cases e0 : y1 = 0
  · subst e0
    rw [show bC 0 = 0 by decide +kernel]
    unfold F_Model_bestSnip
    dsimp only [bnd]
    rw [if_neg (by decide +kernel : ¬ F_Model_in 0 0 1 = 0), if_pos rfl]
    rw [(best0 0 _).2]
  by_cases e1 : y1 = 1
  · subst e1
    rw [show bC 1 = 0 by decide +kernel]
    unfold F_Model_bestSnip
    dsimp only [bnd]
    rw [if_neg (by decide +kernel : ¬ F_Model_in 1 0 1 = 0), if_neg (by decide)]
    rw [(best0 1 _).1]
  unfold bC F_TC_bestSnip F_Model_bestSnip
  simp only [bnd]
  rw [if_neg e0, if_neg e1, if_pos (nplay e0 e1).2]
theorem weak_go (vlb : Nat → Int32) : ∀ (n k : Nat) (x1 : Int32) (w : Nat → Int32), k ≤ 82 → 82 - k < n → (F_Model_weak_L4 ms_0 vlb n (nI k) x1 w).2.1 = x1 := by
  intro n
  induction n with
  | zero => intro k x1 w hk hn; exact absurd hn (Nat.not_lt_zero _)
  | succ n ih =>
    intro k x1 w hk hn
    rw [F_Model_weak_L4]
    simp only [bnd]
    by_cases c : (82 : Int32) ≤ nI k
    · rw [if_pos c]
    · have hlt : k < 82 := lp_lt rfl rfl hk c
      rw [if_neg c, if_pos (by decide +kernel : F_Model_isOver ms_0 = 0), if_neg (h0 ⟨k, hlt⟩), cb0 hlt, if_pos (by decide), nI_1, Int32.add_zero]
      exact ih (k + 1) x1 _ (by omega) (by omega)
theorem eq_14 : F_TC_weak 0 0 140185576636287 1099511627775 = (F_Model_weak ms_0 (fun _ => 0)).1 := by
  rw [show F_TC_weak 0 0 140185576636287 1099511627775 = 0 by decide +kernel]
  have h := weak_go (fun _ => 0) 83 0 0 (fun _ => 0) (by omega) (by omega)
  rw [nI_0] at h
  unfold F_Model_weak
  dsimp only [bnd]
  rw [h]
-- together
abbrev gC (y1 y2 y3 : Int32) : Int32 := F_TC_together y1 y2 y3 0 140185576636287 1099511627775 (fun _ => 0)
theorem pc0 : ∀ j : Fin 48, F_Cloth_pieceOf (nI j.val) 0 140185576636287 1099511627775 = 281474976710655 := by decide +kernel
theorem pb0 : ∀ j : Fin 48, F_Cloth_pieceIfBluffedHeld (nI j.val) 0 140185576636287 1099511627775 (fun _ => 0) = 281474976710655 := by decide +kernel
theorem ha0 : ∀ j : Fin 48, F_Cloth_has 281474976710655 (nI j.val) = 1 := by decide +kernel
theorem ig0 : ∀ j : Fin 48, F_Cloth_isGone (nI j.val) 0 = 0 := by decide +kernel
theorem eq_15 (y1 y2 y3 : Int32) : gC y1 y2 y3 = (F_Model_together y1 y2 y3 ms_0 (fun _ => 0)).1 := by
  by_cases h1 : vp_in y1 48
  · by_cases h2 : vp_in y2 48
    · have n1 := yc h1
      have n2 := yc h2
      obtain ⟨a, ha, rfl⟩ := vp_in_of h1 (by decide)
      obtain ⟨b, hb, rfl⟩ := vp_in_of h2 (by decide)
      unfold gC F_TC_together F_Model_together
      dsimp only [bnd]
      rw [if_neg n1.1, if_neg n2.1, if_neg n1.2, if_neg n2.2, nI_clamp (show a < 2 ^ 31 by omega), nI_clamp (show b < 2 ^ 31 by omega)]
      by_cases e0 : y3 = 0
      · subst e0
        rw [if_pos rfl, if_pos (ig0 ⟨a, ha⟩), if_pos (ig0 ⟨b, hb⟩), pc0 ⟨a, ha⟩, ha0 ⟨b, hb⟩, if_neg (by decide +kernel : ¬ F_Model_in 0 0 1 = 0), if_pos (g0 ⟨a, ha⟩), if_pos (g0 ⟨b, hb⟩), if_neg (by decide), if_pos (by rw [lay0 a ha, lay0 b hb])]
        decide +kernel
      by_cases e1 : y3 = 1
      · subst e1
        rw [if_neg (by decide), if_pos rfl, if_pos (ig0 ⟨a, ha⟩), if_pos (ig0 ⟨b, hb⟩), pb0 ⟨a, ha⟩, ha0 ⟨b, hb⟩, if_neg (by decide +kernel : ¬ F_Model_in 1 0 1 = 0), if_pos (g0 ⟨a, ha⟩), if_pos (g0 ⟨b, hb⟩), if_pos rfl, if_pos (by rw [lay0 a ha, lay0 b hb])]
        decide +kernel
      rw [if_neg e0, if_neg e1, if_pos (nplay e0 e1).2]
    · unfold gC F_TC_together F_Model_together
      dsimp only [bnd]
      rw [if_neg (yc h1).1, if_pos (nc h2).1, if_neg (yc h1).2, if_pos (nc h2).2]
  · unfold gC F_TC_together F_Model_together
    simp only [bnd]
    rw [if_pos (nc h1).1, if_pos (nc h1).2]
-- the rest but put
theorem eq_17 : (F_TC_wipe 0).1 = (F_Model_wipe 0).1 := by decide +kernel
theorem eq_18 : F_TC_fault 0 (fun _ => 0) = F_Model_fault 0 (fun _ => 0) := by decide +kernel
theorem eq_19 : F_TC_carryOut 0 (fun _ => 0) = F_Model_carryOut 0 (fun _ => 0) := by decide +kernel
theorem eq_20 : F_TC_undo = F_Model_undo := by decide +kernel
theorem eq_21 (y1 : Int32) : F_TC_save y1 0 = (F_Model_save y1 ms_0 (fun _ => 0) (fun _ => 0)).1 := by
  by_cases e0 : y1 = 0
  · subst e0; decide +kernel
  by_cases e1 : y1 = 1
  · subst e1; decide +kernel
  unfold F_TC_save F_Model_save
  simp only [bnd]
  rw [if_pos (by unfold F_TC_isSlot; rw [if_neg e0, if_neg e1]), if_pos (nplay e0 e1).2]
theorem eq_22 (y1 : Int32) : F_TC_restore y1 = F_Model_restore y1 := by
  by_cases e0 : y1 = 0
  · subst e0; decide +kernel
  by_cases e1 : y1 = 1
  · subst e1; decide +kernel
  unfold F_TC_restore F_Model_restore
  simp only [bnd]
  rw [if_pos (by unfold F_TC_isSlot; rw [if_neg e0, if_neg e1]), if_pos (nplay e0 e1).2]
theorem hbad_T : ¬ F_Pad_firstFault 0 (fun _ => 0) = -6 := by decide +kernel
theorem hbad_M : ¬ F_Model_wrong 0 (fun _ => 0) = -6 := by decide +kernel
theorem hfin_M : ¬ F_Model_wrong 0 (fun _ => 0) = -99 := by decide +kernel
theorem mi_0 : MI ms_0 := ⟨Or.inl (by decide +kernel), ⟨0, by omega, by decide +kernel⟩, ⟨0, by omega, by decide +kernel⟩⟩
-- put
def Rk (ch : Int64) : Nat → Int64
  | 0 => ch
  | k + 1 => ((Rk ch k).toUInt64 >>> ((8 : Int32).toInt64.toUInt64 &&& Int64.toUInt64 63)).toInt64
theorem Rk_bv (ch : Int64) : ∀ k, (Rk ch k).toBitVec = ch.toBitVec >>> (8 * k)
  | 0 => (BitVec.ushiftRight_zero ch.toBitVec).symm
  | k + 1 => by
    show ((Rk ch k).toBitVec >>> ((((8 : Int32).toInt64.toUInt64 &&& Int64.toUInt64 63).toBitVec) % 64)) = _
    rw [BitVec.ushiftRight_eq', Rk_bv ch k, show ((((8 : Int32).toInt64.toUInt64 &&& Int64.toUInt64 63).toBitVec) % 64).toNat = 8 by decide +kernel, ← BitVec.shiftRight_add, Nat.mul_succ]
theorem amt : ∀ k : Fin 8, ((((8 : Int32) * nI k.val).toInt64.toUInt64 &&& Int64.toUInt64 63).toBitVec % 64).toNat = 8 * k.val := by decide +kernel
theorem Sk_R (ch : Int64) {k : Nat} (hk : k < 8) : (ch.toUInt64 >>> (((8 : Int32) * nI k).toInt64.toUInt64 &&& Int64.toUInt64 63)).toInt64 = Rk ch k := by
  apply Int64.toBitVec.inj
  rw [Rk_bv]
  show (ch.toBitVec >>> ((((8 : Int32) * nI k).toInt64.toUInt64 &&& Int64.toUInt64 63).toBitVec % 64)) = _
  rw [BitVec.ushiftRight_eq', amt ⟨k, hk⟩]
theorem byte (v : Int64) : ∃ q : Nat, q < 256 ∧ v &&& 255 = lN q := by
  refine ⟨(v &&& 255).toBitVec.toNat, ?_, ?_⟩
  · show (v.toBitVec &&& (255 : Int64).toBitVec).toNat < 256
    rw [BitVec.toNat_and]
    exact Nat.lt_of_le_of_lt Nat.and_le_right (by decide)
  · apply Int64.toBitVec.inj
    show _ = BitVec.ofNat 64 (v &&& 255).toBitVec.toNat
    simp
theorem lg33 : ∀ q : Fin 256, lg_cmp (lN q.val) 33 < 0 ↔ q.val < 33 := by decide +kernel
theorem lg126 : ∀ q : Fin 256, lg_cmp (lN q.val) 126 ≤ 0 ↔ q.val ≤ 126 := by decide +kernel
theorem in33 : ∀ q : Fin 256, F_Model_in (lN q.val).toInt32 33 126 = 0 ↔ ¬ (33 ≤ q.val ∧ q.val ≤ 126) := by decide +kernel
theorem lgz {x : Int64} : lg_cmp x 0 = 0 ↔ x = 0 := by
  constructor
  · intro h
    by_cases h1 : (0 : Int64) < x
    · simp [lg_cmp, h1] at h
    · by_cases h2 : x = 0
      · exact h2
      · simp [lg_cmp, h1, h2] at h
  · intro h; subst h; decide +kernel
theorem Rk_0 {ch : Int64} {k : Nat} (h : Rk ch k = 0) : Rk ch (k + 1) = 0 := by
  show ((Rk ch k).toUInt64 >>> ((8 : Int32).toInt64.toUInt64 &&& Int64.toUInt64 63)).toInt64 = 0
  rw [h]; decide +kernel
theorem bad_go (ch : Int64) (vln : Int32) (vpd : Nat → Int32) : ∀ (n k : Nat) (x3 : Int32), k ≤ 8 → 8 - k < n → (F_Model_put_L8 ch vln vpd n (nI k) 1 x3).2.1 = 1 := by
  intro n
  induction n with
  | zero => intro k x3 hk hn; exact absurd hn (Nat.not_lt_zero _)
  | succ n ih =>
    intro k x3 hk hn
    rw [F_Model_put_L8]
    simp only [bnd]
    by_cases c : (8 : Int32) ≤ nI k
    · rw [if_pos c]
    · have hlt : k < 8 := lp_lt rfl rfl hk c
      rw [if_neg c, nI_1]
      have d : ¬ (1 : Int32) = 0 := by decide
      simp only [if_neg d]
      (repeat' split) <;> exact ih (k + 1) _ (by omega) (by omega)
theorem zero_go (ch : Int64) (vln : Int32) (vpd : Nat → Int32) : ∀ (n k : Nat) (x3 : Int32), 1 ≤ k → k ≤ 8 → 8 - k < n → Rk ch k = 0 → (F_Model_put_L8 ch vln vpd n (nI k) 0 x3).2.1 = 0 ∧ (F_Model_put_L8 ch vln vpd n (nI k) 0 x3).2.2 = x3 := by
  intro n
  induction n with
  | zero => intro k x3 h1 hk hn; exact absurd hn (Nat.not_lt_zero _)
  | succ n ih =>
    intro k x3 h1 hk hn hz
    rw [F_Model_put_L8]
    dsimp only [bnd]
    by_cases c : (8 : Int32) ≤ nI k
    · rw [if_pos c]; exact ⟨rfl, rfl⟩
    · have hlt : k < 8 := lp_lt rfl rfl hk c
      rw [if_neg c, if_neg (nI_nle (by omega) (by omega)), Sk_R ch hlt, if_pos (lgz.mpr hz), if_pos rfl, nI_1, Int32.add_zero]
      exact ih (k + 1) x3 (by omega) (by omega) (by omega) (Rk_0 hz)
theorem put_go (ch : Int64) (vln : Int32) (vpd : Nat → Int32) : ∀ (n n' k : Nat), k ≤ 8 → 8 - k < n → 8 - k < n' → (k = 0 → ch ≠ 0) →
    (F_Pad_charactersIn_L4 ch n' (Rk ch k) (nI k) = 0 ∧ (F_Model_put_L8 ch vln vpd n (nI k) 0 (nI k)).2.1 = 1) ∨
    ((F_Model_put_L8 ch vln vpd n (nI k) 0 (nI k)).2.1 = 0 ∧ ∃ m : Nat, 1 ≤ m ∧ m ≤ 8 ∧ F_Pad_charactersIn_L4 ch n' (Rk ch k) (nI k) = nI m ∧ (F_Model_put_L8 ch vln vpd n (nI k) 0 (nI k)).2.2 = nI m) := by
  intro n
  induction n with
  | zero => intro n' k hk hn; exact absurd hn (Nat.not_lt_zero _)
  | succ n ih =>
    intro n' k hk hn hn' hz
    obtain ⟨n2, rfl⟩ : ∃ n2, n' = n2 + 1 := ⟨n' - 1, by omega⟩
    by_cases c : (8 : Int32) ≤ nI k
    · have hk9 : 8 ≤ k := (nI_leI (by decide) (by omega)).mp c
      have hk8 : k = 8 := by omega
      subst hk8
      refine Or.inr ⟨?_, 8, by omega, by omega, ?_, ?_⟩
      · rw [F_Model_put_L8]; simp only [bnd]; rw [if_pos c]
      · rw [F_Pad_charactersIn_L4, if_pos c]; split <;> rfl
      · rw [F_Model_put_L8]; simp only [bnd]; rw [if_pos c]
    · have hlt : k < 8 := lp_lt rfl rfl hk c
      by_cases hr : Rk ch k = 0
      · have hk1 : 1 ≤ k := by
          rcases Nat.eq_zero_or_pos k with e | e
          · subst e; exact absurd hr (hz rfl)
          · exact e
        obtain ⟨h1, h2⟩ := zero_go ch vln vpd (n + 1) k (nI k) hk1 hk hn hr
        refine Or.inr ⟨h1, k, hk1, hk, ?_, h2⟩
        rw [F_Pad_charactersIn_L4, if_pos (lgz.mpr hr)]
      · obtain ⟨q, hq, eq⟩ := byte (Rk ch k)
        have hch : F_Pad_charactersIn_L4 ch (n2 + 1) (Rk ch k) (nI k) = if 33 ≤ q ∧ q ≤ 126 then F_Pad_charactersIn_L4 ch n2 (Rk ch (k + 1)) (nI (k + 1)) else 0 := by
          rw [F_Pad_charactersIn_L4, if_neg (fun h => hr (lgz.mp h)), if_neg c, eq, nI_1]
          by_cases a : q < 33
          · rw [if_pos ((lg33 ⟨q, hq⟩).mpr a), if_neg (by omega)]
          · rw [if_neg (fun h => a ((lg33 ⟨q, hq⟩).mp h))]
            by_cases b : q ≤ 126
            · rw [if_pos ((lg126 ⟨q, hq⟩).mpr b), if_pos (by omega)]; rfl
            · rw [if_neg (fun h => b ((lg126 ⟨q, hq⟩).mp h)), if_neg (by omega)]
        have hpt : ∀ x3, F_Model_put_L8 ch vln vpd (n + 1) (nI k) 0 x3 = if 33 ≤ q ∧ q ≤ 126 then F_Model_put_L8 ch vln vpd n (nI (k + 1)) 0 (x3 + 1) else F_Model_put_L8 ch vln vpd n (nI (k + 1)) 1 (x3 + 1) := by
          intro x3
          rw [F_Model_put_L8]
          simp only [bnd]
          rw [if_neg c, Sk_R ch hlt, eq, nI_1]
          simp only [if_pos trivial]
          by_cases a : 33 ≤ q ∧ q ≤ 126
          · rw [if_pos a, if_neg (fun h => (in33 ⟨q, hq⟩).mp h a)]
            split
            · rfl
            · rw [if_neg (fun h => hr (lgz.mp h))]
          · rw [if_neg a, if_pos ((in33 ⟨q, hq⟩).mpr a)]
            split
            · rfl
            · rw [if_neg (fun h => hr (lgz.mp h))]
        rw [hch, hpt]
        by_cases a : 33 ≤ q ∧ q ≤ 126
        · rw [if_pos a, if_pos a, nI_1]
          exact ih n2 (k + 1) (by omega) (by omega) (by omega) (fun h => absurd h (by omega))
        · rw [if_neg a, if_neg a]
          exact Or.inl ⟨rfl, bad_go ch vln vpd n (k + 1) _ (by omega) (by omega)⟩
theorem l126 (ch : Int64) (vln : Int32) (vpd : Nat → Int32) : ∀ (n : Nat) (x5 x4 x3 : Int32) (w : Nat → Int32), (F_Model_put_L126 ch vln vpd n x5 x4 x3 w).2.2.1 = x3 := by
  intro n
  induction n with
  | zero => intro x5 x4 x3 w; rfl
  | succ n ih =>
    intro x5 x4 x3 w
    rw [F_Model_put_L126]
    split
    · rfl
    · exact ih _ _ _ _
theorem app_go (ch : Int64) (ln : Int32) (fsg : Nat → Int32) {mm : Nat} (hm : mm ≤ 8) : ∀ (n k : Nat) (x4 x3 w01 : Int32) (f : Nat → Int32), k ≤ mm → mm - k < n → x4 = nI (mm - k) - 1 → w01 = nI k → (F_Pad_append_L31 ch ln fsg n x4 x3 w01 f).2.2.1 = nI mm := by
  intro n
  induction n with
  | zero => intro k x4 x3 w01 f hk hn; exact absurd hn (Nat.not_lt_zero _)
  | succ n ih =>
    intro k x4 x3 w01 f hk hn e1 e2
    rw [F_Pad_append_L31]
    by_cases c : x4 < 0
    · rw [if_pos c]
      show w01 = nI mm
      have : k = mm := by
        rcases Nat.lt_or_ge k mm with h | h
        · obtain ⟨m2, hm2⟩ : ∃ m2, mm - k = m2 + 1 := ⟨mm - k - 1, by omega⟩
          rw [e1, hm2, nI_pred] at c
          exact absurd c (nI_pos (by omega))
        · omega
      rw [e2, this]
    · rw [if_neg c]
      have hlt : k < mm := dn_lt e1 hk (by omega) c
      exact ih (k + 1) _ _ _ _ (by omega) (by omega) (dn_step e1 hlt) (by rw [e2]; exact nI_1 k)
theorem put_eq (ch : Int64) : (F_TC_put ch 0 (fun _ => 0)).1 = (F_Model_put ch 0 (fun _ => 0)).1 := by
  have hT : (F_TC_put ch 0 (fun _ => 0)).1 = if F_Pad_charactersIn ch = 0 then -2 else if F_Pad_charactersIn ch ≤ 80 - 0 then (F_Pad_append_L31 ch 0 (fun _ => 0) 9 (F_Pad_charactersIn ch - 1) (F_Pad_charactersIn ch) 0 (fun _ => 0)).2.2.1 else -4 := by
    unfold F_TC_put F_Pad_append
    simp only [bnd]
    (repeat' split) <;> rfl
  have hM : (F_Model_put ch 0 (fun _ => 0)).1 = if (F_Model_put_L8 ch 0 (fun _ => 0) 9 0 0 0).2.1 = 0 then (if 0 + (F_Model_put_L8 ch 0 (fun _ => 0) 9 0 0 0).2.2 ≤ 80 then 0 + (F_Model_put_L8 ch 0 (fun _ => 0) 9 0 0 0).2.2 else -4) else -2 := by
    unfold F_Model_put
    simp only [bnd, l126]
    (repeat' split) <;> rfl
  rw [hT, hM]
  by_cases hz : ch = 0
  · subst hz
    decide +kernel
  · have h := put_go ch 0 (fun _ => 0) 9 9 0 (by omega) (by omega) (by omega) (fun _ => hz)
    rw [nI_0] at h
    have e : F_Pad_charactersIn_L4 ch 9 (Rk ch 0) 0 = F_Pad_charactersIn ch := rfl
    rw [e] at h
    rcases h with ⟨h1, h2⟩ | ⟨h1, m, hm1, hm8, h2, h3⟩
    · rw [h1, if_pos rfl, h2, if_neg (by decide)]
    · rw [h1, if_pos rfl, h2, h3, if_neg (nI_ne0 (by omega) (by omega)), if_pos (by
        rw [show (80 : Int32) - 0 = nI 80 by decide +kernel]; exact (nI_leI (by omega) (by omega)).mpr (by omega)), Int32.zero_add, if_pos (by
        exact (nI_leI (b := 80) (by omega) (by omega)).mpr (by omega))]
      exact app_go ch 0 _ hm8 9 0 _ _ _ _ (by omega) (by omega) rfl nI_0.symm
theorem eq_16 (y1 y2 : Int32) : (F_TC_put (((y1.toInt64) <<< ((32 : Int32).toInt64 &&& 63)) ||| (y2.toInt64 &&& 4294967295)) 0 (fun _ => 0)).1 = (F_Model_put (((y1.toInt64) <<< ((32 : Int32).toInt64 &&& 63)) ||| (y2.toInt64 &&& 4294967295)) 0 (fun _ => 0)).1 := put_eq _
