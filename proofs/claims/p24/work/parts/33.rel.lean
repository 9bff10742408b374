-- the weak relation: both in bounds, the same pad
abbrev PC (a : Int32) (f : Nat → Int32) (z : Int32 × Int32 × Int32 × Int32 × (Nat → Int32) × (Nat → Int32) × (Nat → Int32) × Int32) : Prop := z.2.2.2.1 = a ∧ MI z.2.2.2.2.1 ∧ z.2.2.2.2.2.1 = f
theorem co_MI (vkp vln : Int32) (vs vah vhi vpd vlb : Nat → Int32) (w03 : Int32) (w3f : Nat → Int32) : ∀ (n : Nat) (x3 x2 x1 : Int32) (w1f w5f : Nat → Int32), MI w1f → PC w03 w3f (F_Model_carryOut_kg_L26 vkp vln vs vah vhi vpd vlb n x3 x2 x1 w03 w1f w3f w5f) := by
  intro n
  induction n with
  | zero => intro x3 x2 x1 w1f w5f h; exact ⟨rfl, h, rfl⟩
  | succ n ih =>
    intro x3 x2 x1 w1f w5f h
    rw [F_Model_carryOut_kg_L26]
    repeat' first | with_reducible refine bnd_i (P := PC w03 w3f) (fun r hr => ?_) | with_reducible refine ite_i (P := PC w03 w3f) (fun _ => ?_) (fun _ => ?_)
    all_goals first | with_reducible exact ⟨rfl, h, rfl⟩ | (subst_vars; exact ih _ _ _ _ _ (does_MI h))
theorem co_f (vkp vln : Int32) (vs vah vhi vpd vlb : Nat → Int32) : F_Model_carryOut_kg vkp vln vs vah vhi vpd vlb = if F_Model_wrong vln vpd = -6 then ((F_Model_carryOut_kg_L26 vkp vln vs vah vhi vpd vlb 90 1 0 0 (F_Model_records vkp vs vhi).2 vs (F_Model_records vkp vs vhi).1 vlb).2.2.1, (F_Model_carryOut_kg_L26 vkp vln vs vah vhi vpd vlb 90 1 0 0 (F_Model_records vkp vs vhi).2 vs (F_Model_records vkp vs vhi).1 vlb).2.2.2.1, 0, (F_Model_carryOut_kg_L26 vkp vln vs vah vhi vpd vlb 90 1 0 0 (F_Model_records vkp vs vhi).2 vs (F_Model_records vkp vs vhi).1 vlb).2.2.2.2.1, vs, (F_Model_carryOut_kg_L26 vkp vln vs vah vhi vpd vlb 90 1 0 0 (F_Model_records vkp vs vhi).2 vs (F_Model_records vkp vs vhi).1 vlb).2.2.2.2.2.1, (F_Model_carryOut_kg_L26 vkp vln vs vah vhi vpd vlb 90 1 0 0 (F_Model_records vkp vs vhi).2 vs (F_Model_records vkp vs vhi).1 vlb).2.2.2.2.2.2.1) else (-3, vkp, vln, vs, vah, vhi, vlb) := by
  unfold F_Model_carryOut_kg
  dsimp only [bnd]
theorem IM_carryOut {y : MST} (h : IM y) : IM (M_carryOut y).2 := by
  unfold M_carryOut
  rw [co_f]
  by_cases c : F_Model_wrong (y.2 1) (y.1 5) = -6
  · rw [if_pos c]
    have hr := rec_IM h.2.1 h.1 h.2.2.1
    have hl := co_MI (y.2 0) (y.2 1) (y.1 0) (y.1 1) (y.1 2) (y.1 5) (y.1 6) (F_Model_records (y.2 0) (y.1 0) (y.1 2)).2 (F_Model_records (y.2 0) (y.1 0) (y.1 2)).1 90 1 0 0 (y.1 0) (y.1 6) h.1
    generalize F_Model_carryOut_kg_L26 (y.2 0) (y.2 1) (y.1 0) (y.1 1) (y.1 2) (y.1 5) (y.1 6) 90 1 0 0 (F_Model_records (y.2 0) (y.1 0) (y.1 2)).2 (y.1 0) (F_Model_records (y.2 0) (y.1 0) (y.1 2)).1 (y.1 6) = q at hl ⊢
    refine ⟨hl.2.1, ?_, ?_, h.2.2.2.1, ⟨0, by omega, rfl⟩⟩
    · show tm_ok 6 q.2.2.2.1
      rw [hl.1]; exact hr.1
    · show ∀ k, k < 6 → MIr q.2.2.2.2.2.1 (246 * k)
      rw [hl.2.2]; exact hr.2
  · rw [if_neg c]; exact ⟨h.1, h.2.1, h.2.2.1, h.2.2.2⟩
def RX (x : XS) (y : MST) : Prop := IX x ∧ IM y ∧ PE x.2.2.2.2.2.1 (y.2 1) x.2.2.2.2.2.2 (y.1 5)
theorem rx_m0 {x : XS} {y : MST} (h : RX x y) : tm_ok 8 (x.1.1 2) := h.1.1.1
theorem rx_m1 {x : XS} {y : MST} (h : RX x y) : tm_ok 8 (x.1.1 10) := h.1.1.2
theorem rx_k {x : XS} {y : MST} (h : RX x y) : x.2.1 ≤ 6 := h.1.2.1
theorem rx_l {x : XS} {y : MST} (h : RX x y) : tm_ok 80 x.2.2.2.2.2.1 := h.1.2.2.2.2.1
theorem rx_g {x : XS} {y : MST} (h : RX x y) : ∀ j, ch16 (x.2.2.2.2.2.2 j) := h.1.2.2.2.2.2
theorem rx_MI {x : XS} {y : MST} (h : RX x y) : MI (y.1 0) := h.2.1.1
theorem rx_kp {x : XS} {y : MST} (h : RX x y) : tm_ok 6 (y.2 0) := h.2.1.2.1
theorem rx_ln {x : XS} {y : MST} (h : RX x y) : tm_ok 80 (y.2 1) := h.2.1.2.2.2.2
theorem rx_turn {o j : Int32} {x : XS} {y : MST} (h : RX x y) : RX (X_takeTurn o j x).2 (M_turns o j y).2 := by
  refine ⟨IX_turn h.1, IM_turns h.2.1, ?_⟩
  rw [turn_pad]
  exact h.2.2
theorem rx_chalk {j : Int32} {x : XS} {y : MST} (h : RX x y) : RX (X_chalk j x).2 (M_chalk j y).2 := by rw [M_chalk_t]; exact rx_turn h
theorem rx_snip {j : Int32} {x : XS} {y : MST} (h : RX x y) : RX (X_snip j x).2 (M_snip j y).2 := by rw [M_snip_t]; exact rx_turn h
theorem rx_sew {j : Int32} {x : XS} {y : MST} (h : RX x y) : RX (X_sew j x).2 (M_sew j y).2 := by rw [M_sew_t]; exact rx_turn h
theorem rx_bluff {j : Int32} {x : XS} {y : MST} (h : RX x y) : RX (X_bluff j x).2 (M_bluff j y).2 := by rw [M_bluff_t]; exact rx_turn h
theorem rx_doubt {j : Int32} {x : XS} {y : MST} (h : RX x y) : RX (X_doubt j x).2 (M_doubt j y).2 := by rw [M_doubt_t]; exact rx_turn h
theorem rx_pass {x : XS} {y : MST} (h : RX x y) : RX (X_pass x).2 (M_pass y).2 := by rw [M_pass_t]; exact rx_turn h
theorem rx_of {j w : Int32} {x : XS} {y : MST} (h : RX x y) : RX (X_of j w x).2 (M_of j w y).2 := h
theorem rx_cell {j w : Int32} {x : XS} {y : MST} (h : RX x y) : RX (X_cell j w x).2 (M_cell j w y).2 := h
theorem rx_player {j w : Int32} {x : XS} {y : MST} (h : RX x y) : RX (X_player j w x).2 (M_player j w y).2 := h
theorem rx_chalked {j w : Int32} {x : XS} {y : MST} (h : RX x y) : RX (X_chalked j w x).2 (M_chalked j w y).2 := h
theorem rx_count {w : Int32} {x : XS} {y : MST} (h : RX x y) : RX (X_count w x).2 (M_count w y).2 := h
theorem rx_why {w : Int32} {x : XS} {y : MST} (h : RX x y) : RX (X_why w x).2 (M_why w y).2 := h
theorem rx_ifSnipped {w : Int32} {x : XS} {y : MST} (h : RX x y) : RX (X_ifSnipped w x).2 (M_ifSnipped w y).2 := h
theorem rx_bestSnip {w : Int32} {x : XS} {y : MST} (h : RX x y) : RX (X_bestSnip w x).2 (M_bestSnip w y).2 := h
theorem rx_weak {x : XS} {y : MST} (h : RX x y) : RX (X_weak x).2 (M_weak y).2 := h
theorem rx_together {a b w : Int32} {x : XS} {y : MST} (h : RX x y) : RX (X_together a b w x).2 (M_together a b w y).2 := h
theorem put_both {c : Int64} {x : XS} {y : MST} (h : RX x y) : (X_put c x).1 = (M_put c y).1 ∧ RX (X_put c x).2 (M_put c y).2 := by
  obtain ⟨h1, h2, h3⟩ := put_all c h.2.2 h.1.2.2.2.2.2
  refine ⟨h1, ⟨h.1.1, h.1.2.1, h.1.2.2.1, h.1.2.2.2.1, ?_, h3⟩, ⟨h.2.1.1, h.2.1.2.1, h.2.1.2.2.1, h.2.1.2.2.2.1, ?_⟩, h2⟩
  · obtain ⟨L, hL, e, -⟩ := h2
    exact ⟨L, hL, e⟩
  · obtain ⟨L, hL, -, e, -⟩ := h2
    exact ⟨L, hL, e⟩
theorem rx_put {c : Int64} {x : XS} {y : MST} (h : RX x y) : RX (X_put c x).2 (M_put c y).2 := (put_both h).2
theorem eq_put {c : Int64} {x : XS} {y : MST} (h : RX x y) : (X_put c x).1 = (M_put c y).1 := (put_both h).1
theorem PE_0 {f g : Nat → Int32} : PE 0 0 f g := ⟨0, by omega, rfl, rfl, fun j hj => absurd hj (Nat.not_lt_zero _)⟩
theorem rx_wipe {x : XS} {y : MST} (h : RX x y) : RX (X_wipe x).2 (M_wipe y).2 :=
  ⟨⟨h.1.1, h.1.2.1, h.1.2.2.1, h.1.2.2.2.1, ⟨0, by omega, rfl⟩, h.1.2.2.2.2.2⟩, ⟨h.2.1.1, h.2.1.2.1, h.2.1.2.2.1, h.2.1.2.2.2.1, ⟨0, by omega, rfl⟩⟩, PE_0⟩
theorem PE_ln {ln vln : Int32} {f g : Nat → Int32} (h : PE ln vln f g) : ln = vln := by
  obtain ⟨L, -, rfl, rfl, -⟩ := h; rfl
theorem eq_wipe {x : XS} {y : MST} (h : RX x y) : (X_wipe x).1 = (M_wipe y).1 := PE_ln h.2.2
theorem rx_fault {x : XS} {y : MST} (h : RX x y) : RX (X_fault x).2 (M_fault y).2 := h
theorem bnd_id {α : Type} (z : α) : bnd z (fun r => r) = z := rfl
theorem tc_fault (ln : Int32) (f : Nat → Int32) : F_TC_fault ln f = F_Pad_firstFault ln f := Eq.trans (b := bnd (F_Pad_firstFault ln f) (fun r => r)) (by unfold F_TC_fault; exact Eq.refl _) (bnd_id _)
theorem mo_fault (ln : Int32) (f : Nat → Int32) : F_Model_fault ln f = F_Model_wrong ln f := Eq.trans (b := bnd (F_Model_wrong ln f) (fun r => r)) (by unfold F_Model_fault; exact Eq.refl _) (bnd_id _)
theorem eq_fault {x : XS} {y : MST} (h : RX x y) : (X_fault x).1 = (M_fault y).1 := by
  show F_TC_fault x.2.2.2.2.2.1 x.2.2.2.2.2.2 = F_Model_fault (y.2 1) (y.1 5)
  rw [tc_fault, mo_fault]
  exact fault_eq h.2.2
theorem rx_carryOut {x : XS} {y : MST} (h : RX x y) : RX (X_carryOut x).2 (M_carryOut y).2 := by
  refine ⟨IX_carryOut h.1, IM_carryOut h.2.1, ?_⟩
  have e := fault_eq h.2.2
  unfold X_carryOut M_carryOut
  rw [co_f]
  by_cases c : F_Model_wrong (y.2 1) (y.1 5) = -6
  · rw [if_pos (e.trans c), if_pos c]; exact PE_0
  · rw [if_neg (fun z => c (e.symm.trans z)), if_neg c]; exact h.2.2
theorem rx_undo {x : XS} {y : MST} (h : RX x y) : RX (X_undo x).2 (M_undo y).2 := by
  refine ⟨IX_undo h.1, IM_undo h.2.1, ?_⟩
  rw [undo_pad]
  exact h.2.2
theorem rx_save {s : Int32} {x : XS} {y : MST} (h : RX x y) : RX (X_save s x).2 (M_save s y).2 := by
  refine ⟨IX_save h.1, IM_save h.2.1, ?_⟩
  rw [save_pad]
  exact h.2.2
theorem rx_restore {s : Int32} {x : XS} {y : MST} (h : RX x y) : RX (X_restore s x).2 (M_restore s y).2 := by
  refine ⟨IX_restore h.1, IM_restore h.2.1, ?_⟩
  rw [restore_pad]
  exact h.2.2
