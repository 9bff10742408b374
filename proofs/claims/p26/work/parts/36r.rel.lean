-- the strong relation: the game, what is kept, what is saved
def GRS (S : GS) (vs : Nat → Int32) : Prop := GRk 0 (S.1 0) (S.1 1) (S.2.1 0) (S.2.1 1) (S.2.1 2) (S.2.2 0) (S.2.2 1) (S.1 2) (S.1 3) (S.1 4) (S.1 5) (S.1 6) (S.1 7) (S.1 8) (S.1 9) (S.2.2 2) (S.1 10) (S.1 11) (S.1 12) (S.1 13) (S.1 14) (S.1 15) (S.1 16) (S.1 17) (S.2.2 3) vs
theorem GRS_ext {S : GS} {vs vs' : Nat → Int32} (h : GRS S vs) (e : ∀ i, i < 246 → vs' i = vs i) : GRS S vs' :=
  ⟨CR_ext h.1 (fun i hi => e i (by omega)), by rw [e _ (by omega)]; exact h.2.1, by rw [e _ (by omega)]; exact h.2.2.1, by rw [e _ (by omega)]; exact h.2.2.2.1, TRc_ext h.2.2.2.2.1 (fun i a b => e i (by unfold tO at b; omega)), TRc_ext h.2.2.2.2.2.1 (fun i a b => e i (by unfold tO at b; omega)), PB_ext h.2.2.2.2.2.2 (e _ (by omega)) (e _ (by omega)) (e _ (by omega))⟩
def let6 (o : Int32) : Prop := o = 99 ∨ o = 115 ∨ o = 119 ∨ o = 98 ∨ o = 100 ∨ o = 112
set_option maxHeartbeats 4000000 in
theorem sim_oby {o : Int32} (ho : let6 o) {S : GS} {vs : Nat → Int32} (h : GRS S vs) (j : Int32) (vlb : Nat → Int32) : (oby o j S).1 = (F_Model_does o j vs vlb).1 ∧ GRS (oby o j S).2 (F_Model_does o j vs vlb).2.1 := by
  have hs : SIM (obyR o j S) (F_Model_does o j vs vlb) := by
    rcases ho with rfl | rfl | rfl | rfl | rfl | rfl
    · exact sim_chalk h j
    · exact sim_snip h j
    · exact sim_sew h j
    · exact sim_bluff h j
    · exact sim_doubt h j
    · exact sim_pass h j
  exact hs
theorem note_lt (S : GS) (V : Nat → GS) {i : Nat} (hi : i < 6) : noteV S V i = V i := by
  rcases (show i = 0 ∨ i = 1 ∨ i = 2 ∨ i = 3 ∨ i = 4 ∨ i = 5 by omega) with rfl | rfl | rfl | rfl | rfl | rfl <;> rfl
theorem kx_lt {k : Nat} (hk : k < 6) (W : Nat → GS) : (keepX k W).1 = k + 1 ∧ (∀ i, i < k → (keepX k W).2 i = W i) ∧ (keepX k W).2 k = W 6 := by
  rcases (show k = 0 ∨ k = 1 ∨ k = 2 ∨ k = 3 ∨ k = 4 ∨ k = 5 by omega) with rfl | rfl | rfl | rfl | rfl | rfl
  · exact ⟨rfl, fun i hi => absurd hi (Nat.not_lt_zero _), rfl⟩
  · refine ⟨rfl, fun i hi => ?_, rfl⟩
    obtain rfl : i = 0 := by omega
    rfl
  · refine ⟨rfl, fun i hi => ?_, rfl⟩
    rcases (show i = 0 ∨ i = 1 by omega) with rfl | rfl <;> rfl
  · refine ⟨rfl, fun i hi => ?_, rfl⟩
    rcases (show i = 0 ∨ i = 1 ∨ i = 2 by omega) with rfl | rfl | rfl <;> rfl
  · refine ⟨rfl, fun i hi => ?_, rfl⟩
    rcases (show i = 0 ∨ i = 1 ∨ i = 2 ∨ i = 3 by omega) with rfl | rfl | rfl | rfl <;> rfl
  · refine ⟨rfl, fun i hi => ?_, rfl⟩
    rcases (show i = 0 ∨ i = 1 ∨ i = 2 ∨ i = 3 ∨ i = 4 by omega) with rfl | rfl | rfl | rfl | rfl <;> rfl
theorem kx_6 (W : Nat → GS) : (keepX 6 W).1 = 6 ∧ ∀ i, i < 6 → (keepX 6 W).2 i = W (i + 1) := by
  refine ⟨rfl, fun i hi => ?_⟩
  rcases (show i = 0 ∨ i = 1 ∨ i = 2 ∨ i = 3 ∨ i = 4 ∨ i = 5 by omega) with rfl | rfl | rfl | rfl | rfl | rfl <;> rfl
