-- the strong relation: the game, what is kept, what is saved
def GRS (S : GS) (vs : Nat → Int32) : Prop := GRk 0 (S.1 0) (S.1 1) (S.2.1 0) (S.2.1 1) (S.2.1 2) (S.2.2 0) (S.2.2 1) (S.1 2) (S.1 3) (S.1 4) (S.1 5) (S.1 6) (S.1 7) (S.1 8) (S.1 9) (S.2.2 2) (S.1 10) (S.1 11) (S.1 12) (S.1 13) (S.1 14) (S.1 15) (S.1 16) (S.1 17) (S.2.2 3) vs
theorem GRS_ext {S : GS} {vs vs' : Nat → Int32} (h : GRS S vs) (e : ∀ i, i < 246 → vs' i = vs i) : GRS S vs' :=
  ⟨CR_ext h.1 (fun i hi => e i (by omega)), by rw [e _ (by omega)]; exact h.2.1, by rw [e _ (by omega)]; exact h.2.2.1, by rw [e _ (by omega)]; exact h.2.2.2.1, TRc_ext h.2.2.2.2.1 (fun i a b => e i (by unfold tO at b; omega)), TRc_ext h.2.2.2.2.2.1 (fun i a b => e i (by unfold tO at b; omega)), PB_ext h.2.2.2.2.2.2 (e _ (by omega)) (e _ (by omega)) (e _ (by omega))⟩
def let6 (o : Int32) : Prop := o = 99 ∨ o = 115 ∨ o = 119 ∨ o = 98 ∨ o = 100 ∨ o = 112
set_option maxHeartbeats 4000000 in
theorem sim_oby {o : Int32} (ho : let6 o) {S : GS} {vs : Nat → Int32} (h : GRS S vs) (j : Int32) (vlb : Nat → Int32) : (oby o j S).1 = (F_Model_does o j vs vlb).1 ∧ GRS (oby o j S).2 (F_Model_does o j vs vlb).2.1 := by
  have hs : SIM (obyR o j S) (F_Model_does o j vs vlb) := by
    rcases ho with rfl | rfl | rfl | rfl | rfl | rfl
    · exact sim_chalk h j
    · exact sim_snip h j
    · exact sim_sew h j
    · exact sim_bluff h j
    · exact sim_doubt h j
    · exact sim_pass h j
  exact hs
def HR (k : Nat) (V : Nat → GS) (kp : Int32) (hi : Nat → Int32) : Prop := kp = nI k ∧ ∀ i, i < k → GRS (V i) (fun j => hi (246 * i + j))
def SR (fl : Nat → Int32) (W : Nat → GS) (vsv vsl : Nat → Int32) : Prop := ∀ s, s ≤ 1 → fl s = vsv s ∧ (¬ vsv s = 0 → GRS (W s) (fun j => vsl (246 * s + j)))
def RS (x : XS) (y : MST) : Prop := RX x y ∧ GRS x.1 (y.1 0) ∧ HR x.2.1 x.2.2.1 (y.2 0) (y.1 2) ∧ SR x.2.2.2.1 x.2.2.2.2.1 (y.1 4) (y.1 3)
theorem note_lt (S : GS) (V : Nat → GS) {i : Nat} (hi : i < 6) : noteV S V i = V i := by
  rcases (show i = 0 ∨ i = 1 ∨ i = 2 ∨ i = 3 ∨ i = 4 ∨ i = 5 by omega) with rfl | rfl | rfl | rfl | rfl | rfl <;> rfl
theorem kx_lt {k : Nat} (hk : k < 6) (W : Nat → GS) : (keepX k W).1 = k + 1 ∧ (∀ i, i < k → (keepX k W).2 i = W i) ∧ (keepX k W).2 k = W 6 := by
  rcases (show k = 0 ∨ k = 1 ∨ k = 2 ∨ k = 3 ∨ k = 4 ∨ k = 5 by omega) with rfl | rfl | rfl | rfl | rfl | rfl
  · exact ⟨rfl, fun i hi => absurd hi (Nat.not_lt_zero _), rfl⟩
  · refine ⟨rfl, fun i hi => ?_, rfl⟩
    obtain rfl : i = 0 := by omega
    rfl
  · refine ⟨rfl, fun i hi => ?_, rfl⟩
    rcases (show i = 0 ∨ i = 1 by omega) with rfl | rfl <;> rfl
  · refine ⟨rfl, fun i hi => ?_, rfl⟩
    rcases (show i = 0 ∨ i = 1 ∨ i = 2 by omega) with rfl | rfl | rfl <;> rfl
  · refine ⟨rfl, fun i hi => ?_, rfl⟩
    rcases (show i = 0 ∨ i = 1 ∨ i = 2 ∨ i = 3 by omega) with rfl | rfl | rfl | rfl <;> rfl
  · refine ⟨rfl, fun i hi => ?_, rfl⟩
    rcases (show i = 0 ∨ i = 1 ∨ i = 2 ∨ i = 3 ∨ i = 4 by omega) with rfl | rfl | rfl | rfl | rfl <;> rfl
theorem kx_6 (W : Nat → GS) : (keepX 6 W).1 = 6 ∧ ∀ i, i < 6 → (keepX 6 W).2 i = W (i + 1) := by
  refine ⟨rfl, fun i hi => ?_⟩
  rcases (show i = 0 ∨ i = 1 ∨ i = 2 ∨ i = 3 ∨ i = 4 ∨ i = 5 by omega) with rfl | rfl | rfl | rfl | rfl | rfl <;> rfl
theorem keep_H {S : GS} {V : Nat → GS} {vs hi : Nat → Int32} {k : Nat} {kp : Int32} (hk : k ≤ 6) (h : HR k V kp hi) (hS : GRS S vs) : HR (keepX k (noteV S V)).1 (keepX k (noteV S V)).2 (F_Model_records kp vs hi).2 (F_Model_records kp vs hi).1 := by
  obtain ⟨rfl, h2⟩ := h
  by_cases c : k < 6
  · obtain ⟨e1, e2⟩ := rec_lt vs hi c
    obtain ⟨k1, k2, k3⟩ := kx_lt c (noteV S V)
    refine ⟨by rw [k1]; exact e1, fun i hi2 => ?_⟩
    rw [k1] at hi2
    by_cases d : i = k
    · subst d
      rw [k3]
      exact GRS_ext (S := S) hS (fun j hj => by rw [e2 i j c hj, if_pos rfl])
    · rw [k2 i (by omega), note_lt S V (by omega)]
      exact GRS_ext (h2 i (by omega)) (fun j hj => by rw [e2 i j (by omega) hj, if_neg d])
  · obtain rfl : k = 6 := by omega
    obtain ⟨e1, e2⟩ := rec_6 vs hi
    obtain ⟨k1, k2⟩ := kx_6 (noteV S V)
    refine ⟨by rw [k1]; exact e1, fun i hi2 => ?_⟩
    rw [k1] at hi2
    rw [k2 i hi2]
    by_cases d : i = 5
    · subst d
      exact GRS_ext (S := S) hS (fun j hj => by rw [e2 5 j (by omega) hj, if_pos rfl])
    · rw [note_lt S V (by omega)]
      exact GRS_ext (h2 (i + 1) (by omega)) (fun j hj => by rw [e2 i j hi2 hj, if_neg d])
theorem rs_k6 {x : XS} {y : MST} (h : RX x y) : x.2.1 ≤ 6 := rx_k h
theorem turn_both {o : Int32} (ho : let6 o) (j : Int32) {x : XS} {y : MST} (h : RS x y) : (X_takeTurn o j x).1 = (M_turns o j y).1 ∧ RS (X_takeTurn o j x).2 (M_turns o j y).2 := by
  obtain ⟨h1, h2, h3, h4⟩ := h
  obtain ⟨s1, s2⟩ := sim_oby ho h2 j (y.1 6)
  have hx := rx_turn (o := o) (j := j) h1
  have e : (X_obey o j (X_note x)).1 = (F_Model_does o j (y.1 0) (y.1 6)).1 := s1
  by_cases c : (F_Model_does o j (y.1 0) (y.1 6)).1 < 0
  · have eX : X_takeTurn o j x = X_obey o j (X_note x) := if_pos (by rw [e]; exact c)
    have eM : F_Model_turns o j (y.2 0) (y.1 0) (y.1 2) (y.1 6) = ((F_Model_does o j (y.1 0) (y.1 6)).1, y.2 0, (F_Model_does o j (y.1 0) (y.1 6)).2.1, y.1 0, y.1 2, (F_Model_does o j (y.1 0) (y.1 6)).2.2) := by rw [turns_f, if_pos c]
    unfold M_turns at hx ⊢
    rw [eM] at hx ⊢
    rw [eX] at hx ⊢
    exact ⟨s1, hx, s2, ⟨h3.1, fun i hi => by
      have := note_lt x.1 x.2.2.1 (i := i) (by have := rs_k6 h1; have hi' : i < x.2.1 := hi; omega)
      show GRS (noteV x.1 x.2.2.1 i) _
      rw [this]; exact h3.2 i hi⟩, h4⟩
  · have eX : X_takeTurn o j x = ((X_obey o j (X_note x)).1, X_keep (X_obey o j (X_note x)).2) := if_neg (by rw [e]; exact c)
    have eM : F_Model_turns o j (y.2 0) (y.1 0) (y.1 2) (y.1 6) = ((F_Model_does o j (y.1 0) (y.1 6)).1, (F_Model_records (y.2 0) (y.1 0) (y.1 2)).2, (F_Model_does o j (y.1 0) (y.1 6)).2.1, y.1 0, (F_Model_records (y.2 0) (y.1 0) (y.1 2)).1, (F_Model_does o j (y.1 0) (y.1 6)).2.2) := by rw [turns_f, if_neg c]
    have hk : HR (keepX x.2.1 (noteV x.1 x.2.2.1)).1 (keepX x.2.1 (noteV x.1 x.2.2.1)).2 (F_Model_records (y.2 0) (y.1 0) (y.1 2)).2 (F_Model_records (y.2 0) (y.1 0) (y.1 2)).1 := keep_H (rs_k6 h1) h3 h2
    unfold M_turns at hx ⊢
    rw [eM] at hx ⊢
    rw [eX] at hx ⊢
    exact ⟨s1, hx, s2, hk, h4⟩
theorem rs_chalk {j : Int32} {x : XS} {y : MST} (h : RS x y) : RS (X_chalk j x).2 (M_chalk j y).2 := by rw [M_chalk_t]; exact (turn_both (Or.inl rfl) j h).2
theorem es_chalk {j : Int32} {x : XS} {y : MST} (h : RS x y) : (X_chalk j x).1 = (M_chalk j y).1 := by rw [M_chalk_t]; exact (turn_both (Or.inl rfl) j h).1
theorem rs_snip {j : Int32} {x : XS} {y : MST} (h : RS x y) : RS (X_snip j x).2 (M_snip j y).2 := by rw [M_snip_t]; exact (turn_both (Or.inr (Or.inl rfl)) j h).2
theorem es_snip {j : Int32} {x : XS} {y : MST} (h : RS x y) : (X_snip j x).1 = (M_snip j y).1 := by rw [M_snip_t]; exact (turn_both (Or.inr (Or.inl rfl)) j h).1
theorem rs_sew {j : Int32} {x : XS} {y : MST} (h : RS x y) : RS (X_sew j x).2 (M_sew j y).2 := by rw [M_sew_t]; exact (turn_both (Or.inr (Or.inr (Or.inl rfl))) j h).2
theorem es_sew {j : Int32} {x : XS} {y : MST} (h : RS x y) : (X_sew j x).1 = (M_sew j y).1 := by rw [M_sew_t]; exact (turn_both (Or.inr (Or.inr (Or.inl rfl))) j h).1
theorem rs_bluff {j : Int32} {x : XS} {y : MST} (h : RS x y) : RS (X_bluff j x).2 (M_bluff j y).2 := by rw [M_bluff_t]; exact (turn_both (Or.inr (Or.inr (Or.inr (Or.inl rfl)))) j h).2
theorem es_bluff {j : Int32} {x : XS} {y : MST} (h : RS x y) : (X_bluff j x).1 = (M_bluff j y).1 := by rw [M_bluff_t]; exact (turn_both (Or.inr (Or.inr (Or.inr (Or.inl rfl)))) j h).1
theorem rs_doubt {j : Int32} {x : XS} {y : MST} (h : RS x y) : RS (X_doubt j x).2 (M_doubt j y).2 := by rw [M_doubt_t]; exact (turn_both (Or.inr (Or.inr (Or.inr (Or.inr (Or.inl rfl))))) j h).2
theorem es_doubt {j : Int32} {x : XS} {y : MST} (h : RS x y) : (X_doubt j x).1 = (M_doubt j y).1 := by rw [M_doubt_t]; exact (turn_both (Or.inr (Or.inr (Or.inr (Or.inr (Or.inl rfl))))) j h).1
theorem rs_pass {x : XS} {y : MST} (h : RS x y) : RS (X_pass x).2 (M_pass y).2 := by rw [M_pass_t]; exact (turn_both (Or.inr (Or.inr (Or.inr (Or.inr (Or.inr rfl))))) 0 h).2
theorem es_pass {x : XS} {y : MST} (h : RS x y) : (X_pass x).1 = (M_pass y).1 := by rw [M_pass_t]; exact (turn_both (Or.inr (Or.inr (Or.inr (Or.inr (Or.inr rfl))))) 0 h).1
theorem rs_m0 {x : XS} {y : MST} (h : RS x y) : tm_ok 8 (x.1.1 2) := rx_m0 h.1
theorem rs_m1 {x : XS} {y : MST} (h : RS x y) : tm_ok 8 (x.1.1 10) := rx_m1 h.1
theorem rs_k {x : XS} {y : MST} (h : RS x y) : x.2.1 ≤ 6 := rx_k h.1
theorem rs_l {x : XS} {y : MST} (h : RS x y) : tm_ok 80 x.2.2.2.2.2.1 := rx_l h.1
theorem rs_g {x : XS} {y : MST} (h : RS x y) : ∀ j, ch16 (x.2.2.2.2.2.2 j) := rx_g h.1
theorem rs_MI {x : XS} {y : MST} (h : RS x y) : MI (y.1 0) := rx_MI h.1
theorem rs_kp {x : XS} {y : MST} (h : RS x y) : tm_ok 6 (y.2 0) := rx_kp h.1
theorem rs_ln {x : XS} {y : MST} (h : RS x y) : tm_ok 80 (y.2 1) := rx_ln h.1
theorem rs_of {j w : Int32} {x : XS} {y : MST} (h : RS x y) : RS (X_of j w x).2 (M_of j w y).2 := h
theorem rs_cell {j w : Int32} {x : XS} {y : MST} (h : RS x y) : RS (X_cell j w x).2 (M_cell j w y).2 := ⟨rx_cell h.1, h.2⟩
theorem es_cell {j w : Int32} {x : XS} {y : MST} (h : RS x y) : (X_cell j w x).1 = (M_cell j w y).1 := q_cell (y.1 6) h.2.1.1 j w
theorem rs_player {j w : Int32} {x : XS} {y : MST} (h : RS x y) : RS (X_player j w x).2 (M_player j w y).2 := h
theorem es_player {j w : Int32} {x : XS} {y : MST} (h : RS x y) : (X_player j w x).1 = (M_player j w y).1 := q_player (vlb := y.1 6) h.2.1 j w
theorem rs_chalked {j w : Int32} {x : XS} {y : MST} (h : RS x y) : RS (X_chalked j w x).2 (M_chalked j w y).2 := h
theorem es_chalked {j w : Int32} {x : XS} {y : MST} (h : RS x y) : (X_chalked j w x).1 = (M_chalked j w y).1 := q_chalked (vlb := y.1 6) h.2.1 j w
theorem rs_count {w : Int32} {x : XS} {y : MST} (h : RS x y) : RS (X_count w x).2 (M_count w y).2 := ⟨rx_count h.1, h.2⟩
theorem es_count {w : Int32} {x : XS} {y : MST} (h : RS x y) : (X_count w x).1 = (M_count w y).1 := q_count (vlb := y.1 6) h.2.1 w _ _ _ _ (PE_ln h.1.2.2) h.2.2.1.1.symm
theorem rs_why {w : Int32} {x : XS} {y : MST} (h : RS x y) : RS (X_why w x).2 (M_why w y).2 := h
theorem es_why {w : Int32} {x : XS} {y : MST} (h : RS x y) : (X_why w x).1 = (M_why w y).1 := q_why h.2.1.1 h.2.1.2.2.1 w
theorem rs_ifSnipped {w : Int32} {x : XS} {y : MST} (h : RS x y) : RS (X_ifSnipped w x).2 (M_ifSnipped w y).2 := ⟨rx_ifSnipped h.1, h.2⟩
theorem es_ifSnipped {w : Int32} {x : XS} {y : MST} (h : RS x y) : (X_ifSnipped w x).1 = (M_ifSnipped w y).1 := q_ifSnipped (y.1 6) h.2.1.1 h.2.1.2.2.1 w
theorem rs_bestSnip {w : Int32} {x : XS} {y : MST} (h : RS x y) : RS (X_bestSnip w x).2 (M_bestSnip w y).2 := ⟨rx_bestSnip h.1, h.2⟩
theorem es_bestSnip {w : Int32} {x : XS} {y : MST} (h : RS x y) : (X_bestSnip w x).1 = (M_bestSnip w y).1 := q_bestSnip (vlb := y.1 6) h.2.1 w
theorem rs_weak {x : XS} {y : MST} (h : RS x y) : RS (X_weak x).2 (M_weak y).2 := ⟨rx_weak h.1, h.2⟩
theorem es_weak {x : XS} {y : MST} (h : RS x y) : (X_weak x).1 = (M_weak y).1 := q_weak (y.1 6) h.2.1.1 h.2.1.2.2.1
theorem rs_together {a b w : Int32} {x : XS} {y : MST} (h : RS x y) : RS (X_together a b w x).2 (M_together a b w y).2 := ⟨rx_together h.1, h.2⟩
theorem es_together {a b w : Int32} {x : XS} {y : MST} (h : RS x y) : (X_together a b w x).1 = (M_together a b w y).1 := q_together (y.1 6) h.2.1.1 a b w
theorem rs_put {c : Int64} {x : XS} {y : MST} (h : RS x y) : RS (X_put c x).2 (M_put c y).2 := ⟨rx_put h.1, h.2⟩
theorem rs_wipe {x : XS} {y : MST} (h : RS x y) : RS (X_wipe x).2 (M_wipe y).2 := ⟨rx_wipe h.1, h.2⟩
theorem rs_fault {x : XS} {y : MST} (h : RS x y) : RS (X_fault x).2 (M_fault y).2 := h
theorem undo_both {x : XS} {y : MST} (h : RS x y) : (X_undo x).1 = (M_undo y).1 ∧ RS (X_undo x).2 (M_undo y).2 := by
  have hx := rx_undo h.1
  obtain ⟨h1, h2, ⟨h3, h3'⟩, h4⟩ := h
  have hk6 := rs_k6 h1
  obtain ⟨S, k, V, r⟩ := x
  dsimp only at h3 h3' hk6
  cases k with
  | zero =>
    have e : F_Model_undo_kg (y.2 0) (y.1 0) (y.1 2) = (-5, nI 0, y.1 0) := by rw [h3]; exact undo_0 _ _
    unfold M_undo at hx ⊢
    rw [e] at hx ⊢
    exact ⟨rfl, hx, h2, ⟨rfl, fun i hi => absurd hi (Nat.not_lt_zero _)⟩, h4⟩
  | succ k =>
    obtain ⟨e1, e2, e3⟩ := undo_s (y.1 0) (y.1 2) (k := k) (by omega)
    rw [← h3] at e1 e2 e3
    exact ⟨e1.symm, hx, GRS_ext (h3' k (Nat.lt_succ_self k)) e3, ⟨e2, fun i hi => h3' i (by have hi' : i < k := hi; omega)⟩, h4⟩
theorem rs_undo {x : XS} {y : MST} (h : RS x y) : RS (X_undo x).2 (M_undo y).2 := (undo_both h).2
theorem es_undo {x : XS} {y : MST} (h : RS x y) : (X_undo x).1 = (M_undo y).1 := (undo_both h).1
theorem isS {s : Int32} : (F_TC_isSlot s = 0 ↔ ¬ p01 s) := by
  unfold F_TC_isSlot
  by_cases a : s = 0
  · rw [if_pos a]; exact ⟨fun z => absurd z (by decide), fun z => absurd (Or.inl a) z⟩
  · rw [if_neg a]
    by_cases b : s = 1
    · rw [if_pos b]; exact ⟨fun z => absurd z (by decide), fun z => absurd (Or.inr b) z⟩
    · rw [if_neg b]; exact ⟨fun _ z => z.elim a b, fun _ => rfl⟩
theorem save_both {s : Int32} {x : XS} {y : MST} (h : RS x y) : (X_save s x).1 = (M_save s y).1 ∧ RS (X_save s x).2 (M_save s y).2 := by
  have hx := rx_save (s := s) h.1
  obtain ⟨h1, h2, h3, h4⟩ := h
  by_cases hp : p01 s
  · rcases hp with rfl | rfl
    · have eX : X_save 0 x = X_cells (X_fill0 x) := by
        unfold X_save
        rw [if_neg (fun z => isS.mp z (Or.inl rfl)), if_pos rfl]
      obtain ⟨e1, e2, e3⟩ := save_s (s := 0) (by omega) (y.1 0) (y.1 3) (y.1 4)
      rw [nI_0] at e1 e2 e3
      unfold M_save at hx ⊢
      generalize F_Model_save 0 (y.1 0) (y.1 3) (y.1 4) = z at e1 e2 e3 hx ⊢
      rw [eX] at hx ⊢
      refine ⟨(cleft h2.1).trans e1.symm, hx, h2, h3, fun t ht => ?_⟩
      show f2 1 (x.2.2.2.1 1) t = z.2.2 t ∧ (¬ z.2.2 t = 0 → GRS (g2 x.1 (x.2.2.2.2.1 1) t) (fun j => z.2.1 (246 * t + j)))
      rw [e2]
      rcases (show t = 0 ∨ t = 1 by omega) with rfl | rfl
      · exact ⟨pk_us.symm, fun _ => GRS_ext (S := x.1) h2 (fun j hj => by rw [e3 0 j (by omega) hj, if_pos rfl])⟩
      · have h5 := h4 1 (by omega)
        rw [pk_un (j := 1) (k := 0) (by omega)]
        exact ⟨h5.1, fun z => GRS_ext (h5.2 z) (fun j hj => by rw [e3 1 j (by omega) hj, if_neg (by omega)])⟩
    · have eX : X_save 1 x = X_cells (X_fill1 x) := by
        unfold X_save
        rw [if_neg (fun z => isS.mp z (Or.inr rfl)), if_neg (by decide)]
      obtain ⟨e1, e2, e3⟩ := save_s (s := 1) (by omega) (y.1 0) (y.1 3) (y.1 4)
      rw [show nI 1 = 1 from rfl] at e1 e2 e3
      unfold M_save at hx ⊢
      generalize F_Model_save 1 (y.1 0) (y.1 3) (y.1 4) = z at e1 e2 e3 hx ⊢
      rw [eX] at hx ⊢
      refine ⟨(cleft h2.1).trans e1.symm, hx, h2, h3, fun t ht => ?_⟩
      show f2 (x.2.2.2.1 0) 1 t = z.2.2 t ∧ (¬ z.2.2 t = 0 → GRS (g2 (x.2.2.2.2.1 0) x.1 t) (fun j => z.2.1 (246 * t + j)))
      rw [e2]
      rcases (show t = 0 ∨ t = 1 by omega) with rfl | rfl
      · have h5 := h4 0 (by omega)
        rw [pk_un (j := 0) (k := 1) (by omega)]
        exact ⟨h5.1, fun z => GRS_ext (h5.2 z) (fun j hj => by rw [e3 0 j (by omega) hj, if_neg (by omega)])⟩
      · exact ⟨pk_us.symm, fun _ => GRS_ext (S := x.1) h2 (fun j hj => by rw [e3 1 j (by omega) hj, if_pos rfl])⟩
  · have eX : X_save s x = (-2, x) := by unfold X_save; rw [if_pos (isS.mpr hp)]
    have eM := save_n hp (y.1 0) (y.1 3) (y.1 4)
    unfold M_save at hx ⊢
    rw [eM] at hx ⊢
    rw [eX] at hx ⊢
    exact ⟨rfl, hx, h2, h3, h4⟩
theorem rs_save {s : Int32} {x : XS} {y : MST} (h : RS x y) : RS (X_save s x).2 (M_save s y).2 := (save_both h).2
theorem es_save {s : Int32} {x : XS} {y : MST} (h : RS x y) : (X_save s x).1 = (M_save s y).1 := (save_both h).1
theorem restore_both {s : Int32} {x : XS} {y : MST} (h : RS x y) : (X_restore s x).1 = (M_restore s y).1 ∧ RS (X_restore s x).2 (M_restore s y).2 := by
  have hx := rx_restore (s := s) h.1
  obtain ⟨h1, h2, h3, h4⟩ := h
  by_cases hp : p01 s
  · rcases hp with rfl | rfl
    · have h5 := h4 0 (by omega)
      by_cases hv : y.1 4 0 = 0
      · have eX : X_restore 0 x = (-5, x) := by
          unfold X_restore
          rw [if_neg (fun z => isS.mp z (Or.inl rfl)), if_pos rfl, if_pos (h5.1.trans hv)]
        have eM := rest_0 (s := 0) (by omega) (y.2 0) (y.1 0) (y.1 1) (y.1 2) (y.1 3) (y.1 4) hv
        rw [nI_0] at eM
        unfold M_restore at hx ⊢
        rw [eM] at hx ⊢
        rw [eX] at hx ⊢
        exact ⟨rfl, hx, h2, h3, h4⟩
      · have eX : X_restore 0 x = X_cells (X_become0 (X_keep (X_note x))) := by
          unfold X_restore
          rw [if_neg (fun z => isS.mp z (Or.inl rfl)), if_pos rfl, if_neg (fun z => hv (h5.1.symm.trans z))]
        obtain ⟨e1, e2, e3, e4⟩ := rest_s (s := 0) (by omega) (y.2 0) (y.1 0) (y.1 1) (y.1 2) (y.1 3) (y.1 4) hv
        rw [nI_0] at e1 e2 e3 e4
        have hg : GRS (x.2.2.2.2.1 0) (F_Model_restore_kg 0 (y.2 0) (y.1 0) (y.1 1) (y.1 2) (y.1 3) (y.1 4)).2.2.1 := GRS_ext (h5.2 hv) e4
        have hk := keep_H (rs_k6 h1) h3 h2
        rw [← e2, ← e3] at hk
        rw [eX] at hx ⊢
        exact ⟨(cleft hg.1).trans e1.symm, hx, hg, hk, h4⟩
    · have h5 := h4 1 (by omega)
      by_cases hv : y.1 4 1 = 0
      · have eX : X_restore 1 x = (-5, x) := by
          unfold X_restore
          rw [if_neg (fun z => isS.mp z (Or.inr rfl)), if_neg (show ¬ (1 : Int32) = 0 by decide), if_pos (h5.1.trans hv)]
        have eM := rest_0 (s := 1) (by omega) (y.2 0) (y.1 0) (y.1 1) (y.1 2) (y.1 3) (y.1 4) hv
        rw [show nI 1 = 1 from rfl] at eM
        unfold M_restore at hx ⊢
        rw [eM] at hx ⊢
        rw [eX] at hx ⊢
        exact ⟨rfl, hx, h2, h3, h4⟩
      · have eX : X_restore 1 x = X_cells (X_become1 (X_keep (X_note x))) := by
          unfold X_restore
          rw [if_neg (fun z => isS.mp z (Or.inr rfl)), if_neg (show ¬ (1 : Int32) = 0 by decide), if_neg (fun z => hv (h5.1.symm.trans z))]
        obtain ⟨e1, e2, e3, e4⟩ := rest_s (s := 1) (by omega) (y.2 0) (y.1 0) (y.1 1) (y.1 2) (y.1 3) (y.1 4) hv
        rw [show nI 1 = 1 from rfl] at e1 e2 e3 e4
        have hg : GRS (x.2.2.2.2.1 1) (F_Model_restore_kg 1 (y.2 0) (y.1 0) (y.1 1) (y.1 2) (y.1 3) (y.1 4)).2.2.1 := GRS_ext (h5.2 hv) e4
        have hk := keep_H (rs_k6 h1) h3 h2
        rw [← e2, ← e3] at hk
        rw [eX] at hx ⊢
        exact ⟨(cleft hg.1).trans e1.symm, hx, hg, hk, h4⟩
  · have eX : X_restore s x = (-2, x) := by unfold X_restore; rw [if_pos (isS.mpr hp)]
    have eM := rest_n hp (y.2 0) (y.1 0) (y.1 1) (y.1 2) (y.1 3) (y.1 4)
    unfold M_restore at hx ⊢
    rw [eM] at hx ⊢
    rw [eX] at hx ⊢
    exact ⟨rfl, hx, h2, h3, h4⟩
theorem rs_restore {s : Int32} {x : XS} {y : MST} (h : RS x y) : RS (X_restore s x).2 (M_restore s y).2 := (restore_both h).2
theorem es_restore {s : Int32} {x : XS} {y : MST} (h : RS x y) : (X_restore s x).1 = (M_restore s y).1 := (restore_both h).1
