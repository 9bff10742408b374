-- the counts of chalk stay in bounds
theorem bnd_i {α β : Type} {P : β → Prop} {x : α} {f : α → β} (h : ∀ r, r = x → P (f r)) : P (bnd x f) := h x rfl
theorem ite_i {β : Type} {P : β → Prop} {c : Prop} [Decidable c] {a b : β} (ha : c → P a) (hb : ¬ c → P b) : P (if c then a else b) := by
  by_cases h : c
  · rw [if_pos h]; exact ha h
  · rw [if_neg h]; exact hb h
theorem addMark_M {joint mks : Int32} {fma : Nat → Int32} (h : tm_ok 8 mks) : tm_ok 8 (F_Tailor_addMark joint mks fma).2.1 := by
  unfold F_Tailor_addMark
  by_cases c : mks < 8
  · rw [if_pos c]
    obtain ⟨q, hq, rfl⟩ := h
    have h8 : q < 8 := (nI_ltI (by omega) (by decide)).mp (show nI q < nI 8 from c)
    exact ⟨q + 1, by omega, nI_1 q⟩
  · rw [if_neg c]; exact h
abbrev PM7 (z : Int32 × Int32 × Int32 × Int32 × (Nat → Int32) × Int32 × (Nat → Int32)) : Prop := tm_ok 8 z.2.2.2.1 ∧ tm_ok 8 z.2.2.2.2.2.1
theorem markJoint_M {joint nx tn : Int32} {ac dn : Int64} {mks0 mks1 : Int32} {fma0 fma1 : Nat → Int32} (h0 : tm_ok 8 mks0) (h1 : tm_ok 8 mks1) : PM7 (F_Game_markJoint joint nx tn ac dn mks0 fma0 mks1 fma1) := by
  unfold F_Game_markJoint
  repeat' first | with_reducible refine bnd_i (P := PM7) (fun r hr => ?_) | with_reducible refine ite_i (P := PM7) (fun _ => ?_) (fun _ => ?_)
  all_goals first | with_reducible exact ⟨h0, h1⟩ | (subst_vars; first | with_reducible exact ⟨addMark_M h0, h1⟩ | with_reducible exact ⟨h0, addMark_M h1⟩)
abbrev PMl (z : Int32 × Int64 × Int64 × Int64 × Int32 × Int32 × Int32 × Int32 × (Nat → Int32) × Int32 × Int32 × Int32 × Int32 × (Nat → Int32)) : Prop := tm_ok 8 z.2.2.2.2.1 ∧ tm_ok 8 z.2.2.2.2.2.2.2.2.2.1
theorem loseRag_L (rag : Int64) (nx : Int32) (gn : Int64) (ac : Int64) (dn : Int64) (mks0 : Int32) (pts0 : Int32) (rgs0 : Int32) (rgc0 : Int32) (fma0 : Nat → Int32) (mks1 : Int32) (pts1 : Int32) (rgs1 : Int32) (rgc1 : Int32) (fma1 : Nat → Int32) : ∀ (n : Nat) (x3 : Int32) (w12 w13 w14 : Int64) (w21 w22 w24 w25 : Int32) (w3f : Nat → Int32) (w41 w42 w44 w45 : Int32) (w5f : Nat → Int32), tm_ok 8 w21 → tm_ok 8 w41 → PMl (F_Game_loseRag_L25 rag nx gn ac dn mks0 pts0 rgs0 rgc0 fma0 mks1 pts1 rgs1 rgc1 fma1 n x3 w12 w13 w14 w21 w22 w24 w25 w3f w41 w42 w44 w45 w5f) := by
  intro n
  induction n with
  | zero => intro x3 w12 w13 w14 w21 w22 w24 w25 w3f w41 w42 w44 w45 w5f h0 h1; exact ⟨h0, h1⟩
  | succ n ih =>
    intro x3 w12 w13 w14 w21 w22 w24 w25 w3f w41 w42 w44 w45 w5f h0 h1
    rw [F_Game_loseRag_L25]
    repeat' first | with_reducible refine bnd_i (P := PMl) (fun r hr => ?_) | with_reducible refine ite_i (P := PMl) (fun _ => ?_) (fun _ => ?_)
    all_goals first | with_reducible exact ⟨h0, h1⟩ | with_reducible exact ih _ _ _ _ _ _ _ _ _ _ _ _ _ _ h0 h1 | (subst_vars; with_reducible exact ih _ _ _ _ _ _ _ _ _ _ _ _ _ _ (dropMarks_ok0 h0) (dropMarks_ok1 h1))
abbrev PM13 (z : Int64 × Int64 × Int64 × Int32 × Int32 × Int32 × Int32 × (Nat → Int32) × Int32 × Int32 × Int32 × Int32 × (Nat → Int32)) : Prop := tm_ok 8 z.2.2.2.1 ∧ tm_ok 8 z.2.2.2.2.2.2.2.2.1
theorem loseRag_M {rag : Int64} {nx : Int32} {gn ac dn : Int64} {mks0 pts0 rgs0 rgc0 : Int32} {fma0 : Nat → Int32} {mks1 pts1 rgs1 rgc1 : Int32} {fma1 : Nat → Int32} (h0 : tm_ok 8 mks0) (h1 : tm_ok 8 mks1) : PM13 (F_Game_loseRag rag nx gn ac dn mks0 pts0 rgs0 rgc0 fma0 mks1 pts1 rgs1 rgc1 fma1) := by
  unfold F_Game_loseRag
  repeat' first | with_reducible refine bnd_i (P := PM13) (fun r hr => ?_) | with_reducible refine ite_i (P := PM13) (fun _ => ?_) (fun _ => ?_)
  all_goals subst_vars
  all_goals with_reducible exact loseRag_L _ _ _ _ _ _ _ _ _ _ _ _ _ _ _ _ _ _ _ _ _ _ _ _ _ _ _ _ _ _ h0 h1
abbrev PM20 (z : Int32 × Int32 × Int32 × Int64 × Int64 × Int64 × (Nat → Int32) × (Nat → Int32) × Int32 × Int32 × Int32 × Int32 × Int32 × (Nat → Int32) × Int32 × Int32 × Int32 × Int32 × Int32 × (Nat → Int32)) : Prop := tm_ok 8 z.2.2.2.2.2.2.2.2.1 ∧ tm_ok 8 z.2.2.2.2.2.2.2.2.2.2.2.2.2.2.1
theorem snipJoint_M {joint nx tn : Int32} {gn ac dn : Int64} {fs fm : Nat → Int32} {mks0 pts0 rgs0 rgc0 fnd0 : Int32} {fma0 : Nat → Int32} {mks1 pts1 rgs1 rgc1 fnd1 : Int32} {fma1 : Nat → Int32} (h0 : tm_ok 8 mks0) (h1 : tm_ok 8 mks1) : PM20 (F_Game_snipJoint joint nx tn gn ac dn fs fm mks0 pts0 rgs0 rgc0 fnd0 fma0 mks1 pts1 rgs1 rgc1 fnd1 fma1) := by
  have f0 := findChalk_ok0 (joint := joint) (nx := nx) (pts0 := pts0) (fnd0 := fnd0) (mks1 := mks1) (pts1 := pts1) (fnd1 := fnd1) (fma0 := fma0) (fma1 := fma1) h0
  have f1 := findChalk_ok1 (joint := joint) (nx := nx) (mks0 := mks0) (pts0 := pts0) (fnd0 := fnd0) (pts1 := pts1) (fnd1 := fnd1) (fma0 := fma0) (fma1 := fma1) h1
  unfold F_Game_snipJoint
  repeat' first | with_reducible refine bnd_i (P := PM20) (fun r hr => ?_) | with_reducible refine ite_i (P := PM20) (fun _ => ?_) (fun _ => ?_)
  all_goals first | with_reducible exact ⟨h0, h1⟩ | (subst_vars; first | with_reducible exact ⟨f0, f1⟩ | with_reducible exact loseRag_M f0 f1)
abbrev PM26 (z : Int32 × Int32 × Int32 × Int64 × Int64 × Int64 × (Nat → Int32) × (Nat → Int32) × Int32 × Int32 × Int32 × Int32 × Int32 × Int32 × Int32 × Int32 × (Nat → Int32) × Int32 × Int32 × Int32 × Int32 × Int32 × Int32 × Int32 × Int32 × (Nat → Int32)) : Prop := tm_ok 8 z.2.2.2.2.2.2.2.2.1 ∧ tm_ok 8 z.2.2.2.2.2.2.2.2.2.2.2.2.2.2.2.2.2.1
theorem obey_M {order joint nx tn : Int32} {gn ac dn : Int64} {fs fm : Nat → Int32} {mks0 pts0 ths0 rgs0 rgc0 fnd0 rdb0 wdb0 : Int32} {fma0 : Nat → Int32} {mks1 pts1 ths1 rgs1 rgc1 fnd1 rdb1 wdb1 : Int32} {fma1 : Nat → Int32} (h0 : tm_ok 8 mks0) (h1 : tm_ok 8 mks1) : PM26 (F_Game_obey order joint nx tn gn ac dn fs fm mks0 pts0 ths0 rgs0 rgc0 fnd0 rdb0 wdb0 fma0 mks1 pts1 ths1 rgs1 rgc1 fnd1 rdb1 wdb1 fma1) := by
  unfold F_Game_obey
  repeat' first | with_reducible refine bnd_i (P := PM26) (fun r hr => ?_) | with_reducible refine ite_i (P := PM26) (fun _ => ?_) (fun _ => ?_)
  all_goals first | with_reducible exact ⟨h0, h1⟩ | (subst_vars; first | with_reducible exact markJoint_M h0 h1 | with_reducible exact snipJoint_M h0 h1)
