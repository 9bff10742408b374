-- the reference's state stays in bounds
theorem kp_pos {x : Int32} (h : tm_ok 6 x) (c : ¬ x = 0) : tm_ok 5 (x - 1) := by
  obtain ⟨q, hq, rfl⟩ := h
  have h0 : q ≠ 0 := fun e => c (by rw [e]; rfl)
  obtain ⟨m, rfl⟩ : ∃ m, q = m + 1 := ⟨q - 1, by omega⟩
  exact ⟨m, by omega, nI_pred m⟩
theorem ends_MI {told : Int32} {vs : Nat → Int32} (h : MI vs) : MI (F_Model_ends told vs).2 := by
  unfold F_Model_ends
  rw [show (244 : Int32).toNatClampNeg = 244 from rfl, show (245 : Int32).toNatClampNeg = 245 from rfl]
  show MI (upd (upd vs 244 (vs 244 + 1)) 245 (1 - upd vs 244 (vs 244 + 1) 245))
  refine ⟨?_, ?_, ?_⟩
  · rw [pk_us, pk_un (by omega)]; exact p01_sub h.1
  · rw [pk_un (by omega), pk_un (by omega)]; exact h.2.1
  · rw [pk_un (by omega), pk_un (by omega)]; exact h.2.2
theorem MIj0 {vs : Nat → Int32} {joint x : Int32} (hj : vp_in joint 82) (h : MI vs) : MI (upd vs ((0 : Int32) + joint).toNatClampNeg x) := MI_ix (vp_addc (q := 0) (n := 82) rfl hj (by decide) (by decide)) h
theorem MIj82 {vs : Nat → Int32} {joint x : Int32} (hj : vp_in joint 82) (h : MI vs) : MI (upd vs ((82 : Int32) + joint).toNatClampNeg x) := MI_ix (vp_addc (q := 82) (n := 82) rfl hj (by decide) (by decide)) h
theorem tm_up8 {x : Int32} (h : tm_ok 8 x) (c : ¬ x = 8) : tm_ok 8 (x + 1) := by
  obtain ⟨q, hq, rfl⟩ := h
  have h0 : q ≠ 8 := fun e => c (by rw [e]; rfl)
  exact ⟨q + 1, by omega, nI_1 q⟩
theorem chalk_MI {vs : Nat → Int32} {p joint : Int32} (h : MI vs) (hp : p01 p) (c : ¬ vs (F_Model_at p 2).toNatClampNeg = 8) : MI (upd (upd vs (F_Model_at p 8 + vs (F_Model_at p 2).toNatClampNeg).toNatClampNeg joint) (F_Model_at p 2).toNatClampNeg ((upd vs (F_Model_at p 8 + vs (F_Model_at p 2).toNatClampNeg).toNatClampNeg joint (F_Model_at p 2).toNatClampNeg) + 1)) := by
  have hin : vp_in (vs (F_Model_at p 2).toNatClampNeg) 8 := tm_in3 (mi_cnt h hp) c
  rw [pk_un (at_ne hp hin)]
  obtain ⟨q, hq, e⟩ := vp_in_of hin (by decide)
  have hu := tm_up8 (mi_cnt h hp) c
  rcases hp with rfl | rfl
  · have e0 : (F_Model_at 0 2).toNatClampNeg = 214 := by decide +kernel
    rw [e0] at e hu c ⊢
    have e8 : (F_Model_at 0 8 + vs 214).toNatClampNeg = 220 + q := by
      rw [e, show F_Model_at 0 8 = nI 220 from at_0 8, nI_add, nI_clamp (by omega)]
    rw [e8]
    refine ⟨?_, ?_, ?_⟩
    · rw [pk_un (by omega), pk_un (by omega)]; exact h.1
    · rw [pk_us]; exact hu
    · rw [pk_un (by omega), pk_un (by omega)]; exact h.2.2
  · have e0 : (F_Model_at 1 2).toNatClampNeg = 230 := by decide +kernel
    rw [e0] at e hu c ⊢
    have e8 : (F_Model_at 1 8 + vs 230).toNatClampNeg = 236 + q := by
      rw [e, show F_Model_at 1 8 = nI 236 from at_1 8, nI_add, nI_clamp (by omega)]
    rw [e8]
    refine ⟨?_, ?_, ?_⟩
    · rw [pk_un (by omega), pk_un (by omega)]; exact h.1
    · rw [pk_un (by omega), pk_un (by omega)]; exact h.2.1
    · rw [pk_us]; exact hu
abbrev Q2 (z : Int32 × (Nat → Int32)) : Prop := MI z.2
abbrev Q3 (z : Int32 × (Nat → Int32) × (Nat → Int32)) : Prop := MI z.2.1
theorem chalks_MI {vs : Nat → Int32} {joint : Int32} (h : MI vs) : Q2 (F_Model_chalks joint vs) := by
  unfold F_Model_chalks
  repeat' first | with_reducible refine bnd_i (P := Q2) (fun r hr => ?_) | with_reducible refine ite_i (P := Q2) (fun _ => ?_) (fun _ => ?_)
  all_goals first | with_reducible exact h | (subst_vars; exact ends_MI (chalk_MI h (mi_next h) (by assumption)))
theorem sews_MI {vs : Nat → Int32} {joint : Int32} (h : MI vs) : Q2 (F_Model_sews joint vs) := by
  unfold F_Model_sews
  repeat' first | with_reducible refine bnd_i (P := Q2) (fun r hr => ?_) | with_reducible refine ite_i (P := Q2) (fun _ => ?_) (fun _ => ?_)
  all_goals first | with_reducible exact h | skip
  all_goals subst_vars
  all_goals have hj : vp_in joint 82 := mjt_in (by assumption)
  all_goals exact ends_MI (MI_at (mi_next h) (by decide) (MIj82 hj (MIj0 hj h)))
theorem bluffs_MI {vs : Nat → Int32} {joint : Int32} (h : MI vs) : Q2 (F_Model_bluffs joint vs) := by
  unfold F_Model_bluffs
  repeat' first | with_reducible refine bnd_i (P := Q2) (fun r hr => ?_) | with_reducible refine ite_i (P := Q2) (fun _ => ?_) (fun _ => ?_)
  all_goals first | with_reducible exact h | skip
  all_goals subst_vars
  all_goals have hj : vp_in joint 82 := mjt_in (by assumption)
  all_goals exact ends_MI (MIj82 hj (MIj0 hj h))
theorem doubts_MI {vs : Nat → Int32} {joint : Int32} (h : MI vs) : Q2 (F_Model_doubts joint vs) := by
  unfold F_Model_doubts
  repeat' first | with_reducible refine bnd_i (P := Q2) (fun r hr => ?_) | with_reducible refine ite_i (P := Q2) (fun _ => ?_) (fun _ => ?_)
  all_goals first | with_reducible exact h | skip
  all_goals subst_vars
  all_goals have hj : vp_in joint 82 := mjt_in (by assumption)
  all_goals exact ends_MI (MI_at (mi_next h) (by decide) (MI_at (mi_next h) (by decide) (MIj0 hj (MIj82 hj h))))
theorem passes_MI {vs : Nat → Int32} (h : MI vs) : Q2 (F_Model_passes vs) := by
  unfold F_Model_passes
  repeat' first | with_reducible refine bnd_i (P := Q2) (fun r hr => ?_) | with_reducible refine ite_i (P := Q2) (fun _ => ?_) (fun _ => ?_)
  all_goals first | with_reducible exact h | (subst_vars; exact ends_MI h)
theorem s159_MI (joint : Int32) (vs vlb : Nat → Int32) : ∀ (n k : Nat) (x5 x4 x3 : Int32) (w1 w2 : Nat → Int32), k ≤ 48 → MI w1 → MI (F_Model_snips_L159 joint vs vlb n (nI k) x5 x4 x3 w1 w2).2.2.2.2.1 := by
  intro n
  induction n with
  | zero => intro k x5 x4 x3 w1 w2 hk h; exact h
  | succ n ih =>
    intro k x5 x4 x3 w1 w2 hk h
    rw [F_Model_snips_L159]
    by_cases c : (48 : Int32) ≤ nI k
    · rw [if_pos c]; exact h
    · rw [if_neg c, nI_1]
      have hlt : k < 48 := lp_lt rfl rfl hk c
      have hi : ∀ x, MI (upd w1 ((164 : Int32) + nI k).toNatClampNeg x) := fun x => MI_ix (vp_addc (q := 164) (n := 48) rfl (vp_in_nI hlt (by decide)) (by decide) (by decide)) h
      by_cases c2 : x5 ≤ 0
      · rw [if_pos c2]; exact h
      · rw [if_neg c2]
        by_cases c3 : w2 (nI k).toNatClampNeg = x4
        · rw [if_pos c3]; exact ih (k + 1) _ _ _ _ _ (by omega) (hi _)
        · rw [if_neg c3]; exact ih (k + 1) _ _ _ _ _ (by omega) (hi _)
theorem s159_MI0 {joint x5 x4 x3 : Int32} {vs vlb w1 w2 : Nat → Int32} (h : MI w1) : MI (F_Model_snips_L159 joint vs vlb 49 0 x5 x4 x3 w1 w2).2.2.2.2.1 := s159_MI joint vs vlb 49 0 x5 x4 x3 w1 w2 (by omega) h
theorem s218_MI (joint : Int32) (vs vlb : Nat → Int32) : ∀ (n : Nat) (x6 x5 x4 x3 : Int32) (w1 w2 : Nat → Int32), MI w1 → MI (F_Model_snips_L218 joint vs vlb n x6 x5 x4 x3 w1 w2).2.2.2.2.1 := by
  intro n
  induction n with
  | zero => intro x6 x5 x4 x3 w1 w2 h; exact h
  | succ n ih =>
    intro x6 x5 x4 x3 w1 w2 h
    rw [F_Model_snips_L218]
    by_cases c : (82 : Int32) ≤ x6
    · rw [if_pos c]; exact h
    · rw [if_neg c]
      by_cases c2 : x5 ≤ 0
      · rw [if_pos c2]; exact h
      · rw [if_neg c2]
        dsimp only [bnd]
        by_cases c3 : F_Model_isVoid x6 w1 = 0
        · rw [if_pos c3]; exact ih _ _ _ _ _ _ h
        · rw [if_neg c3]; exact ih _ _ _ _ _ _ (rubs_MI (rubs_MI h p01_0) p01_1)
theorem ends_MI2 {told : Int32} {vs : Nat → Int32} {r : Int32 × (Nat → Int32)} (hr : r = F_Model_ends told vs) (h : MI vs) : MI r.2 := by subst hr; exact ends_MI h
theorem MI_at2 {vs : Nat → Int32} {p w x r : Int32} (hr : r = F_Model_at p w) (hp : p01 p) (h : MI vs) (hw : 0 ≤ w.toInt ∧ w.toInt < 16 ∧ w.toInt ≠ 2) : MI (upd vs r.toNatClampNeg x) := by subst hr; exact MI_at hp hw h
theorem rubs_MI2 {player joint : Int32} {vs r : Nat → Int32} (hr : r = F_Model_rubs player joint vs) (hp : p01 player) (h : MI vs) : MI r := by subst hr; exact rubs_MI h hp
theorem s159_MI2 {joint x5 x4 x3 : Int32} {vs vlb w1 w2 : Nat → Int32} {q : Int32 × Int32 × Int32 × Int32 × (Nat → Int32) × (Nat → Int32)} (hq : q = F_Model_snips_L159 joint vs vlb 49 0 x5 x4 x3 w1 w2) (h : MI w1) : MI q.2.2.2.2.1 := by subst hq; exact s159_MI0 h
theorem s218_MI2 {joint x6 x5 x4 x3 : Int32} {n : Nat} {vs vlb w1 w2 : Nat → Int32} {q : Int32 × Int32 × Int32 × Int32 × (Nat → Int32) × (Nat → Int32)} (hq : q = F_Model_snips_L218 joint vs vlb n x6 x5 x4 x3 w1 w2) (h : MI w1) : MI q.2.2.2.2.1 := by subst hq; exact s218_MI joint vs vlb n x6 x5 x4 x3 w1 w2 h
theorem jt_of2 {r x : Int32} (hr : r = F_Model_isJoint x) (h : ¬ r = 0) : vp_in x 82 := by subst hr; exact mjt_in h
set_option maxHeartbeats 4000000 in
theorem snips_MI {vs vlb : Nat → Int32} {joint : Int32} (h : MI vs) : Q3 (F_Model_snips joint vs vlb) := by
  unfold F_Model_snips
  refine bnd_i (P := Q3) (fun r1 hr1 => ?_)
  refine ite_i (P := Q3) (fun _ => h) (fun hj0 => ?_)
  have hj : vp_in joint 82 := jt_of2 hr1 hj0
  have h1 : MI (upd (upd vs ((0 : Int32) + joint).toNatClampNeg 1) ((82 : Int32) + joint).toNatClampNeg (-6)) := MIj82 hj (MIj0 hj h)
  have hp := mi_next h
  repeat' first | with_reducible refine bnd_i (P := Q3) (fun r hr => ?_) | with_reducible refine ite_i (P := Q3) (fun _ => ?_) (fun _ => ?_)
  all_goals first | with_reducible exact h | skip
  all_goals refine ends_MI2 (by assumption) ?_
  all_goals refine MI_at2 (by assumption) hp ?_ (by decide)
  all_goals refine MI_at2 (by assumption) hp ?_ (by decide)
  all_goals refine MI_at2 (by assumption) hp ?_ (by decide)
  all_goals refine s218_MI2 (by assumption) ?_
  all_goals refine s159_MI2 (by assumption) ?_
  all_goals refine rubs_MI2 (by assumption) p01_1 ?_
  all_goals refine rubs_MI2 (by assumption) p01_0 ?_
  all_goals refine MI_at2 (by assumption) hp ?_ (by decide)
  all_goals refine MI_at2 (by assumption) hp ?_ (by decide)
  all_goals with_reducible exact h1
theorem does_MI {vs vlb : Nat → Int32} {letter joint : Int32} (h : MI vs) : Q3 (F_Model_does letter joint vs vlb) := by
  unfold F_Model_does
  repeat' first | with_reducible refine bnd_i (P := Q3) (fun r hr => ?_) | with_reducible refine ite_i (P := Q3) (fun _ => ?_) (fun _ => ?_)
  all_goals subst_vars
  all_goals show MI _
  all_goals first | with_reducible exact bluffs_MI h | with_reducible exact chalks_MI h | with_reducible exact doubts_MI h | with_reducible exact snips_MI h | with_reducible exact sews_MI h | with_reducible exact passes_MI h
