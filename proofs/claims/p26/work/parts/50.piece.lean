-- the law's walk over a piece: what it marks is what hangs together
def wJ (y8 x9 : Int32) : Int32 := (if x9 = 0 then (if (7 : Int32) ≤ (y8 - y8 / 8 * 8) then (-1) else (((7 : Int32) * (y8 / 8)) + (y8 - y8 / 8 * 8))) else (if x9 = 1 then (if (y8 - y8 / 8 * 8) ≤ 0 then (-1) else ((((7 : Int32) * (y8 / 8)) + (y8 - y8 / 8 * 8)) - 1)) else (if x9 = 2 then (if (40 : Int32) ≤ y8 then (-1) else ((42 : Int32) + y8)) else (if y8 ≤ 7 then (-1) else ((34 : Int32) + y8)))))
def wT (y8 x9 : Int32) : Int32 := (if x9 = 0 then (y8 + 1) else (if x9 = 1 then (y8 - 1) else (if x9 = 2 then (y8 + 8) else (y8 - 8))))
theorem w_tab : ∀ c : Fin 48, ∀ w : Fin 4, wJ (nI c.val) (nI w.val) < 0 ∨ ∃ j : Fin 82, wJ (nI c.val) (nI w.val) = nI j.val ∧ ((jF j.val = c.val ∧ wT (nI c.val) (nI w.val) = nI (jS j.val)) ∨ (jS j.val = c.val ∧ wT (nI c.val) (nI w.val) = nI (jF j.val))) := by decide +kernel
theorem w_conv : ∀ j : Fin 82, (∃ w : Fin 4, wJ (nI (jF j.val)) (nI w.val) = nI j.val ∧ wT (nI (jF j.val)) (nI w.val) = nI (jS j.val)) ∧ ∃ w : Fin 4, wJ (nI (jS j.val)) (nI w.val) = nI j.val ∧ wT (nI (jS j.val)) (nI w.val) = nI (jF j.val) := by decide +kernel
theorem L65_eq (cell but ab tn : Int32) (gn ac dn : Int64) (fs fm : Nat → Int32) (mks0 : Int32) (fma0 : Nat → Int32) (mks1 : Int32) (fma1 fmr : Nat → Int32) (y8 : Int32) (n : Nat) (x9 x6 : Int32) (w11f w12f : Nat → Int32) : F_Law_piece_L65 cell but ab tn gn ac dn fs fm mks0 fma0 mks1 fma1 fmr y8 (n + 1) x9 x6 w11f w12f = (if (4 : Int32) ≤ x9 then (x9, x6, w11f, w12f) else (bnd (wJ y8 x9) (fun v_14 => (bnd (wT y8 x9) (fun v_18 => (if v_14 < 0 then (F_Law_piece_L65 cell but ab tn gn ac dn fs fm mks0 fma0 mks1 fma1 fmr y8 n (x9 + 1) x6 w11f w12f) else (if v_14 = but then (F_Law_piece_L65 cell but ab tn gn ac dn fs fm mks0 fma0 mks1 fma1 fmr y8 n (x9 + 1) x6 w11f w12f) else (bnd (F_TC_cell v_18 (0 : Int32) gn ac dn) (fun r_23 => (if r_23 = 0 then (bnd (F_TC_of v_14 (6 : Int32) tn gn ac dn fs fm mks0 fma0 mks1 fma1) (fun r_26 => (if r_26 = 1 then (if (w11f v_18.toNatClampNeg) = 0 then (F_Law_piece_L65 cell but ab tn gn ac dn fs fm mks0 fma0 mks1 fma1 fmr y8 n (x9 + 1) (x6 + 1) (upd w11f v_18.toNatClampNeg 1) (upd w12f x6.toNatClampNeg v_18)) else (F_Law_piece_L65 cell but ab tn gn ac dn fs fm mks0 fma0 mks1 fma1 fmr y8 n (x9 + 1) x6 w11f w12f)) else (if ab = 0 then (F_Law_piece_L65 cell but ab tn gn ac dn fs fm mks0 fma0 mks1 fma1 fmr y8 n (x9 + 1) x6 w11f w12f) else (bnd (F_TC_of v_14 (0 : Int32) tn gn ac dn fs fm mks0 fma0 mks1 fma1) (fun r_32 => (if r_32 = 3 then (if (w11f v_18.toNatClampNeg) = 0 then (F_Law_piece_L65 cell but ab tn gn ac dn fs fm mks0 fma0 mks1 fma1 fmr y8 n (x9 + 1) (x6 + 1) (upd w11f v_18.toNatClampNeg 1) (upd w12f x6.toNatClampNeg v_18)) else (F_Law_piece_L65 cell but ab tn gn ac dn fs fm mks0 fma0 mks1 fma1 fmr y8 n (x9 + 1) x6 w11f w12f)) else (F_Law_piece_L65 cell but ab tn gn ac dn fs fm mks0 fma0 mks1 fma1 fmr y8 n (x9 + 1) x6 w11f w12f)))))))) else (F_Law_piece_L65 cell but ab tn gn ac dn fs fm mks0 fma0 mks1 fma1 fmr y8 n (x9 + 1) x6 w11f w12f))))))))))) := by
  rw [F_Law_piece_L65]
  rfl
/-- a way that can be gone -/
def canW (cell but ab tn : Int32) (gn ac dn : Int64) (fs fm : Nat → Int32) (mks0 : Int32) (fma0 : Nat → Int32) (mks1 : Int32) (fma1 fmr : Nat → Int32) (j to : Int32) : Prop := ¬ j < 0 ∧ ¬ j = but ∧ F_TC_cell to 0 gn ac dn = 0 ∧ (F_TC_of j 6 tn gn ac dn fs fm mks0 fma0 mks1 fma1 = 1 ∨ (¬ ab = 0 ∧ F_TC_of j 0 tn gn ac dn fs fm mks0 fma0 mks1 fma1 = 3))
theorem L65_yes (cell but ab tn : Int32) (gn ac dn : Int64) (fs fm : Nat → Int32) (mks0 : Int32) (fma0 : Nat → Int32) (mks1 : Int32) (fma1 fmr : Nat → Int32) (y8 : Int32) (n : Nat) (x9 x6 : Int32) (w11f w12f : Nat → Int32) (c : ¬ (4 : Int32) ≤ x9) (h : canW cell but ab tn gn ac dn fs fm mks0 fma0 mks1 fma1 fmr (wJ y8 x9) (wT y8 x9)) (hz : w11f (wT y8 x9).toNatClampNeg = 0) : F_Law_piece_L65 cell but ab tn gn ac dn fs fm mks0 fma0 mks1 fma1 fmr y8 (n + 1) x9 x6 w11f w12f = F_Law_piece_L65 cell but ab tn gn ac dn fs fm mks0 fma0 mks1 fma1 fmr y8 n (x9 + 1) (x6 + 1) (upd w11f (wT y8 x9).toNatClampNeg 1) (upd w12f x6.toNatClampNeg (wT y8 x9)) := by
  rw [L65_eq, if_neg c, bnd_eq, bnd_eq]
  unfold canW at h
  generalize wJ y8 x9 = J at h ⊢
  generalize wT y8 x9 = T at h hz ⊢
  obtain ⟨h1, h2, h3, h4⟩ := h
  rw [if_neg h1, if_neg h2, bnd_eq, if_pos h3, bnd_eq]
  by_cases z : F_TC_of J 6 tn gn ac dn fs fm mks0 fma0 mks1 fma1 = 1
  · rw [if_pos z, if_pos hz]
  · rcases h4 with h4 | ⟨h4, h5⟩
    · exact absurd h4 z
    · rw [if_neg z, if_neg h4, bnd_eq, if_pos h5, if_pos hz]
theorem L65_no (cell but ab tn : Int32) (gn ac dn : Int64) (fs fm : Nat → Int32) (mks0 : Int32) (fma0 : Nat → Int32) (mks1 : Int32) (fma1 fmr : Nat → Int32) (y8 : Int32) (n : Nat) (x9 x6 : Int32) (w11f w12f : Nat → Int32) (c : ¬ (4 : Int32) ≤ x9) (h : canW cell but ab tn gn ac dn fs fm mks0 fma0 mks1 fma1 fmr (wJ y8 x9) (wT y8 x9) → ¬ w11f (wT y8 x9).toNatClampNeg = 0) : F_Law_piece_L65 cell but ab tn gn ac dn fs fm mks0 fma0 mks1 fma1 fmr y8 (n + 1) x9 x6 w11f w12f = F_Law_piece_L65 cell but ab tn gn ac dn fs fm mks0 fma0 mks1 fma1 fmr y8 n (x9 + 1) x6 w11f w12f := by
  rw [L65_eq, if_neg c, bnd_eq, bnd_eq]
  unfold canW at h
  generalize wJ y8 x9 = J at h ⊢
  generalize wT y8 x9 = T at h ⊢
  by_cases h1 : J < 0
  · rw [if_pos h1]
  rw [if_neg h1]
  by_cases h2 : J = but
  · rw [if_pos h2]
  rw [if_neg h2, bnd_eq]
  by_cases h3 : F_TC_cell T 0 gn ac dn = 0
  · rw [if_pos h3, bnd_eq]
    by_cases h4 : F_TC_of J 6 tn gn ac dn fs fm mks0 fma0 mks1 fma1 = 1
    · rw [if_pos h4, if_neg (h ⟨h1, h2, h3, Or.inl h4⟩)]
    · rw [if_neg h4]
      by_cases h5 : ab = 0
      · rw [if_pos h5]
      · rw [if_neg h5, bnd_eq]
        by_cases h6 : F_TC_of J 0 tn gn ac dn fs fm mks0 fma0 mks1 fma1 = 3
        · rw [if_pos h6, if_neg (h ⟨h1, h2, h3, Or.inr ⟨h5, h6⟩⟩)]
        · rw [if_neg h6]
  · rw [if_neg h3]
theorem L65_end (cell but ab tn : Int32) (gn ac dn : Int64) (fs fm : Nat → Int32) (mks0 : Int32) (fma0 : Nat → Int32) (mks1 : Int32) (fma1 fmr : Nat → Int32) (y8 : Int32) (n : Nat) (x9 x6 : Int32) (w11f w12f : Nat → Int32) (c : (4 : Int32) ≤ x9) : F_Law_piece_L65 cell but ab tn gn ac dn fs fm mks0 fma0 mks1 fma1 fmr y8 (n + 1) x9 x6 w11f w12f = (x9, x6, w11f, w12f) := by
  rw [L65_eq, if_pos c]
/-- what is told of joints -/
theorem of_6 {gn ac dn : Int64} {fs fm vs : Nat → Int32} (h : CR gn ac dn fs fm vs) {j : Nat} (hj : j < 82) (tn : Int32) (mks0 : Int32) (fma0 : Nat → Int32) (mks1 : Int32) (fma1 : Nat → Int32) : F_TC_of (nI j) 6 tn gn ac dn fs fm mks0 fma0 mks1 fma1 = if hold vs j then 1 else 0 := by
  have t := j_tab ⟨j, hj⟩
  dsimp only at t
  have e : F_TC_of (nI j) 6 tn gn ac dn fs fm mks0 fma0 mks1 fma1 = if F_Cloth_isJoint (nI j) = 0 then (-1) else F_TC_asNumber (F_Cloth_holds (nI j) ac dn) := rfl
  have hb : F_Cloth_holds (nI j) ac dn = 0 ∨ F_Cloth_holds (nI j) ac dn = 1 := F_Cloth_holds_b ..
  rw [e, t.2.2.2.2.2.2.2.1, if_neg (by decide), asN hb]
  have hh := mholds (vs := vs) hj
  rw [← cholds h hj] at hh
  by_cases z : hold vs j
  · rw [if_pos z]; exact hb.resolve_left (fun q => hh.mp q z)
  · rw [if_neg z]; exact hh.mpr z
theorem of_1 {gn ac dn : Int64} {fs fm vs : Nat → Int32} (h : CR gn ac dn fs fm vs) {j : Nat} (hj : j < 82) (tn : Int32) (mks0 : Int32) (fma0 : Nat → Int32) (mks1 : Int32) (fma1 : Nat → Int32) : F_TC_of (nI j) 1 tn gn ac dn fs fm mks0 fma0 mks1 fma1 = if vd vs j then 1 else 0 := by
  have t := j_tab ⟨j, hj⟩
  dsimp only at t
  have e : F_TC_of (nI j) 1 tn gn ac dn fs fm mks0 fma0 mks1 fma1 = if F_Cloth_isJoint (nI j) = 0 then (-1) else F_TC_asNumber (F_Cloth_isVoid (nI j) gn) := rfl
  have hb : F_Cloth_isVoid (nI j) gn = 0 ∨ F_Cloth_isVoid (nI j) gn = 1 := F_Cloth_isVoid_b ..
  rw [e, t.2.2.2.2.2.2.2.1, if_neg (by decide), asN hb]
  have hh := mvoid (vs := vs) hj
  rw [← cvoid h hj] at hh
  by_cases z : vd vs j
  · rw [if_pos z]; exact hb.resolve_left (fun q => hh.mp q z)
  · rw [if_neg z]; exact hh.mpr z
theorem cell_0 {gn ac dn : Int64} {fs fm vs : Nat → Int32} (h : CR gn ac dn fs fm vs) {c : Nat} (hc : c < 48) : F_TC_cell (nI c) 0 gn ac dn = if vs (164 + c) = 1 then 1 else 0 := by
  have t := c_tab ⟨c, hc⟩
  dsimp only at t
  have e : F_TC_cell (nI c) 0 gn ac dn = if F_Cloth_isCell (nI c) = 0 then (-1) else F_TC_asNumber (F_Cloth_isGone (nI c) gn) := rfl
  have hb : F_Cloth_isGone (nI c) gn = 0 ∨ F_Cloth_isGone (nI c) gn = 1 := F_Cloth_isGone_b ..
  rw [e, t.1, if_neg (by decide), asN hb]
  have hh := mgone (vs := vs) hc
  rw [← cgone h hc] at hh
  by_cases z : vs (164 + c) = 1
  · rw [if_pos z]; exact hb.resolve_left (fun q => hh.mp q z)
  · rw [if_neg z]; exact hh.mpr z
/-- what holds of the marks on the way -/
def PI3 (but ab : Int32) (vs : Nat → Int32) (a M : Nat) (mark next : Nat → Int32) : Prop :=
  cntB (fun i => !decide (mark i = 0)) 48 = M ∧ (∀ i, i < M → ∃ c, c < 48 ∧ next i = nI c ∧ ¬ mark c = 0) ∧ (∀ c, c < 48 → ¬ mark c = 0 → mark c = 1 ∧ (∃ i, i < M ∧ next i = nI c) ∧ ¬ vs (164 + c) = 1 ∧ ∀ f : Nat → Int32, cpt but ab vs f → f c = f a)
/-- all ways out of a cell lead to marked cells -/
def Clo (cell but ab tn : Int32) (gn ac dn : Int64) (fs fm : Nat → Int32) (mks0 : Int32) (fma0 : Nat → Int32) (mks1 : Int32) (fma1 fmr : Nat → Int32) (mark : Nat → Int32) (c w : Nat) : Prop := ∀ w2, w2 < w → canW cell but ab tn gn ac dn fs fm mks0 fma0 mks1 fma1 fmr (wJ (nI c) (nI w2)) (wT (nI c) (nI w2)) → ¬ mark (wT (nI c) (nI w2)).toNatClampNeg = 0
/-- a way that can be gone is a joint along which labels go -/
theorem can_act {gn ac dn : Int64} {fs fm vs : Nat → Int32} (h : CR gn ac dn fs fm vs) {but ab tn mks0 mks1 cell : Int32} {fma0 fma1 fmr : Nat → Int32} {c w : Nat} (hc : c < 48) (hw : w < 4) (hg : ¬ vs (164 + c) = 1) (hcan : canW cell but ab tn gn ac dn fs fm mks0 fma0 mks1 fma1 fmr (wJ (nI c) (nI w)) (wT (nI c) (nI w))) : ∃ j t, j < 82 ∧ t < 48 ∧ wT (nI c) (nI w) = nI t ∧ ¬ vs (164 + t) = 1 ∧ act but ab vs j ∧ ((jF j = c ∧ jS j = t) ∨ (jS j = c ∧ jF j = t)) := by
  obtain ⟨h1, h2, h3, h4⟩ := hcan
  rcases w_tab ⟨c, hc⟩ ⟨w, hw⟩ with z | ⟨⟨j, hj⟩, e1, e2⟩
  · exact absurd z h1
  dsimp only at e1 e2
  rw [e1] at h2 h4
  obtain ⟨t, ht, et, ej⟩ : ∃ t, t < 48 ∧ wT (nI c) (nI w) = nI t ∧ ((jF j = c ∧ jS j = t) ∨ (jS j = c ∧ jF j = t)) := by
    rcases e2 with ⟨e2, e3⟩ | ⟨e2, e3⟩
    · exact ⟨jS j, jS_lt hj, e3, Or.inl ⟨e2, rfl⟩⟩
    · exact ⟨jF j, jF_lt hj, e3, Or.inr ⟨e2, rfl⟩⟩
  rw [et, cell_0 h ht] at h3
  have gt : ¬ vs (164 + t) = 1 := fun z => by rw [if_pos z] at h3; exact absurd h3 (by decide)
  have nv : ¬ vd vs j := by
    unfold vd
    rcases ej with ⟨a, b⟩ | ⟨a, b⟩
    · rw [a, b]; exact fun z => z.elim hg gt
    · rw [a, b]; exact fun z => z.elim gt hg
  refine ⟨j, t, hj, ht, et, gt, ⟨h2, ?_⟩, ej⟩
  rcases h4 with h4 | ⟨h4, h5⟩
  · rw [of_6 h hj] at h4
    refine Or.inl ((holdsN hj).mpr (Classical.byContradiction fun z => ?_))
    rw [if_neg z] at h4
    exact absurd h4 (by decide)
  · rw [of_0 hj, h.2.2.1 j hj] at h5
    exact Or.inr ⟨h4, (mvoid hj).mpr nv, by rw [mj0 hj]; exact h5⟩
/-- and the other way round -/
theorem act_can {gn ac dn : Int64} {fs fm vs : Nat → Int32} (h : CR gn ac dn fs fm vs) {but ab tn mks0 mks1 cell : Int32} {fma0 fma1 fmr : Nat → Int32} {j t : Nat} (hj : j < 82) (ht : t < 48) (hg : ¬ vs (164 + t) = 1) (ha : act but ab vs j) : canW cell but ab tn gn ac dn fs fm mks0 fma0 mks1 fma1 fmr (nI j) (nI t) := by
  obtain ⟨h1, h2⟩ := ha
  refine ⟨fun z => ?_, h1, ?_, ?_⟩
  · rw [Int32.lt_iff_toInt_lt, nI_toInt (by omega)] at z
    have e0 : (0 : Int32).toInt = 0 := rfl
    omega
  · rw [cell_0 h ht, if_neg hg]
  · rcases h2 with h2 | ⟨h2, h3, h4⟩
    · left
      rw [of_6 h hj, if_pos ((holdsN hj).mp h2)]
    · right
      rw [mj0 hj] at h4
      exact ⟨h2, by rw [of_0 hj, h.2.2.1 j hj]; exact h4⟩
theorem nI4 {w : Nat} (hw : w < 4) : ¬ (4 : Int32) ≤ nI w := fun z => by
  have := (nI_leI (a := 4) (by omega) (by omega)).mp z
  omega
/-- the four ways out of a cell -/
theorem in_go {gn ac dn : Int64} {fs fm vs : Nat → Int32} (h : CR gn ac dn fs fm vs) {but ab tn mks0 mks1 cell : Int32} {fma0 fma1 fmr : Nat → Int32} {a c : Nat} (hc : c < 48) : ∀ (n w M : Nat) (mark next : Nat → Int32), w ≤ 4 → 4 - w < n → PI3 but ab vs a M mark next → ¬ mark c = 0 → Clo cell but ab tn gn ac dn fs fm mks0 fma0 mks1 fma1 fmr mark c w →
    ∃ x M' mark' next', F_Law_piece_L65 cell but ab tn gn ac dn fs fm mks0 fma0 mks1 fma1 fmr (nI c) n (nI w) (nI M) mark next = (x, nI M', mark', next') ∧ PI3 but ab vs a M' mark' next' ∧ M ≤ M' ∧ (∀ i, i < M → next' i = next i) ∧ (∀ i, ¬ mark i = 0 → ¬ mark' i = 0) ∧ Clo cell but ab tn gn ac dn fs fm mks0 fma0 mks1 fma1 fmr mark' c 4 := by
  intro n
  induction n with
  | zero => intro w M mark next hw hn; exact absurd hn (Nat.not_lt_zero _)
  | succ n ih =>
    intro w M mark next hw hn hI hm hC
    rcases Nat.lt_or_ge w 4 with hlt | hge
    · have c4 := nI4 hlt
      by_cases hz : canW cell but ab tn gn ac dn fs fm mks0 fma0 mks1 fma1 fmr (wJ (nI c) (nI w)) (wT (nI c) (nI w)) → ¬ mark (wT (nI c) (nI w)).toNatClampNeg = 0
      · rw [L65_no _ _ _ _ _ _ _ _ _ _ _ _ _ _ _ _ _ _ _ _ c4 hz, nI_1]
        refine ih (w + 1) M mark next (by omega) (by omega) hI hm (fun w2 hw2 hcan => ?_)
        by_cases e : w2 = w
        · subst e; exact hz hcan
        · exact hC w2 (by omega) hcan
      · have hcan : canW cell but ab tn gn ac dn fs fm mks0 fma0 mks1 fma1 fmr (wJ (nI c) (nI w)) (wT (nI c) (nI w)) := Classical.byContradiction fun q => hz (fun r => absurd r q)
        have hz0 : mark (wT (nI c) (nI w)).toNatClampNeg = 0 := Classical.byContradiction fun q => hz (fun _ => q)
        rw [L65_yes _ _ _ _ _ _ _ _ _ _ _ _ _ _ _ _ _ _ _ _ c4 hcan hz0, nI_1, nI_1]
        obtain ⟨g1, g2, g3⟩ := hI
        obtain ⟨j, t, hj, ht, et, gt, ha, ej⟩ := can_act h hc hlt (g3 c hc hm).2.2.1 hcan
        rw [et, nI_clamp (by omega)] at hz0 ⊢
        have hM := cnt_lt (f := fun i => !decide (mark i = 0)) ht (by simp [hz0])
        rw [g1] at hM
        rw [nI_clamp (by omega)]
        have mono : ∀ i, ¬ mark i = 0 → ¬ upd mark t 1 i = 0 := fun i hi => by
          by_cases e : i = t
          · subst e; rw [pk_us]; decide
          · rw [pk_un e]; exact hi
        have s1 : PI3 but ab vs a (M + 1) (upd mark t 1) (upd next M (nI t)) := by
          refine ⟨?_, ?_, ?_⟩
          · rw [← g1]
            exact cnt_up ht (by simp [hz0]) (by rw [pk_us]; rfl) (fun i hi => by rw [pk_un hi])
          · intro i hi
            by_cases e : i = M
            · subst e; exact ⟨t, ht, pk_us, by rw [pk_us]; decide⟩
            · obtain ⟨d, hd, ed, md⟩ := g2 i (by omega)
              exact ⟨d, hd, by rw [pk_un e]; exact ed, mono d md⟩
          · intro d hd md
            by_cases e : d = t
            · subst e
              refine ⟨pk_us, ⟨M, by omega, pk_us⟩, gt, fun f hf => ?_⟩
              have q := hf j hj ha
              have r := (g3 c hc hm).2.2.2 f hf
              rcases ej with ⟨a1, a2⟩ | ⟨a1, a2⟩
              · rw [a1, a2] at q; rw [← q]; exact r
              · rw [a1, a2] at q; rw [q]; exact r
            · rw [pk_un e] at md
              obtain ⟨k1, ⟨i, hi, ei⟩, k3, k4⟩ := g3 d hd md
              exact ⟨by rw [pk_un e]; exact k1, ⟨i, by omega, by rw [pk_un (by omega)]; exact ei⟩, k3, k4⟩
        have s2 : Clo cell but ab tn gn ac dn fs fm mks0 fma0 mks1 fma1 fmr (upd mark t 1) c (w + 1) := fun w2 hw2 hcan2 => by
          by_cases e : w2 = w
          · subst e; rw [et, nI_clamp (by omega), pk_us]; decide
          · exact mono _ (hC w2 (by omega) hcan2)
        obtain ⟨x, M', mark', next', e1, e2, e3, e4, e5, e6⟩ := ih (w + 1) (M + 1) (upd mark t 1) (upd next M (nI t)) (by omega) (by omega) s1 (mono c hm) s2
        exact ⟨x, M', mark', next', e1, e2, by omega, fun i hi => by rw [e4 i (by omega), pk_un (by omega)], fun i hi => e5 i (mono i hi), e6⟩
    · have e : w = 4 := by omega
      subst e
      rw [L65_end _ _ _ _ _ _ _ _ _ _ _ _ _ _ _ _ _ _ _ _ (by decide)]
      exact ⟨_, M, mark, next, rfl, hI, Nat.le_refl _, fun _ _ => rfl, fun _ q => q, hC⟩
/-- the cells, one after the other -/
theorem out_go {gn ac dn : Int64} {fs fm vs : Nat → Int32} (h : CR gn ac dn fs fm vs) {but ab tn mks0 mks1 cell : Int32} {fma0 fma1 fmr : Nat → Int32} {a : Nat} : ∀ (n k M : Nat) (mark next : Nat → Int32), k ≤ M → 48 - k < n → PI3 but ab vs a M mark next → (∀ i c, i < k → next i = nI c → c < 48 → Clo cell but ab tn gn ac dn fs fm mks0 fma0 mks1 fma1 fmr mark c 4) →
    ∃ x M' mark' next', F_Law_piece_L48 cell but ab tn gn ac dn fs fm mks0 fma0 mks1 fma1 fmr n (nI k) (nI M) mark next = (x, nI M', mark', next') ∧ PI3 but ab vs a M' mark' next' ∧ (∀ i, ¬ mark i = 0 → ¬ mark' i = 0) ∧ ∀ c, c < 48 → ¬ mark' c = 0 → Clo cell but ab tn gn ac dn fs fm mks0 fma0 mks1 fma1 fmr mark' c 4 := by
  intro n
  induction n with
  | zero => intro k M mark next hk hn; exact absurd hn (Nat.not_lt_zero _)
  | succ n ih =>
    intro k M mark next hk hn hI hC
    have hM : M ≤ 48 := by rw [← hI.1]; exact cntB_le _ _
    rw [F_Law_piece_L48]
    by_cases c : nI M ≤ nI k
    · rw [if_pos c]
      have hge := (nI_leI (by omega) (by omega)).mp c
      refine ⟨_, M, mark, next, rfl, hI, fun _ q => q, fun d hd md => ?_⟩
      obtain ⟨-, ⟨i, hi, ei⟩, -, -⟩ := hI.2.2 d hd md
      exact hC i d (by omega) ei hd
    · have hlt : k < M := Nat.lt_of_not_le fun z => c ((nI_leI (by omega) (by omega)).mpr z)
      rw [if_neg c, bnd_eq, nI_clamp (by omega)]
      obtain ⟨d, hd, ed, md⟩ := hI.2.1 k hlt
      rw [ed, bnd_eq]
      obtain ⟨x, M', mark', next', e1, e2, e3, e4, e5, e6⟩ := in_go (fmr := fmr) (cell := cell) (tn := tn) (mks0 := mks0) (fma0 := fma0) (mks1 := mks1) (fma1 := fma1) h hd 5 0 M mark next (by omega) (by omega) hI md (fun w2 hw2 => absurd hw2 (Nat.not_lt_zero _))
      rw [nI_0] at e1
      rw [e1, nI_1]
      have s1 : ∀ i c, i < k + 1 → next' i = nI c → c < 48 → Clo cell but ab tn gn ac dn fs fm mks0 fma0 mks1 fma1 fmr mark' c 4 := fun i b hi ei hb => by
        by_cases e : i = k
        · subst e
          rw [e4 i hlt, ed] at ei
          have : d = b := (nI_eq (by omega) (by omega)).mp ei
          subst this
          exact e6
        · rw [e4 i (by omega)] at ei
          exact fun w2 hw2 hcan => e5 _ (hC i b (by omega) ei hb w2 hw2 hcan)
      obtain ⟨y, M2, mark2, next2, f1, f2, f3, f4⟩ := ih (k + 1) M' mark' next' (by omega) (by omega) e2 s1
      exact ⟨y, M2, mark2, next2, f1, f2, fun i hi => f3 i (e5 i hi), f4⟩
theorem l12_v (cell but ab tn : Int32) (gn ac dn : Int64) (fs fm : Nat → Int32) (mks0 : Int32) (fma0 : Nat → Int32) (mks1 : Int32) (fma1 fmr : Nat → Int32) : ∀ (n k : Nat) (w : Nat → Int32), k ≤ 48 → 48 - k < n → (∀ i, i < k → w i = if nI i = cell then 1 else 0) → ∀ i, i < 48 → (F_Law_piece_L12 cell but ab tn gn ac dn fs fm mks0 fma0 mks1 fma1 fmr n (nI k) w).2 i = if nI i = cell then 1 else 0 := by
  intro n
  induction n with
  | zero => intro k w hk hn; exact absurd hn (Nat.not_lt_zero _)
  | succ n ih =>
    intro k w hk hn hw i hi
    rw [F_Law_piece_L12]
    by_cases c : (48 : Int32) ≤ nI k
    · rw [if_pos c]
      have hk2 : 48 ≤ k := (nI_leI (by decide) (by omega)).mp c
      exact hw i (by omega)
    · rw [if_neg c, bnd_eq, nI_1]
      have hlt : k < 48 := lp_lt rfl rfl hk c
      refine ih (k + 1) _ (by omega) (by omega) ?_ i hi
      intro q hq
      rw [nI_clamp (by omega)]
      by_cases e : q = k
      · subst e; rw [pk_us]
      · rw [pk_un e]; exact hw q (by omega)
/-- a piece: how many cells, and which -/
theorem piece_ok {gn ac dn : Int64} {fs fm vs : Nat → Int32} (h : CR gn ac dn fs fm vs) {but ab : Int32} (tn mks0 mks1 : Int32) (fma0 fma1 fmr : Nat → Int32) {a : Nat} (ha : a < 48) (hg : ¬ vs (164 + a) = 1) {across down : Int64} (hG : GE but ab vs across down) :
    (F_Law_piece (nI a) but ab tn gn ac dn fs fm mks0 fma0 mks1 fma1 fmr).1 = F_Long_bitCount (F_Cloth_spread (nI a) across down) ∧ ∀ c, c < 48 → (F_Law_piece (nI a) but ab tn gn ac dn fs fm mks0 fma0 mks1 fma1 fmr).2 c = if b6 (F_Cloth_spread (nI a) across down) c = true then 1 else 0 := by
  have hv := l12_v (nI a) but ab tn gn ac dn fs fm mks0 fma0 mks1 fma1 fmr 49 0 fmr (by omega) (by omega) (fun i hi => absurd hi (Nat.not_lt_zero _))
  rw [nI_0] at hv
  have e0 : F_Law_piece (nI a) but ab tn gn ac dn fs fm mks0 fma0 mks1 fma1 fmr = ((F_Law_piece_L48 (nI a) but ab tn gn ac dn fs fm mks0 fma0 mks1 fma1 fmr 49 0 1 (F_Law_piece_L12 (nI a) but ab tn gn ac dn fs fm mks0 fma0 mks1 fma1 fmr 49 0 fmr).2 (upd (fun _ => 0) (0 : Int32).toNatClampNeg (nI a))).2.1, (F_Law_piece_L48 (nI a) but ab tn gn ac dn fs fm mks0 fma0 mks1 fma1 fmr 49 0 1 (F_Law_piece_L12 (nI a) but ab tn gn ac dn fs fm mks0 fma0 mks1 fma1 fmr 49 0 fmr).2 (upd (fun _ => 0) (0 : Int32).toNatClampNeg (nI a))).2.2.1) := by
    rw [F_Law_piece, bnd_eq, bnd_eq]
  rw [e0]
  generalize (F_Law_piece_L12 (nI a) but ab tn gn ac dn fs fm mks0 fma0 mks1 fma1 fmr 49 0 fmr).2 = mk at hv ⊢
  have hv : ∀ i, i < 48 → mk i = if i = a then 1 else 0 := fun i hi => by
    rw [hv i hi]
    by_cases e : i = a
    · subst e; rw [if_pos rfl, if_pos rfl]
    · rw [if_neg e, if_neg (fun z => e ((nI_eq (by omega) (by omega)).mp z))]
  have z0 : (0 : Int32).toNatClampNeg = 0 := rfl
  have ha1 : ¬ mk a = 0 := by rw [hv a ha, if_pos rfl]; decide
  have hI : PI3 but ab vs a 1 mk (upd (fun _ => 0) 0 (nI a)) := by
    refine ⟨?_, fun i hi => ?_, fun c hc mc => ?_⟩
    · obtain ⟨M, eM, hM⟩ := pi_init (cell := nI a) (mark := mk) (vp_in_nI ha (by decide)) (fun i hi => by
        rw [hv i hi]
        by_cases e : i = a
        · subst e; rw [if_pos rfl, if_pos rfl]
        · rw [if_neg e, if_neg (fun z => e ((nI_eq (by omega) (by omega)).mp z))])
      have hM2 := cntB_le (fun i => !decide (mk i = 0)) 48
      have := (nI_eq (a := 1) (b := M) (by omega) (by omega)).mp eM
      rw [hM, ← this]
    · obtain rfl : i = 0 := by omega
      exact ⟨a, ha, pk_us, ha1⟩
    · have e : c = a := Classical.byContradiction fun q => mc (by rw [hv c hc, if_neg q])
      subst e
      exact ⟨by rw [hv c hc, if_pos rfl], ⟨0, by omega, pk_us⟩, hg, fun _ _ => rfl⟩
  obtain ⟨x, M', mark', next', e1, e2, e3, e4⟩ := out_go (fmr := fmr) (cell := nI a) (tn := tn) (mks0 := mks0) (fma0 := fma0) (mks1 := mks1) (fma1 := fma1) h 49 0 1 mk (upd (fun _ => 0) 0 (nI a)) (by omega) (by omega) hI (fun i c hi => absurd hi (Nat.not_lt_zero _))
  rw [nI_0, show nI 1 = 1 from rfl] at e1
  rw [z0, e1]
  obtain ⟨g1, g2, g3, g4⟩ := sp_all ha (GE_EB hG)
  -- the marks are the piece
  have key : ∀ c, c < 48 → (¬ mark' c = 0 ↔ b6 (F_Cloth_spread (nI a) across down) c = true) := by
    intro c hc
    constructor
    · intro mc
      have hf : cpt but ab vs (fun i => if b6 (F_Cloth_spread (nI a) across down) i = true then 1 else 0) := fun j hj hact => by
        have := hG.1 j hj hact
        dsimp only
        rw [jS_of]
        by_cases c42 : j < 42
        · rw [if_pos c42, g3 _ (this.1 c42)]
        · rw [if_neg c42, g4 _ (this.2 (by omega))]
      have q := (e2.2.2 c hc mc).2.2.2 _ hf
      rw [if_pos g2] at q
      cases hb : b6 (F_Cloth_spread (nI a) across down) c
      · rw [hb] at q; exact absurd q (by decide)
      · rfl
    · intro hb
      have hcl : cpt but ab vs (fun i => if i < 48 ∧ ¬ mark' i = 0 then 1 else 0) := fun j hj hact => by
        have t1 := jF_lt hj
        have t2 := jS_lt hj
        have nv := act_nv hj hact
        have gF : ¬ vs (164 + jF j) = 1 := fun z => nv (Or.inl z)
        have gS : ¬ vs (164 + jS j) = 1 := fun z => nv (Or.inr z)
        obtain ⟨⟨⟨w, hw⟩, w1, w2⟩, ⟨⟨w', hw'⟩, w3, w4⟩⟩ := w_conv ⟨j, hj⟩
        dsimp only at w1 w2 w3 w4 ⊢
        have one : ¬ mark' (jF j) = 0 → ¬ mark' (jS j) = 0 := fun z => by
          have := e4 _ t1 z w hw (by rw [w1, w2]; exact act_can h hj t2 gS hact)
          rw [w2, nI_clamp (by omega)] at this
          exact this
        have two : ¬ mark' (jS j) = 0 → ¬ mark' (jF j) = 0 := fun z => by
          have := e4 _ t2 z w' hw' (by rw [w3, w4]; exact act_can h hj t1 gF hact)
          rw [w4, nI_clamp (by omega)] at this
          exact this
        by_cases z : mark' (jF j) = 0
        · rw [if_neg (fun q => q.2 z), if_neg (fun q => two q.2 z)]
        · rw [if_pos ⟨t1, z⟩, if_pos ⟨t2, one z⟩]
      have hw := GE_w hG hcl
      have q := sp_sound ha hw.1 hw.2 c hb
      rw [if_pos (⟨ha, e3 a ha1⟩ : a < 48 ∧ ¬ mark' a = 0)] at q
      exact Classical.byContradiction fun z => by
        rw [if_neg (fun r => z r.2)] at q
        exact absurd q (by decide)
  refine ⟨?_, fun c hc => ?_⟩
  · rw [bitCount_48 g1, ← e2.1]
    refine congrArg nI (cntB_eq fun i hi => ?_)
    by_cases z : mark' i = 0
    · have hb : b6 (F_Cloth_spread (nI a) across down) i = false := not_true_false.mpr (fun q => (key i hi).mpr q z)
      rw [hb]; simp [z]
    · rw [(key i hi).mp z]; simp [z]
  · by_cases z : mark' c = 0
    · rw [if_neg (fun q => (key c hc).mpr q z)]; exact z
    · rw [if_pos ((key c hc).mp z)]; exact (e2.2.2 c hc z).1
