def F_Model_in (v : Int32) (least : Int32) (most : Int32) : Int32 := (if v < least then 0 else (if most < v then 0 else 1))
theorem F_Model_in_b (v : Int32) (least : Int32) (most : Int32) : F_Model_in v least most = 0 ∨ F_Model_in v least most = 1 := by
  unfold F_Model_in
  try simp only [bnd]
  (repeat' split) <;> first | exact Or.inl rfl | exact Or.inr rfl
def F_Model_isJoint (joint : Int32) : Int32 := (bnd (F_Model_in joint (0 : Int32) (81 : Int32)) (fun r_1 => r_1))
theorem mjt_in {x : Int32} (h : ¬ F_Model_isJoint x = 0) : vp_in x 82 := by
  have h : ¬ F_Model_in x 0 81 = 0 := h
  unfold F_Model_in at h
  by_cases h0 : x < 0
  · rw [if_pos h0] at h; exact absurd rfl h
  · rw [if_neg h0] at h
    by_cases h1 : (81 : Int32) < x
    · rw [if_pos h1] at h; exact absurd rfl h
    · rw [vp_in_iff]
      rw [Int32.lt_iff_toInt_lt] at h0 h1
      have e1 : (0 : Int32).toInt = 0 := rfl
      have e2 : (81 : Int32).toInt = 81 := rfl
      omega
theorem mcl_in0 {x : Int32} (h : ¬ F_Model_in x 0 47 = 0) : vp_in x 48 := by
  unfold F_Model_in at h
  by_cases h0 : x < 0
  · rw [if_pos h0] at h; exact absurd rfl h
  · rw [if_neg h0] at h
    by_cases h1 : (47 : Int32) < x
    · rw [if_pos h1] at h; exact absurd rfl h
    · rw [vp_in_iff]
      rw [Int32.lt_iff_toInt_lt] at h0 h1
      have e1 : (0 : Int32).toInt = 0 := rfl
      have e2 : (47 : Int32).toInt = 47 := rfl
      omega
theorem in01 {x : Int32} (h : ¬ F_Model_in x 0 1 = 0) : p01 x := by
  unfold F_Model_in at h
  by_cases h0 : x < 0
  · rw [if_pos h0] at h; exact absurd rfl h
  · rw [if_neg h0] at h
    by_cases h1 : (1 : Int32) < x
    · rw [if_pos h1] at h; exact absurd rfl h
    · rw [Int32.lt_iff_toInt_lt] at h0 h1
      have e1 : (0 : Int32).toInt = 0 := rfl
      have e2 : (1 : Int32).toInt = 1 := rfl
      rcases (show x.toInt = 0 ∨ x.toInt = 1 by omega) with e | e
      · exact Or.inl (Int32.toInt_inj.mp e)
      · exact Or.inr (Int32.toInt_inj.mp e)
theorem in17 {x : Int32} (h : ¬ F_Model_in x 1 7 = 0) : 0 ≤ x.toInt ∧ x.toInt < 16 := by
  unfold F_Model_in at h
  by_cases h0 : x < 1
  · rw [if_pos h0] at h; exact absurd rfl h
  · rw [if_neg h0] at h
    by_cases h1 : (7 : Int32) < x
    · rw [if_pos h1] at h; exact absurd rfl h
    · rw [Int32.lt_iff_toInt_lt] at h0 h1
      have e1 : (1 : Int32).toInt = 1 := rfl
      have e2 : (7 : Int32).toInt = 7 := rfl
      omega
theorem in_cnt {x c : Int32} (hc : tm_ok 8 c) (h : ¬ F_Model_in x 0 (c - 1) = 0) : vp_in x 8 := by
  obtain ⟨q, hq, rfl⟩ := hc
  unfold F_Model_in at h
  by_cases h0 : x < 0
  · rw [if_pos h0] at h; exact absurd rfl h
  · rw [if_neg h0] at h
    by_cases h1 : nI q - 1 < x
    · rw [if_pos h1] at h; exact absurd rfl h
    · rw [vp_in_iff]
      rw [Int32.lt_iff_toInt_lt] at h0 h1
      have e1 : (0 : Int32).toInt = 0 := rfl
      have e2 : (nI q - 1).toInt = (q : Int) - 1 := pk_sub_toInt (a := q) (b := 1) (by omega) (by decide)
      omega
theorem F_Model_isJoint_b (joint : Int32) : F_Model_isJoint joint = 0 ∨ F_Model_isJoint joint = 1 := by
  unfold F_Model_isJoint
  try simp only [bnd]
  (repeat' split) <;> first | exact Or.inl rfl | exact Or.inr rfl | exact F_Model_in_b ..
def F_Model_isCell (cell : Int32) : Int32 := (bnd (F_Model_in cell (0 : Int32) (47 : Int32)) (fun r_1 => r_1))
theorem mcl_in {x : Int32} (h : ¬ F_Model_isCell x = 0) : vp_in x 48 := mcl_in0 h
theorem F_Model_isCell_b (cell : Int32) : F_Model_isCell cell = 0 ∨ F_Model_isCell cell = 1 := by
  unfold F_Model_isCell
  try simp only [bnd]
  (repeat' split) <;> first | exact Or.inl rfl | exact Or.inr rfl | exact F_Model_in_b ..
def F_Model_at (player : Int32) (what : Int32) : Int32 := (((212 : Int32) + ((16 : Int32) * player)) + what)
theorem at_0 (j : Nat) : F_Model_at 0 (nI j) = nI (212 + j) := by
  unfold F_Model_at
  exact nI_add 212 j
theorem at_1 (j : Nat) : F_Model_at 1 (nI j) = nI (228 + j) := by
  unfold F_Model_at
  exact nI_add 228 j
theorem at_in {p w : Int32} {n : Nat} (hp : p01 p) (hw : 0 ≤ w.toInt ∧ w.toInt < 16) (hn : 244 ≤ n ∧ n < 2 ^ 31) : vp_in (F_Model_at p w) n := by
  obtain ⟨j, hj, rfl⟩ := vp_in_of (vp_in_iff.mpr hw : vp_in w 16) (by decide)
  rcases hp with rfl | rfl
  · rw [at_0]; exact vp_in_nI (by omega) hn.2
  · rw [at_1]; exact vp_in_nI (by omega) hn.2
theorem at_in8 {p r : Int32} (hp : p01 p) (hr : vp_in r 8) : vp_in (F_Model_at p 8 + r) 246 := by
  obtain ⟨j, hj, rfl⟩ := vp_in_of hr (by decide)
  rcases hp with rfl | rfl
  · rw [show F_Model_at 0 8 = nI 220 from at_0 8, nI_add]; exact vp_in_nI (by omega) (by decide)
  · rw [show F_Model_at 1 8 = nI 236 from at_1 8, nI_add]; exact vp_in_nI (by omega) (by decide)
theorem mi_cnt {vs : Nat → Int32} {p : Int32} (h : MI vs) (hp : p01 p) : tm_ok 8 (vs (F_Model_at p 2).toNatClampNeg) := by
  rcases hp with rfl | rfl
  · rw [show (F_Model_at 0 2).toNatClampNeg = 214 by decide +kernel]; exact h.2.1
  · rw [show (F_Model_at 1 2).toNatClampNeg = 230 by decide +kernel]; exact h.2.2
theorem at_ne {p x : Int32} (hp : p01 p) (hx : vp_in x 8) : (F_Model_at p 2).toNatClampNeg ≠ (F_Model_at p 8 + x).toNatClampNeg := by
  obtain ⟨j, hj, rfl⟩ := vp_in_of hx (by decide)
  rcases hp with rfl | rfl
  · rw [show F_Model_at 0 8 = nI 220 from at_0 8, show F_Model_at 0 2 = nI 214 from at_0 2, nI_add, nI_clamp (by omega), nI_clamp (by omega)]; omega
  · rw [show F_Model_at 1 8 = nI 236 from at_1 8, show F_Model_at 1 2 = nI 230 from at_1 2, nI_add, nI_clamp (by omega), nI_clamp (by omega)]; omega
theorem rub_dec {M : Nat} (h : 1 ≤ M) : nI M - 1 = nI (M - 1) := by
  obtain ⟨m, rfl⟩ : ∃ m, M = m + 1 := ⟨M - 1, by omega⟩
  exact nI_pred m
theorem vp_up1 {k : Nat} (h : k + 1 < 8) : vp_in (nI k + 1) 8 := by
  rw [nI_1]
  exact vp_in_nI h (by decide)
theorem hist_sh {k : Nat} (h : k < 1230) : vp_in (nI k + 246) 1476 := by
  rw [show (246 : Int32) = nI 246 from rfl, nI_add]
  exact vp_in_nI (by omega) (by decide)
theorem hist_in {kp x : Int32} {k : Nat} (h : tm_ok 5 kp) (ex : x = nI k) (hk : k < 246) : vp_in ((246 : Int32) * kp + x) 1476 := by
  obtain ⟨q, hq, rfl⟩ := h
  rw [ex, show (246 : Int32) = nI 246 from rfl, pk_mul, nI_add]
  exact vp_in_nI (by omega) (by decide)
theorem kp_not {x : Int32} (h : tm_ok 6 x) (c : ¬ x = 6) : tm_ok 5 x := by
  obtain ⟨q, hq, rfl⟩ := h
  have : q ≠ 6 := fun e => c (by rw [e]; rfl)
  exact ⟨q, by omega, rfl⟩
theorem MI_ix {vs : Nat → Int32} {i x : Int32} (hi : vp_in i 212) (h : MI vs) : MI (upd vs i.toNatClampNeg x) := by
  have hl : i.toNatClampNeg < 212 := Nat.lt_of_not_le fun q => hi (Or.inr q)
  refine ⟨?_, ?_, ?_⟩
  · rw [pk_un (by omega)]; exact h.1
  · rw [pk_un (by omega)]; exact h.2.1
  · rw [pk_un (by omega)]; exact h.2.2
theorem MI_at {vs : Nat → Int32} {p w x : Int32} (hp : p01 p) (hw : 0 ≤ w.toInt ∧ w.toInt < 16 ∧ w.toInt ≠ 2) (h : MI vs) : MI (upd vs (F_Model_at p w).toNatClampNeg x) := by
  obtain ⟨j, hj, rfl⟩ := vp_in_of (vp_in_iff.mpr ⟨hw.1, hw.2.1⟩ : vp_in w 16) (by decide)
  have hj2 : j ≠ 2 := fun e => hw.2.2 (by rw [nI_toInt (by omega), e]; rfl)
  rcases hp with rfl | rfl
  · rw [at_0, nI_clamp (by omega)]
    refine ⟨?_, ?_, ?_⟩
    · rw [pk_un (by omega)]; exact h.1
    · rw [pk_un (by omega)]; exact h.2.1
    · rw [pk_un (by omega)]; exact h.2.2
  · rw [at_1, nI_clamp (by omega)]
    refine ⟨?_, ?_, ?_⟩
    · rw [pk_un (by omega)]; exact h.1
    · rw [pk_un (by omega)]; exact h.2.1
    · rw [pk_un (by omega)]; exact h.2.2
theorem kp_dec {x : Int32} (c : x = 6) : tm_ok 5 (x - 1) := ⟨5, by omega, by rw [c]; rfl⟩
def F_Model_first (joint : Int32) : Int32 := (if (42 : Int32) ≤ joint then (joint - 42) else (((joint / 7) * 8) + (joint - joint / 7 * 7)))
theorem first_tab : ∀ j : Fin 82, 0 ≤ (F_Model_first (nI j.val)).toInt ∧ (F_Model_first (nI j.val)).toInt < 48 := by decide +kernel
theorem first_in {x : Int32} (h : vp_in x 82) : vp_in (F_Model_first x) 48 := by
  obtain ⟨j, hj, rfl⟩ := vp_in_of h (by decide)
  exact vp_in_iff.mpr (first_tab ⟨j, hj⟩)
def F_Model_second (joint : Int32) : Int32 := (if (42 : Int32) ≤ joint then (bnd (F_Model_first joint) (fun r_2 => (r_2 + 8))) else (bnd (F_Model_first joint) (fun r_3 => (r_3 + 1))))
theorem second_tab : ∀ j : Fin 82, 0 ≤ (F_Model_second (nI j.val)).toInt ∧ (F_Model_second (nI j.val)).toInt < 48 := by decide +kernel
theorem second_in {x : Int32} (h : vp_in x 82) : vp_in (F_Model_second x) 48 := by
  obtain ⟨j, hj, rfl⟩ := vp_in_of h (by decide)
  exact vp_in_iff.mpr (second_tab ⟨j, hj⟩)
def F_Model_chalkAt (player : Int32) (rank : Int32) (vs : Nat → Int32) : Int32 := (bnd (F_Model_at player (8 : Int32)) (fun r_1 => (vs (r_1 + rank).toNatClampNeg)))
def F_Model_isGone (cell : Int32) (vs : Nat → Int32) : Int32 := (if (vs ((164 : Int32) + cell).toNatClampNeg) = 1 then 1 else 0)
theorem F_Model_isGone_b (cell : Int32) (vs : Nat → Int32) : F_Model_isGone cell vs = 0 ∨ F_Model_isGone cell vs = 1 := by
  unfold F_Model_isGone
  try simp only [bnd]
  (repeat' split) <;> first | exact Or.inl rfl | exact Or.inr rfl
def F_Model_isVoid (joint : Int32) (vs : Nat → Int32) : Int32 := (bnd (F_Model_first joint) (fun r_1 => (bnd (F_Model_isGone r_1 vs) (fun r_2 => (if r_2 = 0 then (bnd (F_Model_second joint) (fun r_4 => (bnd (F_Model_isGone r_4 vs) (fun r_5 => (if r_5 = 0 then 0 else 1))))) else 1)))))
theorem F_Model_isVoid_b (joint : Int32) (vs : Nat → Int32) : F_Model_isVoid joint vs = 0 ∨ F_Model_isVoid joint vs = 1 := by
  unfold F_Model_isVoid
  try simp only [bnd]
  (repeat' split) <;> first | exact Or.inl rfl | exact Or.inr rfl | exact F_Model_isGone_b ..
def F_Model_holds (joint : Int32) (vs : Nat → Int32) : Int32 := (bnd (F_Model_isVoid joint vs) (fun r_1 => (if r_1 = 0 then (if (vs ((0 : Int32) + joint).toNatClampNeg) = 0 then 1 else (if (vs ((0 : Int32) + joint).toNatClampNeg) = 2 then 1 else 0)) else 0)))
theorem F_Model_holds_b (joint : Int32) (vs : Nat → Int32) : F_Model_holds joint vs = 0 ∨ F_Model_holds joint vs = 1 := by
  unfold F_Model_holds
  try simp only [bnd]
  (repeat' split) <;> first | exact Or.inl rfl | exact Or.inr rfl | exact F_Model_isVoid_b ..
def F_Model_cellsOf_L4 (piece : Int32) (vlb : Nat → Int32) : Nat → Int32 → Int32 → Int32 × Int32
  | 0, x3, x2 => (x3, x2)
  | n + 1, x3, x2 => (if (48 : Int32) ≤ x3 then (x3, x2) else (if (vlb x3.toNatClampNeg) = piece then (F_Model_cellsOf_L4 piece vlb n (x3 + 1) (x2 + 1)) else (F_Model_cellsOf_L4 piece vlb n (x3 + 1) (x2 + 0))))
def F_Model_cellsOf (piece : Int32) (vlb : Nat → Int32) : Int32 := (bnd (F_Model_cellsOf_L4 piece vlb 49 (0 : Int32) (0 : Int32)) (fun q_1 => q_1.2))
def F_Model_left_L4 (vs : Nat → Int32) : Nat → Int32 → Int32 → Int32 × Int32
  | 0, x2, x1 => (x2, x1)
  | n + 1, x2, x1 => (if (48 : Int32) ≤ x2 then (x2, x1) else (bnd (F_Model_isGone x2 vs) (fun r_3 => (if r_3 = 0 then (F_Model_left_L4 vs n (x2 + 1) (x1 + 1)) else (F_Model_left_L4 vs n (x2 + 1) (x1 + 0))))))
def F_Model_left (vs : Nat → Int32) : Int32 := (bnd (F_Model_left_L4 vs 49 (0 : Int32) (0 : Int32)) (fun q_1 => q_1.2))
def F_Model_isOver (vs : Nat → Int32) : Int32 := (if (200 : Int32) ≤ (vs (244 : Int32).toNatClampNeg) then 1 else (bnd (F_Model_left vs) (fun r_2 => (if (13 : Int32) ≤ r_2 then 0 else 1))))
theorem F_Model_isOver_b (vs : Nat → Int32) : F_Model_isOver vs = 0 ∨ F_Model_isOver vs = 1 := by
  unfold F_Model_isOver
  try simp only [bnd]
  (repeat' split) <;> first | exact Or.inl rfl | exact Or.inr rfl
def F_Model_looks_L2 (vs : Nat → Int32) (vah : Nat → Int32) : Nat → Int32 → (Nat → Int32) → Int32 × (Nat → Int32)
  | 0, x1, w2f => (x1, w2f)
  | n + 1, x1, w2f => (if (246 : Int32) ≤ x1 then (x1, w2f) else (F_Model_looks_L2 vs vah n (x1 + 1) (upd w2f x1.toNatClampNeg (vs x1.toNatClampNeg))))
theorem cp_looks (vs : Nat → Int32) (vah : Nat → Int32) : ∀ (n k : Nat) (w2f : Nat → Int32), k ≤ 246 → 246 - k < n → (∀ j, j < k → w2f j = vs j) → ∀ j, j < 246 → (F_Model_looks_L2 vs vah n (nI k) w2f).2 j = vs j := by
  intro n
  induction n with
  | zero => intro k w2f hk hn; exact absurd hn (Nat.not_lt_zero _)
  | succ n ih =>
    intro k w2f hk hn hw j hj
    rw [F_Model_looks_L2]
    by_cases c : (246 : Int32) ≤ nI k
    · rw [if_pos c]
      have hk2 : 246 ≤ k := (nI_leI (by decide) (by omega)).mp c
      exact hw j (by omega)
    · rw [if_neg c, nI_1]
      have hlt : k < 246 := lp_lt rfl rfl hk c
      refine ih (k + 1) _ (by omega) (by omega) ?_ j hj
      intro i hi
      rw [nI_clamp (by omega)]
      by_cases e : i = k
      · subst e; exact pk_us
      · rw [pk_un e]; exact hw i (by omega)
def F_Model_records_L52 (vkp : Int32) (vah : Nat → Int32) (vhi : Nat → Int32) : Nat → Int32 → Int32 → (Nat → Int32) → Int32 × Int32 × (Nat → Int32)
  | 0, x1, w03, w2f => (x1, w03, w2f)
  | n + 1, x1, w03, w2f => (if (246 : Int32) ≤ x1 then (x1, w03, w2f) else (F_Model_records_L52 vkp vah vhi n (x1 + 1) w03 (upd w2f (((246 : Int32) * w03) + x1).toNatClampNeg (vah x1.toNatClampNeg))))
def F_Model_records_L11 (vkp : Int32) (vah : Nat → Int32) (vhi : Nat → Int32) : Nat → Int32 → (Nat → Int32) → Int32 × (Nat → Int32)
  | 0, x1, w2f => (x1, w2f)
  | n + 1, x1, w2f => (if (1230 : Int32) ≤ x1 then (x1, w2f) else (F_Model_records_L11 vkp vah vhi n (x1 + 1) (upd w2f x1.toNatClampNeg (w2f (x1 + 246).toNatClampNeg))))
def F_Model_records (vkp : Int32) (vah : Nat → Int32) (vhi : Nat → Int32) : (Nat → Int32) × Int32 := (if vkp = 6 then (bnd (F_Model_records_L11 vkp vah vhi 1231 (0 : Int32) vhi) (fun q_4 => (bnd (F_Model_records_L52 vkp vah vhi 247 (0 : Int32) (vkp - 1) q_4.2) (fun q_5 => (q_5.2.2, (q_5.2.1 + 1)))))) else (bnd (F_Model_records_L52 vkp vah vhi 247 (0 : Int32) vkp vhi) (fun q_2 => (q_2.2.2, (q_2.2.1 + 1)))))
def F_Model_layPieces_L45 (but : Int32) (areBluffed : Int32) (vs : Nat → Int32) (vlb : Nat → Int32) : Nat → Int32 → Int32 → (Nat → Int32) → Int32 × Int32 × (Nat → Int32)
  | 0, x4, x3, w2f => (x4, x3, w2f)
  | n + 1, x4, x3, w2f => (if (82 : Int32) ≤ x4 then (x4, x3, w2f) else (if x4 = but then (bnd (F_Model_first x4) (fun r_7 => (bnd (F_Model_second x4) (fun r_8 => (F_Model_layPieces_L45 but areBluffed vs vlb n (x4 + 1) x3 w2f))))) else (bnd (F_Model_holds x4 vs) (fun r_10 => (if r_10 = 0 then (if areBluffed = 0 then (bnd (F_Model_first x4) (fun r_23 => (bnd (F_Model_second x4) (fun r_24 => (F_Model_layPieces_L45 but areBluffed vs vlb n (x4 + 1) x3 w2f))))) else (bnd (F_Model_isVoid x4 vs) (fun r_26 => (if r_26 = 0 then (if (vs ((0 : Int32) + x4).toNatClampNeg) = 3 then (bnd (F_Model_first x4) (fun r_35 => (bnd (F_Model_second x4) (fun r_36 => (if (w2f r_35.toNatClampNeg) = (w2f r_36.toNatClampNeg) then (F_Model_layPieces_L45 but areBluffed vs vlb n (x4 + 1) x3 w2f) else (bnd (F_Model_first x4) (fun r_39 => (if (w2f r_36.toNatClampNeg) ≤ (w2f r_35.toNatClampNeg) then (bnd (F_Model_second x4) (fun r_41 => (bnd (F_Model_first x4) (fun r_42 => (F_Model_layPieces_L45 but areBluffed vs vlb n (x4 + 1) (1 : Int32) (upd (upd w2f r_39.toNatClampNeg (w2f r_36.toNatClampNeg)) r_41.toNatClampNeg ((upd w2f r_39.toNatClampNeg (w2f r_36.toNatClampNeg)) r_42.toNatClampNeg))))))) else (bnd (F_Model_second x4) (fun r_43 => (bnd (F_Model_first x4) (fun r_44 => (F_Model_layPieces_L45 but areBluffed vs vlb n (x4 + 1) (1 : Int32) (upd (upd w2f r_39.toNatClampNeg (w2f r_35.toNatClampNeg)) r_43.toNatClampNeg ((upd w2f r_39.toNatClampNeg (w2f r_35.toNatClampNeg)) r_44.toNatClampNeg))))))))))))))) else (bnd (F_Model_first x4) (fun r_32 => (bnd (F_Model_second x4) (fun r_33 => (F_Model_layPieces_L45 but areBluffed vs vlb n (x4 + 1) x3 w2f)))))) else (bnd (F_Model_first x4) (fun r_28 => (bnd (F_Model_second x4) (fun r_29 => (F_Model_layPieces_L45 but areBluffed vs vlb n (x4 + 1) x3 w2f))))))))) else (bnd (F_Model_first x4) (fun r_12 => (bnd (F_Model_second x4) (fun r_13 => (if (w2f r_12.toNatClampNeg) = (w2f r_13.toNatClampNeg) then (F_Model_layPieces_L45 but areBluffed vs vlb n (x4 + 1) x3 w2f) else (bnd (F_Model_first x4) (fun r_16 => (if (w2f r_13.toNatClampNeg) ≤ (w2f r_12.toNatClampNeg) then (bnd (F_Model_second x4) (fun r_18 => (bnd (F_Model_first x4) (fun r_19 => (F_Model_layPieces_L45 but areBluffed vs vlb n (x4 + 1) (1 : Int32) (upd (upd w2f r_16.toNatClampNeg (w2f r_13.toNatClampNeg)) r_18.toNatClampNeg ((upd w2f r_16.toNatClampNeg (w2f r_13.toNatClampNeg)) r_19.toNatClampNeg))))))) else (bnd (F_Model_second x4) (fun r_20 => (bnd (F_Model_first x4) (fun r_21 => (F_Model_layPieces_L45 but areBluffed vs vlb n (x4 + 1) (1 : Int32) (upd (upd w2f r_16.toNatClampNeg (w2f r_12.toNatClampNeg)) r_20.toNatClampNeg ((upd w2f r_16.toNatClampNeg (w2f r_12.toNatClampNeg)) r_21.toNatClampNeg))))))))))))))))))))
def F_Model_layPieces_L36 (but : Int32) (areBluffed : Int32) (vs : Nat → Int32) (vlb : Nat → Int32) : Nat → Int32 → (Nat → Int32) → Int32 × (Nat → Int32) × Int32
  | 0, x3, w2f => (x3, w2f, 0)
  | n + 1, x3, w2f => (if x3 = 0 then (x3, w2f, 1) else (bnd (F_Model_layPieces_L45 but areBluffed vs vlb 83 (0 : Int32) (0 : Int32) w2f) (fun q_4 => (F_Model_layPieces_L36 but areBluffed vs vlb n q_4.2.1 q_4.2.2))))
def F_Model_layPieces_L2 (but : Int32) (areBluffed : Int32) (vs : Nat → Int32) (vlb : Nat → Int32) : Nat → Int32 → (Nat → Int32) → Int32 × (Nat → Int32)
  | 0, x3, w2f => (x3, w2f)
  | n + 1, x3, w2f => (if (48 : Int32) ≤ x3 then (x3, w2f) else (bnd (F_Model_isGone x3 vs) (fun r_46 => (if r_46 = 0 then (F_Model_layPieces_L2 but areBluffed vs vlb n (x3 + 1) (upd w2f x3.toNatClampNeg x3)) else (F_Model_layPieces_L2 but areBluffed vs vlb n (x3 + 1) (upd w2f x3.toNatClampNeg (-6)))))))
def F_Model_layPieces (but : Int32) (areBluffed : Int32) (vs : Nat → Int32) (vlb : Nat → Int32) : (Nat → Int32) := (bnd (F_Model_layPieces_L2 but areBluffed vs vlb 49 (0 : Int32) vlb) (fun q_1 => (bnd (F_Model_layPieces_L36 but areBluffed vs vlb 2700 (1 : Int32) q_1.2) (fun q_2 => q_2.2.1))))
/-- labels: -6 to 47 -/
def LB (w : Nat → Int32) : Prop := ∀ j, j < 48 → -6 ≤ (w j).toInt ∧ (w j).toInt < 48
def lv_l (x : Int32) : Nat := (x.toInt + 6).toNat
def ms : Nat → (Nat → Int32) → Nat
  | 0, _ => 0
  | n + 1, w => ms n w + lv_l (w n)
theorem ms_out : ∀ (n i : Nat) (x : Int32) (w : Nat → Int32), n ≤ i → ms n (upd w i x) = ms n w
  | 0, i, x, w, h => rfl
  | n + 1, i, x, w, h => by
    show ms n (upd w i x) + lv_l (upd w i x n) = ms n w + lv_l (w n)
    rw [ms_out n i x w (by omega), pk_un (by omega)]
theorem ms_upd : ∀ (n i : Nat) (x : Int32) (w : Nat → Int32), i < n → ms n (upd w i x) + lv_l (w i) = ms n w + lv_l x
  | 0, i, x, w, h => absurd h (Nat.not_lt_zero _)
  | n + 1, i, x, w, h => by
    show ms n (upd w i x) + lv_l (upd w i x n) + lv_l (w i) = ms n w + lv_l (w n) + lv_l x
    by_cases e : i = n
    · subst e
      rw [ms_out i i x w (Nat.le_refl _), pk_us]
      omega
    · have := ms_upd n i x w (by omega)
      rw [pk_un (j := n) (Ne.symm e)]
      omega
theorem LB_upd {w : Nat → Int32} {i : Nat} {x : Int32} (h : LB w) (hx : -6 ≤ x.toInt ∧ x.toInt < 48) : LB (upd w i x) := by
  intro j hj
  by_cases e : j = i
  · subst e; rw [pk_us]; exact hx
  · rw [pk_un e]; exact h j hj
theorem ms_le : ∀ (n : Nat) (w : Nat → Int32), n ≤ 48 → LB w → ms n w ≤ 54 * n
  | 0, w, _, h => Nat.le_refl _
  | n + 1, w, hn, h => by
    have h1 := ms_le n w (by omega) h
    have h2 := h n (by omega)
    have h3 : lv_l (w n) ≤ 54 := by unfold lv_l; omega
    show ms n w + lv_l (w n) ≤ 54 * (n + 1)
    omega
theorem lay_s1 {w : Nat → Int32} {a b : Nat} (ha : a < 48) (hb : b < 48) (hw : LB w) (ne : ¬ w a = w b) (le : w b ≤ w a) : LB (upd (upd w a (w b)) b (upd w a (w b) a)) ∧ ms 48 (upd (upd w a (w b)) b (upd w a (w b) a)) < ms 48 w := by
  have hab : b ≠ a := fun e => ne (by rw [e])
  rw [pk_us]
  refine ⟨LB_upd (LB_upd hw (hw b hb)) (hw b hb), ?_⟩
  have h1 := ms_upd 48 a (w b) w ha
  have h2 := ms_upd 48 b (w b) (upd w a (w b)) hb
  rw [pk_un hab] at h2
  have h3 : lv_l (w b) < lv_l (w a) := by
    have := hw a ha
    have := hw b hb
    have hlt : (w b).toInt ≠ (w a).toInt := fun e => ne (Int32.toInt_inj.mp e.symm)
    rw [Int32.le_iff_toInt_le] at le
    unfold lv_l
    omega
  omega
theorem lay_s2 {w : Nat → Int32} {a b : Nat} (ha : a < 48) (hb : b < 48) (hw : LB w) (ne : ¬ w a = w b) (le : ¬ w b ≤ w a) : LB (upd (upd w a (w a)) b (upd w a (w a) a)) ∧ ms 48 (upd (upd w a (w a)) b (upd w a (w a) a)) < ms 48 w := by
  have hab : b ≠ a := fun e => ne (by rw [e])
  rw [pk_us]
  refine ⟨LB_upd (LB_upd hw (hw a ha)) (hw a ha), ?_⟩
  have h1 := ms_upd 48 a (w a) w ha
  have h2 := ms_upd 48 b (w a) (upd w a (w a)) hb
  rw [pk_un hab] at h2
  have h3 : lv_l (w a) < lv_l (w b) := by
    have := hw a ha
    have := hw b hb
    rw [Int32.le_iff_toInt_le] at le
    unfold lv_l
    omega
  omega
/-- what a pass over the joints does to the labels -/
def lay_R (x3 : Int32) (w : Nat → Int32) (r : Int32 × Int32 × (Nat → Int32)) : Prop := LB r.2.2 ∧ ((r.2.1 = x3 ∧ r.2.2 = w) ∨ (r.2.1 = 1 ∧ ms 48 r.2.2 < ms 48 w))
theorem lay_tr {x3 : Int32} {w w1 : Nat → Int32} {r : Int32 × Int32 × (Nat → Int32)} (h : ms 48 w1 < ms 48 w) (hr : lay_R 1 w1 r) : lay_R x3 w r := by
  obtain ⟨h1, h2⟩ := hr
  refine ⟨h1, Or.inr ?_⟩
  rcases h2 with ⟨e1, e2⟩ | ⟨e1, e2⟩
  · exact ⟨e1, by rw [e2]; exact h⟩
  · exact ⟨e1, by omega⟩
theorem fst_lt {x : Int32} (h : vp_in x 82) : (F_Model_first x).toNatClampNeg < 48 := Nat.lt_of_not_le fun q => first_in h (Or.inr q)
theorem snd_lt {x : Int32} (h : vp_in x 82) : (F_Model_second x).toNatClampNeg < 48 := Nat.lt_of_not_le fun q => second_in h (Or.inr q)
theorem lay_pass (but : Int32) (areBluffed : Int32) (vs : Nat → Int32) (vlb : Nat → Int32) : ∀ (n k : Nat) (x3 : Int32) (w : Nat → Int32), k ≤ 82 → 82 - k < n → LB w → lay_R x3 w (F_Model_layPieces_L45 but areBluffed vs vlb n (nI k) x3 w) := by
  intro n
  induction n with
  | zero => intro k x3 w hk hn; exact absurd hn (Nat.not_lt_zero _)
  | succ n ih =>
    intro k x3 w hk hn hw
    rw [F_Model_layPieces_L45]
    simp only [bnd]
    by_cases c : (82 : Int32) ≤ nI k
    · rw [if_pos c]; exact ⟨hw, Or.inl ⟨rfl, rfl⟩⟩
    · rw [if_neg c, nI_1]
      have hlt : k < 82 := lp_lt rfl rfl hk c
      have ha : (F_Model_first (nI k)).toNatClampNeg < 48 := fst_lt (vp_in_nI hlt (by decide))
      have hb : (F_Model_second (nI k)).toNatClampNeg < 48 := snd_lt (vp_in_nI hlt (by decide))
      have go : lay_R x3 w (F_Model_layPieces_L45 but areBluffed vs vlb n (nI (k + 1)) x3 w) := ih (k + 1) _ _ (by omega) (by omega) hw
      have g1 : ¬ w (F_Model_first (nI k)).toNatClampNeg = w (F_Model_second (nI k)).toNatClampNeg → w (F_Model_second (nI k)).toNatClampNeg ≤ w (F_Model_first (nI k)).toNatClampNeg → lay_R x3 w (F_Model_layPieces_L45 but areBluffed vs vlb n (nI (k + 1)) 1 _) := fun ne le => lay_tr (lay_s1 ha hb hw ne le).2 (ih (k + 1) _ _ (by omega) (by omega) (lay_s1 ha hb hw ne le).1)
      have g2 : ¬ w (F_Model_first (nI k)).toNatClampNeg = w (F_Model_second (nI k)).toNatClampNeg → ¬ w (F_Model_second (nI k)).toNatClampNeg ≤ w (F_Model_first (nI k)).toNatClampNeg → lay_R x3 w (F_Model_layPieces_L45 but areBluffed vs vlb n (nI (k + 1)) 1 _) := fun ne le => lay_tr (lay_s2 ha hb hw ne le).2 (ih (k + 1) _ _ (by omega) (by omega) (lay_s2 ha hb hw ne le).1)
      (repeat' split) <;> first | exact go | exact g1 (by assumption) (by assumption) | exact g2 (by assumption) (by assumption)
theorem lay_go (but : Int32) (areBluffed : Int32) (vs : Nat → Int32) (vlb : Nat → Int32) : ∀ (n : Nat) (w : Nat → Int32), LB w → ms 48 w + 1 < n → (F_Model_layPieces_L36 but areBluffed vs vlb n 1 w).2.2 = 1 := by
  intro n
  induction n with
  | zero => intro w hw hn; exact absurd hn (Nat.not_lt_zero _)
  | succ n ih =>
    intro w hw hn
    rw [F_Model_layPieces_L36, if_neg (by decide)]
    simp only [bnd]
    obtain ⟨h1, h2⟩ := lay_pass but areBluffed vs vlb 83 0 0 w (by omega) (by omega) hw
    rw [show nI 0 = 0 from nI_0] at h1 h2
    rcases h2 with ⟨e1, e2⟩ | ⟨e1, e2⟩
    · rw [e1]
      obtain ⟨m, rfl⟩ : ∃ m, n = m + 1 := ⟨n - 1, by omega⟩
      rw [F_Model_layPieces_L36, if_pos rfl]
    · rw [e1]
      exact ih _ h1 (by omega)
theorem lay_fin {but areBluffed : Int32} {vs vlb w : Nat → Int32} (hw : LB w) : (F_Model_layPieces_L36 but areBluffed vs vlb 2700 1 w).2.2 = 1 := lay_go but areBluffed vs vlb 2700 w hw (by have := ms_le 48 w (by omega) hw; omega)
theorem lay1_go (but : Int32) (areBluffed : Int32) (vs : Nat → Int32) (vlb : Nat → Int32) : ∀ (n k : Nat) (w : Nat → Int32), k ≤ 48 → 48 - k < n → (∀ j, j < k → -6 ≤ (w j).toInt ∧ (w j).toInt < 48) → LB (F_Model_layPieces_L2 but areBluffed vs vlb n (nI k) w).2 := by
  intro n
  induction n with
  | zero => intro k w hk hn; exact absurd hn (Nat.not_lt_zero _)
  | succ n ih =>
    intro k w hk hn hw
    rw [F_Model_layPieces_L2]
    simp only [bnd]
    by_cases c : (48 : Int32) ≤ nI k
    · rw [if_pos c]
      have hk2 : 48 ≤ k := (nI_leI (by decide) (by omega)).mp c
      exact fun j hj => hw j (by omega)
    · rw [if_neg c, nI_1]
      have hlt : k < 48 := lp_lt rfl rfl hk c
      have st : ∀ x : Int32, (-6 ≤ x.toInt ∧ x.toInt < 48) → ∀ j, j < k + 1 → -6 ≤ (upd w (nI k).toNatClampNeg x j).toInt ∧ (upd w (nI k).toNatClampNeg x j).toInt < 48 := fun x hx j hj => by
        rw [nI_clamp (by omega)]
        by_cases e : j = k
        · subst e; rw [pk_us]; exact hx
        · rw [pk_un e]; exact hw j (by omega)
      split
      · exact ih (k + 1) _ (by omega) (by omega) (st _ (by rw [nI_toInt (by omega)]; omega))
      · exact ih (k + 1) _ (by omega) (by omega) (st _ (by decide))
theorem lay1_LB {but areBluffed : Int32} {vs vlb w : Nat → Int32} : LB (F_Model_layPieces_L2 but areBluffed vs vlb 49 0 w).2 := lay1_go but areBluffed vs vlb 49 0 w (by omega) (by omega) (fun j hj => absurd hj (Nat.not_lt_zero _))
def F_Model_fallsBy (joint : Int32) (vs : Nat → Int32) (vlb : Nat → Int32) : Int32 × (Nat → Int32) := (bnd (F_Model_layPieces joint (0 : Int32) vs vlb) (fun r_1 => (bnd (F_Model_first joint) (fun r_2 => (bnd (F_Model_second joint) (fun r_3 => (bnd (F_Model_cellsOf (r_1 r_2.toNatClampNeg) r_1) (fun r_4 => (bnd (F_Model_cellsOf (r_1 r_3.toNatClampNeg) r_1) (fun r_5 => (if r_5 ≤ r_4 then (if (r_1 r_2.toNatClampNeg) = (r_1 r_3.toNatClampNeg) then ((-6), r_1) else (bnd (F_Model_cellsOf (r_1 r_3.toNatClampNeg) r_1) (fun r_8 => (if r_8 ≤ 12 then ((r_1 r_3.toNatClampNeg), r_1) else ((-6), r_1))))) else (if (r_1 r_2.toNatClampNeg) = (r_1 r_3.toNatClampNeg) then ((-6), r_1) else (bnd (F_Model_cellsOf (r_1 r_2.toNatClampNeg) r_1) (fun r_11 => (if r_11 ≤ 12 then ((r_1 r_2.toNatClampNeg), r_1) else ((-6), r_1))))))))))))))))
def F_Model_cellsBy (joint : Int32) (vs : Nat → Int32) (vlb : Nat → Int32) : Int32 × (Nat → Int32) := (bnd (F_Model_fallsBy joint vs vlb) (fun r_1 => (if r_1.1 = (-6) then (0, r_1.2) else (bnd (F_Model_cellsOf r_1.1 r_1.2) (fun r_3 => (r_3, r_1.2))))))
