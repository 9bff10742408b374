def F_Model_rankOf_L6 (player : Int32) (joint : Int32) (vs : Nat → Int32) : Nat → Int32 → Int32 → Int32 × Int32
  | 0, x4, x3 => (x4, x3)
  | n + 1, x4, x3 => (bnd (F_Model_at player (2 : Int32)) (fun r_2 => (if (vs r_2.toNatClampNeg) ≤ x4 then (x4, x3) else (bnd (F_Model_chalkAt player x4 vs) (fun r_4 => (if r_4 = joint then (F_Model_rankOf_L6 player joint vs n (x4 + 1) x4) else (F_Model_rankOf_L6 player joint vs n (x4 + 1) x3)))))))
def F_Model_rankOf (player : Int32) (joint : Int32) (vs : Nat → Int32) : Int32 := (bnd (F_Model_rankOf_L6 player joint vs 9 (0 : Int32) (-6 : Int32)) (fun q_1 => q_1.2))
theorem rank_loop {player joint : Int32} {vs : Nat → Int32} {M : Nat} (exM : vs (F_Model_at player 2).toNatClampNeg = nI M) (hM : M ≤ 8) : ∀ (n k : Nat) (x3 : Int32), k ≤ M → M - k < n → (x3 = -6 ∨ ∃ q : Nat, q < M ∧ x3 = nI q) → ((F_Model_rankOf_L6 player joint vs n (nI k) x3).2 = -6 ∨ ∃ q : Nat, q < M ∧ (F_Model_rankOf_L6 player joint vs n (nI k) x3).2 = nI q) := by
  intro n
  induction n with
  | zero => intro k x3 hk hn; exact absurd hn (Nat.not_lt_zero _)
  | succ n ih =>
    intro k x3 hk hn hx
    rw [F_Model_rankOf_L6]
    simp only [bnd]
    by_cases c : vs (F_Model_at player 2).toNatClampNeg ≤ nI k
    · rw [if_pos c]; exact hx
    · rw [if_neg c]
      have hlt : k < M := lp_lt exM rfl hk c
      by_cases d : F_Model_chalkAt player (nI k) vs = joint
      · rw [if_pos d, nI_1]; exact ih (k + 1) _ (by omega) (by omega) (Or.inr ⟨k, hlt, rfl⟩)
      · rw [if_neg d, nI_1]; exact ih (k + 1) _ (by omega) (by omega) hx
theorem rankOf_in {player joint r : Int32} {vs : Nat → Int32} {M : Nat} (hM : M ≤ 8) (exM : vs (F_Model_at player 2).toNatClampNeg = nI M) (hr : r = F_Model_rankOf player joint vs) (c : ¬ r = -6) : ∃ rk : Nat, rk < M ∧ r = nI rk := by
  rw [hr] at c ⊢
  exact (rank_loop exM hM 9 0 (-6) (Nat.zero_le _) (by omega) (Or.inl rfl)).resolve_left c
def F_Model_hasChalk (player : Int32) (joint : Int32) (vs : Nat → Int32) : Int32 := (bnd (F_Model_rankOf player joint vs) (fun r_1 => (if r_1 = (-6) then 0 else 1)))
theorem F_Model_hasChalk_b (player : Int32) (joint : Int32) (vs : Nat → Int32) : F_Model_hasChalk player joint vs = 0 ∨ F_Model_hasChalk player joint vs = 1 := by
  unfold F_Model_hasChalk
  try simp only [bnd]
  (repeat' split) <;> first | exact Or.inl rfl | exact Or.inr rfl
def F_Model_rubs_L30 (player : Int32) (joint : Int32) (vs : Nat → Int32) : Nat → Int32 → Int32 → (Nat → Int32) → Int32 × Int32 × (Nat → Int32)
  | 0, x4, x3, w1f => (x4, x3, w1f)
  | n + 1, x4, x3, w1f => (bnd (F_Model_at player (2 : Int32)) (fun r_7 => (if (w1f r_7.toNatClampNeg) ≤ x4 then (x4, x3, w1f) else (bnd (F_Model_at player (8 : Int32)) (fun r_9 => (bnd (F_Model_chalkAt player (x4 + 1) w1f) (fun r_10 => (F_Model_rubs_L30 player joint vs n (x4 + 1) x3 (upd w1f (r_9 + x4).toNatClampNeg r_10)))))))))
def F_Model_rubs (player : Int32) (joint : Int32) (vs : Nat → Int32) : (Nat → Int32) := (bnd (F_Model_rankOf player joint vs) (fun r_1 => (if r_1 = (-6) then vs else (bnd (F_Model_at player (2 : Int32)) (fun r_3 => (bnd (F_Model_rubs_L30 player joint vs 9 r_1 r_1 (upd vs r_3.toNatClampNeg ((vs r_3.toNatClampNeg) - 1))) (fun q_4 => (bnd (F_Model_at player (8 : Int32)) (fun r_5 => (bnd (F_Model_at player (2 : Int32)) (fun r_6 => (upd q_4.2.2 (r_5 + (q_4.2.2 r_6.toNatClampNeg)).toNatClampNeg 0))))))))))))
theorem rub_loop {player joint : Int32} {vs : Nat → Int32} (hp : p01 player) {M : Nat} (hM : M ≤ 8) {i : Nat} (hi : ∀ j, j < 8 → i ≠ (F_Model_at player 8 + nI j).toNatClampNeg) : ∀ (n k : Nat) (x3 : Int32) (w : Nat → Int32), k ≤ M - 1 → M - 1 - k < n → w (F_Model_at player 2).toNatClampNeg = nI (M - 1) → (F_Model_rubs_L30 player joint vs n (nI k) x3 w).2.2 i = w i := by
  intro n
  induction n with
  | zero => intro k x3 w hk hn; exact absurd hn (Nat.not_lt_zero _)
  | succ n ih =>
    intro k x3 w hk hn hw
    rw [F_Model_rubs_L30]
    simp only [bnd]
    by_cases c : w (F_Model_at player 2).toNatClampNeg ≤ nI k
    · rw [if_pos c]
    · rw [if_neg c, nI_1]
      have hlt : k < M - 1 := lp_lt hw rfl hk c
      rw [ih (k + 1) _ _ (by omega) (by omega) (by rw [pk_un (at_ne hp (vp_in_nI (by omega) (by decide)))]; exact hw)]
      exact pk_un (hi k (by omega))
theorem at8_big {p : Int32} (hp : p01 p) {i : Nat} (h : i = 214 ∨ i = 230 ∨ i = 245) : ∀ j, j < 8 → i ≠ (F_Model_at p 8 + nI j).toNatClampNeg := by
  intro j hj
  rcases hp with rfl | rfl
  · rw [show F_Model_at 0 8 = nI 220 from at_0 8, nI_add, nI_clamp (by omega)]; omega
  · rw [show F_Model_at 1 8 = nI 236 from at_1 8, nI_add, nI_clamp (by omega)]; omega
theorem tm_ok_dec {x : Int32} {M : Nat} (hM : M ≤ 8) (h : x = nI (M - 1)) : tm_ok 8 x := ⟨M - 1, by omega, h⟩
theorem rubs_MI {player joint : Int32} {vs : Nat → Int32} (h : MI vs) (hp : p01 player) : MI (F_Model_rubs player joint vs) := by
  obtain ⟨M, hM, exM⟩ := mi_cnt h hp
  unfold F_Model_rubs
  simp only [bnd]
  by_cases c : F_Model_rankOf player joint vs = -6
  · rw [if_pos c]; exact h
  · rw [if_neg c]
    obtain ⟨rk, hrk, erk⟩ := rankOf_in hM exM rfl c
    rw [erk]
    generalize hw : upd vs (F_Model_at player 2).toNatClampNeg (vs (F_Model_at player 2).toNatClampNeg - 1) = w
    have hw2 : w (F_Model_at player 2).toNatClampNeg = nI (M - 1) := by rw [← hw, pk_us, exM]; exact rub_dec (by omega)
    generalize hz : (F_Model_rubs_L30 player joint vs 9 (nI rk) (nI rk) w).2.2 = z
    have hz2 : ∀ i, (∀ j, j < 8 → i ≠ (F_Model_at player 8 + nI j).toNatClampNeg) → z i = w i := fun i hi => by
      rw [← hz]; exact rub_loop hp hM hi 9 rk _ w (by omega) (by omega) hw2
    have h2 : z (F_Model_at player 2).toNatClampNeg = nI (M - 1) := by
      rw [hz2 _ (fun j hj => at_ne hp (vp_in_nI hj (by decide)))]; exact hw2
    rw [h2]
    have key : ∀ i, (i = 214 ∨ i = 230 ∨ i = 245) → upd z (F_Model_at player 8 + nI (M - 1)).toNatClampNeg 0 i = w i := fun i hi => by
      rw [pk_un (at8_big hp hi (M - 1) (by omega)), hz2 i (at8_big hp hi)]
    refine ⟨?_, ?_, ?_⟩
    · rw [key 245 (by omega), ← hw]
      rcases hp with rfl | rfl
      · rw [pk_un (by rw [show (F_Model_at 0 2).toNatClampNeg = 214 by decide +kernel]; omega)]; exact h.1
      · rw [pk_un (by rw [show (F_Model_at 1 2).toNatClampNeg = 230 by decide +kernel]; omega)]; exact h.1
    · rw [key 214 (by omega)]
      rcases hp with rfl | rfl
      · rw [show (214 : Nat) = (F_Model_at 0 2).toNatClampNeg by decide +kernel]; exact tm_ok_dec hM hw2
      · rw [← hw, pk_un (by rw [show (F_Model_at 1 2).toNatClampNeg = 230 by decide +kernel]; omega)]; exact h.2.1
    · rw [key 230 (by omega)]
      rcases hp with rfl | rfl
      · rw [← hw, pk_un (by rw [show (F_Model_at 0 2).toNatClampNeg = 214 by decide +kernel]; omega)]; exact h.2.2
      · rw [show (230 : Nat) = (F_Model_at 1 2).toNatClampNeg by decide +kernel]; exact tm_ok_dec hM hw2
def F_Model_ends (told : Int32) (vs : Nat → Int32) : Int32 × (Nat → Int32) := (told, (upd (upd vs (244 : Int32).toNatClampNeg ((vs (244 : Int32).toNatClampNeg) + 1)) (245 : Int32).toNatClampNeg ((1 : Int32) - ((upd vs (244 : Int32).toNatClampNeg ((vs (244 : Int32).toNatClampNeg) + 1)) (245 : Int32).toNatClampNeg))))
def F_Model_chalks (joint : Int32) (vs : Nat → Int32) : Int32 × (Nat → Int32) := (bnd (F_Model_isJoint joint) (fun r_1 => (if r_1 = 0 then ((-1), vs) else (bnd (F_Model_isOver vs) (fun r_3 => (if r_3 = 0 then (bnd (F_Model_holds joint vs) (fun r_5 => (if r_5 = 0 then ((-5), vs) else (bnd (F_Model_hasChalk (vs (245 : Int32).toNatClampNeg) joint vs) (fun r_7 => (if r_7 = 0 then (bnd (F_Model_at (vs (245 : Int32).toNatClampNeg) (2 : Int32)) (fun r_9 => (if (vs r_9.toNatClampNeg) = 8 then ((-4), vs) else (bnd (F_Model_at (vs (245 : Int32).toNatClampNeg) (8 : Int32)) (fun r_11 => (bnd (F_Model_at (vs (245 : Int32).toNatClampNeg) (2 : Int32)) (fun r_12 => (bnd (F_Model_at (vs (245 : Int32).toNatClampNeg) (2 : Int32)) (fun r_13 => (bnd (F_Model_at (vs (245 : Int32).toNatClampNeg) (2 : Int32)) (fun r_14 => (bnd (F_Model_ends ((upd (upd vs (r_11 + (vs r_12.toNatClampNeg)).toNatClampNeg joint) r_13.toNatClampNeg (((upd vs (r_11 + (vs r_12.toNatClampNeg)).toNatClampNeg joint) r_13.toNatClampNeg) + 1)) r_14.toNatClampNeg) (upd (upd vs (r_11 + (vs r_12.toNatClampNeg)).toNatClampNeg joint) r_13.toNatClampNeg (((upd vs (r_11 + (vs r_12.toNatClampNeg)).toNatClampNeg joint) r_13.toNatClampNeg) + 1))) (fun r_15 => (r_15.1, r_15.2)))))))))))))) else ((-5), vs))))))) else ((-5), vs)))))))
def F_Model_reason (joint : Int32) (vs : Nat → Int32) : Int32 := (bnd (F_Model_isOver vs) (fun r_1 => (if r_1 = 0 then (bnd (F_Model_isVoid joint vs) (fun r_3 => (if r_3 = 0 then (if (vs ((0 : Int32) + joint).toNatClampNeg) = 1 then 3 else 0) else 2))) else 1)))
