-- bits of longs
def b6 (x : Int64) (i : Nat) : Bool := x.toBitVec.getLsbD i
theorem b6_or (x y : Int64) (i : Nat) : b6 (x ||| y) i = (b6 x i || b6 y i) := BitVec.getLsbD_or
theorem b6_and (x y : Int64) (i : Nat) : b6 (x &&& y) i = (b6 x i && b6 y i) := BitVec.getLsbD_and
theorem b6_shl1 (x : Int64) (i : Nat) : b6 (x <<< ((1 : Int32).toInt64 &&& 63)) i = (decide (i < 64) && !decide (i < 1) && b6 x (i - 1)) := by
  show (x.toBitVec <<< ((((1 : Int32).toInt64 &&& 63).toBitVec).smod 64)).getLsbD i = _
  rw [BitVec.getLsbD_shiftLeft', show ((((1 : Int32).toInt64 &&& 63).toBitVec).smod 64).toNat = 1 by decide +kernel]
  rfl
theorem b6_shl8 (x : Int64) (i : Nat) : b6 (x <<< ((8 : Int32).toInt64 &&& 63)) i = (decide (i < 64) && !decide (i < 8) && b6 x (i - 8)) := by
  show (x.toBitVec <<< ((((8 : Int32).toInt64 &&& 63).toBitVec).smod 64)).getLsbD i = _
  rw [BitVec.getLsbD_shiftLeft', show ((((8 : Int32).toInt64 &&& 63).toBitVec).smod 64).toNat = 8 by decide +kernel]
  rfl
theorem b6_shr1 (x : Int64) (i : Nat) : b6 (x.toUInt64 >>> ((1 : Int32).toInt64.toUInt64 &&& Int64.toUInt64 63)).toInt64 i = b6 x (1 + i) := by
  show (x.toBitVec >>> ((((1 : Int32).toInt64.toUInt64 &&& Int64.toUInt64 63).toBitVec) % 64)).getLsbD i = _
  rw [BitVec.ushiftRight_eq', BitVec.getLsbD_ushiftRight, show ((((1 : Int32).toInt64.toUInt64 &&& Int64.toUInt64 63).toBitVec) % 64).toNat = 1 by decide +kernel]
  rfl
theorem b6_shr8 (x : Int64) (i : Nat) : b6 (x.toUInt64 >>> ((8 : Int32).toInt64.toUInt64 &&& Int64.toUInt64 63)).toInt64 i = b6 x (8 + i) := by
  show (x.toBitVec >>> ((((8 : Int32).toInt64.toUInt64 &&& Int64.toUInt64 63).toBitVec) % 64)).getLsbD i = _
  rw [BitVec.ushiftRight_eq', BitVec.getLsbD_ushiftRight, show ((((8 : Int32).toInt64.toUInt64 &&& Int64.toUInt64 63).toBitVec) % 64).toNat = 8 by decide +kernel]
  rfl
/-- labels that are the same along held joints are the same in a piece -/
theorem spread_go {cell : Int32} {across down : Int64} {w : Nat → Int32} {v : Int32} (ha : ∀ c, b6 across c = true → w c = w (c + 1)) (hd : ∀ c, b6 down c = true → w c = w (c + 8)) :
    ∀ (n : Nat) (x7 : Int32) (x5 : Int64), (∀ c, b6 x5 c = true → w c = v) → ∀ c, b6 (F_Cloth_spread_L8 cell across down n x7 x5) c = true → w c = v := by
  intro n
  induction n with
  | zero =>
    intro x7 x5 h c hc
    rw [F_Cloth_spread_L8] at hc
    exact absurd hc (by simp [b6])
  | succ n ih =>
    intro x7 x5 h c hc
    rw [F_Cloth_spread_L8] at hc
    split at hc
    · exact h c hc
    · split at hc
      · exact h c hc
      · refine ih _ _ ?_ c hc
        intro i hi
        rw [b6_or, b6_or, b6_or, b6_or, b6_shl1, b6_shl8, b6_and, b6_and, b6_and, b6_and, b6_shr1, b6_shr8] at hi
        simp only [Bool.or_eq_true, Bool.and_eq_true, decide_eq_true_eq, Bool.not_eq_true', decide_eq_false_iff_not] at hi
        rcases hi with (hi | (⟨⟨-, h1⟩, h2, h3⟩ | ⟨h2, h3⟩)) | (⟨⟨-, h1⟩, h2, h3⟩ | ⟨h2, h3⟩)
        · exact h i hi
        · have := ha _ h3
          rw [show i - 1 + 1 = i by omega] at this
          rw [← this]; exact h _ h2
        · rw [ha i h3, Nat.add_comm]; exact h _ h2
        · have := hd _ h3
          rw [show i - 8 + 8 = i by omega] at this
          rw [← this]; exact h _ h2
        · rw [hd i h3, Nat.add_comm]; exact h _ h2
/-- a joint along which labels go -/
def act (but areBluffed : Int32) (vs : Nat → Int32) (j : Nat) : Prop := nI j ≠ but ∧ (F_Model_holds (nI j) vs ≠ 0 ∨ (areBluffed ≠ 0 ∧ F_Model_isVoid (nI j) vs = 0 ∧ vs ((0 : Int32) + nI j).toNatClampNeg = 3))
/-- a pass without a change has seen the same labels on both sides -/
theorem lay_pass2 (but areBluffed : Int32) (vs vlb : Nat → Int32) : ∀ (n k : Nat) (w : Nat → Int32), k ≤ 82 → 82 - k < n → LB w → (F_Model_layPieces_L45 but areBluffed vs vlb n (nI k) 0 w).2.1 = 0 → ∀ j, k ≤ j → j < 82 → act but areBluffed vs j → w (F_Model_first (nI j)).toNatClampNeg = w (F_Model_second (nI j)).toNatClampNeg := by
  intro n
  induction n with
  | zero => intro k w hk hn; exact absurd hn (Nat.not_lt_zero _)
  | succ n ih =>
    intro k w hk hn hw h0 j hkj hj2 hact
    by_cases c : (82 : Int32) ≤ nI k
    · have hk2 : 82 ≤ k := (nI_leI (by decide) (by omega)).mp c
      exact absurd hkj (by omega)
    · have hlt : k < 82 := lp_lt rfl rfl hk c
      rw [F_Model_layPieces_L45] at h0
      simp only [bnd] at h0
      rw [if_neg c, nI_1] at h0
      have ha : (F_Model_first (nI k)).toNatClampNeg < 48 := fst_lt (vp_in_nI hlt (by decide))
      have hb : (F_Model_second (nI k)).toNatClampNeg < 48 := snd_lt (vp_in_nI hlt (by decide))
      have bad : ∀ w1 : Nat → Int32, LB w1 → (F_Model_layPieces_L45 but areBluffed vs vlb n (nI (k + 1)) 1 w1).2.1 = 0 → False := fun w1 hw1 h => by
        obtain ⟨-, h2⟩ := lay_pass but areBluffed vs vlb n (k + 1) 1 w1 (by omega) (by omega) hw1
        rcases h2 with ⟨e, -⟩ | ⟨e, -⟩ <;> (rw [e] at h; exact absurd h (by decide))
      rcases Nat.lt_or_ge k j with hlt2 | hge
      · have next : (F_Model_layPieces_L45 but areBluffed vs vlb n (nI (k + 1)) 0 w).2.1 = 0 → w (F_Model_first (nI j)).toNatClampNeg = w (F_Model_second (nI j)).toNatClampNeg := fun h => ih (k + 1) w (by omega) (by omega) hw h j (by omega) hj2 hact
        (repeat' split at h0) <;> first | exact next h0 | exact (bad _ (lay_s1 ha hb hw (by assumption) (by assumption)).1 h0).elim | exact (bad _ (lay_s2 ha hb hw (by assumption) (by assumption)).1 h0).elim
      · have hjk : k = j := by omega
        subst hjk
        obtain ⟨hne, hact⟩ := hact
        (repeat' split at h0) <;> first | assumption | exact absurd (by assumption) hne | (exfalso; rcases hact with h1 | ⟨h1, h2, h3⟩ <;> first | exact h1 (by assumption) | exact absurd h2 (by assumption) | exact absurd h3 (by assumption)) | exact (bad _ (lay_s1 ha hb hw (by assumption) (by assumption)).1 h0).elim | exact (bad _ (lay_s2 ha hb hw (by assumption) (by assumption)).1 h0).elim
theorem lay_go2 (but areBluffed : Int32) (vs vlb : Nat → Int32) : ∀ (n : Nat) (w : Nat → Int32), LB w → ms 48 w + 1 < n → LB (F_Model_layPieces_L36 but areBluffed vs vlb n 1 w).2.1 ∧ ∀ j, j < 82 → act but areBluffed vs j → (F_Model_layPieces_L36 but areBluffed vs vlb n 1 w).2.1 (F_Model_first (nI j)).toNatClampNeg = (F_Model_layPieces_L36 but areBluffed vs vlb n 1 w).2.1 (F_Model_second (nI j)).toNatClampNeg := by
  intro n
  induction n with
  | zero => intro w hw hn; exact absurd hn (Nat.not_lt_zero _)
  | succ n ih =>
    intro w hw hn
    rw [F_Model_layPieces_L36, if_neg (by decide)]
    simp only [bnd]
    obtain ⟨h1, h2⟩ := lay_pass but areBluffed vs vlb 83 0 0 w (by omega) (by omega) hw
    have h3 := lay_pass2 but areBluffed vs vlb 83 0 w (by omega) (by omega) hw
    rw [show nI 0 = 0 from nI_0] at h1 h2 h3
    rcases h2 with ⟨e1, e2⟩ | ⟨e1, e2⟩
    · rw [e1, e2]
      obtain ⟨m, rfl⟩ : ∃ m, n = m + 1 := ⟨n - 1, by omega⟩
      rw [F_Model_layPieces_L36, if_pos rfl]
      exact ⟨hw, fun j hj ha => h3 e1 j (Nat.zero_le _) hj ha⟩
    · rw [e1]
      exact ih _ h1 (by omega)
/-- what each joint that joins two labels keeps, the labels keep -/
theorem lay_inv (but areBluffed : Int32) (vs vlb : Nat → Int32) (P : (Nat → Int32) → Prop)
    (h1 : ∀ (j : Nat) (w : Nat → Int32), j < 82 → act but areBluffed vs j → P w → ¬ w (F_Model_first (nI j)).toNatClampNeg = w (F_Model_second (nI j)).toNatClampNeg → w (F_Model_second (nI j)).toNatClampNeg ≤ w (F_Model_first (nI j)).toNatClampNeg → P (upd (upd w (F_Model_first (nI j)).toNatClampNeg (w (F_Model_second (nI j)).toNatClampNeg)) (F_Model_second (nI j)).toNatClampNeg (upd w (F_Model_first (nI j)).toNatClampNeg (w (F_Model_second (nI j)).toNatClampNeg) (F_Model_first (nI j)).toNatClampNeg)))
    (h2 : ∀ (j : Nat) (w : Nat → Int32), j < 82 → act but areBluffed vs j → P w → ¬ w (F_Model_first (nI j)).toNatClampNeg = w (F_Model_second (nI j)).toNatClampNeg → ¬ w (F_Model_second (nI j)).toNatClampNeg ≤ w (F_Model_first (nI j)).toNatClampNeg → P (upd (upd w (F_Model_first (nI j)).toNatClampNeg (w (F_Model_first (nI j)).toNatClampNeg)) (F_Model_second (nI j)).toNatClampNeg (upd w (F_Model_first (nI j)).toNatClampNeg (w (F_Model_first (nI j)).toNatClampNeg) (F_Model_first (nI j)).toNatClampNeg))) :
    ∀ (n k : Nat) (x3 : Int32) (w : Nat → Int32), k ≤ 82 → 82 - k < n → P w → P (F_Model_layPieces_L45 but areBluffed vs vlb n (nI k) x3 w).2.2 := by
  intro n
  induction n with
  | zero => intro k x3 w hk hn; exact absurd hn (Nat.not_lt_zero _)
  | succ n ih =>
    intro k x3 w hk hn hw
    rw [F_Model_layPieces_L45]
    simp only [bnd]
    by_cases c : (82 : Int32) ≤ nI k
    · rw [if_pos c]; exact hw
    · rw [if_neg c, nI_1]
      have hlt : k < 82 := lp_lt rfl rfl hk c
      have go : ∀ (x : Int32) (w1 : Nat → Int32), P w1 → P (F_Model_layPieces_L45 but areBluffed vs vlb n (nI (k + 1)) x w1).2.2 := fun x w1 hw1 => ih (k + 1) x w1 (by omega) (by omega) hw1
      (repeat' split) <;> first
        | exact go _ _ hw
        | exact go _ _ (h1 k w hlt ⟨by assumption, Or.inl (by assumption)⟩ hw (by assumption) (by assumption))
        | exact go _ _ (h2 k w hlt ⟨by assumption, Or.inl (by assumption)⟩ hw (by assumption) (by assumption))
        | exact go _ _ (h1 k w hlt ⟨by assumption, Or.inr ⟨by assumption, by assumption, by assumption⟩⟩ hw (by assumption) (by assumption))
        | exact go _ _ (h2 k w hlt ⟨by assumption, Or.inr ⟨by assumption, by assumption, by assumption⟩⟩ hw (by assumption) (by assumption))
theorem lay_inv2 (but areBluffed : Int32) (vs vlb : Nat → Int32) (P : (Nat → Int32) → Prop) (hp : ∀ w, P w → P (F_Model_layPieces_L45 but areBluffed vs vlb 83 0 0 w).2.2) : ∀ (n : Nat) (x3 : Int32) (w : Nat → Int32), P w → P (F_Model_layPieces_L36 but areBluffed vs vlb n x3 w).2.1 := by
  intro n
  induction n with
  | zero => intro x3 w hw; exact hw
  | succ n ih =>
    intro x3 w hw
    rw [F_Model_layPieces_L36]
    simp only [bnd]
    split
    · exact hw
    · exact ih _ _ (hp w hw)
/-- the labels at first -/
theorem lay1_val (but areBluffed : Int32) (vs vlb : Nat → Int32) : ∀ (n k : Nat) (w : Nat → Int32), k ≤ 48 → 48 - k < n → (∀ j, j < k → w j = if F_Model_isGone (nI j) vs = 0 then nI j else -6) → ∀ j, j < 48 → (F_Model_layPieces_L2 but areBluffed vs vlb n (nI k) w).2 j = if F_Model_isGone (nI j) vs = 0 then nI j else -6 := by
  intro n
  induction n with
  | zero => intro k w hk hn; exact absurd hn (Nat.not_lt_zero _)
  | succ n ih =>
    intro k w hk hn hw j hj
    rw [F_Model_layPieces_L2]
    simp only [bnd]
    by_cases c : (48 : Int32) ≤ nI k
    · rw [if_pos c]
      have hk2 : 48 ≤ k := (nI_leI (by decide) (by omega)).mp c
      exact hw j (by omega)
    · rw [if_neg c, nI_1]
      have hlt : k < 48 := lp_lt rfl rfl hk c
      by_cases g : F_Model_isGone (nI k) vs = 0
      · rw [if_pos g]
        refine ih (k + 1) _ (by omega) (by omega) ?_ j hj
        intro i hi
        rw [nI_clamp (by omega)]
        by_cases e : i = k
        · subst e; rw [pk_us, if_pos g]
        · rw [pk_un e]; exact hw i (by omega)
      · rw [if_neg g]
        refine ih (k + 1) _ (by omega) (by omega) ?_ j hj
        intro i hi
        rw [nI_clamp (by omega)]
        by_cases e : i = k
        · subst e; rw [pk_us, if_neg g]
        · rw [pk_un e]; exact hw i (by omega)
