-- the cloth: the object's bits, the reference's numbers
/-- a joint's cells -/
def jF (j : Nat) : Nat := if j < 42 then 8 * (j / 7) + j % 7 else j - 42
def jS (j : Nat) : Nat := if j < 42 then 8 * (j / 7) + j % 7 + 1 else j - 42 + 8
theorem j_tab : ∀ j : Fin 82, F_Cloth_firstCell (nI j.val) = nI (jF j.val) ∧ F_Cloth_secondCell (nI j.val) = nI (jS j.val) ∧ F_Model_first (nI j.val) = nI (jF j.val) ∧ F_Model_second (nI j.val) = nI (jS j.val) ∧ F_Cloth_isDown (nI j.val) = (if j.val < 42 then 0 else 1) ∧ jF j.val < 48 ∧ jS j.val < 48 ∧ F_Cloth_isJoint (nI j.val) = 1 ∧ F_Model_isJoint (nI j.val) = 1 := by decide +kernel
theorem jS_of {j : Nat} : jS j = if j < 42 then jF j + 1 else jF j + 8 := by
  unfold jS jF
  split <;> rfl
theorem b6_lt {x : Int64} {c : Nat} (h : b6 x c = true) : c < 64 := by
  refine Nat.lt_of_not_le fun hc => ?_
  have : b6 x c = false := BitVec.getLsbD_of_ge x.toBitVec c hc
  rw [this] at h
  exact Bool.false_ne_true h
theorem I64_0 {x : Int64} : x = 0 ↔ N6 x = 0 := by
  constructor
  · intro h; subst h; rfl
  · intro h
    apply Int64.toBitVec.inj
    apply BitVec.eq_of_toNat_eq
    exact h
theorem amt64 : ∀ c : Fin 64, (((nI c.val).toInt64.toUInt64 &&& Int64.toUInt64 63).toBitVec % 64).toNat = c.val := by decide +kernel
theorem samt64 : ∀ c : Fin 64, ((((nI c.val).toInt64 &&& 63).toBitVec).smod 64).toNat = c.val := by decide +kernel
theorem b6_tb (x : Int64) (c : Nat) : b6 x c = (N6 x).testBit c := rfl
theorem has_0 {x : Int64} {c : Nat} (hc : c < 64) : F_Cloth_has x (nI c) = 0 ↔ b6 x c = false := by
  have e : N6 ((x.toUInt64 >>> ((nI c).toInt64.toUInt64 &&& Int64.toUInt64 63)).toInt64 &&& 1) = N6 x / 2 ^ c % 2 := by
    rw [N6_and, N6_sr (q := c) (amt64 ⟨c, hc⟩), show N6 1 = 2 ^ 1 - 1 from rfl, Nat.and_two_pow_sub_one_eq_mod]
  have hb : b6 x c = decide (N6 x / 2 ^ c % 2 = 1) := by rw [b6_tb, Nat.testBit_eq_decide_div_mod_eq]
  unfold F_Cloth_has
  rw [hb]
  by_cases h : N6 x / 2 ^ c % 2 = 1
  · have hne : ¬ lg_cmp ((x.toUInt64 >>> ((nI c).toInt64.toUInt64 &&& Int64.toUInt64 63)).toInt64 &&& 1) 0 = 0 := fun z => by
      have := I64_0.mp (lgz.mp z)
      omega
    rw [if_neg hne]
    simp [h]
  · have he : lg_cmp ((x.toUInt64 >>> ((nI c).toInt64.toUInt64 &&& Int64.toUInt64 63)).toInt64 &&& 1) 0 = 0 := lgz.mpr (I64_0.mpr (by omega))
    rw [if_pos he]
    simp [h]
theorem has_01 (x : Int64) (c : Int32) : F_Cloth_has x c = 0 ∨ F_Cloth_has x c = 1 := F_Cloth_has_b x c
theorem b6_one {c : Nat} (hc : c < 64) (i : Nat) : b6 ((1 : Int64) <<< ((nI c).toInt64 &&& 63)) i = decide (i = c) := by
  show ((1#64) <<< ((((nI c).toInt64 &&& 63).toBitVec).smod 64)).getLsbD i = _
  rw [BitVec.getLsbD_shiftLeft', samt64 ⟨c, hc⟩]
  dsimp only
  by_cases h : i = c
  · subst h
    simp [hc]
  · rw [decide_eq_false h]
    by_cases h2 : i < c
    · simp [h2]
    · have h3 : ¬ i - c = 0 := by omega
      have h4 : (1#64).getLsbD (i - c) = false := by
        rw [BitVec.getLsbD_one]
        simp [h3]
      rw [h4]
      simp
theorem b6_not (x : Int64) (i : Nat) : b6 (x ^^^ (-1)) i = (decide (i < 64) && !b6 x i) := by
  show (x.toBitVec ^^^ (-1 : Int64).toBitVec).getLsbD i = _
  rw [BitVec.getLsbD_xor]
  have h1 : (-1 : Int64).toBitVec = BitVec.allOnes 64 := by decide +kernel
  rw [h1, BitVec.getLsbD_allOnes]
  by_cases h : i < 64
  · simp only [h, decide_true, Bool.xor_true, Bool.true_and]
    rfl
  · have : x.toBitVec.getLsbD i = false := BitVec.getLsbD_of_ge _ _ (by omega)
    rw [this]
    simp [h]
theorem b6_zero (i : Nat) : b6 0 i = false := BitVec.getLsbD_zero
/-- a joint is void; it holds -/
def vd (vs : Nat → Int32) (j : Nat) : Prop := vs (164 + jF j) = 1 ∨ vs (164 + jS j) = 1
def hold (vs : Nat → Int32) (j : Nat) : Prop := ¬ vd vs j ∧ (vs j = 0 ∨ vs j = 2)
theorem mgone {vs : Nat → Int32} {c : Nat} (hc : c < 48) : F_Model_isGone (nI c) vs = 0 ↔ ¬ vs (164 + c) = 1 := by
  unfold F_Model_isGone
  rw [show (164 : Int32) + nI c = nI (164 + c) from nI_add 164 c, nI_clamp (by omega)]
  by_cases h : vs (164 + c) = 1
  · rw [if_pos h]; exact ⟨fun z => absurd z (by decide), fun z => absurd h z⟩
  · rw [if_neg h]; exact ⟨fun _ => h, fun _ => rfl⟩
theorem mvoid {vs : Nat → Int32} {j : Nat} (hj : j < 82) : F_Model_isVoid (nI j) vs = 0 ↔ ¬ vd vs j := by
  have t := j_tab ⟨j, hj⟩
  dsimp only at t
  unfold F_Model_isVoid vd
  dsimp only [bnd]
  rw [t.2.2.1, t.2.2.2.1]
  by_cases h1 : F_Model_isGone (nI (jF j)) vs = 0
  · rw [if_pos h1]
    have g1 := (mgone t.2.2.2.2.2.1).mp h1
    by_cases h2 : F_Model_isGone (nI (jS j)) vs = 0
    · rw [if_pos h2]
      have g2 := (mgone t.2.2.2.2.2.2.1).mp h2
      exact ⟨fun _ z => z.elim g1 g2, fun _ => rfl⟩
    · rw [if_neg h2]
      have g2 : vs (164 + jS j) = 1 := Decidable.not_not.mp (fun z => h2 ((mgone t.2.2.2.2.2.2.1).mpr z))
      exact ⟨fun z => absurd z (by decide), fun z => absurd (Or.inr g2) z⟩
  · rw [if_neg h1]
    have g1 : vs (164 + jF j) = 1 := Decidable.not_not.mp (fun z => h1 ((mgone t.2.2.2.2.2.1).mpr z))
    exact ⟨fun z => absurd z (by decide), fun z => absurd (Or.inl g1) z⟩
theorem mj0 {j : Nat} (hj : j < 82) : ((0 : Int32) + nI j).toNatClampNeg = j := by
  rw [Int32.zero_add, nI_clamp (by omega)]
theorem mholds {vs : Nat → Int32} {j : Nat} (hj : j < 82) : F_Model_holds (nI j) vs = 0 ↔ ¬ hold vs j := by
  unfold F_Model_holds hold
  dsimp only [bnd]
  rw [mj0 hj]
  by_cases h1 : F_Model_isVoid (nI j) vs = 0
  · rw [if_pos h1]
    have g1 := (mvoid hj).mp h1
    by_cases h2 : vs j = 0
    · rw [if_pos h2]; exact ⟨fun z => absurd z (by decide), fun z => absurd ⟨g1, Or.inl h2⟩ z⟩
    · rw [if_neg h2]
      by_cases h3 : vs j = 2
      · rw [if_pos h3]; exact ⟨fun z => absurd z (by decide), fun z => absurd ⟨g1, Or.inr h3⟩ z⟩
      · rw [if_neg h3]; exact ⟨fun _ z => z.2.elim h2 h3, fun _ => rfl⟩
  · rw [if_neg h1]
    exact ⟨fun _ z => h1 ((mvoid hj).mpr z.1), fun _ => rfl⟩
/-- the object's cloth is the reference's -/
def CR (gn ac dn : Int64) (fs fm vs : Nat → Int32) : Prop :=
  (∀ c, c < 48 → (b6 gn c = true ↔ vs (164 + c) = 1)) ∧ (∀ c, 48 ≤ c → b6 gn c = false) ∧ (∀ j, j < 82 → fs j = vs j) ∧ (∀ j, j < 82 → fm j = vs (82 + j)) ∧
  (∀ c, b6 ac c = true ↔ c < 48 ∧ c % 8 < 7 ∧ hold vs (7 * (c / 8) + c % 8)) ∧ (∀ c, b6 dn c = true ↔ c < 40 ∧ hold vs (42 + c))
theorem zb_eq {a b : Int32} (ha : a = 0 ∨ a = 1) (hb : b = 0 ∨ b = 1) (h : a = 0 ↔ b = 0) : a = b := by
  rcases ha with e | e
  · rw [e, h.mp e]
  · rcases hb with f | f
    · rw [h.mpr f] at e; exact absurd e (by decide)
    · rw [e, f]
theorem not_true_false {b : Bool} : b = false ↔ ¬ b = true := by cases b <;> simp
theorem cgone {gn ac dn : Int64} {fs fm vs : Nat → Int32} (h : CR gn ac dn fs fm vs) {c : Nat} (hc : c < 48) : F_Cloth_isGone (nI c) gn = F_Model_isGone (nI c) vs := by
  have e : F_Cloth_isGone (nI c) gn = F_Cloth_has gn (nI c) := rfl
  rw [e]
  refine zb_eq (has_01 _ _) (F_Model_isGone_b _ _) ?_
  rw [has_0 (by omega), mgone hc, not_true_false, h.1 c hc]
theorem cvoid {gn ac dn : Int64} {fs fm vs : Nat → Int32} (h : CR gn ac dn fs fm vs) {j : Nat} (hj : j < 82) : F_Cloth_isVoid (nI j) gn = F_Model_isVoid (nI j) vs := by
  have t := j_tab ⟨j, hj⟩
  dsimp only at t
  refine zb_eq (F_Cloth_isVoid_b _ _) (F_Model_isVoid_b _ _) ?_
  rw [mvoid hj]
  unfold F_Cloth_isVoid vd
  dsimp only [bnd]
  rw [t.2.2.2.2.1, t.1, jS_of]
  have hF := t.2.2.2.2.2.1
  have hS := t.2.2.2.2.2.2.1
  rw [jS_of] at hS
  by_cases c : j < 42
  · rw [if_pos c] at hS
    rw [if_pos c, if_pos c, if_pos rfl, has_0 (by omega), b6_or, b6_shr1, not_true_false, Bool.or_eq_true, h.1 _ hF, Nat.add_comm 1, h.1 _ hS]
  · rw [if_neg c] at hS
    rw [if_neg c, if_neg c, if_neg (by decide), has_0 (by omega), b6_or, b6_shr8, not_true_false, Bool.or_eq_true, h.1 _ hF, Nat.add_comm 8, h.1 _ hS]
theorem cholds {gn ac dn : Int64} {fs fm vs : Nat → Int32} (h : CR gn ac dn fs fm vs) {j : Nat} (hj : j < 82) : F_Cloth_holds (nI j) ac dn = F_Model_holds (nI j) vs := by
  have t := j_tab ⟨j, hj⟩
  dsimp only at t
  refine zb_eq (F_Cloth_holds_b _ _ _) (F_Model_holds_b _ _) ?_
  rw [mholds hj]
  unfold F_Cloth_holds
  dsimp only [bnd]
  rw [t.2.2.2.2.1, t.1]
  have hF := t.2.2.2.2.2.1
  by_cases c : j < 42
  · rw [if_pos c, if_pos rfl, has_0 (by omega), not_true_false, h.2.2.2.2.1]
    have e : 7 * (jF j / 8) + jF j % 8 = j ∧ jF j % 8 < 7 := by
      have tb : ∀ j : Fin 82, j.val < 42 → 7 * (jF j.val / 8) + jF j.val % 8 = j.val ∧ jF j.val % 8 < 7 := by decide +kernel
      exact tb ⟨j, hj⟩ c
    rw [e.1]
    exact ⟨fun z1 z2 => z1 ⟨hF, e.2, z2⟩, fun z1 z2 => z1 z2.2.2⟩
  · rw [if_neg c, if_neg (by decide), has_0 (by omega), not_true_false, h.2.2.2.2.2]
    have e : jF j = j - 42 := by unfold jF; rw [if_neg c]
    rw [e, show 42 + (j - 42) = j by omega]
    exact ⟨fun z1 z2 => z1 ⟨by omega, z2⟩, fun z1 z2 => z1 z2.2⟩
-- counting cells
theorem left_go (vs : Nat → Int32) : ∀ (n k q : Nat), k ≤ 48 → 48 - k < n → q = cntB (fun c => !decide (vs (164 + c) = 1)) k → (F_Model_left_L4 vs n (nI k) (nI q)).2 = nI (cntB (fun c => !decide (vs (164 + c) = 1)) 48) := by
  intro n
  induction n with
  | zero => intro k q hk hn; exact absurd hn (Nat.not_lt_zero _)
  | succ n ih =>
    intro k q hk hn hq
    rw [F_Model_left_L4]
    dsimp only [bnd]
    by_cases c : (48 : Int32) ≤ nI k
    · rw [if_pos c]
      have h9 : 48 ≤ k := (nI_leI (by decide) (by omega)).mp c
      rw [hq, show k = 48 by omega]
    · rw [if_neg c]
      have hlt : k < 48 := lp_lt rfl rfl hk c
      have hs : cntB (fun c => !decide (vs (164 + c) = 1)) (k + 1) = q + (!decide (vs (164 + k) = 1)).toNat := by rw [hq]; rfl
      by_cases g : F_Model_isGone (nI k) vs = 0
      · have g2 := (mgone hlt).mp g
        rw [if_pos g, nI_1, nI_1]
        exact ih (k + 1) (q + 1) (by omega) (by omega) (by rw [hs]; simp [g2])
      · have g2 : vs (164 + k) = 1 := Decidable.not_not.mp (fun z => g ((mgone hlt).mpr z))
        rw [if_neg g, nI_1, Int32.add_zero]
        exact ih (k + 1) q (by omega) (by omega) (by rw [hs]; simp [g2])
theorem left_n (vs : Nat → Int32) : F_Model_left vs = nI (cntB (fun c => !decide (vs (164 + c) = 1)) 48) := left_go vs 49 0 0 (by omega) (by omega) rfl
theorem cnt_not (f : Nat → Bool) : ∀ n, cntB (fun c => !f c) n + cntB f n = n
  | 0 => rfl
  | n + 1 => by
    have h := cnt_not f n
    have h2 : (!f n).toNat + (f n).toNat = 1 := by cases f n <;> rfl
    show (cntB (fun c => !f c) n + (!f n).toNat) + (cntB f n + (f n).toNat) = n + 1
    omega
theorem cleft {gn ac dn : Int64} {fs fm vs : Nat → Int32} (h : CR gn ac dn fs fm vs) : F_Cloth_cellsLeft gn = F_Model_left vs := by
  have e : F_Cloth_cellsLeft gn = 48 - F_Long_bitCount gn := rfl
  rw [e, bitCount_48 h.2.1, left_n]
  have hc : cntB (b6 gn) 48 = cntB (fun c => decide (vs (164 + c) = 1)) 48 := cntB_eq (fun i hi => by
    have := h.1 i hi
    by_cases z : vs (164 + i) = 1
    · rw [this.mpr z]; simp [z]
    · have : b6 gn i = false := not_true_false.mpr (fun w => z (this.mp w))
      rw [this]; simp [z])
  rw [hc]
  have hn := cnt_not (fun c => decide (vs (164 + c) = 1)) 48
  have hle := cntB_le (fun c => decide (vs (164 + c) = 1)) 48
  rw [show (48 : Int32) = nI 48 from rfl, pk_sub hle]
  congr 1
  omega
theorem cover {gn ac dn : Int64} {fs fm vs : Nat → Int32} (h : CR gn ac dn fs fm vs) {tn : Int32} (ht : tn = vs 244) : F_Game_isOver tn gn = F_Model_isOver vs := by
  unfold F_Game_isOver F_Model_isOver
  dsimp only [bnd]
  rw [cleft h, ht]
  rfl
theorem cstate {gn ac dn : Int64} {fs fm vs : Nat → Int32} (h : CR gn ac dn fs fm vs) {j : Nat} (hj : j < 82) : F_Cloth_stateOf (nI j) fs = vs j := by
  have t := j_tab ⟨j, hj⟩
  dsimp only at t
  unfold F_Cloth_stateOf
  dsimp only [bnd]
  rw [t.2.2.2.2.2.2.2.1, if_neg (by decide), nI_clamp (by omega), h.2.2.1 j hj]
theorem cmaker {gn ac dn : Int64} {fs fm vs : Nat → Int32} (h : CR gn ac dn fs fm vs) {j : Nat} (hj : j < 82) : F_Cloth_makerOf (nI j) fm = vs (82 + j) := by
  have t := j_tab ⟨j, hj⟩
  dsimp only at t
  unfold F_Cloth_makerOf
  dsimp only [bnd]
  rw [t.2.2.2.2.2.2.2.1, if_neg (by decide), nI_clamp (by omega), h.2.2.2.1 j hj]
theorem creason {gn ac dn : Int64} {fs fm vs : Nat → Int32} (h : CR gn ac dn fs fm vs) {tn : Int32} (ht : tn = vs 244) {j : Nat} (hj : j < 82) : F_Game_whyNoSnip (nI j) tn gn fs = F_Model_reason (nI j) vs := by
  unfold F_Game_whyNoSnip F_Model_reason
  dsimp only [bnd]
  rw [cover h ht, cvoid h hj, cstate h hj, mj0 hj]
theorem cmany {gn ac dn : Int64} {fs fm vs : Nat → Int32} (h : CR gn ac dn fs fm vs) (st : Int32) : F_Cloth_jointsThatAre st gn fs = F_Model_many st vs := by
  have go : ∀ (n k : Nat) (x : Int32), k ≤ 82 → (F_Cloth_jointsThatAre_L4 st gn fs n (nI k) x).2 = (F_Model_many_L4 st vs n (nI k) x).2 := by
    intro n
    induction n with
    | zero => intro k x hk; rfl
    | succ n ih =>
      intro k x hk
      rw [F_Cloth_jointsThatAre_L4, F_Model_many_L4]
      dsimp only [bnd]
      by_cases c : (82 : Int32) ≤ nI k
      · rw [if_pos c, if_pos c]
      · have hlt : k < 82 := lp_lt rfl rfl hk c
        rw [if_neg c, if_neg c, nI_clamp (by omega), mj0 hlt, h.2.2.1 k hlt, cvoid h hlt, nI_1, Int32.add_zero]
        split
        · split
          · exact ih (k + 1) _ (by omega)
          · exact ih (k + 1) _ (by omega)
        · exact ih (k + 1) _ (by omega)
  exact go 83 0 0 (by omega)
theorem cholding {gn ac dn : Int64} {fs fm vs : Nat → Int32} (h : CR gn ac dn fs fm vs) (cell : Int32) : F_Cloth_holdsOn cell ac dn = F_Model_holding cell vs := by
  have go : ∀ (n k : Nat) (x : Int32), k ≤ 82 → (F_Cloth_holdsOn_L4 cell ac dn n (nI k) x).2 = (F_Model_holding_L4 cell vs n (nI k) x).2 := by
    intro n
    induction n with
    | zero => intro k x hk; rfl
    | succ n ih =>
      intro k x hk
      rw [F_Cloth_holdsOn_L4, F_Model_holding_L4]
      dsimp only [bnd]
      by_cases c : (82 : Int32) ≤ nI k
      · rw [if_pos c, if_pos c]
      · have hlt : k < 82 := lp_lt rfl rfl hk c
        have t := j_tab ⟨k, hlt⟩
        dsimp only at t
        rw [if_neg c, if_neg c, cholds h hlt, t.1, t.2.1, t.2.2.1, t.2.2.2.1, nI_1, Int32.add_zero]
        by_cases d : F_Model_holds (nI k) vs = 0
        · rw [if_pos d, if_pos d]
          split
          · exact ih (k + 1) _ (by omega)
          · split
            · exact ih (k + 1) _ (by omega)
            · exact ih (k + 1) _ (by omega)
        · rw [if_neg d, if_neg d]
          split
          · exact ih (k + 1) _ (by omega)
          · split
            · exact ih (k + 1) _ (by omega)
            · exact ih (k + 1) _ (by omega)
  exact go 83 0 0 (by omega)
