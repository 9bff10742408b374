-- chalk: the object's row of marks, the reference's
/-- a player's numbers in the reference begin at tO q -/
def tO (q : Nat) : Nat := 212 + 16 * q
theorem at_q {q : Nat} (hq : q ≤ 1) (j : Nat) : F_Model_at (nI q) (nI j) = nI (tO q + j) := by
  rcases (show q = 0 ∨ q = 1 by omega) with rfl | rfl
  · exact at_0 j
  · exact at_1 j
theorem chalkAt_q {q : Nat} (hq : q ≤ 1) {k : Nat} (hk : k ≤ 16) (vs : Nat → Int32) : F_Model_chalkAt (nI q) (nI k) vs = vs (tO q + 8 + k) := by
  unfold F_Model_chalkAt
  dsimp only [bnd]
  rw [show (8 : Int32) = nI 8 from rfl, at_q hq, nI_add, nI_clamp (by unfold tO; omega)]
/-- M marks, each a joint, no two the same -/
def MK (M : Nat) (f : Nat → Int32) : Prop := M ≤ 8 ∧ (∀ i, i < M → ∃ j, j < 82 ∧ f i = nI j) ∧ ∀ i k, i < M → k < M → f i = f k → i = k
theorem hm_go (joint : Int32) {M : Nat} (hM : M ≤ 8) (f : Nat → Int32) : ∀ (n k : Nat), k ≤ M → M - k < n → (F_Tailor_hasMark_L2 joint (nI M) f n (nI k) = 0 ∨ F_Tailor_hasMark_L2 joint (nI M) f n (nI k) = 1) ∧ (F_Tailor_hasMark_L2 joint (nI M) f n (nI k) = 0 ↔ ∀ i, k ≤ i → i < M → ¬ f i = joint) := by
  intro n
  induction n with
  | zero => intro k hk hn; exact absurd hn (Nat.not_lt_zero _)
  | succ n ih =>
    intro k hk hn
    rw [F_Tailor_hasMark_L2]
    by_cases c : nI M ≤ nI k
    · rw [if_pos c]
      have h9 : M ≤ k := (nI_leI (by omega) (by omega)).mp c
      exact ⟨Or.inl rfl, fun _ i h1 h2 => by omega, fun _ => rfl⟩
    · have hlt : k < M := lp_lt rfl rfl hk c
      rw [if_neg c, nI_clamp (by omega)]
      by_cases d : f k = joint
      · rw [if_pos d]
        exact ⟨Or.inr rfl, fun z => absurd z (by decide), fun z => absurd d (z k (Nat.le_refl _) hlt)⟩
      · rw [if_neg d, nI_1]
        obtain ⟨h1, h2⟩ := ih (k + 1) (by omega) (by omega)
        refine ⟨h1, h2.trans ⟨fun z i a b => ?_, fun z i a b => z i (by omega) b⟩⟩
        by_cases e : i = k
        · subst e; exact d
        · exact z i (by omega) b
theorem hm_0 (joint : Int32) {M : Nat} (hM : M ≤ 8) (f : Nat → Int32) : (F_Tailor_hasMark joint (nI M) f = 0 ∨ F_Tailor_hasMark joint (nI M) f = 1) ∧ (F_Tailor_hasMark joint (nI M) f = 0 ↔ ∀ i, i < M → ¬ f i = joint) := by
  obtain ⟨h1, h2⟩ := hm_go joint hM f 9 0 (by omega) (by omega)
  rw [nI_0] at h1 h2
  exact ⟨h1, h2.trans ⟨fun z i a => z i (Nat.zero_le _) a, fun z i _ a => z i a⟩⟩
theorem rk_none {q : Nat} (hq : q ≤ 1) (joint : Int32) {M : Nat} (hM : M ≤ 8) {vs : Nat → Int32} (hc : vs (tO q + 2) = nI M) : ∀ (n k : Nat) (x3 : Int32), k ≤ M → M - k < n → (∀ i, k ≤ i → i < M → ¬ vs (tO q + 8 + i) = joint) → (F_Model_rankOf_L6 (nI q) joint vs n (nI k) x3).2 = x3 := by
  intro n
  induction n with
  | zero => intro k x3 hk hn; exact absurd hn (Nat.not_lt_zero _)
  | succ n ih =>
    intro k x3 hk hn hz
    rw [F_Model_rankOf_L6]
    dsimp only [bnd]
    rw [show (2 : Int32) = nI 2 from rfl, at_q hq, nI_clamp (by unfold tO; omega), hc]
    by_cases c : nI M ≤ nI k
    · rw [if_pos c]
    · have hlt : k < M := lp_lt rfl rfl hk c
      rw [if_neg c, chalkAt_q hq (by omega), if_neg (hz k (Nat.le_refl _) hlt), nI_1]
      exact ih (k + 1) x3 (by omega) (by omega) (fun i a b => hz i (by omega) b)
theorem rk_some {q : Nat} (hq : q ≤ 1) (joint : Int32) {M : Nat} (hM : M ≤ 8) {vs : Nat → Int32} (hc : vs (tO q + 2) = nI M) {i0 : Nat} (h0 : i0 < M) (he : vs (tO q + 8 + i0) = joint) (hu : ∀ i, i < M → vs (tO q + 8 + i) = joint → i = i0) : ∀ (n k : Nat) (x3 : Int32), k ≤ i0 → M - k < n → (F_Model_rankOf_L6 (nI q) joint vs n (nI k) x3).2 = nI i0 := by
  intro n
  induction n with
  | zero => intro k x3 hk hn; exact absurd hn (Nat.not_lt_zero _)
  | succ n ih =>
    intro k x3 hk hn
    rw [F_Model_rankOf_L6]
    dsimp only [bnd]
    rw [show (2 : Int32) = nI 2 from rfl, at_q hq, nI_clamp (by unfold tO; omega), hc, if_neg (fun z => by have := (nI_leI (by omega) (by omega)).mp z; omega), chalkAt_q hq (by omega)]
    by_cases d : k = i0
    · subst d
      rw [if_pos he, nI_1]
      exact rk_none hq joint hM hc n (k + 1) _ (by omega) (by omega) (fun i a b z => by have := hu i b z; omega)
    · rw [if_neg (fun z => d (hu k (by omega) z)), nI_1]
      exact ih (k + 1) x3 (by omega) (by omega)
/-- the same marks on both sides -/
def MS (q : Nat) (mks : Int32) (f vs : Nat → Int32) (M : Nat) : Prop := mks = nI M ∧ vs (tO q + 2) = nI M ∧ MK M f ∧ ∀ i, i < M → f i = vs (tO q + 8 + i)
theorem rank_of {q : Nat} (hq : q ≤ 1) {mks joint : Int32} {f vs : Nat → Int32} {M : Nat} (h : MS q mks f vs M) : ((∀ i, i < M → ¬ f i = joint) ∧ F_Model_rankOf (nI q) joint vs = -6) ∨ ∃ i0, i0 < M ∧ f i0 = joint ∧ F_Model_rankOf (nI q) joint vs = nI i0 := by
  obtain ⟨h1, h2, h3, h4⟩ := h
  have hM := h3.1
  have e : F_Model_rankOf (nI q) joint vs = (F_Model_rankOf_L6 (nI q) joint vs 9 (nI 0) (-6)).2 := by rw [nI_0]; rfl
  rw [e]
  by_cases c : ∃ i0, i0 < M ∧ f i0 = joint
  · obtain ⟨i0, a, b⟩ := c
    refine Or.inr ⟨i0, a, b, rk_some hq joint hM h2 a (by rw [← h4 i0 a]; exact b) (fun i hi z => ?_) 9 0 (-6) (by omega) (by omega)⟩
    rw [← h4 i hi] at z
    exact h3.2.2 i i0 hi a (z.trans b.symm)
  · have hz : ∀ i, i < M → ¬ f i = joint := fun i hi z => c ⟨i, hi, z⟩
    exact Or.inl ⟨hz, rk_none hq joint hM h2 9 0 (-6) (by omega) (by omega) (fun i _ hi z => hz i hi (by rw [h4 i hi]; exact z))⟩
theorem hasC {q : Nat} (hq : q ≤ 1) {mks joint : Int32} {f vs : Nat → Int32} {M : Nat} (h : MS q mks f vs M) : F_Tailor_hasMark joint mks f = F_Model_hasChalk (nI q) joint vs := by
  obtain ⟨z1, z2⟩ := hm_0 joint h.2.2.1.1 f
  rw [h.1]
  refine zb_eq z1 (F_Model_hasChalk_b _ _ _) ?_
  rw [z2]
  unfold F_Model_hasChalk
  dsimp only [bnd]
  rcases rank_of hq (joint := joint) h with ⟨a, b⟩ | ⟨i0, a, b, c⟩
  · rw [if_pos b]; exact ⟨fun _ => rfl, fun _ => a⟩
  · rw [c, if_neg (nI_n6 (by have := h.2.2.1.1; omega))]
    exact ⟨fun z => absurd b (z i0 a), fun z => absurd z (by decide)⟩
theorem dm_none (joint : Int32) {M : Nat} (hM : M ≤ 8) (f0 f : Nat → Int32) (hz : ∀ i, i < M → ¬ f i = joint) : ∀ (n k : Nat) (w : Nat → Int32), k ≤ M → M - k < n → (∀ i, w i = f i) → (F_Tailor_dropMark_L4 joint (nI M) f0 n (nI k) (nI k) w).2.1 = nI M ∧ ∀ i, (F_Tailor_dropMark_L4 joint (nI M) f0 n (nI k) (nI k) w).2.2 i = f i := by
  intro n
  induction n with
  | zero => intro k w hk hn; exact absurd hn (Nat.not_lt_zero _)
  | succ n ih =>
    intro k w hk hn hw
    rw [F_Tailor_dropMark_L4]
    by_cases c : nI M ≤ nI k
    · rw [if_pos c]
      have h9 : M ≤ k := (nI_leI (by omega) (by omega)).mp c
      exact ⟨by rw [show k = M by omega], hw⟩
    · have hlt : k < M := lp_lt rfl rfl hk c
      rw [if_neg c, nI_clamp (by omega), hw k, if_neg (hz k hlt), nI_1]
      refine ih (k + 1) _ (by omega) (by omega) (fun i => ?_)
      by_cases e : i = k
      · subst e; rw [pk_us]
      · rw [pk_un e, hw i]
theorem dm_aft (joint : Int32) {M : Nat} (hM : M ≤ 8) (f0 f : Nat → Int32) {i0 : Nat} (hu : ∀ i, i < M → i ≠ i0 → ¬ f i = joint) : ∀ (n k : Nat) (w : Nat → Int32), i0 < k → k ≤ M → M - k < n → (∀ i, i < k - 1 → w i = if i < i0 then f i else f (i + 1)) → (∀ i, k ≤ i → w i = f i) → (F_Tailor_dropMark_L4 joint (nI M) f0 n (nI k) (nI (k - 1)) w).2.1 = nI (M - 1) ∧ ∀ i, i < M - 1 → (F_Tailor_dropMark_L4 joint (nI M) f0 n (nI k) (nI (k - 1)) w).2.2 i = if i < i0 then f i else f (i + 1) := by
  intro n
  induction n with
  | zero => intro k w h0 hk hn; exact absurd hn (Nat.not_lt_zero _)
  | succ n ih =>
    intro k w h0 hk hn hw hw2
    rw [F_Tailor_dropMark_L4]
    by_cases c : nI M ≤ nI k
    · rw [if_pos c]
      have h9 : M ≤ k := (nI_leI (by omega) (by omega)).mp c
      have e : k = M := by omega
      subst e
      exact ⟨rfl, hw⟩
    · have hlt : k < M := lp_lt rfl rfl hk c
      rw [if_neg c, nI_clamp (by omega), nI_clamp (by omega), hw2 k (Nat.le_refl _), if_neg (hu k hlt (by omega)), nI_1, nI_1]
      have := ih (k + 1) (upd w (k - 1) (f k)) (by omega) (by omega) (by omega) (fun i hi => ?_) (fun i hi => ?_)
      · rwa [show k + 1 - 1 = k - 1 + 1 by omega] at this
      · by_cases e : i = k - 1
        · rw [e, pk_us, if_neg (by omega), show k - 1 + 1 = k by omega]
        · rw [pk_un e, hw i (by omega)]
      · rw [pk_un (by omega), hw2 i (by omega)]
theorem dm_bef (joint : Int32) {M : Nat} (hM : M ≤ 8) (f0 f : Nat → Int32) {i0 : Nat} (h0 : i0 < M) (he : f i0 = joint) (hu : ∀ i, i < M → i ≠ i0 → ¬ f i = joint) : ∀ (n k : Nat) (w : Nat → Int32), k ≤ i0 → M - k < n → (∀ i, w i = f i) → (F_Tailor_dropMark_L4 joint (nI M) f0 n (nI k) (nI k) w).2.1 = nI (M - 1) ∧ ∀ i, i < M - 1 → (F_Tailor_dropMark_L4 joint (nI M) f0 n (nI k) (nI k) w).2.2 i = if i < i0 then f i else f (i + 1) := by
  intro n
  induction n with
  | zero => intro k w hk hn; exact absurd hn (Nat.not_lt_zero _)
  | succ n ih =>
    intro k w hk hn hw
    rw [F_Tailor_dropMark_L4, if_neg (fun z => by have := (nI_leI (by omega) (by omega)).mp z; omega), nI_clamp (by omega), hw k, nI_1]
    by_cases e : k = i0
    · subst e
      rw [if_pos he]
      exact dm_aft joint hM f0 f hu n (k + 1) w (by omega) (by omega) (by omega) (fun i hi => by rw [hw i, if_pos (by omega)]) (fun i _ => hw i)
    · rw [if_neg (hu k (by omega) e)]
      refine ih (k + 1) _ (by omega) (by omega) (fun i => ?_)
      by_cases e2 : i = k
      · subst e2; rw [pk_us]
      · rw [pk_un e2, hw i]
theorem rub_30 {q : Nat} (hq : q ≤ 1) (joint : Int32) (v0 : Nat → Int32) {M1 : Nat} (hM : M1 ≤ 7) : ∀ (n k : Nat) (x3 : Int32) (w : Nat → Int32), k ≤ M1 → M1 - k < n → w (tO q + 2) = nI M1 → ∀ i, (F_Model_rubs_L30 (nI q) joint v0 n (nI k) x3 w).2.2 i = if tO q + 8 + k ≤ i ∧ i < tO q + 8 + M1 then w (i + 1) else w i := by
  intro n
  induction n with
  | zero => intro k x3 w hk hn; exact absurd hn (Nat.not_lt_zero _)
  | succ n ih =>
    intro k x3 w hk hn hw i
    rw [F_Model_rubs_L30]
    dsimp only [bnd]
    rw [show (2 : Int32) = nI 2 from rfl, show (8 : Int32) = nI 8 from rfl, at_q hq, at_q hq, nI_clamp (by unfold tO; omega), hw]
    by_cases c : nI M1 ≤ nI k
    · rw [if_pos c]
      have h9 : M1 ≤ k := (nI_leI (by omega) (by omega)).mp c
      rw [if_neg (by omega)]
    · have hlt : k < M1 := lp_lt rfl rfl hk c
      rw [if_neg c, nI_1, chalkAt_q hq (by omega), nI_add, nI_clamp (by unfold tO; omega), ih (k + 1) _ _ (by omega) (by omega) (by rw [pk_un (by omega)]; exact hw) i]
      by_cases a : tO q + 8 + (k + 1) ≤ i ∧ i < tO q + 8 + M1
      · rw [if_pos a, if_pos (by omega), pk_un (by omega)]
      · rw [if_neg a]
        by_cases b : i = tO q + 8 + k
        · subst b; rw [pk_us, if_pos (by omega)]; congr 1
        · rw [pk_un b, if_neg (by omega)]
/-- rubbing out and dropping do the same; what is not this player's chalk stays -/
theorem drop_rub {q : Nat} (hq : q ≤ 1) {mks joint : Int32} {f vs : Nat → Int32} {M : Nat} (h : MS q mks f vs M) : (∃ M', MS q (F_Tailor_dropMark joint mks f).1 (F_Tailor_dropMark joint mks f).2 (F_Model_rubs (nI q) joint vs) M') ∧ (∀ i, (i = tO q + 2 ∨ (tO q + 8 ≤ i ∧ i < tO q + 16)) ∨ F_Model_rubs (nI q) joint vs i = vs i) := by
  have hM := h.2.2.1.1
  have ed : F_Tailor_dropMark joint mks f = ((F_Tailor_dropMark_L4 joint mks f 9 (nI 0) (nI 0) f).2.1, (F_Tailor_dropMark_L4 joint mks f 9 (nI 0) (nI 0) f).2.2) := by
    rw [nI_0]; unfold F_Tailor_dropMark; dsimp only [bnd]
  rcases rank_of hq (joint := joint) h with ⟨a, b⟩ | ⟨i0, a, b, c⟩
  · have er : F_Model_rubs (nI q) joint vs = vs := by
      unfold F_Model_rubs
      dsimp only [bnd]
      rw [if_pos b]
    rw [er]
    refine ⟨⟨M, ?_⟩, fun i => Or.inr rfl⟩
    obtain ⟨g1, g2⟩ := dm_none joint hM f f a 9 0 f (by omega) (by omega) (fun _ => rfl)
    rw [ed, h.1]
    have ef : (F_Tailor_dropMark_L4 joint (nI M) f 9 (nI 0) (nI 0) f).2.2 = f := funext g2
    dsimp only
    rw [g1, ef]
    exact ⟨rfl, h.2.1, h.2.2⟩
  · have hu : ∀ i, i < M → i ≠ i0 → ¬ f i = joint := fun i hi hne z => hne (h.2.2.1.2.2 i i0 hi a (z.trans b.symm))
    obtain ⟨g1, g2⟩ := dm_bef joint hM f f a b hu 9 0 f (by omega) (by omega) (fun _ => rfl)
    obtain ⟨m, rfl⟩ : ∃ m, M = m + 1 := ⟨M - 1, by omega⟩
    have hw2 : upd vs (tO q + 2) (nI m) (tO q + 2) = nI m := pk_us
    have hr := rub_30 hq joint vs (M1 := m) (by omega) 9 i0 (nI i0) (upd vs (tO q + 2) (nI m)) (by omega) (by omega) hw2
    have er : ∀ i, F_Model_rubs (nI q) joint vs i = if i = tO q + 8 + m then 0 else if tO q + 8 + i0 ≤ i ∧ i < tO q + 8 + m then vs (i + 1) else upd vs (tO q + 2) (nI m) i := fun i => by
      unfold F_Model_rubs
      dsimp only [bnd]
      rw [if_neg (by rw [c]; exact nI_n6 (by omega)), c, show (2 : Int32) = nI 2 from rfl, show (8 : Int32) = nI 8 from rfl, at_q hq, at_q hq, nI_clamp (by unfold tO; omega), h.2.1, nI_pred]
      have e2 : (F_Model_rubs_L30 (nI q) joint vs 9 (nI i0) (nI i0) (upd vs (tO q + 2) (nI m))).2.2 (tO q + 2) = nI m := by
        rw [hr, if_neg (by omega)]; exact hw2
      rw [e2, nI_add, nI_clamp (by unfold tO; omega)]
      by_cases z : i = tO q + 8 + m
      · rw [if_pos z, z, pk_us]
      · rw [if_neg z, pk_un z, hr i]
        by_cases y : tO q + 8 + i0 ≤ i ∧ i < tO q + 8 + m
        · rw [if_pos y, if_pos y, pk_un (by omega)]
        · rw [if_neg y, if_neg y]
    refine ⟨⟨m, ?_⟩, fun i => ?_⟩
    · rw [ed, h.1]
      dsimp only
      rw [g1]
      refine ⟨rfl, by rw [er, if_neg (by omega), if_neg (by omega)]; exact hw2, ⟨by omega, fun i hi => ?_, fun i k hi hk hz => ?_⟩, fun i hi => ?_⟩
      · rw [g2 i (by omega)]
        split
        · exact h.2.2.1.2.1 i (by omega)
        · exact h.2.2.1.2.1 (i + 1) (by omega)
      · rw [g2 i (by omega), g2 k (by omega)] at hz
        by_cases z1 : i < i0
        · rw [if_pos z1] at hz
          by_cases z2 : k < i0
          · rw [if_pos z2] at hz; exact h.2.2.1.2.2 i k (by omega) (by omega) hz
          · rw [if_neg z2] at hz
            have := h.2.2.1.2.2 i (k + 1) (by omega) (by omega) hz
            omega
        · rw [if_neg z1] at hz
          by_cases z2 : k < i0
          · rw [if_pos z2] at hz
            have := h.2.2.1.2.2 (i + 1) k (by omega) (by omega) hz
            omega
          · rw [if_neg z2] at hz
            have := h.2.2.1.2.2 (i + 1) (k + 1) (by omega) (by omega) hz
            omega
      · rw [g2 i (by omega), er]
        by_cases z1 : i < i0
        · rw [if_pos z1, if_neg (show ¬ tO q + 8 + i = tO q + 8 + m by omega), if_neg (by omega), pk_un (by omega)]; exact h.2.2.2 i (by omega)
        · rw [if_neg z1, if_neg (show ¬ tO q + 8 + i = tO q + 8 + m by omega), if_pos (by omega), h.2.2.2 (i + 1) (by omega)]; congr 1
    · by_cases y : i = tO q + 2 ∨ (tO q + 8 ≤ i ∧ i < tO q + 16)
      · exact Or.inl y
      · refine Or.inr ?_
        rw [er, if_neg (by omega), if_neg (by omega), pk_un (by omega)]
