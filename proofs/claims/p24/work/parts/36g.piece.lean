-- what is asked of pieces
theorem jF_a : ∀ j : Fin 42, 7 * (jF j.val / 8) + jF j.val % 8 = j.val ∧ jF j.val % 8 < 7 := by decide +kernel
theorem jF_c : ∀ c : Fin 48, c.val % 8 < 7 → jF (7 * (c.val / 8) + c.val % 8) = c.val ∧ 7 * (c.val / 8) + c.val % 8 < 42 := by decide +kernel
theorem jF_d {j : Nat} (h : 42 ≤ j) : jF j = j - 42 := by unfold jF; rw [if_neg (by omega)]
theorem jF_lt {j : Nat} (hj : j < 82) : jF j < 48 := (j_tab ⟨j, hj⟩).2.2.2.2.2.1
theorem jS_lt {j : Nat} (hj : j < 82) : jS j < 48 := (j_tab ⟨j, hj⟩).2.2.2.2.2.2.1
theorem nI_n6 {j : Nat} (hj : j < 82) : nI j ≠ -6 := fun e => by
  have := congrArg Int32.toInt e
  rw [nI_toInt (by omega)] at this
  have e6 : (-6 : Int32).toInt = -6 := rfl
  omega
theorem holdsN {vs : Nat → Int32} {j : Nat} (hj : j < 82) : F_Model_holds (nI j) vs ≠ 0 ↔ hold vs j := by
  have := mholds (vs := vs) hj
  exact ⟨fun z => Classical.byContradiction fun q => z (this.mpr q), fun z q => this.mp q z⟩
theorem act_0 {but : Int32} {vs : Nat → Int32} {j : Nat} (hj : j < 82) : act but 0 vs j ↔ nI j ≠ but ∧ hold vs j := by
  unfold act
  rw [holdsN hj]
  exact ⟨fun z => ⟨z.1, z.2.resolve_right (fun q => q.1 rfl)⟩, fun z => ⟨z.1, Or.inl z.2⟩⟩
theorem act_1 {vs : Nat → Int32} {j : Nat} (hj : j < 82) : act (-6) 1 vs j ↔ hold vs j ∨ (¬ vd vs j ∧ vs j = 3) := by
  unfold act
  rw [holdsN hj, mvoid hj, mj0 hj]
  exact ⟨fun z => z.2.elim Or.inl (fun q => Or.inr ⟨q.2.1, q.2.2⟩), fun z => ⟨nI_n6 hj, z.elim Or.inl (fun q => Or.inr ⟨by decide, q.1, q.2⟩)⟩⟩
theorem CR_a {gn ac dn : Int64} {fs fm vs : Nat → Int32} (h : CR gn ac dn fs fm vs) {j : Nat} (hj : j < 42) : b6 ac (jF j) = true ↔ hold vs j := by
  have t := jF_a ⟨j, hj⟩
  dsimp only at t
  rw [h.2.2.2.2.1, t.1]
  exact ⟨fun z => z.2.2, fun z => ⟨jF_lt (by omega), t.2, z⟩⟩
theorem CR_d {gn ac dn : Int64} {fs fm vs : Nat → Int32} (h : CR gn ac dn fs fm vs) {j : Nat} (h1 : 42 ≤ j) (hj : j < 82) : b6 dn (jF j) = true ↔ hold vs j := by
  rw [h.2.2.2.2.2, jF_d h1, show 42 + (j - 42) = j by omega]
  exact ⟨fun z => z.2, fun z => ⟨by omega, z⟩⟩
theorem CR_ac {gn ac dn : Int64} {fs fm vs : Nat → Int32} (h : CR gn ac dn fs fm vs) {c : Nat} (hc : b6 ac c = true) : ∃ j, j < 42 ∧ jF j = c ∧ hold vs j := by
  obtain ⟨h1, h2, h3⟩ := (h.2.2.2.2.1 c).mp hc
  have t := jF_c ⟨c, h1⟩ h2
  exact ⟨_, t.2, t.1, h3⟩
theorem CR_dc {gn ac dn : Int64} {fs fm vs : Nat → Int32} (h : CR gn ac dn fs fm vs) {c : Nat} (hc : b6 dn c = true) : ∃ j, 42 ≤ j ∧ j < 82 ∧ jF j = c ∧ hold vs j := by
  obtain ⟨h1, h3⟩ := (h.2.2.2.2.2 c).mp hc
  exact ⟨42 + c, by omega, by omega, by rw [jF_d (by omega)]; omega, h3⟩
theorem GE_0 {gn ac dn : Int64} {fs fm vs : Nat → Int32} (h : CR gn ac dn fs fm vs) : GE (-6) 0 vs ac dn := by
  refine ⟨fun j hj ha => ?_, fun c hc => ?_, fun c hc => ?_⟩
  · have hh := ((act_0 hj).mp ha).2
    exact ⟨fun z => (CR_a h z).mpr hh, fun z => (CR_d h z hj).mpr hh⟩
  · obtain ⟨j, h1, h2, h3⟩ := CR_ac h hc
    exact ⟨j, h1, h2, (act_0 (by omega)).mpr ⟨nI_n6 (by omega), h3⟩⟩
  · obtain ⟨j, h0, h1, h2, h3⟩ := CR_dc h hc
    exact ⟨j, h0, h1, h2, (act_0 h1).mpr ⟨nI_n6 h1, h3⟩⟩
def own (j : Nat) : Int64 := (1 : Int64) <<< ((nI (jF j)).toInt64 &&& 63)
theorem b6_own {j : Nat} (hj : j < 82) (i : Nat) : b6 (own j) i = decide (i = jF j) := b6_one (by have := jF_lt hj; omega) i
def rgA (j : Nat) (ac : Int64) : Int64 := if j < 42 then ac &&& (own j ^^^ (-1)) else ac
def rgD (j : Nat) (dn : Int64) : Int64 := if j < 42 then dn else dn &&& (own j ^^^ (-1))
theorem b6_off {x : Int64} {j : Nat} (hj : j < 82) (i : Nat) : b6 (x &&& (own j ^^^ (-1))) i = true ↔ b6 x i = true ∧ i ≠ jF j := by
  rw [b6_and, b6_not, b6_own hj]
  simp only [Bool.and_eq_true, decide_eq_true_eq, Bool.not_eq_true', decide_eq_false_iff_not]
  exact ⟨fun z => ⟨z.1, z.2.2⟩, fun z => ⟨z.1, b6_lt z.1, z.2⟩⟩
theorem jF_inj {i j : Nat} (h : i < 42 ∧ j < 42 ∨ 42 ≤ i ∧ 42 ≤ j) (e : jF i = jF j) : i = j := by
  rcases h with ⟨h1, h2⟩ | ⟨h1, h2⟩
  · have t1 := (jF_a ⟨i, h1⟩).1
    have t2 := (jF_a ⟨j, h2⟩).1
    dsimp only at t1 t2
    rw [e] at t1
    omega
  · rw [jF_d h1, jF_d h2] at e
    omega
theorem GE_but {gn ac dn : Int64} {fs fm vs : Nat → Int32} (h : CR gn ac dn fs fm vs) {j0 : Nat} (h0 : j0 < 82) : GE (nI j0) 0 vs (rgA j0 ac) (rgD j0 dn) := by
  have ne : ∀ j, j < 82 → (nI j ≠ nI j0 ↔ j ≠ j0) := fun j hj => ⟨fun z q => z (by rw [q]), fun z q => z ((nI_eq (by omega) (by omega)).mp q)⟩
  refine ⟨fun j hj ha => ?_, fun c hc => ?_, fun c hc => ?_⟩
  · obtain ⟨h1, hh⟩ := (act_0 hj).mp ha
    have hne := (ne j hj).mp h1
    refine ⟨fun z => ?_, fun z => ?_⟩
    · have hb := (CR_a h z).mpr hh
      unfold rgA
      by_cases c42 : j0 < 42
      · rw [if_pos c42, b6_off h0]
        exact ⟨hb, fun e => hne (jF_inj (Or.inl ⟨z, c42⟩) e)⟩
      · rw [if_neg c42]; exact hb
    · have hb := (CR_d h z hj).mpr hh
      unfold rgD
      by_cases c42 : j0 < 42
      · rw [if_pos c42]; exact hb
      · rw [if_neg c42, b6_off h0]
        exact ⟨hb, fun e => hne (jF_inj (Or.inr ⟨z, by omega⟩) e)⟩
  · unfold rgA at hc
    by_cases c42 : j0 < 42
    · rw [if_pos c42, b6_off h0] at hc
      obtain ⟨j, h1, h2, h3⟩ := CR_ac h hc.1
      exact ⟨j, h1, h2, (act_0 (by omega)).mpr ⟨(ne j (by omega)).mpr (fun e => hc.2 (by rw [← h2, e])), h3⟩⟩
    · rw [if_neg c42] at hc
      obtain ⟨j, h1, h2, h3⟩ := CR_ac h hc
      exact ⟨j, h1, h2, (act_0 (by omega)).mpr ⟨(ne j (by omega)).mpr (by omega), h3⟩⟩
  · unfold rgD at hc
    by_cases c42 : j0 < 42
    · rw [if_pos c42] at hc
      obtain ⟨j, h5, h1, h2, h3⟩ := CR_dc h hc
      exact ⟨j, h5, h1, h2, (act_0 h1).mpr ⟨(ne j h1).mpr (by omega), h3⟩⟩
    · rw [if_neg c42, b6_off h0] at hc
      obtain ⟨j, h5, h1, h2, h3⟩ := CR_dc h hc.1
      exact ⟨j, h5, h1, h2, (act_0 h1).mpr ⟨(ne j h1).mpr (fun e => hc.2 (by rw [← h2, e])), h3⟩⟩
def rgP (near far : Int64) : Int64 := if F_Long_bitCount far ≤ F_Long_bitCount near then (if (12 : Int32) < F_Long_bitCount far then 0 else far) else (if (12 : Int32) < F_Long_bitCount near then 0 else near)
theorem rag_f {j : Nat} (hj : j < 82) (ac dn : Int64) : F_Cloth_ragOf (nI j) ac dn = if F_Cloth_has (F_Cloth_spread (nI (jF j)) (rgA j ac) (rgD j dn)) (nI (jS j)) = 0 then rgP (F_Cloth_spread (nI (jF j)) (rgA j ac) (rgD j dn)) (F_Cloth_spread (nI (jS j)) (rgA j ac) (rgD j dn)) else 0 := by
  have t := j_tab ⟨j, hj⟩
  dsimp only at t
  unfold F_Cloth_ragOf rgA rgD own rgP
  dsimp only [bnd]
  rw [t.1, t.2.1, t.2.2.2.2.1]
  by_cases c : j < 42
  · rw [if_pos c, if_pos c, if_pos c, if_pos rfl, if_pos rfl]
  · rw [if_neg c, if_neg c, if_neg c, if_neg (by decide), if_neg (by decide)]
theorem falls_f {j : Nat} (hj : j < 82) (vs vlb : Nat → Int32) : F_Model_fallsBy (nI j) vs vlb = if F_Model_cellsOf (F_Model_layPieces (nI j) 0 vs vlb (jS j)) (F_Model_layPieces (nI j) 0 vs vlb) ≤ F_Model_cellsOf (F_Model_layPieces (nI j) 0 vs vlb (jF j)) (F_Model_layPieces (nI j) 0 vs vlb) then (if F_Model_layPieces (nI j) 0 vs vlb (jF j) = F_Model_layPieces (nI j) 0 vs vlb (jS j) then (-6, F_Model_layPieces (nI j) 0 vs vlb) else if F_Model_cellsOf (F_Model_layPieces (nI j) 0 vs vlb (jS j)) (F_Model_layPieces (nI j) 0 vs vlb) ≤ 12 then (F_Model_layPieces (nI j) 0 vs vlb (jS j), F_Model_layPieces (nI j) 0 vs vlb) else (-6, F_Model_layPieces (nI j) 0 vs vlb)) else (if F_Model_layPieces (nI j) 0 vs vlb (jF j) = F_Model_layPieces (nI j) 0 vs vlb (jS j) then (-6, F_Model_layPieces (nI j) 0 vs vlb) else if F_Model_cellsOf (F_Model_layPieces (nI j) 0 vs vlb (jF j)) (F_Model_layPieces (nI j) 0 vs vlb) ≤ 12 then (F_Model_layPieces (nI j) 0 vs vlb (jF j), F_Model_layPieces (nI j) 0 vs vlb) else (-6, F_Model_layPieces (nI j) 0 vs vlb)) := by
  unfold F_Model_fallsBy
  dsimp only [bnd]
  rw [tF hj, tS hj]
theorem bc_0 : F_Long_bitCount 0 = 0 := by decide +kernel
/-- the rag of a snip, on both sides -/
theorem rag_s {gn ac dn : Int64} {fs fm vs : Nat → Int32} (vlb : Nat → Int32) (h : CR gn ac dn fs fm vs) {j : Nat} (hj : j < 82) (hv : ¬ vd vs j) : (F_Model_fallsBy (nI j) vs vlb).2 = F_Model_layPieces (nI j) 0 vs vlb ∧ (((F_Model_fallsBy (nI j) vs vlb).1 = -6 ∧ F_Cloth_ragOf (nI j) ac dn = 0) ∨ ∃ m i : Nat, m < 48 ∧ i < 48 ∧ (F_Model_fallsBy (nI j) vs vlb).1 = nI m ∧ F_Model_layPieces (nI j) 0 vs vlb i = nI m ∧ Dm (F_Cloth_ragOf (nI j) ac dn) ∧ ∀ c, c < 48 → (b6 (F_Cloth_ragOf (nI j) ac dn) c = true ↔ F_Model_layPieces (nI j) 0 vs vlb c = nI m)) := by
  have gF : ¬ vs (164 + jF j) = 1 := fun z => hv (Or.inl z)
  have gS : ¬ vs (164 + jS j) = 1 := fun z => hv (Or.inr z)
  have hF := jF_lt hj
  have hS := jS_lt hj
  have hge := GE_but h hj
  obtain ⟨d1, n1⟩ := conn (vlb := vlb) hge hF gF
  obtain ⟨d2, n2⟩ := conn (vlb := vlb) hge hS gS
  have b1 := bc_cells d1 n1
  have b2 := bc_cells d2 n2
  obtain ⟨-, hli⟩ := lay_lab (nI j) 0 vs vlb
  obtain ⟨m1, l1, e1, -, -⟩ := (hli _ hF).2 gF
  obtain ⟨m2, l2, e2, -, -⟩ := (hli _ hS).2 gS
  rw [rag_f hj, falls_f hj]
  generalize F_Model_layPieces (nI j) 0 vs vlb = lab at *
  generalize F_Cloth_spread (nI (jF j)) (rgA j ac) (rgD j dn) = near at *
  generalize F_Cloth_spread (nI (jS j)) (rgA j ac) (rgD j dn) = far at *
  have hhas : F_Cloth_has near (nI (jS j)) = 0 ↔ ¬ lab (jF j) = lab (jS j) := by
    rw [has_0 (by omega), not_true_false, n1 _ hS]
    exact ⟨fun z q => z q.symm, fun z q => z q.symm⟩
  by_cases e : lab (jF j) = lab (jS j)
  · rw [if_neg (fun z => hhas.mp z e), if_pos e, if_pos e]
    split <;> exact ⟨rfl, Or.inl ⟨rfl, rfl⟩⟩
  · rw [if_pos (hhas.mpr e), if_neg e, if_neg e]
    unfold rgP
    rw [b1, b2]
    have nle : ∀ {x : Int32}, ¬ (12 : Int32) < x ↔ x ≤ 12 := fun {x} => by
      rw [Int32.lt_iff_toInt_lt, Int32.le_iff_toInt_le]
      omega
    by_cases c1 : F_Model_cellsOf (lab (jS j)) lab ≤ F_Model_cellsOf (lab (jF j)) lab
    · rw [if_pos c1, if_pos c1]
      by_cases c2 : F_Model_cellsOf (lab (jS j)) lab ≤ 12
      · rw [if_pos c2, if_neg (nle.mpr c2)]
        exact ⟨rfl, Or.inr ⟨m2, jS j, by omega, hS, e2, e2, d2, fun c hc => by rw [n2 c hc, e2]⟩⟩
      · rw [if_neg c2, if_pos (Decidable.not_not.mp (fun z => c2 (nle.mp z)))]
        exact ⟨rfl, Or.inl ⟨rfl, rfl⟩⟩
    · rw [if_neg c1, if_neg c1]
      by_cases c2 : F_Model_cellsOf (lab (jF j)) lab ≤ 12
      · rw [if_pos c2, if_neg (nle.mpr c2)]
        exact ⟨rfl, Or.inr ⟨m1, jF j, by omega, hF, e1, e1, d1, fun c hc => by rw [n1 c hc, e1]⟩⟩
      · rw [if_neg c2, if_pos (Decidable.not_not.mp (fun z => c2 (nle.mp z)))]
        exact ⟨rfl, Or.inl ⟨rfl, rfl⟩⟩
theorem ccells {gn ac dn : Int64} {fs fm vs : Nat → Int32} (vlb : Nat → Int32) (h : CR gn ac dn fs fm vs) {j : Nat} (hj : j < 82) (hv : ¬ vd vs j) : F_Long_bitCount (F_Cloth_ragOf (nI j) ac dn) = (F_Model_cellsBy (nI j) vs vlb).1 ∧ (lg_cmp (F_Cloth_ragOf (nI j) ac dn) 0 = 0 ↔ (F_Model_cellsBy (nI j) vs vlb).1 ≤ 0) := by
  obtain ⟨h1, h2⟩ := rag_s vlb h hj hv
  unfold F_Model_cellsBy
  dsimp only [bnd]
  rcases h2 with ⟨e1, e2⟩ | ⟨m, i, hm, hi, e1, e2, d, n⟩
  · rw [e1, e2, if_pos rfl]
    exact ⟨bc_0, fun _ => by show (0 : Int32) ≤ 0; decide, fun _ => by decide +kernel⟩
  · rw [e1, if_neg (nI_n6 (by omega)), h1]
    dsimp only
    have hb := bc_cells d n
    refine ⟨hb, fun z => ?_, fun z => ?_⟩
    · have := lgz.mp z
      have hbi := (n i hi).mpr e2
      rw [this, b6_zero] at hbi
      exact absurd hbi Bool.false_ne_true
    · rw [cellsOf_n] at z
      have hp : 1 ≤ cntB (fun c => decide (F_Model_layPieces (nI j) 0 vs vlb c = nI m)) 48 := cntB_pos hi (decide_eq_true e2)
      have hle := cntB_le (fun c => decide (F_Model_layPieces (nI j) 0 vs vlb c = nI m)) 48
      exact absurd z (nI_nle (by omega) (by omega))
theorem cpieceOf (gn ac dn : Int64) (c : Int32) : F_Cloth_pieceOf c gn ac dn = if F_Cloth_isGone c gn = 0 then F_Cloth_spread c ac dn else 0 := by
  unfold F_Cloth_pieceOf
  dsimp only [bnd]
theorem mpieceOf (c w : Int32) (vs vlb : Nat → Int32) : F_Model_pieceOf c w vs vlb = if F_Model_isGone c vs = 0 then (if w = 1 then (F_Model_cellsOf (F_Model_layPieces (-6) 0 vs vlb c.toNatClampNeg) (F_Model_layPieces (-6) 0 vs vlb), F_Model_layPieces (-6) 0 vs vlb) else (F_Model_layPieces (-6) 0 vs vlb c.toNatClampNeg, F_Model_layPieces (-6) 0 vs vlb)) else (if w = 1 then (0, F_Model_layPieces (-6) 0 vs vlb) else (-6, F_Model_layPieces (-6) 0 vs vlb)) := by
  unfold F_Model_pieceOf
  dsimp only [bnd]
theorem ccell1 {gn ac dn : Int64} {fs fm vs : Nat → Int32} (vlb : Nat → Int32) (h : CR gn ac dn fs fm vs) {c : Nat} (hc : c < 48) : F_Long_bitCount (F_Cloth_pieceOf (nI c) gn ac dn) = (F_Model_pieceOf (nI c) 1 vs vlb).1 := by
  rw [cpieceOf, mpieceOf, cgone h hc, nI_clamp (by omega)]
  by_cases g : F_Model_isGone (nI c) vs = 0
  · rw [if_pos g, if_pos g, if_pos rfl]
    obtain ⟨d, n⟩ := conn (vlb := vlb) (GE_0 h) hc ((mgone hc).mp g)
    dsimp only
    exact bc_cells d n
  · rw [if_neg g, if_neg g, if_pos rfl]
    dsimp only
    exact bc_0
theorem low_go (cell : Int32) (gn ac dn : Int64) {p : Int64} {m : Nat} (hm : m < 48) (hp : b6 p m = true) (hz : ∀ i, i < m → b6 p i = false) : ∀ (n k : Nat), k ≤ m → 48 - k < n → F_Cloth_lowestOfPiece_L9 cell gn ac dn n (nI k) p = nI m := by
  intro n
  induction n with
  | zero => intro k hk hn; exact absurd hn (Nat.not_lt_zero _)
  | succ n ih =>
    intro k hk hn
    rw [F_Cloth_lowestOfPiece_L9]
    dsimp only [bnd]
    rw [if_neg (fun z => by have := (nI_leI (a := 48) (by decide) (by omega)).mp z; omega)]
    by_cases e : k = m
    · subst e
      rw [if_neg (fun z => by rw [has_0 (by omega), hp] at z; exact Bool.false_ne_true z.symm)]
    · rw [if_pos ((has_0 (by omega)).mpr (hz k (by omega))), nI_1]
      exact ih (k + 1) (by omega) (by omega)
theorem low_0 (cell : Int32) (gn ac dn : Int64) : F_Cloth_lowestOfPiece_L9 cell gn ac dn 49 0 0 = -6 := by
  have go : ∀ (n k : Nat), k ≤ 48 → 48 - k < n → F_Cloth_lowestOfPiece_L9 cell gn ac dn n (nI k) 0 = -6 := by
    intro n
    induction n with
    | zero => intro k hk hn; exact absurd hn (Nat.not_lt_zero _)
    | succ n ih =>
      intro k hk hn
      rw [F_Cloth_lowestOfPiece_L9]
      dsimp only [bnd]
      by_cases c : (48 : Int32) ≤ nI k
      · rw [if_pos c]
      · have hlt : k < 48 := lp_lt rfl rfl hk c
        rw [if_neg c, if_pos ((has_0 (by omega)).mpr (b6_zero k)), nI_1]
        exact ih (k + 1) (by omega) (by omega)
  exact go 49 0 (by omega) (by omega)
theorem ccell2 {gn ac dn : Int64} {fs fm vs : Nat → Int32} (vlb : Nat → Int32) (h : CR gn ac dn fs fm vs) {c : Nat} (hc : c < 48) : F_Cloth_lowestOfPiece (nI c) gn ac dn = (F_Model_pieceOf (nI c) 2 vs vlb).1 := by
  unfold F_Cloth_lowestOfPiece
  dsimp only [bnd]
  rw [cpieceOf, mpieceOf, cgone h hc, nI_clamp (by omega)]
  by_cases g : F_Model_isGone (nI c) vs = 0
  · rw [if_pos g, if_pos g, if_neg (by decide)]
    have g2 := (mgone hc).mp g
    obtain ⟨d, n⟩ := conn (vlb := vlb) (GE_0 h) hc g2
    obtain ⟨hcp, hli⟩ := lay_lab (-6) 0 vs vlb
    obtain ⟨m, l, e, g3, f⟩ := (hli c hc).2 g2
    have fm := f _ hcp
    dsimp only
    rw [e]
    refine low_go (nI c) gn ac dn (by omega) ((n m (by omega)).mpr fm) (fun i hi => ?_) 49 0 (by omega) (by omega)
    rw [not_true_false, n i (by omega), e]
    intro q
    by_cases gi : vs (164 + i) = 1
    · rw [(hli i (by omega)).1 gi] at q
      exact nI_n6 (j := m) (by omega) q.symm
    · obtain ⟨m2, l2, e2, -, -⟩ := (hli i (by omega)).2 gi
      rw [e2] at q
      have := (nI_eq (by omega) (by omega)).mp q
      omega
  · rw [if_neg g, if_neg g, if_neg (by decide)]
    exact low_0 _ _ _ _
theorem cpieces {gn ac dn : Int64} {fs fm vs : Nat → Int32} (vlb : Nat → Int32) (h : CR gn ac dn fs fm vs) : F_Cloth_pieces gn ac dn = (F_Model_pieces vs vlb).1 := by
  obtain ⟨hcp, hli⟩ := lay_lab (-6) 0 vs vlb
  have hconn : ∀ a, a < 48 → ¬ vs (164 + a) = 1 → ∀ c, c < 48 → (b6 (F_Cloth_spread (nI a) ac dn) c = true ↔ F_Model_layPieces (-6) 0 vs vlb c = F_Model_layPieces (-6) 0 vs vlb a) := fun a ha hg => (conn (vlb := vlb) (GE_0 h) ha hg).2
  have go : ∀ (n k : Nat) (x3 : Int32) (x1 : Int64), k ≤ 48 → 48 - k < n → (∀ i, i < 48 → (b6 x1 i = true ↔ vs (164 + i) = 1 ∨ ∃ m, m < k ∧ F_Model_layPieces (-6) 0 vs vlb i = nI m)) → (F_Cloth_pieces_L10 gn ac dn n (nI k) x3 x1).2.1 = (F_Model_pieces_L11 vs vlb n (nI k) x3 (F_Model_layPieces (-6) 0 vs vlb)).2.1 := by
    intro n
    generalize F_Model_layPieces (-6) 0 vs vlb = lab at *
    induction n with
    | zero => intro k x3 x1 hk hn; exact absurd hn (Nat.not_lt_zero _)
    | succ n ih =>
      intro k x3 x1 hk hn hs
      rw [F_Cloth_pieces_L10, F_Model_pieces_L11]
      dsimp only [bnd]
      by_cases c : (48 : Int32) ≤ nI k
      · rw [if_pos c, if_pos c]
      · have hlt : k < 48 := lp_lt rfl rfl hk c
        rw [if_neg c, if_neg c, nI_clamp (by omega)]
        by_cases e : lab k = nI k
        · have g : ¬ vs (164 + k) = 1 := fun z => by
            rw [(hli k hlt).1 z] at e
            exact nI_n6 (j := k) (by omega) e.symm
          have hb : b6 x1 k = false := by
            rw [not_true_false, hs k hlt]
            rintro (z | ⟨m, hm, q⟩)
            · exact g z
            · rw [e] at q
              have := (nI_eq (by omega) (by omega)).mp q
              omega
          rw [if_pos ((has_0 (by omega)).mpr hb), if_pos e, nI_1, cpieceOf, cgone h hlt, if_pos ((mgone hlt).mpr g)]
          refine ih (k + 1) _ _ (by omega) (by omega) (fun i hi => ?_)
          rw [b6_or, Bool.or_eq_true, hs i hi, hconn k hlt g i hi, e]
          constructor
          · rintro ((z | ⟨m, hm, q⟩) | q)
            · exact Or.inl z
            · exact Or.inr ⟨m, by omega, q⟩
            · exact Or.inr ⟨k, by omega, q⟩
          · rintro (z | ⟨m, hm, q⟩)
            · exact Or.inl (Or.inl z)
            · by_cases mk : m = k
              · subst mk; exact Or.inr q
              · exact Or.inl (Or.inr ⟨m, by omega, q⟩)
        · have hb : b6 x1 k = true := by
            rw [hs k hlt]
            by_cases g : vs (164 + k) = 1
            · exact Or.inl g
            · obtain ⟨m, l, q, -, -⟩ := (hli k hlt).2 g
              refine Or.inr ⟨m, ?_, q⟩
              rcases Nat.lt_or_ge m k with z | z
              · exact z
              · exact absurd (by rw [q, show m = k by omega]) e
          rw [if_neg (fun z => by rw [has_0 (by omega), hb] at z; exact Bool.false_ne_true z.symm), if_neg e, nI_1, Int32.add_zero]
          refine ih (k + 1) _ _ (by omega) (by omega) (fun i hi => ?_)
          rw [hs i hi]
          constructor
          · rintro (z | ⟨m, hm, q⟩)
            · exact Or.inl z
            · exact Or.inr ⟨m, by omega, q⟩
          · rintro (z | ⟨m, hm, q⟩)
            · exact Or.inl z
            · refine Or.inr ⟨m, ?_, q⟩
              rcases Nat.lt_or_ge m k with z | z
              · exact z
              · exfalso
                have mk : m = k := by omega
                subst mk
                have gi : ¬ vs (164 + i) = 1 := fun w => by
                  rw [(hli i hi).1 w] at q
                  exact nI_n6 (j := m) (by omega) q.symm
                obtain ⟨m2, l2, q2, -, f2⟩ := (hli i hi).2 gi
                have : m2 = m := by
                  rw [q2] at q
                  exact (nI_eq (by omega) (by omega)).mp q
                subst this
                exact e ((f2 _ hcp).trans q)
  have e1 : F_Cloth_pieces gn ac dn = (F_Cloth_pieces_L10 gn ac dn 49 (nI 0) 0 gn).2.1 := by
    rw [nI_0]
    unfold F_Cloth_pieces
    dsimp only [bnd]
  have e2 : (F_Model_pieces vs vlb).1 = (F_Model_pieces_L11 vs vlb 49 (nI 0) 0 (F_Model_layPieces (-6) 0 vs vlb)).2.1 := by
    rw [nI_0]
    unfold F_Model_pieces
    dsimp only [bnd]
  rw [e1, e2]
  refine go 49 0 0 gn (by omega) (by omega) (fun i hi => ?_)
  rw [h.1 i hi]
  exact ⟨Or.inl, fun z => z.elim (fun q => q) (fun ⟨m, hm, _⟩ => absurd hm (Nat.not_lt_zero _))⟩
