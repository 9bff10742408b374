-- the best snip, both sides
set_option maxHeartbeats 4000000 in
theorem gain_q {nx : Int32} {tn : Int32} {gn : Int64} {ac : Int64} {dn : Int64} {fs : Nat → Int32} {fm : Nat → Int32} {mks0 : Int32} {pts0 : Int32} {ths0 : Int32} {rgs0 : Int32} {rgc0 : Int32} {fnd0 : Int32} {rdb0 : Int32} {wdb0 : Int32} {fma0 : Nat → Int32} {mks1 : Int32} {pts1 : Int32} {ths1 : Int32} {rgs1 : Int32} {rgc1 : Int32} {fnd1 : Int32} {rdb1 : Int32} {wdb1 : Int32} {fma1 : Nat → Int32} {vs vlb : Nat → Int32} (h : GRk 0 nx tn gn ac dn fs fm mks0 pts0 ths0 rgs0 rgc0 fnd0 rdb0 wdb0 fma0 mks1 pts1 ths1 rgs1 rgc1 fnd1 rdb1 wdb1 fma1 vs) {k : Nat} (hk : k < 82) (hv : ¬ vd vs k) (w : Nat → Int32) : F_Game_openGain (nI k) nx ac dn mks0 fma0 mks1 fma1 = (F_Model_cellsBy (nI k) vs w).1 + (if F_Model_hasChalk (vs 245) (nI k) vs = 0 then 0 else 1) ∧ ∃ g : Nat, g ≤ 65 ∧ F_Game_openGain (nI k) nx ac dn mks0 fma0 mks1 fma1 = nI g := by
  have cc := (ccells w h.1 hk hv).1
  have hb : ∃ b : Nat, b ≤ 64 ∧ F_Long_bitCount (F_Cloth_ragOf (nI k) ac dn) = nI b := ⟨_, pcN_le 64 _, bitCount_N _⟩
  rw [cc] at hb
  obtain ⟨b, hb, eb⟩ := hb
  obtain ⟨-, -, -, -, -, -, -, M0, hMS0⟩ := h.2.2.2.2.1
  obtain ⟨-, -, -, -, -, -, -, M1, hMS1⟩ := h.2.2.2.2.2.1
  have m0 : F_Tailor_hasMark (nI k) mks0 fma0 = F_Model_hasChalk 0 (nI k) vs := hasC (q := 0) (by omega) hMS0
  have m1 : F_Tailor_hasMark (nI k) mks1 fma1 = F_Model_hasChalk 1 (nI k) vs := hasC (q := 1) (by omega) hMS1
  rcases h.2.2.2.1 with e | e
  · have en : nx = 0 := h.2.1.trans e
    unfold F_Game_openGain
    dsimp only [bnd]
    rw [if_pos en, e, m0, cc]
    by_cases z : F_Model_hasChalk 0 (nI k) vs = 0
    · rw [if_pos z, if_pos z]; exact ⟨rfl, b, by omega, by rw [eb, Int32.add_zero]⟩
    · rw [if_neg z, if_neg z]; exact ⟨rfl, b + 1, by omega, by rw [eb, nI_1]⟩
  · have en : ¬ nx = 0 := fun z => by rw [h.2.1, e] at z; exact absurd z (by decide)
    unfold F_Game_openGain
    dsimp only [bnd]
    rw [if_neg en, e, m1, cc]
    by_cases z : F_Model_hasChalk 1 (nI k) vs = 0
    · rw [if_pos z, if_pos z]; exact ⟨rfl, b, by omega, by rw [eb, Int32.add_zero]⟩
    · rw [if_neg z, if_neg z]; exact ⟨rfl, b + 1, by omega, by rw [eb, nI_1]⟩
def St (G : Int32 → Int32) (a b c d : Int32) : Prop := (a = -1 ∧ b = -6 ∧ c = -6 ∧ d = -6) ∨ ∃ g j : Nat, g ≤ 65 ∧ j < 82 ∧ a = nI g ∧ b = nI j ∧ c = nI g ∧ d = nI j ∧ G (nI j) = nI g
theorem nI_nl1 {g : Nat} (hg : g ≤ 65) : ¬ nI g ≤ -1 ∧ ¬ nI g ≤ -6 ∧ (-1 : Int32) ≤ nI g := by
  have e1 : (-1 : Int32).toInt = -1 := by decide
  have e6 : (-6 : Int32).toInt = -6 := by decide
  rw [Int32.le_iff_toInt_le, Int32.le_iff_toInt_le, Int32.le_iff_toInt_le, nI_toInt (by omega)]
  omega
set_option maxHeartbeats 4000000 in
theorem best_go {nx : Int32} {tn : Int32} {gn : Int64} {ac : Int64} {dn : Int64} {fs : Nat → Int32} {fm : Nat → Int32} {mks0 : Int32} {pts0 : Int32} {ths0 : Int32} {rgs0 : Int32} {rgc0 : Int32} {fnd0 : Int32} {rdb0 : Int32} {wdb0 : Int32} {fma0 : Nat → Int32} {mks1 : Int32} {pts1 : Int32} {ths1 : Int32} {rgs1 : Int32} {rgc1 : Int32} {fnd1 : Int32} {rdb1 : Int32} {wdb1 : Int32} {fma1 : Nat → Int32} {vs vlb : Nat → Int32} (h : GRk 0 nx tn gn ac dn fs fm mks0 pts0 ths0 rgs0 rgc0 fnd0 rdb0 wdb0 fma0 mks1 pts1 ths1 rgs1 rgc1 fnd1 rdb1 wdb1 fma1 vs) (what : Int32) : ∀ (n k : Nat) (w : Nat → Int32) (a b c d : Int32), k ≤ 82 → St (fun z => F_Game_openGain z nx ac dn mks0 fma0 mks1 fma1) a b c d → St (fun z => F_Game_openGain z nx ac dn mks0 fma0 mks1 fma1) (F_Game_bestJoint_L7 nx tn gn ac dn fs mks0 fma0 mks1 fma1 n (nI k) a b).2.1 (F_Game_bestJoint_L7 nx tn gn ac dn fs mks0 fma0 mks1 fma1 n (nI k) a b).2.2 (F_Model_bestSnip_L21 what vs vlb n (nI k) c d w).2.1 (F_Model_bestSnip_L21 what vs vlb n (nI k) c d w).2.2.1 := by
  intro n
  induction n with
  | zero => intro k w a b c d hk hs; exact hs
  | succ n ih =>
    intro k w a b c d hk hs
    rw [F_Game_bestJoint_L7, F_Model_bestSnip_L21]
    dsimp only [bnd]
    by_cases x : (82 : Int32) ≤ nI k
    · rw [if_pos x, if_pos x]; exact hs
    · have hlt : k < 82 := lp_lt rfl rfl hk x
      rw [if_neg x, if_neg x, creason h.1 h.2.2.1 hlt, n245, nI_1]
      by_cases z : F_Model_reason (nI k) vs = 0
      · rw [if_pos z, if_pos z]
        obtain ⟨g1, g, hg, eg⟩ := gain_q (vlb := vlb) h hlt ((reason_0 hlt).2 z) w
        have hn := nI_nl1 hg
        rw [eg] at g1 ⊢
        by_cases y : F_Model_hasChalk (vs 245) (nI k) vs = 0
        · rw [if_pos y] at g1 ⊢
          rw [← g1]
          rcases hs with ⟨rfl, rfl, rfl, rfl⟩ | ⟨g', j', q1, q2, rfl, rfl, rfl, rfl, q3⟩
          · rw [if_neg hn.1, if_neg hn.2.1]
            exact ih (k + 1) _ _ _ _ _ (by omega) (Or.inr ⟨g, k, hg, hlt, rfl, rfl, rfl, rfl, eg⟩)
          · by_cases u : nI g ≤ nI g'
            · rw [if_pos u, if_pos u]; exact ih (k + 1) _ _ _ _ _ (by omega) (Or.inr ⟨g', j', q1, q2, rfl, rfl, rfl, rfl, q3⟩)
            · rw [if_neg u, if_neg u]; exact ih (k + 1) _ _ _ _ _ (by omega) (Or.inr ⟨g, k, hg, hlt, rfl, rfl, rfl, rfl, eg⟩)
        · rw [if_neg y] at g1 ⊢
          rw [← g1]
          rcases hs with ⟨rfl, rfl, rfl, rfl⟩ | ⟨g', j', q1, q2, rfl, rfl, rfl, rfl, q3⟩
          · rw [if_neg hn.1, if_neg hn.2.1]
            exact ih (k + 1) _ _ _ _ _ (by omega) (Or.inr ⟨g, k, hg, hlt, rfl, rfl, rfl, rfl, eg⟩)
          · by_cases u : nI g ≤ nI g'
            · rw [if_pos u, if_pos u]; exact ih (k + 1) _ _ _ _ _ (by omega) (Or.inr ⟨g', j', q1, q2, rfl, rfl, rfl, rfl, q3⟩)
            · rw [if_neg u, if_neg u]; exact ih (k + 1) _ _ _ _ _ (by omega) (Or.inr ⟨g, k, hg, hlt, rfl, rfl, rfl, rfl, eg⟩)
      · have ha : (-1 : Int32) ≤ a := by
          rcases hs with ⟨rfl, -, -, -⟩ | ⟨g', j', q1, q2, rfl, -, -, -, -⟩
          · decide
          · exact (nI_nl1 q1).2.2
        rw [if_neg z, if_neg z, if_pos ha]
        exact ih (k + 1) _ _ _ _ _ (by omega) hs
theorem q_bestSnip {nx : Int32} {tn : Int32} {gn : Int64} {ac : Int64} {dn : Int64} {fs : Nat → Int32} {fm : Nat → Int32} {mks0 : Int32} {pts0 : Int32} {ths0 : Int32} {rgs0 : Int32} {rgc0 : Int32} {fnd0 : Int32} {rdb0 : Int32} {wdb0 : Int32} {fma0 : Nat → Int32} {mks1 : Int32} {pts1 : Int32} {ths1 : Int32} {rgs1 : Int32} {rgc1 : Int32} {fnd1 : Int32} {rdb1 : Int32} {wdb1 : Int32} {fma1 : Nat → Int32} {vs vlb : Nat → Int32} (h : GRk 0 nx tn gn ac dn fs fm mks0 pts0 ths0 rgs0 rgc0 fnd0 rdb0 wdb0 fma0 mks1 pts1 ths1 rgs1 rgc1 fnd1 rdb1 wdb1 fma1 vs) (what : Int32) : F_TC_bestSnip what nx tn gn ac dn fs mks0 fma0 mks1 fma1 = (F_Model_bestSnip what vs vlb).1 := by
  have hs := best_go (vlb := vlb) h what 83 0 vlb (-1) (-6) (-6) (-6) (by omega) (Or.inl ⟨rfl, rfl, rfl, rfl⟩)
  rw [nI_0] at hs
  have i0 : ¬ F_Model_in 0 0 1 = 0 := by decide
  have i1 : ¬ F_Model_in 1 0 1 = 0 := by decide
  unfold F_TC_bestSnip F_Model_bestSnip F_Game_bestJoint
  dsimp only [bnd]
  by_cases w0 : what = 0
  · subst w0
    rw [if_pos rfl, if_neg i0, if_pos rfl]
    rcases hs with ⟨_, e2, _, e4⟩ | ⟨g, j, _, _, _, e2, _, e4, _⟩
    · exact e2.trans e4.symm
    · exact e2.trans e4.symm
  · by_cases w1 : what = 1
    · subst w1
      rw [if_neg d01, if_pos rfl, if_neg i1, if_neg d01]
      rcases hs with ⟨_, e2, e3, _⟩ | ⟨g, j, _, hj, _, e2, e3, _, e5⟩
      · rw [if_pos e2]; exact e2.trans e3.symm
      · rw [if_neg (by rw [e2]; exact nI_n6 hj), e2]
        exact e5.trans e3.symm
    · rw [if_neg w0, if_neg w1, if_pos (npl (p := what) (fun z => z.elim w0 w1)).2]
