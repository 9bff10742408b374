-- what is asked, both sides
theorem ncl {x : Int32} (h : ¬ vp_in x 48) : F_Cloth_isCell x = 0 ∧ F_Model_isCell x = 0 := by
  have hm : F_Model_isCell x = 0 := Classical.byContradiction fun z => h (mcl_in z)
  refine ⟨?_, hm⟩
  refine Classical.byContradiction fun z => ?_
  unfold F_Cloth_isCell at z
  unfold F_Model_isCell F_Model_in at hm
  dsimp only [bnd] at hm
  by_cases a : x < 0
  · rw [if_pos a] at z; exact z rfl
  · rw [if_neg a] at z hm
    by_cases b : (48 : Int32) ≤ x
    · rw [if_pos b] at z; exact z rfl
    · by_cases c : (47 : Int32) < x
      · rw [Int32.lt_iff_toInt_lt] at c
        rw [Int32.le_iff_toInt_le] at b
        have e1 : (47 : Int32).toInt = 47 := by decide
        have e2 : (48 : Int32).toInt = 48 := by decide
        omega
      · rw [if_neg c] at hm; exact absurd hm (by decide)
theorem c_tab : ∀ c : Fin 48, F_Cloth_isCell (nI c.val) = 1 ∧ F_Model_isCell (nI c.val) = 1 := by decide +kernel
theorem asN {x : Int32} (h : x = 0 ∨ x = 1) : F_TC_asNumber x = x := by
  rcases h with e | e <;> rw [e] <;> rfl
theorem d01 : ¬ (1 : Int32) = 0 := by decide
theorem q_cell {gn ac dn : Int64} {fs fm vs : Nat → Int32} (vlb : Nat → Int32) (h : CR gn ac dn fs fm vs) (cell what : Int32) : F_TC_cell cell what gn ac dn = (F_Model_cell cell what vs vlb).1 := by
  unfold F_TC_cell F_Model_cell
  dsimp only [bnd]
  by_cases hin : vp_in cell 48
  · obtain ⟨c, hc, rfl⟩ := vp_in_of hin (by decide)
    have t := c_tab ⟨c, hc⟩
    dsimp only at t
    rw [t.1, t.2, if_neg d01, if_neg d01]
    by_cases w0 : what = 0
    · rw [if_pos w0, if_pos w0, cgone h hc]
      unfold F_TC_asNumber
      by_cases z : F_Model_isGone (nI c) vs = 0
      · rw [if_pos z, if_pos z]
      · rw [if_neg z, if_neg z]
    · rw [if_neg w0, if_neg w0]
      by_cases w1 : what = 1
      · subst w1
        rw [if_pos rfl, if_pos rfl, ccell1 vlb h hc]
      · rw [if_neg w1, if_neg w1]
        by_cases w2 : what = 2
        · subst w2
          rw [if_pos rfl, if_pos rfl, ccell2 vlb h hc]
        · rw [if_neg w2, if_neg w2]
          by_cases w3 : what = 3
          · rw [if_pos w3, if_pos w3]
            exact cholding h (nI c)
          · rw [if_neg w3, if_neg w3]
  · obtain ⟨j1, j2⟩ := ncl hin
    rw [j1, j2, if_pos rfl, if_pos rfl]
theorem in_17 {w : Int32} (h : ∀ j : Nat, 1 ≤ j → j ≤ 7 → ¬ w = nI j) : F_Model_in w 1 7 = 0 := by
  unfold F_Model_in
  by_cases a : w < 1
  · rw [if_pos a]
  · rw [if_neg a]
    by_cases b : (7 : Int32) < w
    · rw [if_pos b]
    · exfalso
      have e1 : (1 : Int32).toInt = 1 := by decide
      have e7 : (7 : Int32).toInt = 7 := by decide
      have e0 : (0 : Int32).toInt = 0 := by decide
      rw [Int32.lt_iff_toInt_lt] at a b
      obtain ⟨j, hj, rfl⟩ := nI_of2 (x := w) (M := 7) (n := 7) e7 (by rw [Int32.lt_iff_toInt_lt]; omega) (by rw [Int32.le_iff_toInt_le]; omega)
      rw [nI_toInt (by omega)] at a
      exact h j (by omega) hj rfl
theorem q_pl {q : Nat} {mks pts ths rgs rgc fnd rdb wdb : Int32} {f vs : Nat → Int32} (hq : q ≤ 1) (h : TRc q mks pts ths rgs rgc fnd rdb wdb f vs) (what : Int32) : (if what = 0 then (pts + 500) else (if what = 1 then ths else (if what = 2 then mks else (if what = 3 then rgs else (if what = 4 then rgc else (if what = 5 then fnd else (if what = 6 then rdb else (if what = 7 then wdb else (-2))))))))) = if what = 0 then (500 : Int32) + vs (F_Model_at (nI q) 0).toNatClampNeg else if F_Model_in what 1 7 = 0 then -2 else vs (F_Model_at (nI q) what).toNatClampNeg := by
  obtain ⟨t0, t1, t3, t4, t5, t6, t7, M, hMS⟩ := h
  have ea : ∀ j : Nat, j ≤ 7 → (F_Model_at (nI q) (nI j)).toNatClampNeg = tO q + j := fun j hj => by
    rw [at_q hq, nI_clamp (by unfold tO; omega)]
  by_cases w0 : what = 0
  · rw [if_pos w0, if_pos w0]; exact (Int32.add_comm _ _).trans (congrArg (fun z => (500 : Int32) + z) (t0.trans (congrArg vs (ea 0 (by omega)).symm)))
  · rw [if_neg w0, if_neg w0]
    by_cases w1 : what = 1
    · subst w1; rw [if_pos rfl, if_neg (by decide)]; exact t1.trans (congrArg vs (ea 1 (by omega)).symm)
    · rw [if_neg w1]
      by_cases w2 : what = 2
      · subst w2; rw [if_pos rfl, if_neg (by decide)]; exact (hMS.1.trans hMS.2.1.symm).trans (congrArg vs (ea 2 (by omega)).symm)
      · rw [if_neg w2]
        by_cases w3 : what = 3
        · subst w3; rw [if_pos rfl, if_neg (by decide)]; exact t3.trans (congrArg vs (ea 3 (by omega)).symm)
        · rw [if_neg w3]
          by_cases w4 : what = 4
          · subst w4; rw [if_pos rfl, if_neg (by decide)]; exact t4.trans (congrArg vs (ea 4 (by omega)).symm)
          · rw [if_neg w4]
            by_cases w5 : what = 5
            · subst w5; rw [if_pos rfl, if_neg (by decide)]; exact t5.trans (congrArg vs (ea 5 (by omega)).symm)
            · rw [if_neg w5]
              by_cases w6 : what = 6
              · subst w6; rw [if_pos rfl, if_neg (by decide)]; exact t6.trans (congrArg vs (ea 6 (by omega)).symm)
              · rw [if_neg w6]
                by_cases w7 : what = 7
                · subst w7; rw [if_pos rfl, if_neg (by decide)]; exact t7.trans (congrArg vs (ea 7 (by omega)).symm)
                · rw [if_neg w7, if_pos (in_17 fun j a b e => ?_)]
                  rcases (show j = 1 ∨ j = 2 ∨ j = 3 ∨ j = 4 ∨ j = 5 ∨ j = 6 ∨ j = 7 by omega) with rfl | rfl | rfl | rfl | rfl | rfl | rfl
                  · exact w1 e
                  · exact w2 e
                  · exact w3 e
                  · exact w4 e
                  · exact w5 e
                  · exact w6 e
                  · exact w7 e
theorem npl {p : Int32} (h : ¬ p01 p) : F_Game_isPlayer p = 0 ∧ F_Model_in p 0 1 = 0 := by
  refine ⟨?_, Classical.byContradiction fun z => h (in01 z)⟩
  unfold F_Game_isPlayer
  rw [if_neg (fun z => h (Or.inl z)), if_neg (fun z => h (Or.inr z))]
theorem q_player {nx : Int32} {tn : Int32} {gn : Int64} {ac : Int64} {dn : Int64} {fs : Nat → Int32} {fm : Nat → Int32} {mks0 : Int32} {pts0 : Int32} {ths0 : Int32} {rgs0 : Int32} {rgc0 : Int32} {fnd0 : Int32} {rdb0 : Int32} {wdb0 : Int32} {fma0 : Nat → Int32} {mks1 : Int32} {pts1 : Int32} {ths1 : Int32} {rgs1 : Int32} {rgc1 : Int32} {fnd1 : Int32} {rdb1 : Int32} {wdb1 : Int32} {fma1 : Nat → Int32} {vs vlb : Nat → Int32} (h : GRk 0 nx tn gn ac dn fs fm mks0 pts0 ths0 rgs0 rgc0 fnd0 rdb0 wdb0 fma0 mks1 pts1 ths1 rgs1 rgc1 fnd1 rdb1 wdb1 fma1 vs) (player what : Int32) : F_TC_player player what mks0 pts0 ths0 rgs0 rgc0 fnd0 rdb0 wdb0 mks1 pts1 ths1 rgs1 rgc1 fnd1 rdb1 wdb1 = F_Model_player player what vs := by
  have i0 : F_Game_isPlayer 0 = 1 := by decide
  have i1 : F_Game_isPlayer 1 = 1 := by decide
  have k0 : F_Model_in 0 0 1 = 1 := by decide
  have k1 : F_Model_in 1 0 1 = 1 := by decide
  unfold F_TC_player F_Model_player
  dsimp only [bnd]
  by_cases hp : p01 player
  · rcases hp with rfl | rfl
    · rw [i0, k0, if_neg d01, if_neg d01, if_pos rfl]
      exact q_pl (q := 0) (by omega) h.2.2.2.2.1 what
    · rw [i1, k1, if_neg d01, if_neg d01, if_neg d01]
      exact q_pl (q := 1) (by omega) h.2.2.2.2.2.1 what
  · obtain ⟨j1, j2⟩ := npl hp
    rw [j1, j2, if_pos rfl, if_pos rfl]
theorem q_ch {q : Nat} (hq : q ≤ 1) {mks : Int32} {f vs : Nat → Int32} {M : Nat} (h : MS q mks f vs M) (rank : Int32) : F_Tailor_markAt rank mks f = if F_Model_in rank 0 (vs (F_Model_at (nI q) 2).toNatClampNeg - 1) = 0 then -1 else F_Model_chalkAt (nI q) rank vs := by
  obtain ⟨h1, h2, h3, h4⟩ := h
  have hM := h3.1
  rw [show (2 : Int32) = nI 2 from rfl, at_q hq, nI_clamp (by unfold tO; omega), h2, h1]
  unfold F_Tailor_markAt F_Model_in
  have eM : (nI M).toInt = M := nI_toInt (by omega)
  have eP : (nI M - 1).toInt = (M : Int) - 1 := by
    have := pk_sub_toInt (a := M) (b := 1) (by omega) (by omega)
    exact this
  have e0 : (0 : Int32).toInt = 0 := by decide
  by_cases a : rank < 0
  · rw [if_pos a, if_pos a, if_pos rfl]
  · rw [if_neg a, if_neg a]
    by_cases b : nI M ≤ rank
    · have b2 : nI M - 1 < rank := by
        rw [Int32.le_iff_toInt_le] at b
        rw [Int32.lt_iff_toInt_lt]
        omega
      rw [if_pos b, if_pos b2, if_pos rfl]
    · have b2 : ¬ nI M - 1 < rank := by
        rw [Int32.le_iff_toInt_le] at b
        rw [Int32.lt_iff_toInt_lt]
        omega
      rw [if_neg b, if_neg b2, if_neg d01]
      rw [Int32.le_iff_toInt_le] at b
      rw [Int32.lt_iff_toInt_lt] at a
      obtain ⟨r, hr, rfl⟩ := vp_in_of (x := rank) (n := M) (vp_in_iff.mpr ⟨by omega, by omega⟩) (by omega)
      rw [nI_clamp (by omega), chalkAt_q hq (by omega)]
      exact h4 r hr
theorem q_chalked {nx : Int32} {tn : Int32} {gn : Int64} {ac : Int64} {dn : Int64} {fs : Nat → Int32} {fm : Nat → Int32} {mks0 : Int32} {pts0 : Int32} {ths0 : Int32} {rgs0 : Int32} {rgc0 : Int32} {fnd0 : Int32} {rdb0 : Int32} {wdb0 : Int32} {fma0 : Nat → Int32} {mks1 : Int32} {pts1 : Int32} {ths1 : Int32} {rgs1 : Int32} {rgc1 : Int32} {fnd1 : Int32} {rdb1 : Int32} {wdb1 : Int32} {fma1 : Nat → Int32} {vs vlb : Nat → Int32} (h : GRk 0 nx tn gn ac dn fs fm mks0 pts0 ths0 rgs0 rgc0 fnd0 rdb0 wdb0 fma0 mks1 pts1 ths1 rgs1 rgc1 fnd1 rdb1 wdb1 fma1 vs) (player rank : Int32) : F_TC_chalked player rank mks0 fma0 mks1 fma1 = F_Model_chalked player rank vs := by
  have i0 : F_Game_isPlayer 0 = 1 := by decide
  have i1 : F_Game_isPlayer 1 = 1 := by decide
  have k0 : F_Model_in 0 0 1 = 1 := by decide
  have k1 : F_Model_in 1 0 1 = 1 := by decide
  unfold F_TC_chalked F_Model_chalked
  dsimp only [bnd]
  by_cases hp : p01 player
  · rcases hp with rfl | rfl
    · rw [i0, k0, if_neg d01, if_neg d01, if_pos rfl]
      obtain ⟨-, -, -, -, -, -, -, M, hMS⟩ := h.2.2.2.2.1
      exact q_ch (q := 0) (by omega) hMS rank
    · rw [i1, k1, if_neg d01, if_neg d01, if_neg d01]
      obtain ⟨-, -, -, -, -, -, -, M, hMS⟩ := h.2.2.2.2.2.1
      exact q_ch (q := 1) (by omega) hMS rank
  · obtain ⟨j1, j2⟩ := npl hp
    rw [j1, j2, if_pos rfl, if_pos rfl]
theorem i32_sub {x y : Int32} (hx : -20000 ≤ x.toInt ∧ x.toInt ≤ 20000) (hy : -20000 ≤ y.toInt ∧ y.toInt ≤ 20000) : (x - y).toInt = x.toInt - y.toInt := by
  rw [Int32.toInt_sub]
  exact Int.bmod_eq_of_le (by omega) (by omega)
theorem q_winner {nx : Int32} {tn : Int32} {gn : Int64} {ac : Int64} {dn : Int64} {fs : Nat → Int32} {fm : Nat → Int32} {mks0 : Int32} {pts0 : Int32} {ths0 : Int32} {rgs0 : Int32} {rgc0 : Int32} {fnd0 : Int32} {rdb0 : Int32} {wdb0 : Int32} {fma0 : Nat → Int32} {mks1 : Int32} {pts1 : Int32} {ths1 : Int32} {rgs1 : Int32} {rgc1 : Int32} {fnd1 : Int32} {rdb1 : Int32} {wdb1 : Int32} {fma1 : Nat → Int32} {vs vlb : Nat → Int32} (h : GRk 0 nx tn gn ac dn fs fm mks0 pts0 ths0 rgs0 rgc0 fnd0 rdb0 wdb0 fma0 mks1 pts1 ths1 rgs1 rgc1 fnd1 rdb1 wdb1 fma1 vs) : F_Game_winner tn gn pts0 pts1 = F_Model_winner vs := by
  have a0 : F_Model_at 0 0 = nI 212 := by decide +kernel
  have a1 : F_Model_at 1 0 = nI 228 := by decide +kernel
  have e0 : pts0 = vs 212 := h.2.2.2.2.1.1
  have e1 : pts1 = vs 228 := h.2.2.2.2.2.1.1
  unfold F_Game_winner F_Model_winner
  dsimp only [bnd]
  rw [cover h.1 h.2.2.1, a0, a1, nI_clamp (by omega), nI_clamp (by omega), ← e0, ← e1]
  by_cases c : F_Model_isOver vs = 0
  · rw [if_pos c, if_pos c]
  · rw [if_neg c, if_neg c]
    obtain ⟨T, g1, g2, g3, g4⟩ := h.2.2.2.2.2.2
    rw [← e0] at g3
    rw [← e1] at g4
    have es := i32_sub (x := pts0) (y := pts1) (by omega) (by omega)
    have ez : (0 : Int32).toInt = 0 := by decide
    by_cases d : pts0 = pts1
    · subst d
      rw [if_pos rfl, if_pos (by rw [Int32.le_iff_toInt_le]; omega), if_pos (by rw [Int32.le_iff_toInt_le]; omega)]
    · have dne : pts0.toInt ≠ pts1.toInt := fun z => d (Int32.toInt_inj.mp z)
      rw [if_neg d]
      by_cases f : pts0 ≤ pts1
      · have f2 := Int32.le_iff_toInt_le.mp f
        rw [if_pos f, if_pos (by rw [Int32.le_iff_toInt_le]; omega), if_neg (by rw [Int32.le_iff_toInt_le]; omega)]
      · have f2 : ¬ pts0.toInt ≤ pts1.toInt := fun z => f (Int32.le_iff_toInt_le.mpr z)
        rw [if_neg f, if_neg (by rw [Int32.le_iff_toInt_le]; omega)]
theorem q_count {nx : Int32} {tn : Int32} {gn : Int64} {ac : Int64} {dn : Int64} {fs : Nat → Int32} {fm : Nat → Int32} {mks0 : Int32} {pts0 : Int32} {ths0 : Int32} {rgs0 : Int32} {rgc0 : Int32} {fnd0 : Int32} {rdb0 : Int32} {wdb0 : Int32} {fma0 : Nat → Int32} {mks1 : Int32} {pts1 : Int32} {ths1 : Int32} {rgs1 : Int32} {rgc1 : Int32} {fnd1 : Int32} {rdb1 : Int32} {wdb1 : Int32} {fma1 : Nat → Int32} {vs vlb : Nat → Int32} (h : GRk 0 nx tn gn ac dn fs fm mks0 pts0 ths0 rgs0 rgc0 fnd0 rdb0 wdb0 fma0 mks1 pts1 ths1 rgs1 rgc1 fnd1 rdb1 wdb1 fma1 vs) (what ln hk vkp vln : Int32) (el : ln = vln) (ek : hk = vkp) : F_TC_count what nx tn gn ac dn fs pts0 pts1 ln hk = (F_Model_count what vkp vln vs vlb).1 := by
  unfold F_TC_count F_Model_count
  dsimp only [bnd]
  by_cases w0 : what = 0
  · subst w0; rw [if_pos rfl, if_pos rfl, show ((244 : Int32) + 0).toNatClampNeg = 244 by decide]; exact h.2.2.1
  · rw [if_neg w0, if_neg w0]
    by_cases w1 : what = 1
    · subst w1; rw [if_pos rfl, if_pos rfl, show ((244 : Int32) + 1).toNatClampNeg = 245 by decide]; exact h.2.1
    · rw [if_neg w1, if_neg w1]
      by_cases w2 : what = 2
      · rw [if_pos w2, if_pos w2, cover h.1 h.2.2.1]
        unfold F_TC_asNumber
        by_cases z : F_Model_isOver vs = 0
        · rw [if_pos z, if_pos z]
        · rw [if_neg z, if_neg z]
      · rw [if_neg w2, if_neg w2]
        by_cases w3 : what = 3
        · rw [if_pos w3, if_pos w3]; exact q_winner (vlb := vlb) h
        · rw [if_neg w3, if_neg w3]
          by_cases w4 : what = 4
          · rw [if_pos w4, if_pos w4]; exact cleft h.1
          · rw [if_neg w4, if_neg w4]
            by_cases w5 : what = 5
            · rw [if_pos w5, if_pos w5, cpieces vlb h.1]
            · rw [if_neg w5, if_neg w5]
              by_cases w6 : what = 6
              · subst w6; rw [if_pos rfl, if_pos rfl, show (6 : Int32) - 5 = 1 by decide]; exact cmany h.1 1
              · rw [if_neg w6, if_neg w6]
                by_cases w7 : what = 7
                · subst w7; rw [if_pos rfl, if_pos rfl, show (7 : Int32) - 5 = 2 by decide]; exact cmany h.1 2
                · rw [if_neg w7, if_neg w7]
                  by_cases w8 : what = 8
                  · subst w8; rw [if_pos rfl, if_pos rfl, show (8 : Int32) - 5 = 3 by decide]; exact cmany h.1 3
                  · rw [if_neg w8, if_neg w8]
                    by_cases w9 : what = 9
                    · rw [if_pos w9, if_pos w9]; exact el
                    · rw [if_neg w9, if_neg w9]
                      by_cases w10 : what = 10
                      · rw [if_pos w10, if_pos w10]; exact ek
                      · rw [if_neg w10, if_neg w10]
theorem q_why {gn ac dn : Int64} {fs fm vs : Nat → Int32} (h : CR gn ac dn fs fm vs) {tn : Int32} (ht : tn = vs 244) (joint : Int32) : F_TC_why joint tn gn fs = F_Model_why joint vs := by
  unfold F_TC_why F_Model_why
  dsimp only [bnd]
  by_cases hj : vp_in joint 82
  · obtain ⟨k, hk, rfl⟩ := vp_in_of hj (by decide)
    have t := j_tab ⟨k, hk⟩
    dsimp only at t
    rw [t.2.2.2.2.2.2.2.1, t.2.2.2.2.2.2.2.2, if_neg d01, if_neg d01]
    exact creason h ht hk
  · obtain ⟨j1, j2⟩ := nj hj
    rw [j1, j2, if_pos rfl, if_pos rfl]
theorem reason_0 {vs : Nat → Int32} {k : Nat} (hk : k < 82) : (F_Model_reason (nI k) vs ≤ 0 ↔ F_Model_reason (nI k) vs = 0) ∧ (F_Model_reason (nI k) vs = 0 → ¬ vd vs k) := by
  unfold F_Model_reason
  dsimp only [bnd]
  by_cases c1 : F_Model_isOver vs = 0
  · rw [if_pos c1]
    by_cases c2 : F_Model_isVoid (nI k) vs = 0
    · rw [if_pos c2, mj0 hk]
      refine ⟨?_, fun _ => (mvoid hk).mp c2⟩
      by_cases c3 : vs k = 1
      · rw [if_pos c3]; exact ⟨fun z => absurd z (by decide), fun z => absurd z (by decide)⟩
      · rw [if_neg c3]; exact ⟨fun _ => rfl, fun _ => by decide⟩
    · rw [if_neg c2]
      exact ⟨⟨fun z => absurd z (by decide), fun z => absurd z (by decide)⟩, fun z => absurd z (by decide)⟩
  · rw [if_neg c1]
    exact ⟨⟨fun z => absurd z (by decide), fun z => absurd z (by decide)⟩, fun z => absurd z (by decide)⟩
theorem q_ifSnipped {gn ac dn : Int64} {fs fm vs : Nat → Int32} (vlb : Nat → Int32) (h : CR gn ac dn fs fm vs) {tn : Int32} (ht : tn = vs 244) (joint : Int32) : F_TC_ifSnipped joint tn gn ac dn fs = (F_Model_ifSnipped joint vs vlb).1 := by
  unfold F_TC_ifSnipped F_Model_ifSnipped
  dsimp only [bnd]
  by_cases hj : vp_in joint 82
  · obtain ⟨k, hk, rfl⟩ := vp_in_of hj (by decide)
    have t := j_tab ⟨k, hk⟩
    dsimp only at t
    obtain ⟨r1, r2⟩ := reason_0 (vs := vs) hk
    rw [t.2.2.2.2.2.2.2.1, t.2.2.2.2.2.2.2.2, if_neg d01, if_neg d01, creason h ht hk]
    by_cases c : F_Model_reason (nI k) vs = 0
    · rw [if_pos c, if_pos (r1.mpr c)]
      exact (ccells vlb h hk (r2 c)).1
    · rw [if_neg c, if_neg (fun z => c (r1.mp z))]
  · obtain ⟨j1, j2⟩ := nj hj
    rw [j1, j2, if_pos rfl, if_pos rfl]
theorem q_weak {gn ac dn : Int64} {fs fm vs : Nat → Int32} (vlb : Nat → Int32) (h : CR gn ac dn fs fm vs) {tn : Int32} (ht : tn = vs 244) : F_TC_weak tn gn ac dn = (F_Model_weak vs vlb).1 := by
  have eM : F_Model_weak vs vlb = ((F_Model_weak_L4 vs vlb 83 0 0 vlb).2.1, (F_Model_weak_L4 vs vlb 83 0 0 vlb).2.2) := by
    unfold F_Model_weak
    dsimp only [bnd]
  rw [eM]
  unfold F_TC_weak F_Cloth_weakJoints
  dsimp only [bnd]
  rw [cover h ht]
  by_cases o : F_Model_isOver vs = 0
  · rw [if_pos o]
    have go : ∀ (n k : Nat) (x : Int32) (w : Nat → Int32), k ≤ 82 → (F_Cloth_weakJoints_L4 ac dn n (nI k) x).2 = (F_Model_weak_L4 vs vlb n (nI k) x w).2.1 := by
      intro n
      induction n with
      | zero => intro k x w hk; rfl
      | succ n ih =>
        intro k x w hk
        rw [F_Cloth_weakJoints_L4, F_Model_weak_L4]
        dsimp only [bnd]
        by_cases c : (82 : Int32) ≤ nI k
        · rw [if_pos c, if_pos c]
        · have hlt : k < 82 := lp_lt rfl rfl hk c
          rw [if_neg c, if_neg c, if_pos o, cholds h hlt, nI_1, Int32.add_zero]
          by_cases z : F_Model_holds (nI k) vs = 0
          · rw [if_pos z, if_pos z]; exact ih (k + 1) x w (by omega)
          · rw [if_neg z, if_neg z]
            have hv : ¬ vd vs k := fun y => z ((mholds hlt).mpr (fun u => u.1 y))
            have hc := (ccells w h hlt hv).2
            by_cases y : lg_cmp (F_Cloth_ragOf (nI k) ac dn) 0 = 0
            · rw [if_pos y, if_pos (hc.mp y)]; exact ih (k + 1) x _ (by omega)
            · rw [if_neg y, if_neg (fun u => y (hc.mpr u))]; exact ih (k + 1) _ _ (by omega)
    exact go 83 0 0 vlb (by omega)
  · rw [if_neg o]
    have l0 : ∀ fu : Nat, 1 ≤ fu → (F_Model_weak_L4 vs vlb fu 0 0 vlb).2.1 = 0 := fun fu hfu => by
      obtain ⟨n, rfl⟩ : ∃ n, fu = n + 1 := ⟨fu - 1, by omega⟩
      rw [F_Model_weak_L4]
      dsimp only [bnd]
      rw [if_neg (by decide), if_neg o]
    exact (l0 83 (by omega)).symm
/-- together, bluffs held: the joints -/
theorem held_go (cell : Int32) {gn ac0 dn0 : Int64} {fs fm vs : Nat → Int32} (h : CR gn ac0 dn0 fs fm vs) : ∀ (n k : Nat) (dn ac : Int64), k ≤ 82 → 82 - k < n → ∀ c,
    (b6 (F_Cloth_pieceIfBluffedHeld_L14 cell gn ac0 dn0 fs n (nI k) dn ac).2.2 c = true ↔ b6 ac c = true ∨ ∃ j, k ≤ j ∧ j < 42 ∧ jF j = c ∧ ¬ vd vs j ∧ vs j = 3) ∧ (b6 (F_Cloth_pieceIfBluffedHeld_L14 cell gn ac0 dn0 fs n (nI k) dn ac).2.1 c = true ↔ b6 dn c = true ∨ ∃ j, k ≤ j ∧ 42 ≤ j ∧ j < 82 ∧ jF j = c ∧ ¬ vd vs j ∧ vs j = 3) := by
  intro n
  induction n with
  | zero => intro k dn ac hk hn; exact absurd hn (Nat.not_lt_zero _)
  | succ n ih =>
    intro k dn ac hk hn c
    rw [F_Cloth_pieceIfBluffedHeld_L14]
    dsimp only [bnd]
    by_cases d : (82 : Int32) ≤ nI k
    · have h9 : 82 ≤ k := (nI_leI (by decide) (by omega)).mp d
      rw [if_pos d]
      exact ⟨⟨Or.inl, fun z => z.elim (fun q => q) (fun ⟨j, a, b, _⟩ => by omega)⟩, ⟨Or.inl, fun z => z.elim (fun q => q) (fun ⟨j, a, b, e, _⟩ => by omega)⟩⟩
    · have hlt : k < 82 := lp_lt rfl rfl hk d
      have t := j_tab ⟨k, hlt⟩
      dsimp only at t
      rw [if_neg d, nI_clamp (by omega), h.2.2.1 k hlt, cvoid h hlt, t.1, t.2.2.2.2.1, nI_1]
      have no : ¬ (¬ vd vs k ∧ vs k = 3) → ((b6 (F_Cloth_pieceIfBluffedHeld_L14 cell gn ac0 dn0 fs n (nI (k + 1)) dn ac).2.2 c = true ↔ b6 ac c = true ∨ ∃ j, k ≤ j ∧ j < 42 ∧ jF j = c ∧ ¬ vd vs j ∧ vs j = 3) ∧ (b6 (F_Cloth_pieceIfBluffedHeld_L14 cell gn ac0 dn0 fs n (nI (k + 1)) dn ac).2.1 c = true ↔ b6 dn c = true ∨ ∃ j, k ≤ j ∧ 42 ≤ j ∧ j < 82 ∧ jF j = c ∧ ¬ vd vs j ∧ vs j = 3)) := fun hno => by
        obtain ⟨g1, g2⟩ := ih (k + 1) dn ac (by omega) (by omega) c
        refine ⟨g1.trans (or_congr Iff.rfl ⟨fun ⟨j, a, r⟩ => ⟨j, by omega, r⟩, fun ⟨j, a, b, e, r⟩ => ?_⟩), g2.trans (or_congr Iff.rfl ⟨fun ⟨j, a, r⟩ => ⟨j, by omega, r⟩, fun ⟨j, a, b, b2, e, r⟩ => ?_⟩)⟩
        · by_cases q : j = k
          · subst q; exact absurd r hno
          · exact ⟨j, by omega, b, e, r⟩
        · by_cases q : j = k
          · subst q; exact absurd r hno
          · exact ⟨j, by omega, b, b2, e, r⟩
      by_cases s3 : vs k = 3
      · rw [if_pos s3]
        by_cases v : F_Model_isVoid (nI k) vs = 0
        · have nv := (mvoid hlt).mp v
          rw [if_pos v]
          have eo : ∀ x : Int64, b6 (x ||| ((1 : Int64) <<< ((nI (jF k)).toInt64 &&& 63))) c = true ↔ b6 x c = true ∨ c = jF k := fun x => by
            rw [b6_or, Bool.or_eq_true]
            exact or_congr Iff.rfl ((by rw [show ((1 : Int64) <<< ((nI (jF k)).toInt64 &&& 63)) = own k from rfl, b6_own hlt, decide_eq_true_iff]))
          by_cases c42 : k < 42
          · rw [if_pos c42, if_pos rfl]
            obtain ⟨g1, g2⟩ := ih (k + 1) dn (ac ||| ((1 : Int64) <<< ((nI (jF k)).toInt64 &&& 63))) (by omega) (by omega) c
            refine ⟨g1.trans ?_, g2.trans (or_congr Iff.rfl ⟨fun ⟨j, a, r⟩ => ⟨j, by omega, r⟩, fun ⟨j, a, b, r⟩ => ⟨j, by omega, b, r⟩⟩)⟩
            rw [eo]
            constructor
            · rintro ((z | z) | ⟨j, a, r⟩)
              · exact Or.inl z
              · exact Or.inr ⟨k, Nat.le_refl _, c42, z.symm, nv, s3⟩
              · exact Or.inr ⟨j, by omega, r⟩
            · rintro (z | ⟨j, a, b, e, r⟩)
              · exact Or.inl (Or.inl z)
              · by_cases q : j = k
                · subst q; exact Or.inl (Or.inr e.symm)
                · exact Or.inr ⟨j, by omega, b, e, r⟩
          · rw [if_neg c42, if_neg d01]
            obtain ⟨g1, g2⟩ := ih (k + 1) (dn ||| ((1 : Int64) <<< ((nI (jF k)).toInt64 &&& 63))) ac (by omega) (by omega) c
            refine ⟨g1.trans (or_congr Iff.rfl ⟨fun ⟨j, a, r⟩ => ⟨j, by omega, r⟩, fun ⟨j, a, b, r⟩ => ⟨j, by omega, b, r⟩⟩), g2.trans ?_⟩
            rw [eo]
            constructor
            · rintro ((z | z) | ⟨j, a, r⟩)
              · exact Or.inl z
              · exact Or.inr ⟨k, Nat.le_refl _, by omega, hlt, z.symm, nv, s3⟩
              · exact Or.inr ⟨j, by omega, r⟩
            · rintro (z | ⟨j, a, b, b2, e, r⟩)
              · exact Or.inl (Or.inl z)
              · by_cases q : j = k
                · subst q; exact Or.inl (Or.inr e.symm)
                · exact Or.inr ⟨j, by omega, b, b2, e, r⟩
        · rw [if_neg v]
          exact no (fun z => v ((mvoid hlt).mpr z.1))
      · rw [if_neg s3]
        exact no (fun z => s3 z.2)
theorem GE_1 (cell : Int32) {gn ac dn : Int64} {fs fm vs : Nat → Int32} (h : CR gn ac dn fs fm vs) : GE (-6) 1 vs (F_Cloth_pieceIfBluffedHeld_L14 cell gn ac dn fs 83 (nI 0) dn ac).2.2 (F_Cloth_pieceIfBluffedHeld_L14 cell gn ac dn fs 83 (nI 0) dn ac).2.1 := by
  have g := held_go cell h 83 0 dn ac (by omega) (by omega)
  generalize F_Cloth_pieceIfBluffedHeld_L14 cell gn ac dn fs 83 (nI 0) dn ac = L at g
  refine ⟨fun j hj ha => ⟨fun z => ?_, fun z => ?_⟩, fun c hc => ?_, fun c hc => ?_⟩
  · rcases (act_1 hj).mp ha with hh | hh
    · exact (g _).1.mpr (Or.inl ((CR_a h z).mpr hh))
    · exact (g _).1.mpr (Or.inr ⟨j, Nat.zero_le _, z, rfl, hh⟩)
  · rcases (act_1 hj).mp ha with hh | hh
    · exact (g _).2.mpr (Or.inl ((CR_d h z hj).mpr hh))
    · exact (g _).2.mpr (Or.inr ⟨j, Nat.zero_le _, z, hj, rfl, hh⟩)
  · rcases (g c).1.mp hc with z | ⟨j, -, h1, h2, h3⟩
    · obtain ⟨j, h1, h2, h3⟩ := CR_ac h z
      exact ⟨j, h1, h2, (act_1 (by omega)).mpr (Or.inl h3)⟩
    · exact ⟨j, h1, h2, (act_1 (by omega)).mpr (Or.inr h3)⟩
  · rcases (g c).2.mp hc with z | ⟨j, -, h0, h1, h2, h3⟩
    · obtain ⟨j, h0, h1, h2, h3⟩ := CR_dc h z
      exact ⟨j, h0, h1, h2, (act_1 h1).mpr (Or.inl h3)⟩
    · exact ⟨j, h0, h1, h2, (act_1 h1).mpr (Or.inr h3)⟩
theorem q_tog {p : Int64} {lab : Nat → Int32} {a b : Nat} (hb : b < 48) (n : ∀ c, c < 48 → (b6 p c = true ↔ lab c = lab a)) : F_TC_asNumber (F_Cloth_has p (nI b)) = if lab a = lab b then 1 else 0 := by
  rw [asN (has_01 _ _)]
  by_cases e : lab a = lab b
  · rw [if_pos e]
    rcases has_01 p (nI b) with z | z
    · rw [has_0 (by omega), (n b hb).mpr e.symm] at z
      exact absurd z (by decide)
    · exact z
  · rw [if_neg e, has_0 (by omega), not_true_false, n b hb]
    exact fun z => e z.symm
theorem q_together {gn ac dn : Int64} {fs fm vs : Nat → Int32} (vlb : Nat → Int32) (h : CR gn ac dn fs fm vs) (cell other way : Int32) : F_TC_together cell other way gn ac dn fs = (F_Model_together cell other way vs vlb).1 := by
  have ew : F_Model_in way 0 1 = 0 ↔ ¬ p01 way := ⟨fun z y => by rcases y with rfl | rfl <;> exact absurd z (by decide), fun z => (npl z).2⟩
  unfold F_TC_together F_Model_together
  dsimp only [bnd]
  by_cases hc : vp_in cell 48
  · obtain ⟨a, ha, rfl⟩ := vp_in_of hc (by decide)
    have ta := c_tab ⟨a, ha⟩
    dsimp only at ta
    rw [ta.1, ta.2, if_neg d01, if_neg d01]
    by_cases ho : vp_in other 48
    · obtain ⟨b, hb, rfl⟩ := vp_in_of ho (by decide)
      have tb := c_tab ⟨b, hb⟩
      dsimp only at tb
      rw [tb.1, tb.2, if_neg d01, if_neg d01, cgone h ha, cgone h hb, nI_clamp (by omega), nI_clamp (by omega)]
      by_cases hw : p01 way
      · rw [if_neg (c := F_Model_in way 0 1 = 0) (fun z => ew.mp z hw)]
        by_cases ga : F_Model_isGone (nI a) vs = 0
        · have ga2 := (mgone ha).mp ga
          by_cases gb : F_Model_isGone (nI b) vs = 0
          · rcases hw with rfl | rfl
            · rw [if_pos rfl, if_pos ga, if_pos ga, if_pos gb, if_pos gb, if_neg (show ¬ (0 : Int32) = 1 by decide), cpieceOf, cgone h ha, if_pos ga, q_tog hb (conn (vlb := vlb) (GE_0 h) ha ga2).2]
              split <;> rfl
            · have e1 : F_Cloth_pieceIfBluffedHeld (nI a) gn ac dn fs = F_Cloth_spread (nI a) (F_Cloth_pieceIfBluffedHeld_L14 (nI a) gn ac dn fs 83 (nI 0) dn ac).2.2 (F_Cloth_pieceIfBluffedHeld_L14 (nI a) gn ac dn fs 83 (nI 0) dn ac).2.1 := by
                rw [nI_0]
                unfold F_Cloth_pieceIfBluffedHeld
                dsimp only [bnd]
              rw [if_neg d01, if_pos rfl, if_pos ga, if_pos ga, if_pos gb, if_pos gb, if_pos rfl, e1, q_tog hb (conn (vlb := vlb) (GE_1 (nI a) h) ha ga2).2]
              split <;> rfl
          · rcases hw with rfl | rfl
            · rw [if_pos rfl, if_pos ga, if_pos ga, if_neg gb, if_neg gb]
            · rw [if_neg d01, if_pos rfl, if_pos ga, if_pos ga, if_neg gb, if_neg gb]
        · rcases hw with rfl | rfl
          · rw [if_pos rfl, if_neg ga, if_neg ga]
          · rw [if_neg d01, if_pos rfl, if_neg ga, if_neg ga]
      · rw [if_pos (ew.mpr hw), if_neg (fun z => hw (Or.inl z)), if_neg (fun z => hw (Or.inr z))]
    · obtain ⟨j1, j2⟩ := ncl ho
      rw [j1, j2, if_pos rfl, if_pos rfl]
  · obtain ⟨j1, j2⟩ := ncl hc
    rw [j1, j2, if_pos rfl, if_pos rfl]
