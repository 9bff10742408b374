-- the best snip as the law finds it
theorem of_4 {k : Nat} (hk : k < 82) (tn : Int32) (gn ac dn : Int64) (fs fm : Nat → Int32) (mks0 : Int32) (fma0 : Nat → Int32) (mks1 : Int32) (fma1 : Nat → Int32) : F_TC_of (nI k) 4 tn gn ac dn fs fm mks0 fma0 mks1 fma1 = F_Game_chalkersOf (nI k) mks0 fma0 mks1 fma1 := by
  have t := j_tab ⟨k, hk⟩
  dsimp only at t
  have e : F_TC_of (nI k) 4 tn gn ac dn fs fm mks0 fma0 mks1 fma1 = if F_Cloth_isJoint (nI k) = 0 then (-1) else F_Game_chalkersOf (nI k) mks0 fma0 mks1 fma1 := rfl
  rw [e, t.2.2.2.2.2.2.2.1, if_neg (by decide)]
theorem chal_f (j mks0 : Int32) (fma0 : Nat → Int32) (mks1 : Int32) (fma1 : Nat → Int32) : F_Game_chalkersOf j mks0 fma0 mks1 fma1 = if F_Tailor_hasMark j mks0 fma0 = 0 then (if F_Tailor_hasMark j mks1 fma1 = 0 then ((0 : Int32) ||| 0) else ((0 : Int32) ||| 2)) else (if F_Tailor_hasMark j mks1 fma1 = 0 then ((1 : Int32) ||| 0) else ((1 : Int32) ||| 2)) := rfl
theorem bit_0 (j mks0 : Int32) (fma0 : Nat → Int32) (mks1 : Int32) (fma1 : Nat → Int32) : (F_Game_chalkersOf j mks0 fma0 mks1 fma1 >>> ((0 : Int32) &&& 31)) &&& 1 = if F_Tailor_hasMark j mks0 fma0 = 0 then 0 else 1 := by
  rw [chal_f]
  by_cases a : F_Tailor_hasMark j mks0 fma0 = 0 <;> by_cases b : F_Tailor_hasMark j mks1 fma1 = 0
  · rw [if_pos a, if_pos b, if_pos a]; decide
  · rw [if_pos a, if_neg b, if_pos a]; decide
  · rw [if_neg a, if_pos b, if_neg a]; decide
  · rw [if_neg a, if_neg b, if_neg a]; decide
theorem bit_1 (j mks0 : Int32) (fma0 : Nat → Int32) (mks1 : Int32) (fma1 : Nat → Int32) : (F_Game_chalkersOf j mks0 fma0 mks1 fma1 >>> ((1 : Int32) &&& 31)) &&& 1 = if F_Tailor_hasMark j mks1 fma1 = 0 then 0 else 1 := by
  rw [chal_f]
  by_cases a : F_Tailor_hasMark j mks0 fma0 = 0 <;> by_cases b : F_Tailor_hasMark j mks1 fma1 = 0
  · rw [if_pos a, if_pos b, if_pos b]; decide
  · rw [if_pos a, if_neg b, if_neg b]; decide
  · rw [if_neg a, if_pos b, if_pos b]; decide
  · rw [if_neg a, if_neg b, if_neg b]; decide
theorem gain_f (j nx : Int32) (ac dn : Int64) (mks0 : Int32) (fma0 : Nat → Int32) (mks1 : Int32) (fma1 : Nat → Int32) : F_Game_openGain j nx ac dn mks0 fma0 mks1 fma1 = if nx = 0 then (if F_Tailor_hasMark j mks0 fma0 = 0 then F_Long_bitCount (F_Cloth_ragOf j ac dn) + 0 else F_Long_bitCount (F_Cloth_ragOf j ac dn) + 1) else (if F_Tailor_hasMark j mks1 fma1 = 0 then F_Long_bitCount (F_Cloth_ragOf j ac dn) + 0 else F_Long_bitCount (F_Cloth_ragOf j ac dn) + 1) := rfl
theorem pts_f {nx : Int32} (hn : p01 nx) (j : Int32) (ac dn : Int64) (mks0 : Int32) (fma0 : Nat → Int32) (mks1 : Int32) (fma1 : Nat → Int32) : F_Long_bitCount (F_Cloth_ragOf j ac dn) + ((F_Game_chalkersOf j mks0 fma0 mks1 fma1 >>> (nx &&& 31)) &&& 1) = F_Game_openGain j nx ac dn mks0 fma0 mks1 fma1 := by
  rw [gain_f]
  rcases hn with rfl | rfl
  · rw [bit_0, if_pos rfl]
    by_cases a : F_Tailor_hasMark j mks0 fma0 = 0
    · rw [if_pos a, if_pos a]
    · rw [if_neg a, if_neg a]
  · rw [bit_1, if_neg d01]
    by_cases a : F_Tailor_hasMark j mks1 fma1 = 0
    · rw [if_pos a, if_pos a]
    · rw [if_neg a, if_neg a]
theorem ifS_f {gn ac dn : Int64} {fs fm vs : Nat → Int32} (h : CR gn ac dn fs fm vs) {tn : Int32} (ht : tn = vs 244) {k : Nat} (hk : k < 82) : F_TC_ifSnipped (nI k) tn gn ac dn fs = if F_Model_reason (nI k) vs = 0 then F_Long_bitCount (F_Cloth_ragOf (nI k) ac dn) else -5 := by
  have t := j_tab ⟨k, hk⟩
  dsimp only at t
  have e : F_TC_ifSnipped (nI k) tn gn ac dn fs = if F_Cloth_isJoint (nI k) = 0 then (-1) else if F_Game_whyNoSnip (nI k) tn gn fs = 0 then F_Long_bitCount (F_Cloth_ragOf (nI k) ac dn) else (-5) := rfl
  rw [e, t.2.2.2.2.2.2.2.1, if_neg (by decide), creason h ht hk]
theorem bc_nn (p : Int64) : ∃ b : Nat, b ≤ 64 ∧ F_Long_bitCount p = nI b := ⟨_, pcN_le 64 _, bitCount_N _⟩
theorem cnt_1 (nx tn : Int32) (gn ac dn : Int64) (fs : Nat → Int32) (pts0 pts1 ln hk : Int32) : F_TC_count 1 nx tn gn ac dn fs pts0 pts1 ln hk = nx := rfl
theorem over_r {vs : Nat → Int32} {j : Int32} (h : F_Model_reason j vs = 0) : F_Model_isOver vs = 0 := by
  refine Classical.byContradiction fun z => ?_
  unfold F_Model_reason at h
  rw [bnd_eq, if_neg z] at h
  exact absurd h (by decide)
theorem hold_r {vs : Nat → Int32} {k : Nat} (hk : k < 82) (ho : F_Model_isOver vs = 0) (hh : hold vs k) : F_Model_reason (nI k) vs = 0 := by
  unfold F_Model_reason
  rw [bnd_eq, if_pos ho, bnd_eq, if_pos ((mvoid hk).mpr hh.1), mj0 hk, if_neg]
  intro z
  rcases hh.2 with e | e <;> (rw [e] at z; exact absurd z (by decide))
set_option maxHeartbeats 4000000 in
theorem bst_go {nx : Int32} {tn : Int32} {gn : Int64} {ac : Int64} {dn : Int64} {fs : Nat → Int32} {fm : Nat → Int32} {mks0 : Int32} {pts0 : Int32} {ths0 : Int32} {rgs0 : Int32} {rgc0 : Int32} {fnd0 : Int32} {rdb0 : Int32} {wdb0 : Int32} {fma0 : Nat → Int32} {mks1 : Int32} {pts1 : Int32} {ths1 : Int32} {rgs1 : Int32} {rgc1 : Int32} {fnd1 : Int32} {rdb1 : Int32} {wdb1 : Int32} {fma1 : Nat → Int32} {vs : Nat → Int32} (h : GRk 0 nx tn gn ac dn fs fm mks0 pts0 ths0 rgs0 rgc0 fnd0 rdb0 wdb0 fma0 mks1 pts1 ths1 rgs1 rgc1 fnd1 rdb1 wdb1 fma1 vs) (x ln hk : Int32) (fmr : Nat → Int32) : ∀ (n k : Nat) (wk a b c d : Int32) (mk : Nat → Int32), k ≤ 82 → St (fun z => F_Game_openGain z nx ac dn mks0 fma0 mks1 fma1) a b c d →
    (F_Law_isBest_L16 x nx tn gn ac dn fs fm mks0 pts0 fma0 mks1 pts1 fma1 ln hk fmr n (nI k) 1 wk c d mk).2.1 = 1 ∧ St (fun z => F_Game_openGain z nx ac dn mks0 fma0 mks1 fma1) (F_Game_bestJoint_L7 nx tn gn ac dn fs mks0 fma0 mks1 fma1 n (nI k) a b).2.1 (F_Game_bestJoint_L7 nx tn gn ac dn fs mks0 fma0 mks1 fma1 n (nI k) a b).2.2 (F_Law_isBest_L16 x nx tn gn ac dn fs fm mks0 pts0 fma0 mks1 pts1 fma1 ln hk fmr n (nI k) 1 wk c d mk).2.2.2.1 (F_Law_isBest_L16 x nx tn gn ac dn fs fm mks0 pts0 fma0 mks1 pts1 fma1 ln hk fmr n (nI k) 1 wk c d mk).2.2.2.2.1 ∧ (F_Law_isBest_L16 x nx tn gn ac dn fs fm mks0 pts0 fma0 mks1 pts1 fma1 ln hk fmr n (nI k) 1 wk c d mk).2.2.1 = if F_Model_isOver vs = 0 then (F_Cloth_weakJoints_L4 ac dn n (nI k) wk).2 else wk := by
  intro n
  induction n with
  | zero =>
    intro k wk a b c d mk hkk hs
    refine ⟨rfl, hs, ?_⟩
    show wk = if F_Model_isOver vs = 0 then wk else wk
    split <;> rfl
  | succ n ih =>
    intro k wk a b c d mk hkk hs
    by_cases y : (82 : Int32) ≤ nI k
    · rw [F_Law_isBest_L16, F_Game_bestJoint_L7, F_Cloth_weakJoints_L4, if_pos y, if_pos y, if_pos y]
      refine ⟨rfl, hs, ?_⟩
      show wk = if F_Model_isOver vs = 0 then wk else wk
      split <;> rfl
    · have hlt : k < 82 := lp_lt rfl rfl hkk y
      have hb : F_Cloth_holds (nI k) ac dn = 0 ↔ ¬ hold vs k := by rw [cholds h.1 hlt]; exact mholds hlt
      have w0 : F_Cloth_weakJoints_L4 ac dn (n + 1) (nI k) wk = if F_Cloth_holds (nI k) ac dn = 0 then F_Cloth_weakJoints_L4 ac dn n (nI (k + 1)) wk else if lg_cmp (F_Cloth_ragOf (nI k) ac dn) 0 = 0 then F_Cloth_weakJoints_L4 ac dn n (nI (k + 1)) wk else F_Cloth_weakJoints_L4 ac dn n (nI (k + 1)) (wk + 1) := by
        rw [F_Cloth_weakJoints_L4, if_neg y, bnd_eq, bnd_eq, nI_1]
      by_cases z : F_Model_reason (nI k) vs = 0
      · have hv := (reason_0 hlt).2 z
        have ho := over_r z
        obtain ⟨b', hb', eb⟩ := bc_nn (F_Cloth_ragOf (nI k) ac dn)
        have hn : p01 nx := by rw [h.2.1]; exact h.2.2.2.1
        have eg := pts_f hn (nI k) ac dn mks0 fma0 mks1 fma1
        obtain ⟨-, g, hg, eg2⟩ := gain_q (vlb := vs) h hlt hv vs
        -- joints that hold a piece alone
        obtain ⟨v, ev, ew⟩ : ∃ v : Int32, (if F_Long_bitCount (F_Cloth_ragOf (nI k) ac dn) ≤ 0 then (0 : Int32) else bnd (F_TC_of (nI k) 6 tn gn ac dn fs fm mks0 fma0 mks1 fma1) fun r_20 => if r_20 = 1 then 1 else 0) = v ∧ F_Cloth_weakJoints_L4 ac dn (n + 1) (nI k) wk = F_Cloth_weakJoints_L4 ac dn n (nI (k + 1)) (wk + v) := by
          obtain ⟨cc1, cc2⟩ := ccells vs h.1 hlt hv
          by_cases u : hold vs k
          · by_cases q : F_Long_bitCount (F_Cloth_ragOf (nI k) ac dn) ≤ 0
            · exact ⟨0, if_pos q, by rw [w0, if_neg (fun r => hb.mp r u), if_pos (cc2.mpr (by rw [← cc1]; exact q)), Int32.add_zero]⟩
            · exact ⟨1, by rw [if_neg q, bnd_eq, of_6 h.1 hlt, if_pos u, if_pos rfl], by rw [w0, if_neg (fun r => hb.mp r u), if_neg (fun r => q (by rw [cc1]; exact cc2.mp r))]⟩
          · refine ⟨0, ?_, by rw [w0, if_pos (hb.mpr u), Int32.add_zero]⟩
            rw [bnd_eq, of_6 h.1 hlt, if_neg u, if_neg (show ¬ (0 : Int32) = 1 by decide)]
            split <;> rfl
        obtain ⟨mk2, e16⟩ : ∃ mk2, F_Law_isBest_L16 x nx tn gn ac dn fs fm mks0 pts0 fma0 mks1 pts1 fma1 ln hk fmr (n + 1) (nI k) 1 wk c d mk = F_Law_isBest_L16 x nx tn gn ac dn fs fm mks0 pts0 fma0 mks1 pts1 fma1 ln hk fmr n (nI (k + 1)) 1 (wk + v) (if F_Game_openGain (nI k) nx ac dn mks0 fma0 mks1 fma1 ≤ c then c else F_Game_openGain (nI k) nx ac dn mks0 fma0 mks1 fma1) (if F_Game_openGain (nI k) nx ac dn mks0 fma0 mks1 fma1 ≤ c then d else nI k) mk2 := by
          by_cases q : (nI k - nI k / 9 * 9) = (x &&& 7)
          · refine ⟨(F_Law_falls (nI k) tn gn ac dn fs fm mks0 fma0 mks1 fma1 mk).2, ?_⟩
            rw [F_Law_isBest_L16, if_neg y, if_neg d01]
            refine bnd_tr ((ifS_f h.1 h.2.2.1 hlt).trans (if_pos z)) ?_
            rw [if_neg (by rw [eb]; exact nI_pos (by omega))]
            refine bnd_tr (of_4 hlt ..) (bnd_tr (cnt_1 ..) ?_)
            rw [eg]
            refine bnd_tr (v := if F_Game_openGain (nI k) nx ac dn mks0 fma0 mks1 fma1 ≤ c then d else nI k) rfl (bnd_tr (v := if F_Game_openGain (nI k) nx ac dn mks0 fma0 mks1 fma1 ≤ c then c else F_Game_openGain (nI k) nx ac dn mks0 fma0 mks1 fma1) rfl (bnd_tr ev ?_))
            rw [if_pos q, bnd_eq, if_pos (falls_ok h.1 tn mks0 mks1 fma0 fma1 mk hlt hv).symm, nI_1]
          · refine ⟨mk, ?_⟩
            rw [F_Law_isBest_L16, if_neg y, if_neg d01]
            refine bnd_tr ((ifS_f h.1 h.2.2.1 hlt).trans (if_pos z)) ?_
            rw [if_neg (by rw [eb]; exact nI_pos (by omega))]
            refine bnd_tr (of_4 hlt ..) (bnd_tr (cnt_1 ..) ?_)
            rw [eg]
            refine bnd_tr (v := if F_Game_openGain (nI k) nx ac dn mks0 fma0 mks1 fma1 ≤ c then d else nI k) rfl (bnd_tr (v := if F_Game_openGain (nI k) nx ac dn mks0 fma0 mks1 fma1 ≤ c then c else F_Game_openGain (nI k) nx ac dn mks0 fma0 mks1 fma1) rfl (bnd_tr ev ?_))
            rw [if_neg q, nI_1]
        have e7 : F_Game_bestJoint_L7 nx tn gn ac dn fs mks0 fma0 mks1 fma1 (n + 1) (nI k) a b = if F_Game_openGain (nI k) nx ac dn mks0 fma0 mks1 fma1 ≤ a then F_Game_bestJoint_L7 nx tn gn ac dn fs mks0 fma0 mks1 fma1 n (nI (k + 1)) a b else F_Game_bestJoint_L7 nx tn gn ac dn fs mks0 fma0 mks1 fma1 n (nI (k + 1)) (F_Game_openGain (nI k) nx ac dn mks0 fma0 mks1 fma1) (nI k) := by
          rw [F_Game_bestJoint_L7, if_neg y, bnd_eq, creason h.1 h.2.2.1 hlt, if_pos z, bnd_eq, nI_1]
        have hn1 := nI_nl1 hg
        rw [e16, e7, ew, eg2]
        rcases hs with ⟨rfl, rfl, rfl, rfl⟩ | ⟨g', j', q1, q2, rfl, rfl, rfl, rfl, q3⟩
        · rw [if_neg hn1.1, if_neg hn1.2.1, if_neg hn1.2.1]
          exact ih (k + 1) (wk + v) _ _ _ _ mk2 (by omega) (Or.inr ⟨g, k, hg, hlt, rfl, rfl, rfl, rfl, eg2⟩) |> fun r => by rw [if_pos ho] at r ⊢; exact r
        · by_cases u : nI g ≤ nI g'
          · rw [if_pos u, if_pos u, if_pos u]
            exact ih (k + 1) (wk + v) _ _ _ _ mk2 (by omega) (Or.inr ⟨g', j', q1, q2, rfl, rfl, rfl, rfl, q3⟩) |> fun r => by rw [if_pos ho] at r ⊢; exact r
          · rw [if_neg u, if_neg u, if_neg u]
            exact ih (k + 1) (wk + v) _ _ _ _ mk2 (by omega) (Or.inr ⟨g, k, hg, hlt, rfl, rfl, rfl, rfl, eg2⟩) |> fun r => by rw [if_pos ho] at r ⊢; exact r
      · have ha : (-1 : Int32) ≤ a := by
          rcases hs with ⟨rfl, -, -, -⟩ | ⟨g', j', q1, q2, rfl, -, -, -, -⟩
          · decide
          · exact (nI_nl1 q1).2.2
        have e16 : F_Law_isBest_L16 x nx tn gn ac dn fs fm mks0 pts0 fma0 mks1 pts1 fma1 ln hk fmr (n + 1) (nI k) 1 wk c d mk = F_Law_isBest_L16 x nx tn gn ac dn fs fm mks0 pts0 fma0 mks1 pts1 fma1 ln hk fmr n (nI (k + 1)) 1 wk c d mk := by
          rw [F_Law_isBest_L16, if_neg y, if_neg d01]
          refine bnd_tr ((ifS_f h.1 h.2.2.1 hlt).trans (if_neg z)) ?_
          rw [if_pos (by decide), nI_1]
        have e7 : F_Game_bestJoint_L7 nx tn gn ac dn fs mks0 fma0 mks1 fma1 (n + 1) (nI k) a b = F_Game_bestJoint_L7 nx tn gn ac dn fs mks0 fma0 mks1 fma1 n (nI (k + 1)) a b := by
          rw [F_Game_bestJoint_L7, if_neg y, bnd_eq, creason h.1 h.2.2.1 hlt, if_neg z, if_pos ha, nI_1]
        have r := ih (k + 1) wk a b c d mk (by omega) hs
        rw [e16, e7]
        refine ⟨r.1, r.2.1, ?_⟩
        rw [r.2.2]
        by_cases o : F_Model_isOver vs = 0
        · rw [if_pos o, if_pos o, w0, if_pos (hb.mpr (fun u => z (hold_r hlt o u)))]
        · rw [if_neg o, if_neg o]
set_option maxHeartbeats 4000000 in
theorem isBest_ok {nx : Int32} {tn : Int32} {gn : Int64} {ac : Int64} {dn : Int64} {fs : Nat → Int32} {fm : Nat → Int32} {mks0 : Int32} {pts0 : Int32} {ths0 : Int32} {rgs0 : Int32} {rgc0 : Int32} {fnd0 : Int32} {rdb0 : Int32} {wdb0 : Int32} {fma0 : Nat → Int32} {mks1 : Int32} {pts1 : Int32} {ths1 : Int32} {rgs1 : Int32} {rgc1 : Int32} {fnd1 : Int32} {rdb1 : Int32} {wdb1 : Int32} {fma1 : Nat → Int32} {vs : Nat → Int32} (h : GRk 0 nx tn gn ac dn fs fm mks0 pts0 ths0 rgs0 rgc0 fnd0 rdb0 wdb0 fma0 mks1 pts1 ths1 rgs1 rgc1 fnd1 rdb1 wdb1 fma1 vs) (x ln hk : Int32) (fmr : Nat → Int32) : (F_Law_isBest x nx tn gn ac dn fs fm mks0 pts0 fma0 mks1 pts1 fma1 ln hk fmr).1 = 1 := by
  obtain ⟨r1, r2, r3⟩ := bst_go h x ln hk fmr 83 0 0 (-1) (-6) (-6) (-6) fmr (by omega) (Or.inl ⟨rfl, rfl, rfl, rfl⟩)
  rw [nI_0] at r1 r2 r3
  unfold F_Law_isBest
  rw [bnd_eq]
  generalize F_Law_isBest_L16 x nx tn gn ac dn fs fm mks0 pts0 fma0 mks1 pts1 fma1 ln hk fmr 83 0 1 0 (-6) (-6) fmr = Z at r1 r2 r3 ⊢
  have e0 : F_TC_bestSnip 0 nx tn gn ac dn fs mks0 fma0 mks1 fma1 = Z.2.2.2.2.1 := by
    have e : F_TC_bestSnip 0 nx tn gn ac dn fs mks0 fma0 mks1 fma1 = (F_Game_bestJoint_L7 nx tn gn ac dn fs mks0 fma0 mks1 fma1 83 0 (-1) (-6)).2.2 := rfl
    rw [e]
    rcases r2 with ⟨-, a2, -, a4⟩ | ⟨g, j, -, -, -, a2, -, a4, -⟩ <;> rw [a2, a4]
  have e1 : F_TC_bestSnip 1 nx tn gn ac dn fs mks0 fma0 mks1 fma1 = Z.2.2.2.1 := by
    have e : F_TC_bestSnip 1 nx tn gn ac dn fs mks0 fma0 mks1 fma1 = if (F_Game_bestJoint_L7 nx tn gn ac dn fs mks0 fma0 mks1 fma1 83 0 (-1) (-6)).2.2 = (-6) then (F_Game_bestJoint_L7 nx tn gn ac dn fs mks0 fma0 mks1 fma1 83 0 (-1) (-6)).2.2 else F_Game_openGain (F_Game_bestJoint_L7 nx tn gn ac dn fs mks0 fma0 mks1 fma1 83 0 (-1) (-6)).2.2 nx ac dn mks0 fma0 mks1 fma1 := rfl
    rw [e]
    rcases r2 with ⟨-, a2, a3, -⟩ | ⟨g, j, -, hj, -, a2, a3, -, a5⟩
    · rw [a2, a3, if_pos rfl]
    · rw [a2, a3, if_neg (nI_n6 hj)]; exact a5
  have e2 : F_TC_weak tn gn ac dn = Z.2.2.1 := by
    have e : F_TC_weak tn gn ac dn = if F_Game_isOver tn gn = 0 then (F_Cloth_weakJoints_L4 ac dn 83 0 0).2 else 0 := rfl
    rw [e, r3, cover h.1 h.2.2.1]
  rw [r1, if_neg (by decide), bnd_eq, if_pos e0, bnd_eq, if_pos e1, bnd_eq, if_pos e2]
