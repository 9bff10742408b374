-- one turn, both sides: a seam, a bluff, a doubt
theorem mj82 {j : Nat} (hj : j < 82) : ((82 : Int32) + nI j).toNatClampNeg = 82 + j := by
  rw [show (82 : Int32) = nI 82 from rfl, nI_add, nI_clamp (by omega)]
theorem MS_ext2 {q : Nat} {mks : Int32} {f vs vs' : Nat → Int32} {M : Nat} (h : MS q mks f vs M) (e2 : vs' (tO q + 2) = vs (tO q + 2)) (e : ∀ i, tO q + 8 ≤ i → i < tO q + 16 → vs' i = vs i) : MS q mks f vs' M := by
  have hM := h.2.2.1.1
  exact ⟨h.1, by rw [e2]; exact h.2.1, h.2.2.1, fun i hi => by rw [e _ (by omega) (by omega)]; exact h.2.2.2 i hi⟩
theorem i32_add {x d : Int32} (hx : -20000 ≤ x.toInt ∧ x.toInt ≤ 20000) (hd : -100 ≤ d.toInt ∧ d.toInt ≤ 100) : (x + d).toInt = x.toInt + d.toInt := by
  rw [Int32.toInt_add]
  exact Int.bmod_eq_of_le (by omega) (by omega)
theorem PB_chg {vs v1 : Nat → Int32} {e f : Int} {d0 d1 : Int32} (h : PB e vs) (he : 0 ≤ e ∧ e ≤ 60) (hf : 0 ≤ f ∧ f ≤ 60) (hT : v1 244 = vs 244) (h0 : v1 212 = vs 212 + d0) (h1 : v1 228 = vs 228 + d1) (b0 : -f ≤ d0.toInt ∧ d0.toInt ≤ f) (b1 : -f ≤ d1.toInt ∧ d1.toInt ≤ f) : PB (e + f) v1 := by
  obtain ⟨T, g1, g2, g3, g4⟩ := h
  have a0 := i32_add (x := vs 212) (d := d0) (by omega) (by omega)
  have a1 := i32_add (x := vs 228) (d := d1) (by omega) (by omega)
  exact ⟨T, g1, by rw [hT]; exact g2, by rw [h0, a0]; omega, by rw [h1, a1]; omega⟩
theorem PB_le {vs : Nat → Int32} {e f : Int} (h : PB e vs) (hf : e ≤ f) : PB f vs := by
  obtain ⟨T, h1, h2, h3, h4⟩ := h
  exact ⟨T, h1, h2, by omega, by omega⟩
theorem PB_ext {vs v1 : Nat → Int32} {e : Int} (h : PB e vs) (a : v1 244 = vs 244) (b : v1 212 = vs 212) (c : v1 228 = vs 228) : PB e v1 := by
  obtain ⟨T, h1, h2, h3, h4⟩ := h
  exact ⟨T, h1, by rw [a]; exact h2, by rw [b]; exact h3, by rw [c]; exact h4⟩
theorem cut_1 {vs : Nat → Int32} {k : Nat} (hk : k < 82) (c1 : F_Model_isOver vs = 0) (c2 : F_Model_isVoid (nI k) vs = 0) (c3 : vs k = 1) : F_Model_isCut (nI k) vs = 1 := by
  unfold F_Model_isCut
  dsimp only [bnd]
  rw [if_pos c1, if_pos c2, mj0 hk, if_pos c3]
theorem cut_s {vs : Nat → Int32} {k : Nat} (hk : k < 82) (c1 : F_Model_isOver vs = 0) (c2 : F_Model_isVoid (nI k) vs = 0) (c3 : ¬ vs k = 1) : F_Model_isCut (nI k) vs = 0 := by
  unfold F_Model_isCut
  dsimp only [bnd]
  rw [if_pos c1, if_pos c2, mj0 hk, if_neg c3]
theorem cut_v {vs : Nat → Int32} {k : Nat} (c1 : F_Model_isOver vs = 0) (c2 : ¬ F_Model_isVoid (nI k) vs = 0) : F_Model_isCut (nI k) vs = 0 := by
  unfold F_Model_isCut
  dsimp only [bnd]
  rw [if_pos c1, if_neg c2]
theorem cut_o {vs : Nat → Int32} {k : Nat} (c1 : ¬ F_Model_isOver vs = 0) : F_Model_isCut (nI k) vs = 0 := by
  unfold F_Model_isCut
  dsimp only [bnd]
  rw [if_neg c1]
/-- what happens at one joint of the cloth -/
theorem cloth_GR {nx : Int32} {tn : Int32} {gn : Int64} {ac : Int64} {dn : Int64} {fs : Nat → Int32} {fm : Nat → Int32} {mks0 : Int32} {pts0 : Int32} {ths0 : Int32} {rgs0 : Int32} {rgc0 : Int32} {fnd0 : Int32} {rdb0 : Int32} {wdb0 : Int32} {fma0 : Nat → Int32} {mks1 : Int32} {pts1 : Int32} {ths1 : Int32} {rgs1 : Int32} {rgc1 : Int32} {fnd1 : Int32} {rdb1 : Int32} {wdb1 : Int32} {fma1 : Nat → Int32} {nmks0 : Int32} {npts0 : Int32} {nths0 : Int32} {nrgs0 : Int32} {nrgc0 : Int32} {nfnd0 : Int32} {nrdb0 : Int32} {nwdb0 : Int32} {nmks1 : Int32} {npts1 : Int32} {nths1 : Int32} {nrgs1 : Int32} {nrgc1 : Int32} {nfnd1 : Int32} {nrdb1 : Int32} {nwdb1 : Int32} {nf0 nf1 : Nat → Int32} {vs v1 : Nat → Int32} {k : Nat} {s m : Int32} {e : Int} (h : GRk 0 nx tn gn ac dn fs fm mks0 pts0 ths0 rgs0 rgc0 fnd0 rdb0 wdb0 fma0 mks1 pts1 ths1 rgs1 rgc1 fnd1 rdb1 wdb1 fma1 vs) (hk : k < 82) (hv : ¬ vd vs k) (ec : ∀ i, i < 212 → v1 i = if i = k then s else if i = 82 + k then m else vs i) (u4 : v1 244 = vs 244) (u5 : v1 245 = vs 245) (t0 : TRc 0 nmks0 npts0 nths0 nrgs0 nrgc0 nfnd0 nrdb0 nwdb0 nf0 v1) (t1 : TRc 1 nmks1 npts1 nths1 nrgs1 nrgc1 nfnd1 nrdb1 nwdb1 nf1 v1) (pb : PB e v1) : GRk e nx tn gn (if k < 42 then mkB s k ac else ac) (if k < 42 then dn else mkB s k dn) (upd fs k s) (upd fm k m) nmks0 npts0 nths0 nrgs0 nrgc0 nfnd0 nrdb0 nwdb0 nf0 nmks1 npts1 nths1 nrgs1 nrgc1 nfnd1 nrdb1 nwdb1 nf1 v1 :=
  ⟨make_CR h.1 hk hv ec, h.2.1.trans u5.symm, h.2.2.1.trans u4.symm, by rw [u5]; exact h.2.2.2.1, t0, t1, pb⟩
theorem sew_GR0 {nx : Int32} {tn : Int32} {gn : Int64} {ac : Int64} {dn : Int64} {fs : Nat → Int32} {fm : Nat → Int32} {mks0 : Int32} {pts0 : Int32} {ths0 : Int32} {rgs0 : Int32} {rgc0 : Int32} {fnd0 : Int32} {rdb0 : Int32} {wdb0 : Int32} {fma0 : Nat → Int32} {mks1 : Int32} {pts1 : Int32} {ths1 : Int32} {rgs1 : Int32} {rgc1 : Int32} {fnd1 : Int32} {rdb1 : Int32} {wdb1 : Int32} {fma1 : Nat → Int32} {vs v1 : Nat → Int32} {k : Nat} {m : Int32} (h : GRk 0 nx tn gn ac dn fs fm mks0 pts0 ths0 rgs0 rgc0 fnd0 rdb0 wdb0 fma0 mks1 pts1 ths1 rgs1 rgc1 fnd1 rdb1 wdb1 fma1 vs) (hk : k < 82) (hd : ¬ vd vs k) (hv : ∀ i, v1 i = if i = 213 then ths0 - 1 else if i = 82 + k then m else if i = k then 2 else vs i) : GRk 60 nx tn gn (if k < 42 then mkB 2 k ac else ac) (if k < 42 then dn else mkB 2 k dn) (upd fs k 2) (upd fm k m) mks0 pts0 (ths0 - 1) rgs0 rgc0 fnd0 rdb0 wdb0 fma0 mks1 pts1 ths1 rgs1 rgc1 fnd1 rdb1 wdb1 fma1 v1 := by
  obtain ⟨t0_0, t0_1, t0_3, t0_4, t0_5, t0_6, t0_7, M0, hMS0⟩ := h.2.2.2.2.1
  obtain ⟨t1_0, t1_1, t1_3, t1_4, t1_5, t1_6, t1_7, M1, hMS1⟩ := h.2.2.2.2.2.1
  refine cloth_GR h hk hd (fun i hi => ?_) (by rw [hv, if_neg (show ¬ 244 = 213 by decide), if_neg (show ¬ 244 = 82 + k by omega), if_neg (show ¬ 244 = k by omega)]) (by rw [hv, if_neg (show ¬ 245 = 213 by decide), if_neg (show ¬ 245 = 82 + k by omega), if_neg (show ¬ 245 = k by omega)]) ⟨by show _ = v1 212; rw [hv 212, if_neg (show ¬ 212 = 213 by decide), if_neg (show ¬ 212 = 82 + k by omega), if_neg (show ¬ 212 = k by omega)]; exact t0_0, by show _ = v1 213; rw [hv 213, if_pos rfl], by show _ = v1 215; rw [hv 215, if_neg (show ¬ 215 = 213 by decide), if_neg (show ¬ 215 = 82 + k by omega), if_neg (show ¬ 215 = k by omega)]; exact t0_3, by show _ = v1 216; rw [hv 216, if_neg (show ¬ 216 = 213 by decide), if_neg (show ¬ 216 = 82 + k by omega), if_neg (show ¬ 216 = k by omega)]; exact t0_4, by show _ = v1 217; rw [hv 217, if_neg (show ¬ 217 = 213 by decide), if_neg (show ¬ 217 = 82 + k by omega), if_neg (show ¬ 217 = k by omega)]; exact t0_5, by show _ = v1 218; rw [hv 218, if_neg (show ¬ 218 = 213 by decide), if_neg (show ¬ 218 = 82 + k by omega), if_neg (show ¬ 218 = k by omega)]; exact t0_6, by show _ = v1 219; rw [hv 219, if_neg (show ¬ 219 = 213 by decide), if_neg (show ¬ 219 = 82 + k by omega), if_neg (show ¬ 219 = k by omega)]; exact t0_7, M0, MS_ext2 hMS0 (by show v1 214 = vs 214; rw [hv 214, if_neg (show ¬ 214 = 213 by decide), if_neg (show ¬ 214 = 82 + k by omega), if_neg (show ¬ 214 = k by omega)]) (fun i a b => by rw [hv i, if_neg (show ¬ i = 213 by unfold tO at *; omega), if_neg (show ¬ i = 82 + k by unfold tO at *; omega), if_neg (show ¬ i = k by unfold tO at *; omega)])⟩ ⟨by show _ = v1 228; rw [hv 228, if_neg (show ¬ 228 = 213 by decide), if_neg (show ¬ 228 = 82 + k by omega), if_neg (show ¬ 228 = k by omega)]; exact t1_0, by show _ = v1 229; rw [hv 229, if_neg (show ¬ 229 = 213 by decide), if_neg (show ¬ 229 = 82 + k by omega), if_neg (show ¬ 229 = k by omega)]; exact t1_1, by show _ = v1 231; rw [hv 231, if_neg (show ¬ 231 = 213 by decide), if_neg (show ¬ 231 = 82 + k by omega), if_neg (show ¬ 231 = k by omega)]; exact t1_3, by show _ = v1 232; rw [hv 232, if_neg (show ¬ 232 = 213 by decide), if_neg (show ¬ 232 = 82 + k by omega), if_neg (show ¬ 232 = k by omega)]; exact t1_4, by show _ = v1 233; rw [hv 233, if_neg (show ¬ 233 = 213 by decide), if_neg (show ¬ 233 = 82 + k by omega), if_neg (show ¬ 233 = k by omega)]; exact t1_5, by show _ = v1 234; rw [hv 234, if_neg (show ¬ 234 = 213 by decide), if_neg (show ¬ 234 = 82 + k by omega), if_neg (show ¬ 234 = k by omega)]; exact t1_6, by show _ = v1 235; rw [hv 235, if_neg (show ¬ 235 = 213 by decide), if_neg (show ¬ 235 = 82 + k by omega), if_neg (show ¬ 235 = k by omega)]; exact t1_7, M1, MS_ext2 hMS1 (by show v1 230 = vs 230; rw [hv 230, if_neg (show ¬ 230 = 213 by decide), if_neg (show ¬ 230 = 82 + k by omega), if_neg (show ¬ 230 = k by omega)]) (fun i a b => by rw [hv i, if_neg (show ¬ i = 213 by unfold tO at *; omega), if_neg (show ¬ i = 82 + k by unfold tO at *; omega), if_neg (show ¬ i = k by unfold tO at *; omega)])⟩ ?_
  · rw [hv i, if_neg (show ¬ i = 213 by omega)]
    by_cases z : i = k
    · (rw [if_pos z, if_neg (show ¬ i = 82 + k by omega), if_pos z])
    · (rw [if_neg z, if_neg z])
  · exact PB_le (PB_ext h.2.2.2.2.2.2 (by rw [hv, if_neg (show ¬ 244 = 213 by decide), if_neg (show ¬ 244 = 82 + k by omega), if_neg (show ¬ 244 = k by omega)]) (by rw [hv, if_neg (show ¬ 212 = 213 by decide), if_neg (show ¬ 212 = 82 + k by omega), if_neg (show ¬ 212 = k by omega)]) (by rw [hv, if_neg (show ¬ 228 = 213 by decide), if_neg (show ¬ 228 = 82 + k by omega), if_neg (show ¬ 228 = k by omega)])) (by omega)
theorem sew_GR1 {nx : Int32} {tn : Int32} {gn : Int64} {ac : Int64} {dn : Int64} {fs : Nat → Int32} {fm : Nat → Int32} {mks0 : Int32} {pts0 : Int32} {ths0 : Int32} {rgs0 : Int32} {rgc0 : Int32} {fnd0 : Int32} {rdb0 : Int32} {wdb0 : Int32} {fma0 : Nat → Int32} {mks1 : Int32} {pts1 : Int32} {ths1 : Int32} {rgs1 : Int32} {rgc1 : Int32} {fnd1 : Int32} {rdb1 : Int32} {wdb1 : Int32} {fma1 : Nat → Int32} {vs v1 : Nat → Int32} {k : Nat} {m : Int32} (h : GRk 0 nx tn gn ac dn fs fm mks0 pts0 ths0 rgs0 rgc0 fnd0 rdb0 wdb0 fma0 mks1 pts1 ths1 rgs1 rgc1 fnd1 rdb1 wdb1 fma1 vs) (hk : k < 82) (hd : ¬ vd vs k) (hv : ∀ i, v1 i = if i = 229 then ths1 - 1 else if i = 82 + k then m else if i = k then 2 else vs i) : GRk 60 nx tn gn (if k < 42 then mkB 2 k ac else ac) (if k < 42 then dn else mkB 2 k dn) (upd fs k 2) (upd fm k m) mks0 pts0 ths0 rgs0 rgc0 fnd0 rdb0 wdb0 fma0 mks1 pts1 (ths1 - 1) rgs1 rgc1 fnd1 rdb1 wdb1 fma1 v1 := by
  obtain ⟨t0_0, t0_1, t0_3, t0_4, t0_5, t0_6, t0_7, M0, hMS0⟩ := h.2.2.2.2.1
  obtain ⟨t1_0, t1_1, t1_3, t1_4, t1_5, t1_6, t1_7, M1, hMS1⟩ := h.2.2.2.2.2.1
  refine cloth_GR h hk hd (fun i hi => ?_) (by rw [hv, if_neg (show ¬ 244 = 229 by decide), if_neg (show ¬ 244 = 82 + k by omega), if_neg (show ¬ 244 = k by omega)]) (by rw [hv, if_neg (show ¬ 245 = 229 by decide), if_neg (show ¬ 245 = 82 + k by omega), if_neg (show ¬ 245 = k by omega)]) ⟨by show _ = v1 212; rw [hv 212, if_neg (show ¬ 212 = 229 by decide), if_neg (show ¬ 212 = 82 + k by omega), if_neg (show ¬ 212 = k by omega)]; exact t0_0, by show _ = v1 213; rw [hv 213, if_neg (show ¬ 213 = 229 by decide), if_neg (show ¬ 213 = 82 + k by omega), if_neg (show ¬ 213 = k by omega)]; exact t0_1, by show _ = v1 215; rw [hv 215, if_neg (show ¬ 215 = 229 by decide), if_neg (show ¬ 215 = 82 + k by omega), if_neg (show ¬ 215 = k by omega)]; exact t0_3, by show _ = v1 216; rw [hv 216, if_neg (show ¬ 216 = 229 by decide), if_neg (show ¬ 216 = 82 + k by omega), if_neg (show ¬ 216 = k by omega)]; exact t0_4, by show _ = v1 217; rw [hv 217, if_neg (show ¬ 217 = 229 by decide), if_neg (show ¬ 217 = 82 + k by omega), if_neg (show ¬ 217 = k by omega)]; exact t0_5, by show _ = v1 218; rw [hv 218, if_neg (show ¬ 218 = 229 by decide), if_neg (show ¬ 218 = 82 + k by omega), if_neg (show ¬ 218 = k by omega)]; exact t0_6, by show _ = v1 219; rw [hv 219, if_neg (show ¬ 219 = 229 by decide), if_neg (show ¬ 219 = 82 + k by omega), if_neg (show ¬ 219 = k by omega)]; exact t0_7, M0, MS_ext2 hMS0 (by show v1 214 = vs 214; rw [hv 214, if_neg (show ¬ 214 = 229 by decide), if_neg (show ¬ 214 = 82 + k by omega), if_neg (show ¬ 214 = k by omega)]) (fun i a b => by rw [hv i, if_neg (show ¬ i = 229 by unfold tO at *; omega), if_neg (show ¬ i = 82 + k by unfold tO at *; omega), if_neg (show ¬ i = k by unfold tO at *; omega)])⟩ ⟨by show _ = v1 228; rw [hv 228, if_neg (show ¬ 228 = 229 by decide), if_neg (show ¬ 228 = 82 + k by omega), if_neg (show ¬ 228 = k by omega)]; exact t1_0, by show _ = v1 229; rw [hv 229, if_pos rfl], by show _ = v1 231; rw [hv 231, if_neg (show ¬ 231 = 229 by decide), if_neg (show ¬ 231 = 82 + k by omega), if_neg (show ¬ 231 = k by omega)]; exact t1_3, by show _ = v1 232; rw [hv 232, if_neg (show ¬ 232 = 229 by decide), if_neg (show ¬ 232 = 82 + k by omega), if_neg (show ¬ 232 = k by omega)]; exact t1_4, by show _ = v1 233; rw [hv 233, if_neg (show ¬ 233 = 229 by decide), if_neg (show ¬ 233 = 82 + k by omega), if_neg (show ¬ 233 = k by omega)]; exact t1_5, by show _ = v1 234; rw [hv 234, if_neg (show ¬ 234 = 229 by decide), if_neg (show ¬ 234 = 82 + k by omega), if_neg (show ¬ 234 = k by omega)]; exact t1_6, by show _ = v1 235; rw [hv 235, if_neg (show ¬ 235 = 229 by decide), if_neg (show ¬ 235 = 82 + k by omega), if_neg (show ¬ 235 = k by omega)]; exact t1_7, M1, MS_ext2 hMS1 (by show v1 230 = vs 230; rw [hv 230, if_neg (show ¬ 230 = 229 by decide), if_neg (show ¬ 230 = 82 + k by omega), if_neg (show ¬ 230 = k by omega)]) (fun i a b => by rw [hv i, if_neg (show ¬ i = 229 by unfold tO at *; omega), if_neg (show ¬ i = 82 + k by unfold tO at *; omega), if_neg (show ¬ i = k by unfold tO at *; omega)])⟩ ?_
  · rw [hv i, if_neg (show ¬ i = 229 by omega)]
    by_cases z : i = k
    · (rw [if_pos z, if_neg (show ¬ i = 82 + k by omega), if_pos z])
    · (rw [if_neg z, if_neg z])
  · exact PB_le (PB_ext h.2.2.2.2.2.2 (by rw [hv, if_neg (show ¬ 244 = 229 by decide), if_neg (show ¬ 244 = 82 + k by omega), if_neg (show ¬ 244 = k by omega)]) (by rw [hv, if_neg (show ¬ 212 = 229 by decide), if_neg (show ¬ 212 = 82 + k by omega), if_neg (show ¬ 212 = k by omega)]) (by rw [hv, if_neg (show ¬ 228 = 229 by decide), if_neg (show ¬ 228 = 82 + k by omega), if_neg (show ¬ 228 = k by omega)])) (by omega)
theorem bluff_GR {nx : Int32} {tn : Int32} {gn : Int64} {ac : Int64} {dn : Int64} {fs : Nat → Int32} {fm : Nat → Int32} {mks0 : Int32} {pts0 : Int32} {ths0 : Int32} {rgs0 : Int32} {rgc0 : Int32} {fnd0 : Int32} {rdb0 : Int32} {wdb0 : Int32} {fma0 : Nat → Int32} {mks1 : Int32} {pts1 : Int32} {ths1 : Int32} {rgs1 : Int32} {rgc1 : Int32} {fnd1 : Int32} {rdb1 : Int32} {wdb1 : Int32} {fma1 : Nat → Int32} {vs v1 : Nat → Int32} {k : Nat} {m : Int32} (h : GRk 0 nx tn gn ac dn fs fm mks0 pts0 ths0 rgs0 rgc0 fnd0 rdb0 wdb0 fma0 mks1 pts1 ths1 rgs1 rgc1 fnd1 rdb1 wdb1 fma1 vs) (hk : k < 82) (hd : ¬ vd vs k) (hv : ∀ i, v1 i = if i = 82 + k then m else if i = k then 3 else vs i) : GRk 60 nx tn gn (if k < 42 then mkB 3 k ac else ac) (if k < 42 then dn else mkB 3 k dn) (upd fs k 3) (upd fm k m) mks0 pts0 ths0 rgs0 rgc0 fnd0 rdb0 wdb0 fma0 mks1 pts1 ths1 rgs1 rgc1 fnd1 rdb1 wdb1 fma1 v1 := by
  obtain ⟨t0_0, t0_1, t0_3, t0_4, t0_5, t0_6, t0_7, M0, hMS0⟩ := h.2.2.2.2.1
  obtain ⟨t1_0, t1_1, t1_3, t1_4, t1_5, t1_6, t1_7, M1, hMS1⟩ := h.2.2.2.2.2.1
  refine cloth_GR h hk hd (fun i hi => ?_) (by rw [hv, if_neg (show ¬ 244 = 82 + k by omega), if_neg (show ¬ 244 = k by omega)]) (by rw [hv, if_neg (show ¬ 245 = 82 + k by omega), if_neg (show ¬ 245 = k by omega)]) ⟨by show _ = v1 212; rw [hv 212, if_neg (show ¬ 212 = 82 + k by omega), if_neg (show ¬ 212 = k by omega)]; exact t0_0, by show _ = v1 213; rw [hv 213, if_neg (show ¬ 213 = 82 + k by omega), if_neg (show ¬ 213 = k by omega)]; exact t0_1, by show _ = v1 215; rw [hv 215, if_neg (show ¬ 215 = 82 + k by omega), if_neg (show ¬ 215 = k by omega)]; exact t0_3, by show _ = v1 216; rw [hv 216, if_neg (show ¬ 216 = 82 + k by omega), if_neg (show ¬ 216 = k by omega)]; exact t0_4, by show _ = v1 217; rw [hv 217, if_neg (show ¬ 217 = 82 + k by omega), if_neg (show ¬ 217 = k by omega)]; exact t0_5, by show _ = v1 218; rw [hv 218, if_neg (show ¬ 218 = 82 + k by omega), if_neg (show ¬ 218 = k by omega)]; exact t0_6, by show _ = v1 219; rw [hv 219, if_neg (show ¬ 219 = 82 + k by omega), if_neg (show ¬ 219 = k by omega)]; exact t0_7, M0, MS_ext2 hMS0 (by show v1 214 = vs 214; rw [hv 214, if_neg (show ¬ 214 = 82 + k by omega), if_neg (show ¬ 214 = k by omega)]) (fun i a b => by rw [hv i, if_neg (show ¬ i = 82 + k by unfold tO at *; omega), if_neg (show ¬ i = k by unfold tO at *; omega)])⟩ ⟨by show _ = v1 228; rw [hv 228, if_neg (show ¬ 228 = 82 + k by omega), if_neg (show ¬ 228 = k by omega)]; exact t1_0, by show _ = v1 229; rw [hv 229, if_neg (show ¬ 229 = 82 + k by omega), if_neg (show ¬ 229 = k by omega)]; exact t1_1, by show _ = v1 231; rw [hv 231, if_neg (show ¬ 231 = 82 + k by omega), if_neg (show ¬ 231 = k by omega)]; exact t1_3, by show _ = v1 232; rw [hv 232, if_neg (show ¬ 232 = 82 + k by omega), if_neg (show ¬ 232 = k by omega)]; exact t1_4, by show _ = v1 233; rw [hv 233, if_neg (show ¬ 233 = 82 + k by omega), if_neg (show ¬ 233 = k by omega)]; exact t1_5, by show _ = v1 234; rw [hv 234, if_neg (show ¬ 234 = 82 + k by omega), if_neg (show ¬ 234 = k by omega)]; exact t1_6, by show _ = v1 235; rw [hv 235, if_neg (show ¬ 235 = 82 + k by omega), if_neg (show ¬ 235 = k by omega)]; exact t1_7, M1, MS_ext2 hMS1 (by show v1 230 = vs 230; rw [hv 230, if_neg (show ¬ 230 = 82 + k by omega), if_neg (show ¬ 230 = k by omega)]) (fun i a b => by rw [hv i, if_neg (show ¬ i = 82 + k by unfold tO at *; omega), if_neg (show ¬ i = k by unfold tO at *; omega)])⟩ ?_
  · rw [hv i]
    by_cases z : i = k
    · (rw [if_pos z, if_neg (show ¬ i = 82 + k by omega), if_pos z])
    · (rw [if_neg z, if_neg z])
  · exact PB_le (PB_ext h.2.2.2.2.2.2 (by rw [hv, if_neg (show ¬ 244 = 82 + k by omega), if_neg (show ¬ 244 = k by omega)]) (by rw [hv, if_neg (show ¬ 212 = 82 + k by omega), if_neg (show ¬ 212 = k by omega)]) (by rw [hv, if_neg (show ¬ 228 = 82 + k by omega), if_neg (show ¬ 228 = k by omega)])) (by omega)
theorem right_GR0 {nx : Int32} {tn : Int32} {gn : Int64} {ac : Int64} {dn : Int64} {fs : Nat → Int32} {fm : Nat → Int32} {mks0 : Int32} {pts0 : Int32} {ths0 : Int32} {rgs0 : Int32} {rgc0 : Int32} {fnd0 : Int32} {rdb0 : Int32} {wdb0 : Int32} {fma0 : Nat → Int32} {mks1 : Int32} {pts1 : Int32} {ths1 : Int32} {rgs1 : Int32} {rgc1 : Int32} {fnd1 : Int32} {rdb1 : Int32} {wdb1 : Int32} {fma1 : Nat → Int32} {vs v1 : Nat → Int32} {k : Nat} (h : GRk 0 nx tn gn ac dn fs fm mks0 pts0 ths0 rgs0 rgc0 fnd0 rdb0 wdb0 fma0 mks1 pts1 ths1 rgs1 rgc1 fnd1 rdb1 wdb1 fma1 vs) (hk : k < 82) (hd : ¬ vd vs k) (hv : ∀ i, v1 i = if i = 218 then rdb0 + 1 else if i = 212 then pts0 + 2 else if i = k then 1 else if i = 82 + k then -6 else vs i) : GRk 60 nx tn gn (if k < 42 then mkB 1 k ac else ac) (if k < 42 then dn else mkB 1 k dn) (upd fs k 1) (upd fm k (-6)) mks0 (pts0 + 2) ths0 rgs0 rgc0 fnd0 (rdb0 + 1) wdb0 fma0 mks1 pts1 ths1 rgs1 rgc1 fnd1 rdb1 wdb1 fma1 v1 := by
  obtain ⟨t0_0, t0_1, t0_3, t0_4, t0_5, t0_6, t0_7, M0, hMS0⟩ := h.2.2.2.2.1
  obtain ⟨t1_0, t1_1, t1_3, t1_4, t1_5, t1_6, t1_7, M1, hMS1⟩ := h.2.2.2.2.2.1
  refine cloth_GR h hk hd (fun i hi => ?_) (by rw [hv, if_neg (show ¬ 244 = 218 by decide), if_neg (show ¬ 244 = 212 by decide), if_neg (show ¬ 244 = k by omega), if_neg (show ¬ 244 = 82 + k by omega)]) (by rw [hv, if_neg (show ¬ 245 = 218 by decide), if_neg (show ¬ 245 = 212 by decide), if_neg (show ¬ 245 = k by omega), if_neg (show ¬ 245 = 82 + k by omega)]) ⟨by show _ = v1 212; rw [hv 212, if_neg (show ¬ 212 = 218 by decide), if_pos rfl], by show _ = v1 213; rw [hv 213, if_neg (show ¬ 213 = 218 by decide), if_neg (show ¬ 213 = 212 by decide), if_neg (show ¬ 213 = k by omega), if_neg (show ¬ 213 = 82 + k by omega)]; exact t0_1, by show _ = v1 215; rw [hv 215, if_neg (show ¬ 215 = 218 by decide), if_neg (show ¬ 215 = 212 by decide), if_neg (show ¬ 215 = k by omega), if_neg (show ¬ 215 = 82 + k by omega)]; exact t0_3, by show _ = v1 216; rw [hv 216, if_neg (show ¬ 216 = 218 by decide), if_neg (show ¬ 216 = 212 by decide), if_neg (show ¬ 216 = k by omega), if_neg (show ¬ 216 = 82 + k by omega)]; exact t0_4, by show _ = v1 217; rw [hv 217, if_neg (show ¬ 217 = 218 by decide), if_neg (show ¬ 217 = 212 by decide), if_neg (show ¬ 217 = k by omega), if_neg (show ¬ 217 = 82 + k by omega)]; exact t0_5, by show _ = v1 218; rw [hv 218, if_pos rfl], by show _ = v1 219; rw [hv 219, if_neg (show ¬ 219 = 218 by decide), if_neg (show ¬ 219 = 212 by decide), if_neg (show ¬ 219 = k by omega), if_neg (show ¬ 219 = 82 + k by omega)]; exact t0_7, M0, MS_ext2 hMS0 (by show v1 214 = vs 214; rw [hv 214, if_neg (show ¬ 214 = 218 by decide), if_neg (show ¬ 214 = 212 by decide), if_neg (show ¬ 214 = k by omega), if_neg (show ¬ 214 = 82 + k by omega)]) (fun i a b => by rw [hv i, if_neg (show ¬ i = 218 by unfold tO at *; omega), if_neg (show ¬ i = 212 by unfold tO at *; omega), if_neg (show ¬ i = k by unfold tO at *; omega), if_neg (show ¬ i = 82 + k by unfold tO at *; omega)])⟩ ⟨by show _ = v1 228; rw [hv 228, if_neg (show ¬ 228 = 218 by decide), if_neg (show ¬ 228 = 212 by decide), if_neg (show ¬ 228 = k by omega), if_neg (show ¬ 228 = 82 + k by omega)]; exact t1_0, by show _ = v1 229; rw [hv 229, if_neg (show ¬ 229 = 218 by decide), if_neg (show ¬ 229 = 212 by decide), if_neg (show ¬ 229 = k by omega), if_neg (show ¬ 229 = 82 + k by omega)]; exact t1_1, by show _ = v1 231; rw [hv 231, if_neg (show ¬ 231 = 218 by decide), if_neg (show ¬ 231 = 212 by decide), if_neg (show ¬ 231 = k by omega), if_neg (show ¬ 231 = 82 + k by omega)]; exact t1_3, by show _ = v1 232; rw [hv 232, if_neg (show ¬ 232 = 218 by decide), if_neg (show ¬ 232 = 212 by decide), if_neg (show ¬ 232 = k by omega), if_neg (show ¬ 232 = 82 + k by omega)]; exact t1_4, by show _ = v1 233; rw [hv 233, if_neg (show ¬ 233 = 218 by decide), if_neg (show ¬ 233 = 212 by decide), if_neg (show ¬ 233 = k by omega), if_neg (show ¬ 233 = 82 + k by omega)]; exact t1_5, by show _ = v1 234; rw [hv 234, if_neg (show ¬ 234 = 218 by decide), if_neg (show ¬ 234 = 212 by decide), if_neg (show ¬ 234 = k by omega), if_neg (show ¬ 234 = 82 + k by omega)]; exact t1_6, by show _ = v1 235; rw [hv 235, if_neg (show ¬ 235 = 218 by decide), if_neg (show ¬ 235 = 212 by decide), if_neg (show ¬ 235 = k by omega), if_neg (show ¬ 235 = 82 + k by omega)]; exact t1_7, M1, MS_ext2 hMS1 (by show v1 230 = vs 230; rw [hv 230, if_neg (show ¬ 230 = 218 by decide), if_neg (show ¬ 230 = 212 by decide), if_neg (show ¬ 230 = k by omega), if_neg (show ¬ 230 = 82 + k by omega)]) (fun i a b => by rw [hv i, if_neg (show ¬ i = 218 by unfold tO at *; omega), if_neg (show ¬ i = 212 by unfold tO at *; omega), if_neg (show ¬ i = k by unfold tO at *; omega), if_neg (show ¬ i = 82 + k by unfold tO at *; omega)])⟩ ?_
  · rw [hv i, if_neg (show ¬ i = 218 by omega), if_neg (show ¬ i = 212 by omega)]
  · have := PB_chg (e := 0) (f := 60) (d0 := 2) (d1 := 0) (v1 := v1) h.2.2.2.2.2.2 (by omega) (by omega) (by rw [hv, if_neg (show ¬ 244 = 218 by decide), if_neg (show ¬ 244 = 212 by decide), if_neg (show ¬ 244 = k by omega), if_neg (show ¬ 244 = 82 + k by omega)]) (by rw [hv, if_neg (show ¬ 212 = 218 by decide), if_pos rfl]; exact congrArg (fun z => z + (2 : Int32)) t0_0) (by rw [hv, if_neg (show ¬ 228 = 218 by decide), if_neg (show ¬ 228 = 212 by decide), if_neg (show ¬ 228 = k by omega), if_neg (show ¬ 228 = 82 + k by omega)]; exact (Int32.add_zero _).symm) (by decide) (by decide)
    exact this
theorem wrong_GR0 {nx : Int32} {tn : Int32} {gn : Int64} {ac : Int64} {dn : Int64} {fs : Nat → Int32} {fm : Nat → Int32} {mks0 : Int32} {pts0 : Int32} {ths0 : Int32} {rgs0 : Int32} {rgc0 : Int32} {fnd0 : Int32} {rdb0 : Int32} {wdb0 : Int32} {fma0 : Nat → Int32} {mks1 : Int32} {pts1 : Int32} {ths1 : Int32} {rgs1 : Int32} {rgc1 : Int32} {fnd1 : Int32} {rdb1 : Int32} {wdb1 : Int32} {fma1 : Nat → Int32} {vs v1 : Nat → Int32} {k : Nat} (h : GRk 0 nx tn gn ac dn fs fm mks0 pts0 ths0 rgs0 rgc0 fnd0 rdb0 wdb0 fma0 mks1 pts1 ths1 rgs1 rgc1 fnd1 rdb1 wdb1 fma1 vs) (hk : k < 82) (hd : ¬ vd vs k) (hv : ∀ i, v1 i = if i = 219 then wdb0 + 1 else if i = 212 then pts0 + (-2) else if i = k then 2 else if i = 82 + k then -6 else vs i) : GRk 60 nx tn gn (if k < 42 then mkB 2 k ac else ac) (if k < 42 then dn else mkB 2 k dn) (upd fs k 2) (upd fm k (-6)) mks0 (pts0 + (-2)) ths0 rgs0 rgc0 fnd0 rdb0 (wdb0 + 1) fma0 mks1 pts1 ths1 rgs1 rgc1 fnd1 rdb1 wdb1 fma1 v1 := by
  obtain ⟨t0_0, t0_1, t0_3, t0_4, t0_5, t0_6, t0_7, M0, hMS0⟩ := h.2.2.2.2.1
  obtain ⟨t1_0, t1_1, t1_3, t1_4, t1_5, t1_6, t1_7, M1, hMS1⟩ := h.2.2.2.2.2.1
  refine cloth_GR h hk hd (fun i hi => ?_) (by rw [hv, if_neg (show ¬ 244 = 219 by decide), if_neg (show ¬ 244 = 212 by decide), if_neg (show ¬ 244 = k by omega), if_neg (show ¬ 244 = 82 + k by omega)]) (by rw [hv, if_neg (show ¬ 245 = 219 by decide), if_neg (show ¬ 245 = 212 by decide), if_neg (show ¬ 245 = k by omega), if_neg (show ¬ 245 = 82 + k by omega)]) ⟨by show _ = v1 212; rw [hv 212, if_neg (show ¬ 212 = 219 by decide), if_pos rfl], by show _ = v1 213; rw [hv 213, if_neg (show ¬ 213 = 219 by decide), if_neg (show ¬ 213 = 212 by decide), if_neg (show ¬ 213 = k by omega), if_neg (show ¬ 213 = 82 + k by omega)]; exact t0_1, by show _ = v1 215; rw [hv 215, if_neg (show ¬ 215 = 219 by decide), if_neg (show ¬ 215 = 212 by decide), if_neg (show ¬ 215 = k by omega), if_neg (show ¬ 215 = 82 + k by omega)]; exact t0_3, by show _ = v1 216; rw [hv 216, if_neg (show ¬ 216 = 219 by decide), if_neg (show ¬ 216 = 212 by decide), if_neg (show ¬ 216 = k by omega), if_neg (show ¬ 216 = 82 + k by omega)]; exact t0_4, by show _ = v1 217; rw [hv 217, if_neg (show ¬ 217 = 219 by decide), if_neg (show ¬ 217 = 212 by decide), if_neg (show ¬ 217 = k by omega), if_neg (show ¬ 217 = 82 + k by omega)]; exact t0_5, by show _ = v1 218; rw [hv 218, if_neg (show ¬ 218 = 219 by decide), if_neg (show ¬ 218 = 212 by decide), if_neg (show ¬ 218 = k by omega), if_neg (show ¬ 218 = 82 + k by omega)]; exact t0_6, by show _ = v1 219; rw [hv 219, if_pos rfl], M0, MS_ext2 hMS0 (by show v1 214 = vs 214; rw [hv 214, if_neg (show ¬ 214 = 219 by decide), if_neg (show ¬ 214 = 212 by decide), if_neg (show ¬ 214 = k by omega), if_neg (show ¬ 214 = 82 + k by omega)]) (fun i a b => by rw [hv i, if_neg (show ¬ i = 219 by unfold tO at *; omega), if_neg (show ¬ i = 212 by unfold tO at *; omega), if_neg (show ¬ i = k by unfold tO at *; omega), if_neg (show ¬ i = 82 + k by unfold tO at *; omega)])⟩ ⟨by show _ = v1 228; rw [hv 228, if_neg (show ¬ 228 = 219 by decide), if_neg (show ¬ 228 = 212 by decide), if_neg (show ¬ 228 = k by omega), if_neg (show ¬ 228 = 82 + k by omega)]; exact t1_0, by show _ = v1 229; rw [hv 229, if_neg (show ¬ 229 = 219 by decide), if_neg (show ¬ 229 = 212 by decide), if_neg (show ¬ 229 = k by omega), if_neg (show ¬ 229 = 82 + k by omega)]; exact t1_1, by show _ = v1 231; rw [hv 231, if_neg (show ¬ 231 = 219 by decide), if_neg (show ¬ 231 = 212 by decide), if_neg (show ¬ 231 = k by omega), if_neg (show ¬ 231 = 82 + k by omega)]; exact t1_3, by show _ = v1 232; rw [hv 232, if_neg (show ¬ 232 = 219 by decide), if_neg (show ¬ 232 = 212 by decide), if_neg (show ¬ 232 = k by omega), if_neg (show ¬ 232 = 82 + k by omega)]; exact t1_4, by show _ = v1 233; rw [hv 233, if_neg (show ¬ 233 = 219 by decide), if_neg (show ¬ 233 = 212 by decide), if_neg (show ¬ 233 = k by omega), if_neg (show ¬ 233 = 82 + k by omega)]; exact t1_5, by show _ = v1 234; rw [hv 234, if_neg (show ¬ 234 = 219 by decide), if_neg (show ¬ 234 = 212 by decide), if_neg (show ¬ 234 = k by omega), if_neg (show ¬ 234 = 82 + k by omega)]; exact t1_6, by show _ = v1 235; rw [hv 235, if_neg (show ¬ 235 = 219 by decide), if_neg (show ¬ 235 = 212 by decide), if_neg (show ¬ 235 = k by omega), if_neg (show ¬ 235 = 82 + k by omega)]; exact t1_7, M1, MS_ext2 hMS1 (by show v1 230 = vs 230; rw [hv 230, if_neg (show ¬ 230 = 219 by decide), if_neg (show ¬ 230 = 212 by decide), if_neg (show ¬ 230 = k by omega), if_neg (show ¬ 230 = 82 + k by omega)]) (fun i a b => by rw [hv i, if_neg (show ¬ i = 219 by unfold tO at *; omega), if_neg (show ¬ i = 212 by unfold tO at *; omega), if_neg (show ¬ i = k by unfold tO at *; omega), if_neg (show ¬ i = 82 + k by unfold tO at *; omega)])⟩ ?_
  · rw [hv i, if_neg (show ¬ i = 219 by omega), if_neg (show ¬ i = 212 by omega)]
  · have := PB_chg (e := 0) (f := 60) (d0 := -2) (d1 := 0) (v1 := v1) h.2.2.2.2.2.2 (by omega) (by omega) (by rw [hv, if_neg (show ¬ 244 = 219 by decide), if_neg (show ¬ 244 = 212 by decide), if_neg (show ¬ 244 = k by omega), if_neg (show ¬ 244 = 82 + k by omega)]) (by rw [hv, if_neg (show ¬ 212 = 219 by decide), if_pos rfl]; exact congrArg (fun z => z + (-2 : Int32)) t0_0) (by rw [hv, if_neg (show ¬ 228 = 219 by decide), if_neg (show ¬ 228 = 212 by decide), if_neg (show ¬ 228 = k by omega), if_neg (show ¬ 228 = 82 + k by omega)]; exact (Int32.add_zero _).symm) (by decide) (by decide)
    exact this
theorem right_GR1 {nx : Int32} {tn : Int32} {gn : Int64} {ac : Int64} {dn : Int64} {fs : Nat → Int32} {fm : Nat → Int32} {mks0 : Int32} {pts0 : Int32} {ths0 : Int32} {rgs0 : Int32} {rgc0 : Int32} {fnd0 : Int32} {rdb0 : Int32} {wdb0 : Int32} {fma0 : Nat → Int32} {mks1 : Int32} {pts1 : Int32} {ths1 : Int32} {rgs1 : Int32} {rgc1 : Int32} {fnd1 : Int32} {rdb1 : Int32} {wdb1 : Int32} {fma1 : Nat → Int32} {vs v1 : Nat → Int32} {k : Nat} (h : GRk 0 nx tn gn ac dn fs fm mks0 pts0 ths0 rgs0 rgc0 fnd0 rdb0 wdb0 fma0 mks1 pts1 ths1 rgs1 rgc1 fnd1 rdb1 wdb1 fma1 vs) (hk : k < 82) (hd : ¬ vd vs k) (hv : ∀ i, v1 i = if i = 234 then rdb1 + 1 else if i = 228 then pts1 + 2 else if i = k then 1 else if i = 82 + k then -6 else vs i) : GRk 60 nx tn gn (if k < 42 then mkB 1 k ac else ac) (if k < 42 then dn else mkB 1 k dn) (upd fs k 1) (upd fm k (-6)) mks0 pts0 ths0 rgs0 rgc0 fnd0 rdb0 wdb0 fma0 mks1 (pts1 + 2) ths1 rgs1 rgc1 fnd1 (rdb1 + 1) wdb1 fma1 v1 := by
  obtain ⟨t0_0, t0_1, t0_3, t0_4, t0_5, t0_6, t0_7, M0, hMS0⟩ := h.2.2.2.2.1
  obtain ⟨t1_0, t1_1, t1_3, t1_4, t1_5, t1_6, t1_7, M1, hMS1⟩ := h.2.2.2.2.2.1
  refine cloth_GR h hk hd (fun i hi => ?_) (by rw [hv, if_neg (show ¬ 244 = 234 by decide), if_neg (show ¬ 244 = 228 by decide), if_neg (show ¬ 244 = k by omega), if_neg (show ¬ 244 = 82 + k by omega)]) (by rw [hv, if_neg (show ¬ 245 = 234 by decide), if_neg (show ¬ 245 = 228 by decide), if_neg (show ¬ 245 = k by omega), if_neg (show ¬ 245 = 82 + k by omega)]) ⟨by show _ = v1 212; rw [hv 212, if_neg (show ¬ 212 = 234 by decide), if_neg (show ¬ 212 = 228 by decide), if_neg (show ¬ 212 = k by omega), if_neg (show ¬ 212 = 82 + k by omega)]; exact t0_0, by show _ = v1 213; rw [hv 213, if_neg (show ¬ 213 = 234 by decide), if_neg (show ¬ 213 = 228 by decide), if_neg (show ¬ 213 = k by omega), if_neg (show ¬ 213 = 82 + k by omega)]; exact t0_1, by show _ = v1 215; rw [hv 215, if_neg (show ¬ 215 = 234 by decide), if_neg (show ¬ 215 = 228 by decide), if_neg (show ¬ 215 = k by omega), if_neg (show ¬ 215 = 82 + k by omega)]; exact t0_3, by show _ = v1 216; rw [hv 216, if_neg (show ¬ 216 = 234 by decide), if_neg (show ¬ 216 = 228 by decide), if_neg (show ¬ 216 = k by omega), if_neg (show ¬ 216 = 82 + k by omega)]; exact t0_4, by show _ = v1 217; rw [hv 217, if_neg (show ¬ 217 = 234 by decide), if_neg (show ¬ 217 = 228 by decide), if_neg (show ¬ 217 = k by omega), if_neg (show ¬ 217 = 82 + k by omega)]; exact t0_5, by show _ = v1 218; rw [hv 218, if_neg (show ¬ 218 = 234 by decide), if_neg (show ¬ 218 = 228 by decide), if_neg (show ¬ 218 = k by omega), if_neg (show ¬ 218 = 82 + k by omega)]; exact t0_6, by show _ = v1 219; rw [hv 219, if_neg (show ¬ 219 = 234 by decide), if_neg (show ¬ 219 = 228 by decide), if_neg (show ¬ 219 = k by omega), if_neg (show ¬ 219 = 82 + k by omega)]; exact t0_7, M0, MS_ext2 hMS0 (by show v1 214 = vs 214; rw [hv 214, if_neg (show ¬ 214 = 234 by decide), if_neg (show ¬ 214 = 228 by decide), if_neg (show ¬ 214 = k by omega), if_neg (show ¬ 214 = 82 + k by omega)]) (fun i a b => by rw [hv i, if_neg (show ¬ i = 234 by unfold tO at *; omega), if_neg (show ¬ i = 228 by unfold tO at *; omega), if_neg (show ¬ i = k by unfold tO at *; omega), if_neg (show ¬ i = 82 + k by unfold tO at *; omega)])⟩ ⟨by show _ = v1 228; rw [hv 228, if_neg (show ¬ 228 = 234 by decide), if_pos rfl], by show _ = v1 229; rw [hv 229, if_neg (show ¬ 229 = 234 by decide), if_neg (show ¬ 229 = 228 by decide), if_neg (show ¬ 229 = k by omega), if_neg (show ¬ 229 = 82 + k by omega)]; exact t1_1, by show _ = v1 231; rw [hv 231, if_neg (show ¬ 231 = 234 by decide), if_neg (show ¬ 231 = 228 by decide), if_neg (show ¬ 231 = k by omega), if_neg (show ¬ 231 = 82 + k by omega)]; exact t1_3, by show _ = v1 232; rw [hv 232, if_neg (show ¬ 232 = 234 by decide), if_neg (show ¬ 232 = 228 by decide), if_neg (show ¬ 232 = k by omega), if_neg (show ¬ 232 = 82 + k by omega)]; exact t1_4, by show _ = v1 233; rw [hv 233, if_neg (show ¬ 233 = 234 by decide), if_neg (show ¬ 233 = 228 by decide), if_neg (show ¬ 233 = k by omega), if_neg (show ¬ 233 = 82 + k by omega)]; exact t1_5, by show _ = v1 234; rw [hv 234, if_pos rfl], by show _ = v1 235; rw [hv 235, if_neg (show ¬ 235 = 234 by decide), if_neg (show ¬ 235 = 228 by decide), if_neg (show ¬ 235 = k by omega), if_neg (show ¬ 235 = 82 + k by omega)]; exact t1_7, M1, MS_ext2 hMS1 (by show v1 230 = vs 230; rw [hv 230, if_neg (show ¬ 230 = 234 by decide), if_neg (show ¬ 230 = 228 by decide), if_neg (show ¬ 230 = k by omega), if_neg (show ¬ 230 = 82 + k by omega)]) (fun i a b => by rw [hv i, if_neg (show ¬ i = 234 by unfold tO at *; omega), if_neg (show ¬ i = 228 by unfold tO at *; omega), if_neg (show ¬ i = k by unfold tO at *; omega), if_neg (show ¬ i = 82 + k by unfold tO at *; omega)])⟩ ?_
  · rw [hv i, if_neg (show ¬ i = 234 by omega), if_neg (show ¬ i = 228 by omega)]
  · have := PB_chg (e := 0) (f := 60) (d1 := 2) (d0 := 0) (v1 := v1) h.2.2.2.2.2.2 (by omega) (by omega) (by rw [hv, if_neg (show ¬ 244 = 234 by decide), if_neg (show ¬ 244 = 228 by decide), if_neg (show ¬ 244 = k by omega), if_neg (show ¬ 244 = 82 + k by omega)]) (by rw [hv, if_neg (show ¬ 212 = 234 by decide), if_neg (show ¬ 212 = 228 by decide), if_neg (show ¬ 212 = k by omega), if_neg (show ¬ 212 = 82 + k by omega)]; exact (Int32.add_zero _).symm) (by rw [hv, if_neg (show ¬ 228 = 234 by decide), if_pos rfl]; exact congrArg (fun z => z + (2 : Int32)) t1_0) (by decide) (by decide)
    exact this
theorem wrong_GR1 {nx : Int32} {tn : Int32} {gn : Int64} {ac : Int64} {dn : Int64} {fs : Nat → Int32} {fm : Nat → Int32} {mks0 : Int32} {pts0 : Int32} {ths0 : Int32} {rgs0 : Int32} {rgc0 : Int32} {fnd0 : Int32} {rdb0 : Int32} {wdb0 : Int32} {fma0 : Nat → Int32} {mks1 : Int32} {pts1 : Int32} {ths1 : Int32} {rgs1 : Int32} {rgc1 : Int32} {fnd1 : Int32} {rdb1 : Int32} {wdb1 : Int32} {fma1 : Nat → Int32} {vs v1 : Nat → Int32} {k : Nat} (h : GRk 0 nx tn gn ac dn fs fm mks0 pts0 ths0 rgs0 rgc0 fnd0 rdb0 wdb0 fma0 mks1 pts1 ths1 rgs1 rgc1 fnd1 rdb1 wdb1 fma1 vs) (hk : k < 82) (hd : ¬ vd vs k) (hv : ∀ i, v1 i = if i = 235 then wdb1 + 1 else if i = 228 then pts1 + (-2) else if i = k then 2 else if i = 82 + k then -6 else vs i) : GRk 60 nx tn gn (if k < 42 then mkB 2 k ac else ac) (if k < 42 then dn else mkB 2 k dn) (upd fs k 2) (upd fm k (-6)) mks0 pts0 ths0 rgs0 rgc0 fnd0 rdb0 wdb0 fma0 mks1 (pts1 + (-2)) ths1 rgs1 rgc1 fnd1 rdb1 (wdb1 + 1) fma1 v1 := by
  obtain ⟨t0_0, t0_1, t0_3, t0_4, t0_5, t0_6, t0_7, M0, hMS0⟩ := h.2.2.2.2.1
  obtain ⟨t1_0, t1_1, t1_3, t1_4, t1_5, t1_6, t1_7, M1, hMS1⟩ := h.2.2.2.2.2.1
  refine cloth_GR h hk hd (fun i hi => ?_) (by rw [hv, if_neg (show ¬ 244 = 235 by decide), if_neg (show ¬ 244 = 228 by decide), if_neg (show ¬ 244 = k by omega), if_neg (show ¬ 244 = 82 + k by omega)]) (by rw [hv, if_neg (show ¬ 245 = 235 by decide), if_neg (show ¬ 245 = 228 by decide), if_neg (show ¬ 245 = k by omega), if_neg (show ¬ 245 = 82 + k by omega)]) ⟨by show _ = v1 212; rw [hv 212, if_neg (show ¬ 212 = 235 by decide), if_neg (show ¬ 212 = 228 by decide), if_neg (show ¬ 212 = k by omega), if_neg (show ¬ 212 = 82 + k by omega)]; exact t0_0, by show _ = v1 213; rw [hv 213, if_neg (show ¬ 213 = 235 by decide), if_neg (show ¬ 213 = 228 by decide), if_neg (show ¬ 213 = k by omega), if_neg (show ¬ 213 = 82 + k by omega)]; exact t0_1, by show _ = v1 215; rw [hv 215, if_neg (show ¬ 215 = 235 by decide), if_neg (show ¬ 215 = 228 by decide), if_neg (show ¬ 215 = k by omega), if_neg (show ¬ 215 = 82 + k by omega)]; exact t0_3, by show _ = v1 216; rw [hv 216, if_neg (show ¬ 216 = 235 by decide), if_neg (show ¬ 216 = 228 by decide), if_neg (show ¬ 216 = k by omega), if_neg (show ¬ 216 = 82 + k by omega)]; exact t0_4, by show _ = v1 217; rw [hv 217, if_neg (show ¬ 217 = 235 by decide), if_neg (show ¬ 217 = 228 by decide), if_neg (show ¬ 217 = k by omega), if_neg (show ¬ 217 = 82 + k by omega)]; exact t0_5, by show _ = v1 218; rw [hv 218, if_neg (show ¬ 218 = 235 by decide), if_neg (show ¬ 218 = 228 by decide), if_neg (show ¬ 218 = k by omega), if_neg (show ¬ 218 = 82 + k by omega)]; exact t0_6, by show _ = v1 219; rw [hv 219, if_neg (show ¬ 219 = 235 by decide), if_neg (show ¬ 219 = 228 by decide), if_neg (show ¬ 219 = k by omega), if_neg (show ¬ 219 = 82 + k by omega)]; exact t0_7, M0, MS_ext2 hMS0 (by show v1 214 = vs 214; rw [hv 214, if_neg (show ¬ 214 = 235 by decide), if_neg (show ¬ 214 = 228 by decide), if_neg (show ¬ 214 = k by omega), if_neg (show ¬ 214 = 82 + k by omega)]) (fun i a b => by rw [hv i, if_neg (show ¬ i = 235 by unfold tO at *; omega), if_neg (show ¬ i = 228 by unfold tO at *; omega), if_neg (show ¬ i = k by unfold tO at *; omega), if_neg (show ¬ i = 82 + k by unfold tO at *; omega)])⟩ ⟨by show _ = v1 228; rw [hv 228, if_neg (show ¬ 228 = 235 by decide), if_pos rfl], by show _ = v1 229; rw [hv 229, if_neg (show ¬ 229 = 235 by decide), if_neg (show ¬ 229 = 228 by decide), if_neg (show ¬ 229 = k by omega), if_neg (show ¬ 229 = 82 + k by omega)]; exact t1_1, by show _ = v1 231; rw [hv 231, if_neg (show ¬ 231 = 235 by decide), if_neg (show ¬ 231 = 228 by decide), if_neg (show ¬ 231 = k by omega), if_neg (show ¬ 231 = 82 + k by omega)]; exact t1_3, by show _ = v1 232; rw [hv 232, if_neg (show ¬ 232 = 235 by decide), if_neg (show ¬ 232 = 228 by decide), if_neg (show ¬ 232 = k by omega), if_neg (show ¬ 232 = 82 + k by omega)]; exact t1_4, by show _ = v1 233; rw [hv 233, if_neg (show ¬ 233 = 235 by decide), if_neg (show ¬ 233 = 228 by decide), if_neg (show ¬ 233 = k by omega), if_neg (show ¬ 233 = 82 + k by omega)]; exact t1_5, by show _ = v1 234; rw [hv 234, if_neg (show ¬ 234 = 235 by decide), if_neg (show ¬ 234 = 228 by decide), if_neg (show ¬ 234 = k by omega), if_neg (show ¬ 234 = 82 + k by omega)]; exact t1_6, by show _ = v1 235; rw [hv 235, if_pos rfl], M1, MS_ext2 hMS1 (by show v1 230 = vs 230; rw [hv 230, if_neg (show ¬ 230 = 235 by decide), if_neg (show ¬ 230 = 228 by decide), if_neg (show ¬ 230 = k by omega), if_neg (show ¬ 230 = 82 + k by omega)]) (fun i a b => by rw [hv i, if_neg (show ¬ i = 235 by unfold tO at *; omega), if_neg (show ¬ i = 228 by unfold tO at *; omega), if_neg (show ¬ i = k by unfold tO at *; omega), if_neg (show ¬ i = 82 + k by unfold tO at *; omega)])⟩ ?_
  · rw [hv i, if_neg (show ¬ i = 235 by omega), if_neg (show ¬ i = 228 by omega)]
  · have := PB_chg (e := 0) (f := 60) (d1 := -2) (d0 := 0) (v1 := v1) h.2.2.2.2.2.2 (by omega) (by omega) (by rw [hv, if_neg (show ¬ 244 = 235 by decide), if_neg (show ¬ 244 = 228 by decide), if_neg (show ¬ 244 = k by omega), if_neg (show ¬ 244 = 82 + k by omega)]) (by rw [hv, if_neg (show ¬ 212 = 235 by decide), if_neg (show ¬ 212 = 228 by decide), if_neg (show ¬ 212 = k by omega), if_neg (show ¬ 212 = 82 + k by omega)]; exact (Int32.add_zero _).symm) (by rw [hv, if_neg (show ¬ 228 = 235 by decide), if_pos rfl]; exact congrArg (fun z => z + (-2 : Int32)) t1_0) (by decide) (by decide)
    exact this
set_option maxHeartbeats 4000000 in
theorem sim_sew {nx : Int32} {tn : Int32} {gn : Int64} {ac : Int64} {dn : Int64} {fs : Nat → Int32} {fm : Nat → Int32} {mks0 : Int32} {pts0 : Int32} {ths0 : Int32} {rgs0 : Int32} {rgc0 : Int32} {fnd0 : Int32} {rdb0 : Int32} {wdb0 : Int32} {fma0 : Nat → Int32} {mks1 : Int32} {pts1 : Int32} {ths1 : Int32} {rgs1 : Int32} {rgc1 : Int32} {fnd1 : Int32} {rdb1 : Int32} {wdb1 : Int32} {fma1 : Nat → Int32} {vs vlb : Nat → Int32} (h : GRk 0 nx tn gn ac dn fs fm mks0 pts0 ths0 rgs0 rgc0 fnd0 rdb0 wdb0 fma0 mks1 pts1 ths1 rgs1 rgc1 fnd1 rdb1 wdb1 fma1 vs) (j : Int32) : SIM (F_Game_obey 119 j nx tn gn ac dn fs fm mks0 pts0 ths0 rgs0 rgc0 fnd0 rdb0 wdb0 fma0 mks1 pts1 ths1 rgs1 rgc1 fnd1 rdb1 wdb1 fma1) (F_Model_does 119 j vs vlb) := by
  have d10 : ¬ (1 : Int32) = 0 := by decide
  have d50 : ¬ (-5 : Int32) = 0 := by decide
  have em : F_Model_does 119 j vs vlb = ((F_Model_sews j vs).1, (F_Model_sews j vs).2, vlb) := by
    unfold F_Model_does
    rw [if_neg (show ¬ (119 : Int32) = 98 by decide), if_neg (show ¬ (119 : Int32) = 99 by decide), if_neg (show ¬ (119 : Int32) = 100 by decide), if_neg (show ¬ (119 : Int32) = 115 by decide), if_pos rfl]
    rfl
  rw [em]
  unfold F_Game_obey F_Model_sews
  rw [if_neg (show ¬ (119 : Int32) = 112 by decide)]
  dsimp only [bnd]
  by_cases hj : vp_in j 82
  · obtain ⟨k, hk, rfl⟩ := vp_in_of hj (by decide)
    have t := j_tab ⟨k, hk⟩
    dsimp only at t
    rw [t.2.2.2.2.2.2.2.1, t.2.2.2.2.2.2.2.2, if_neg d10, if_neg d10, if_neg (show ¬ (119 : Int32) = 98 by decide), if_neg (show ¬ (119 : Int32) = 99 by decide), if_neg (show ¬ (119 : Int32) = 100 by decide), if_neg (show ¬ (119 : Int32) = 115 by decide), if_pos rfl, cover h.1 h.2.2.1]
    unfold F_Game_sewJoint
    dsimp only [bnd]
    by_cases c1 : F_Model_isOver vs = 0
    · rw [if_pos c1, cvoid h.1 hk, n245, mj0 hk, mj82 hk]
      by_cases c2 : F_Model_isVoid (nI k) vs = 0
      · rw [if_pos c2]
        by_cases c3 : vs k = 1
        · rw [cut_1 hk c1 c2 c3, if_neg d10]
          rcases h.2.2.2.1 with e | e
          · obtain rfl : nx = 0 := h.2.1.trans e
            have a1 : F_Model_at 0 1 = nI 213 := by decide +kernel
            have eth : ths0 = vs 213 := h.2.2.2.2.1.2.1
            rw [if_pos rfl, cstate h.1 hk, if_pos c3, e, a1, nI_clamp (by omega)]
            by_cases c4 : vs 213 = 0
            · rw [if_pos (eth.trans c4), if_pos c4]; exact ⟨rfl, h⟩
            · have w : upd (upd vs k 2) (82 + k) 0 213 = ths0 := by
                rw [pk_un (j := 213) (k := 82 + k) (by omega), pk_un (j := 213) (k := k) (by omega)]; exact eth.symm
              rw [if_neg (fun z => c4 (eth.symm.trans z)), if_neg c4, make_f hk, w]
              have hg := sew_GR0 (v1 := upd (upd (upd vs k 2) (82 + k) 0) 213 (ths0 - 1)) h hk ((mvoid hk).mp c2) (fun i => rfl)
              refine ⟨?_, ends_GR (upd (upd (upd vs k 2) (82 + k) 0) 213 (ths0 - 1) 213) hg ?_⟩
              · show ths0 - 1 = upd (upd (upd vs k 2) (82 + k) 0) 213 (ths0 - 1) 213
                rw [pk_us]
              · rw [pk_un (j := 244) (k := 213) (by omega), pk_un (j := 244) (k := 82 + k) (by omega), pk_un (j := 244) (k := k) (by omega)]; exact over_T c1
          · obtain rfl : nx = 1 := h.2.1.trans e
            have a1 : F_Model_at 1 1 = nI 229 := by decide +kernel
            have eth : ths1 = vs 229 := h.2.2.2.2.2.1.2.1
            rw [if_neg d10, cstate h.1 hk, if_pos c3, e, a1, nI_clamp (by omega)]
            by_cases c4 : vs 229 = 0
            · rw [if_pos (eth.trans c4), if_pos c4]; exact ⟨rfl, h⟩
            · have w : upd (upd vs k 2) (82 + k) 1 229 = ths1 := by
                rw [pk_un (j := 229) (k := 82 + k) (by omega), pk_un (j := 229) (k := k) (by omega)]; exact eth.symm
              rw [if_neg (fun z => c4 (eth.symm.trans z)), if_neg c4, make_f hk, w]
              have hg := sew_GR1 (v1 := upd (upd (upd vs k 2) (82 + k) 1) 229 (ths1 - 1)) h hk ((mvoid hk).mp c2) (fun i => rfl)
              refine ⟨?_, ends_GR (upd (upd (upd vs k 2) (82 + k) 1) 229 (ths1 - 1) 229) hg ?_⟩
              · show ths1 - 1 = upd (upd (upd vs k 2) (82 + k) 1) 229 (ths1 - 1) 229
                rw [pk_us]
              · rw [pk_un (j := 244) (k := 229) (by omega), pk_un (j := 244) (k := 82 + k) (by omega), pk_un (j := 244) (k := k) (by omega)]; exact over_T c1
        · rw [cut_s hk c1 c2 c3, if_pos rfl, cstate h.1 hk, if_neg c3, if_neg c3, ite_self]
          exact ⟨rfl, h⟩
      · rw [if_neg c2, cut_v c1 c2, if_pos rfl]
        exact ⟨rfl, h⟩
    · rw [if_neg c1, cut_o c1, if_pos rfl]; exact ⟨rfl, h⟩
  · obtain ⟨j1, j2⟩ := nj hj
    rw [j1, j2, if_pos rfl, if_pos rfl]
    exact ⟨rfl, h⟩
set_option maxHeartbeats 4000000 in
theorem sim_bluff {nx : Int32} {tn : Int32} {gn : Int64} {ac : Int64} {dn : Int64} {fs : Nat → Int32} {fm : Nat → Int32} {mks0 : Int32} {pts0 : Int32} {ths0 : Int32} {rgs0 : Int32} {rgc0 : Int32} {fnd0 : Int32} {rdb0 : Int32} {wdb0 : Int32} {fma0 : Nat → Int32} {mks1 : Int32} {pts1 : Int32} {ths1 : Int32} {rgs1 : Int32} {rgc1 : Int32} {fnd1 : Int32} {rdb1 : Int32} {wdb1 : Int32} {fma1 : Nat → Int32} {vs vlb : Nat → Int32} (h : GRk 0 nx tn gn ac dn fs fm mks0 pts0 ths0 rgs0 rgc0 fnd0 rdb0 wdb0 fma0 mks1 pts1 ths1 rgs1 rgc1 fnd1 rdb1 wdb1 fma1 vs) (j : Int32) : SIM (F_Game_obey 98 j nx tn gn ac dn fs fm mks0 pts0 ths0 rgs0 rgc0 fnd0 rdb0 wdb0 fma0 mks1 pts1 ths1 rgs1 rgc1 fnd1 rdb1 wdb1 fma1) (F_Model_does 98 j vs vlb) := by
  have d10 : ¬ (1 : Int32) = 0 := by decide
  have d50 : ¬ (-5 : Int32) = 0 := by decide
  have em : F_Model_does 98 j vs vlb = ((F_Model_bluffs j vs).1, (F_Model_bluffs j vs).2, vlb) := by
    unfold F_Model_does
    rw [if_pos rfl]
    rfl
  rw [em]
  unfold F_Game_obey F_Model_bluffs
  rw [if_neg (show ¬ (98 : Int32) = 112 by decide)]
  dsimp only [bnd]
  by_cases hj : vp_in j 82
  · obtain ⟨k, hk, rfl⟩ := vp_in_of hj (by decide)
    have t := j_tab ⟨k, hk⟩
    dsimp only at t
    rw [t.2.2.2.2.2.2.2.1, t.2.2.2.2.2.2.2.2, if_neg d10, if_neg d10, if_pos rfl, cover h.1 h.2.2.1]
    unfold F_Game_bluffJoint
    dsimp only [bnd]
    by_cases c1 : F_Model_isOver vs = 0
    · rw [if_pos c1, cvoid h.1 hk, n245, mj0 hk, mj82 hk]
      by_cases c2 : F_Model_isVoid (nI k) vs = 0
      · rw [if_pos c2, cstate h.1 hk]
        by_cases c3 : vs k = 1
        · have w : upd vs k 3 245 = nx := by
            rw [pk_un (j := 245) (k := k) (by omega)]; exact h.2.1.symm
          rw [cut_1 hk c1 c2 c3, if_neg d10, if_pos c3, make_f hk, w]
          have hg := bluff_GR (m := nx) (v1 := upd (upd vs k 3) (82 + k) nx) h hk ((mvoid hk).mp c2) (fun i => rfl)
          refine ⟨?_, ends_GR (F_Model_many 3 (upd (upd vs k 3) (82 + k) nx)) hg ?_⟩
          · show F_Cloth_jointsThatAre 3 gn (upd fs k 3) = F_Model_many 3 (upd (upd vs k 3) (82 + k) nx)
            exact cmany hg.1 3
          · rw [pk_un (j := 244) (k := 82 + k) (by omega), pk_un (j := 244) (k := k) (by omega)]; exact over_T c1
        · rw [cut_s hk c1 c2 c3, if_neg c3, if_pos rfl]
          exact ⟨rfl, h⟩
      · rw [if_neg c2, cut_v c1 c2, if_pos rfl]
        exact ⟨rfl, h⟩
    · rw [if_neg c1, cut_o c1, if_pos rfl]; exact ⟨rfl, h⟩
  · obtain ⟨j1, j2⟩ := nj hj
    rw [j1, j2, if_pos rfl, if_pos rfl]
    exact ⟨rfl, h⟩
set_option maxHeartbeats 4000000 in
theorem sim_doubt {nx : Int32} {tn : Int32} {gn : Int64} {ac : Int64} {dn : Int64} {fs : Nat → Int32} {fm : Nat → Int32} {mks0 : Int32} {pts0 : Int32} {ths0 : Int32} {rgs0 : Int32} {rgc0 : Int32} {fnd0 : Int32} {rdb0 : Int32} {wdb0 : Int32} {fma0 : Nat → Int32} {mks1 : Int32} {pts1 : Int32} {ths1 : Int32} {rgs1 : Int32} {rgc1 : Int32} {fnd1 : Int32} {rdb1 : Int32} {wdb1 : Int32} {fma1 : Nat → Int32} {vs vlb : Nat → Int32} (h : GRk 0 nx tn gn ac dn fs fm mks0 pts0 ths0 rgs0 rgc0 fnd0 rdb0 wdb0 fma0 mks1 pts1 ths1 rgs1 rgc1 fnd1 rdb1 wdb1 fma1 vs) (j : Int32) : SIM (F_Game_obey 100 j nx tn gn ac dn fs fm mks0 pts0 ths0 rgs0 rgc0 fnd0 rdb0 wdb0 fma0 mks1 pts1 ths1 rgs1 rgc1 fnd1 rdb1 wdb1 fma1) (F_Model_does 100 j vs vlb) := by
  have d10 : ¬ (1 : Int32) = 0 := by decide
  have d50 : ¬ (-5 : Int32) = 0 := by decide
  have em : F_Model_does 100 j vs vlb = ((F_Model_doubts j vs).1, (F_Model_doubts j vs).2, vlb) := by
    unfold F_Model_does
    rw [if_neg (show ¬ (100 : Int32) = 98 by decide), if_neg (show ¬ (100 : Int32) = 99 by decide), if_pos rfl]
    rfl
  rw [em]
  unfold F_Game_obey F_Model_doubts
  rw [if_neg (show ¬ (100 : Int32) = 112 by decide)]
  dsimp only [bnd]
  by_cases hj : vp_in j 82
  · obtain ⟨k, hk, rfl⟩ := vp_in_of hj (by decide)
    have t := j_tab ⟨k, hk⟩
    dsimp only at t
    rw [t.2.2.2.2.2.2.2.1, t.2.2.2.2.2.2.2.2, if_neg d10, if_neg d10, if_neg (show ¬ (100 : Int32) = 98 by decide), if_neg (show ¬ (100 : Int32) = 99 by decide), if_pos rfl, cover h.1 h.2.2.1]
    unfold F_Game_doubtJoint
    dsimp only [bnd]
    by_cases c1 : F_Model_isOver vs = 0
    · rw [if_pos c1, if_pos c1, cvoid h.1 hk, n245, mj0 hk, mj82 hk]
      by_cases c2 : F_Model_isVoid (nI k) vs = 0
      · rw [if_pos c2, if_pos c2, cmaker h.1 hk, cstate h.1 hk]
        by_cases c3 : vs (82 + k) = 1 - vs 245
        · rcases h.2.2.2.1 with e | e
          · obtain rfl : nx = 0 := h.2.1.trans e
            have ac0 : F_Model_at 0 0 = nI 212 := by decide +kernel
            have ac6 : F_Model_at 0 6 = nI 218 := by decide +kernel
            have ac7 : F_Model_at 0 7 = nI 219 := by decide +kernel
            rw [e] at c3 ⊢
            rw [if_pos c3, if_pos c3]
            by_cases c4 : vs k = 3
            · have w1 : upd (upd vs (82 + k) (-6)) k 1 212 = pts0 := by
                rw [pk_un (j := 212) (k := k) (by omega), pk_un (j := 212) (k := 82 + k) (by omega)]; exact h.2.2.2.2.1.1.symm
              have w2 : upd (upd (upd vs (82 + k) (-6)) k 1) 212 (pts0 + 2) 218 = rdb0 := by
                rw [pk_un (j := 218) (k := 212) (by omega), pk_un (j := 218) (k := k) (by omega), pk_un (j := 218) (k := 82 + k) (by omega)]; exact h.2.2.2.2.1.2.2.2.2.2.1.symm
              rw [if_pos c4, if_pos c4, if_pos rfl, ac0, ac6, nI_clamp (n := 212) (by omega), nI_clamp (n := 218) (by omega), w1, w2, make_f hk]
              have hg := right_GR0 (v1 := upd (upd (upd (upd vs (82 + k) (-6)) k 1) 212 (pts0 + 2)) 218 (rdb0 + 1)) h hk ((mvoid hk).mp c2) (fun i => rfl)
              refine ⟨rfl, ?_⟩
              have hz := ends_GR 1 hg (by rw [pk_un (j := 244) (k := 218) (by omega), pk_un (j := 244) (k := 212) (by omega), pk_un (j := 244) (k := k) (by omega), pk_un (j := 244) (k := 82 + k) (by omega)]; exact over_T c1)
              exact hz
            · have w1 : upd (upd vs (82 + k) (-6)) k 2 212 = pts0 := by
                rw [pk_un (j := 212) (k := k) (by omega), pk_un (j := 212) (k := 82 + k) (by omega)]; exact h.2.2.2.2.1.1.symm
              have w2 : upd (upd (upd vs (82 + k) (-6)) k 2) 212 (pts0 + (-2)) 219 = wdb0 := by
                rw [pk_un (j := 219) (k := 212) (by omega), pk_un (j := 219) (k := k) (by omega), pk_un (j := 219) (k := 82 + k) (by omega)]; exact h.2.2.2.2.1.2.2.2.2.2.2.1.symm
              rw [if_neg c4, if_neg c4, if_pos rfl, ac0, ac7, nI_clamp (n := 212) (by omega), nI_clamp (n := 219) (by omega), w1, w2, make_f hk, show pts0 - 2 = pts0 + (-2) from Int32.sub_eq_add_neg _ _]
              have hg := wrong_GR0 (v1 := upd (upd (upd (upd vs (82 + k) (-6)) k 2) 212 (pts0 + (-2))) 219 (wdb0 + 1)) h hk ((mvoid hk).mp c2) (fun i => rfl)
              refine ⟨rfl, ?_⟩
              have hz := ends_GR 0 hg (by rw [pk_un (j := 244) (k := 219) (by omega), pk_un (j := 244) (k := 212) (by omega), pk_un (j := 244) (k := k) (by omega), pk_un (j := 244) (k := 82 + k) (by omega)]; exact over_T c1)
              exact hz
          · obtain rfl : nx = 1 := h.2.1.trans e
            have ac0 : F_Model_at 1 0 = nI 228 := by decide +kernel
            have ac6 : F_Model_at 1 6 = nI 234 := by decide +kernel
            have ac7 : F_Model_at 1 7 = nI 235 := by decide +kernel
            rw [e] at c3 ⊢
            rw [if_pos c3, if_pos c3]
            by_cases c4 : vs k = 3
            · have w1 : upd (upd vs (82 + k) (-6)) k 1 228 = pts1 := by
                rw [pk_un (j := 228) (k := k) (by omega), pk_un (j := 228) (k := 82 + k) (by omega)]; exact h.2.2.2.2.2.1.1.symm
              have w2 : upd (upd (upd vs (82 + k) (-6)) k 1) 228 (pts1 + 2) 234 = rdb1 := by
                rw [pk_un (j := 234) (k := 228) (by omega), pk_un (j := 234) (k := k) (by omega), pk_un (j := 234) (k := 82 + k) (by omega)]; exact h.2.2.2.2.2.1.2.2.2.2.2.1.symm
              rw [if_pos c4, if_pos c4, if_neg d10, ac0, ac6, nI_clamp (n := 228) (by omega), nI_clamp (n := 234) (by omega), w1, w2, make_f hk]
              have hg := right_GR1 (v1 := upd (upd (upd (upd vs (82 + k) (-6)) k 1) 228 (pts1 + 2)) 234 (rdb1 + 1)) h hk ((mvoid hk).mp c2) (fun i => rfl)
              refine ⟨rfl, ?_⟩
              have hz := ends_GR 1 hg (by rw [pk_un (j := 244) (k := 234) (by omega), pk_un (j := 244) (k := 228) (by omega), pk_un (j := 244) (k := k) (by omega), pk_un (j := 244) (k := 82 + k) (by omega)]; exact over_T c1)
              exact hz
            · have w1 : upd (upd vs (82 + k) (-6)) k 2 228 = pts1 := by
                rw [pk_un (j := 228) (k := k) (by omega), pk_un (j := 228) (k := 82 + k) (by omega)]; exact h.2.2.2.2.2.1.1.symm
              have w2 : upd (upd (upd vs (82 + k) (-6)) k 2) 228 (pts1 + (-2)) 235 = wdb1 := by
                rw [pk_un (j := 235) (k := 228) (by omega), pk_un (j := 235) (k := k) (by omega), pk_un (j := 235) (k := 82 + k) (by omega)]; exact h.2.2.2.2.2.1.2.2.2.2.2.2.1.symm
              rw [if_neg c4, if_neg c4, if_neg d10, ac0, ac7, nI_clamp (n := 228) (by omega), nI_clamp (n := 235) (by omega), w1, w2, make_f hk, show pts1 - 2 = pts1 + (-2) from Int32.sub_eq_add_neg _ _]
              have hg := wrong_GR1 (v1 := upd (upd (upd (upd vs (82 + k) (-6)) k 2) 228 (pts1 + (-2))) 235 (wdb1 + 1)) h hk ((mvoid hk).mp c2) (fun i => rfl)
              refine ⟨rfl, ?_⟩
              have hz := ends_GR 0 hg (by rw [pk_un (j := 244) (k := 235) (by omega), pk_un (j := 244) (k := 228) (by omega), pk_un (j := 244) (k := k) (by omega), pk_un (j := 244) (k := 82 + k) (by omega)]; exact over_T c1)
              exact hz
        · rw [if_neg (c := vs (82 + k) = 1 - nx) (fun z => c3 (Eq.trans z (congrArg (fun y => 1 - y) h.2.1))), if_neg c3]
          exact ⟨rfl, h⟩
      · rw [if_neg c2, if_neg c2]
        exact ⟨rfl, h⟩
    · rw [if_neg c1, if_neg c1]; exact ⟨rfl, h⟩
  · obtain ⟨j1, j2⟩ := nj hj
    rw [j1, j2, if_pos rfl, if_pos rfl]
    exact ⟨rfl, h⟩
