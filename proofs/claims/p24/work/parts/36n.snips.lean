-- a snip, both sides: the whole
theorem GRk_le {nx : Int32} {tn : Int32} {gn : Int64} {ac : Int64} {dn : Int64} {fs : Nat → Int32} {fm : Nat → Int32} {mks0 : Int32} {pts0 : Int32} {ths0 : Int32} {rgs0 : Int32} {rgc0 : Int32} {fnd0 : Int32} {rdb0 : Int32} {wdb0 : Int32} {fma0 : Nat → Int32} {mks1 : Int32} {pts1 : Int32} {ths1 : Int32} {rgs1 : Int32} {rgc1 : Int32} {fnd1 : Int32} {rdb1 : Int32} {wdb1 : Int32} {fma1 : Nat → Int32} {vs : Nat → Int32} {e f : Int} (h : GRk e nx tn gn ac dn fs fm mks0 pts0 ths0 rgs0 rgc0 fnd0 rdb0 wdb0 fma0 mks1 pts1 ths1 rgs1 rgc1 fnd1 rdb1 wdb1 fma1 vs) (hf : e ≤ f) : GRk f nx tn gn ac dn fs fm mks0 pts0 ths0 rgs0 rgc0 fnd0 rdb0 wdb0 fma0 mks1 pts1 ths1 rgs1 rgc1 fnd1 rdb1 wdb1 fma1 vs := ⟨h.1, h.2.1, h.2.2.1, h.2.2.2.1, h.2.2.2.2.1, h.2.2.2.2.2.1, PB_le h.2.2.2.2.2.2 hf⟩
set_option maxHeartbeats 4000000 in
theorem snip_0 {nx : Int32} {tn : Int32} {gn : Int64} {ac : Int64} {dn : Int64} {fs : Nat → Int32} {fm : Nat → Int32} {mks0 : Int32} {pts0 : Int32} {ths0 : Int32} {rgs0 : Int32} {rgc0 : Int32} {fnd0 : Int32} {rdb0 : Int32} {wdb0 : Int32} {fma0 : Nat → Int32} {mks1 : Int32} {pts1 : Int32} {ths1 : Int32} {rgs1 : Int32} {rgc1 : Int32} {fnd1 : Int32} {rdb1 : Int32} {wdb1 : Int32} {fma1 : Nat → Int32} {vs vlb : Nat → Int32} (h : GRk 0 nx tn gn ac dn fs fm mks0 pts0 ths0 rgs0 rgc0 fnd0 rdb0 wdb0 fma0 mks1 pts1 ths1 rgs1 rgc1 fnd1 rdb1 wdb1 fma1 vs) (e : vs 245 = 0) {k : Nat} (hk : k < 82) (hd : ¬ vd vs k) (c1 : F_Model_isOver vs = 0) (hr : F_Model_reason (nI k) vs = 0) : ∃ a g' ac' dn' m0 p0 r0 c0 n0 f0 m1 p1 r1 c1 n1 f1 v' l', F_Game_snipJoint (nI k) nx tn gn ac dn fs fm mks0 pts0 rgs0 rgc0 fnd0 fma0 mks1 pts1 rgs1 rgc1 fnd1 fma1 = (a, 1 - nx, tn + 1, g', ac', dn', upd fs k 1, upd fm k (-6), m0, p0, r0, c0, n0, f0, m1, p1, r1, c1, n1, f1) ∧ F_Model_snips (nI k) vs vlb = (a, v', l') ∧ GRk 0 (1 - nx) (tn + 1) g' ac' dn' (upd fs k 1) (upd fm k (-6)) m0 p0 ths0 r0 c0 n0 rdb0 wdb0 f0 m1 p1 ths1 r1 c1 n1 rdb1 wdb1 f1 v' := by
  have t := j_tab ⟨k, hk⟩
  dsimp only at t
  obtain rfl : nx = 0 := h.2.1.trans e
  obtain ⟨t0_0, t0_1, t0_3, t0_4, t0_5, t0_6, t0_7, M0, hMS0⟩ := h.2.2.2.2.1
  obtain ⟨t1_0, t1_1, t1_3, t1_4, t1_5, t1_6, t1_7, M1, hMS1⟩ := h.2.2.2.2.2.1
  have h20 : MS 0 mks0 fma0 (upd (upd vs k 1) (82 + k) (-6)) M0 := MS_ext2 hMS0 (by show upd (upd vs k 1) (82 + k) (-6) 214 = vs 214; rw [pk_un (j := 214) (k := 82 + k) (by omega), pk_un (j := 214) (k := k) (by omega)]) (fun i a b => by rw [pk_un (j := i) (k := 82 + k) (by unfold tO at a b; omega), pk_un (j := i) (k := k) (by unfold tO at a b; omega)])
  have h21 : MS 1 mks1 fma1 (upd (upd vs k 1) (82 + k) (-6)) M1 := MS_ext2 hMS1 (by show upd (upd vs k 1) (82 + k) (-6) 230 = vs 230; rw [pk_un (j := 230) (k := 82 + k) (by omega), pk_un (j := 230) (k := k) (by omega)]) (fun i a b => by rw [pk_un (j := i) (k := 82 + k) (by unfold tO at a b; omega), pk_un (j := i) (k := k) (by unfold tO at a b; omega)])
  obtain ⟨dp, df, hc, b1, b2⟩ := HC_ex (F_Tailor_hasMark (nI k) mks1 fma1) (F_Tailor_hasMark (nI k) mks0 fma0)
  have e5 : F_Model_hasChalk ((1 : Int32) - (vs (245 : Int32).toNatClampNeg)) (nI k) (upd (upd vs ((0 : Int32) + nI k).toNatClampNeg 1) ((82 : Int32) + nI k).toNatClampNeg (-6)) = F_Tailor_hasMark (nI k) mks1 fma1 := by
    rw [n245, e, mj0 hk, mj82 hk, (show (1 : Int32) - 0 = 1 from rfl)]
    exact (hasC (q := 1) (by omega) h21).symm
  have e8 : F_Model_hasChalk (vs (245 : Int32).toNatClampNeg) (nI k) (upd (upd vs ((0 : Int32) + nI k).toNatClampNeg 1) ((82 : Int32) + nI k).toNatClampNeg (-6)) = F_Tailor_hasMark (nI k) mks0 fma0 := by
    rw [n245, e, mj0 hk, mj82 hk]
    exact (hasC (q := 0) (by omega) h20).symm
  have hf := sn_form vlb (joint := nI k) (by rw [t.2.2.2.2.2.2.2.2]; decide) (by rw [hr]; decide) e5 e8 hc
  have hfi := find_0 (pts0 := pts0) (fnd0 := fnd0) (pts1 := pts1) (fnd1 := fnd1) k (mks0 := mks0) (mks1 := mks1) (fma0 := fma0) (fma1 := fma1) rfl rfl hc
  have v3e : ∀ i, snV (nI k) dp df vs i = if i = 217 then fnd0 + df else if i = 212 then pts0 + dp else if i = 82 + k then -6 else if i = k then 1 else vs i := by
    have w0 : upd (upd vs k 1) (82 + k) (-6) 212 = pts0 := by
      rw [pk_un (j := 212) (k := 82 + k) (by omega), pk_un (j := 212) (k := k) (by omega)]; exact t0_0.symm
    have w5 : upd (upd (upd vs k 1) (82 + k) (-6)) 212 (pts0 + dp) 217 = fnd0 := by
      rw [pk_un (j := 217) (k := 212) (by omega), pk_un (j := 217) (k := 82 + k) (by omega), pk_un (j := 217) (k := k) (by omega)]; exact t0_5.symm
    have a0 : F_Model_at 0 0 = nI 212 := by decide +kernel
    have a5 : F_Model_at 0 5 = nI 217 := by decide +kernel
    unfold snV
    rw [n245, e, a0, a5, mj0 hk, mj82 hk, nI_clamp (n := 212) (by omega), nI_clamp (n := 217) (by omega), w0, w5]
    exact fun i => rfl
  generalize snV (nI k) dp df vs = v3 at hf v3e
  have h30 : MS 0 mks0 fma0 v3 M0 := MS_ext2 hMS0 (by show v3 214 = vs 214; rw [v3e 214, if_neg (show ¬ 214 = 217 by decide), if_neg (show ¬ 214 = 212 by decide), if_neg (show ¬ 214 = 82 + k by omega), if_neg (show ¬ 214 = k by omega)]) (fun i a b => by rw [v3e i, if_neg (show ¬ i = 217 by unfold tO at a b; omega), if_neg (show ¬ i = 212 by unfold tO at a b; omega), if_neg (show ¬ i = 82 + k by unfold tO at a b; omega), if_neg (show ¬ i = k by unfold tO at a b; omega)])
  have h31 : MS 1 mks1 fma1 v3 M1 := MS_ext2 hMS1 (by show v3 230 = vs 230; rw [v3e 230, if_neg (show ¬ 230 = 217 by decide), if_neg (show ¬ 230 = 212 by decide), if_neg (show ¬ 230 = 82 + k by omega), if_neg (show ¬ 230 = k by omega)]) (fun i a b => by rw [v3e i, if_neg (show ¬ i = 217 by unfold tO at a b; omega), if_neg (show ¬ i = 212 by unfold tO at a b; omega), if_neg (show ¬ i = 82 + k by unfold tO at a b; omega), if_neg (show ¬ i = k by unfold tO at a b; omega)])
  obtain ⟨B0, B1, hm⟩ := both (nI k) ⟨M0, h30⟩ ⟨M1, h31⟩
  generalize F_Model_rubs 1 (nI k) (F_Model_rubs 0 (nI k) v3) = v4 at hf B0 B1 hm
  generalize F_Tailor_dropMark (nI k) mks0 fma0 = D0 at B0 hfi
  generalize F_Tailor_dropMark (nI k) mks1 fma1 = D1 at B1 hfi
  have v4e : ∀ i, ¬ mpl i → v4 i = if i = 217 then fnd0 + df else if i = 212 then pts0 + dp else if i = 82 + k then -6 else if i = k then 1 else vs i := fun i hi => (hm i hi).trans (v3e i)
  have x4 : v4 244 = vs 244 := by rw [v4e 244 (by unfold mpl; omega), if_neg (show ¬ 244 = 217 by decide), if_neg (show ¬ 244 = 212 by decide), if_neg (show ¬ 244 = 82 + k by omega), if_neg (show ¬ 244 = k by omega)]
  have x5 : v4 245 = vs 245 := by rw [v4e 245 (by unfold mpl; omega), if_neg (show ¬ 245 = 217 by decide), if_neg (show ¬ 245 = 212 by decide), if_neg (show ¬ 245 = 82 + k by omega), if_neg (show ¬ 245 = k by omega)]
  have pb : PB 3 v4 := by
    have z := PB_chg (e := 0) (f := 3) (d0 := dp) (d1 := 0) (v1 := v4) h.2.2.2.2.2.2 (by omega) (by omega) x4 (by rw [v4e 212 (by unfold mpl; omega), if_neg (show ¬ 212 = 217 by decide), if_pos rfl]; exact congrArg (fun z => z + dp) t0_0) (by rw [v4e 228 (by unfold mpl; omega), if_neg (show ¬ 228 = 217 by decide), if_neg (show ¬ 228 = 212 by decide), if_neg (show ¬ 228 = 82 + k by omega), if_neg (show ¬ 228 = k by omega)]; exact (Int32.add_zero _).symm) (⟨b1, b2⟩) (by decide)
    exact z
  have ec : ∀ i, i < 212 → v4 i = if i = k then 1 else if i = 82 + k then -6 else vs i := fun i hi => by
    rw [v4e i (by unfold mpl; omega), if_neg (show ¬ i = 217 by omega), if_neg (show ¬ i = 212 by omega)]
    by_cases z : i = k
    · rw [if_pos z, if_neg (show ¬ i = 82 + k by omega), if_pos z]
    · rw [if_neg z, if_neg z]
  have g4 : GRk 3 0 tn gn (if k < 42 then mkB 1 k ac else ac) (if k < 42 then dn else mkB 1 k dn) (upd fs k 1) (upd fm k (-6)) D0.1 (pts0 + dp) ths0 rgs0 rgc0 (fnd0 + df) rdb0 wdb0 D0.2 D1.1 (pts1) ths1 rgs1 rgc1 (fnd1) rdb1 wdb1 D1.2 v4 := cloth_GR h hk hd ec x4 x5 ⟨by show _ = v4 212; rw [v4e 212 (by unfold mpl; omega), if_neg (show ¬ 212 = 217 by decide), if_pos rfl], by show _ = v4 213; rw [v4e 213 (by unfold mpl; omega), if_neg (show ¬ 213 = 217 by decide), if_neg (show ¬ 213 = 212 by decide), if_neg (show ¬ 213 = 82 + k by omega), if_neg (show ¬ 213 = k by omega)]; exact t0_1, by show _ = v4 215; rw [v4e 215 (by unfold mpl; omega), if_neg (show ¬ 215 = 217 by decide), if_neg (show ¬ 215 = 212 by decide), if_neg (show ¬ 215 = 82 + k by omega), if_neg (show ¬ 215 = k by omega)]; exact t0_3, by show _ = v4 216; rw [v4e 216 (by unfold mpl; omega), if_neg (show ¬ 216 = 217 by decide), if_neg (show ¬ 216 = 212 by decide), if_neg (show ¬ 216 = 82 + k by omega), if_neg (show ¬ 216 = k by omega)]; exact t0_4, by show _ = v4 217; rw [v4e 217 (by unfold mpl; omega), if_pos rfl], by show _ = v4 218; rw [v4e 218 (by unfold mpl; omega), if_neg (show ¬ 218 = 217 by decide), if_neg (show ¬ 218 = 212 by decide), if_neg (show ¬ 218 = 82 + k by omega), if_neg (show ¬ 218 = k by omega)]; exact t0_6, by show _ = v4 219; rw [v4e 219 (by unfold mpl; omega), if_neg (show ¬ 219 = 217 by decide), if_neg (show ¬ 219 = 212 by decide), if_neg (show ¬ 219 = 82 + k by omega), if_neg (show ¬ 219 = k by omega)]; exact t0_7, B0⟩ ⟨by show _ = v4 228; rw [v4e 228 (by unfold mpl; omega), if_neg (show ¬ 228 = 217 by decide), if_neg (show ¬ 228 = 212 by decide), if_neg (show ¬ 228 = 82 + k by omega), if_neg (show ¬ 228 = k by omega)]; exact t1_0, by show _ = v4 229; rw [v4e 229 (by unfold mpl; omega), if_neg (show ¬ 229 = 217 by decide), if_neg (show ¬ 229 = 212 by decide), if_neg (show ¬ 229 = 82 + k by omega), if_neg (show ¬ 229 = k by omega)]; exact t1_1, by show _ = v4 231; rw [v4e 231 (by unfold mpl; omega), if_neg (show ¬ 231 = 217 by decide), if_neg (show ¬ 231 = 212 by decide), if_neg (show ¬ 231 = 82 + k by omega), if_neg (show ¬ 231 = k by omega)]; exact t1_3, by show _ = v4 232; rw [v4e 232 (by unfold mpl; omega), if_neg (show ¬ 232 = 217 by decide), if_neg (show ¬ 232 = 212 by decide), if_neg (show ¬ 232 = 82 + k by omega), if_neg (show ¬ 232 = k by omega)]; exact t1_4, by show _ = v4 233; rw [v4e 233 (by unfold mpl; omega), if_neg (show ¬ 233 = 217 by decide), if_neg (show ¬ 233 = 212 by decide), if_neg (show ¬ 233 = 82 + k by omega), if_neg (show ¬ 233 = k by omega)]; exact t1_5, by show _ = v4 234; rw [v4e 234 (by unfold mpl; omega), if_neg (show ¬ 234 = 217 by decide), if_neg (show ¬ 234 = 212 by decide), if_neg (show ¬ 234 = 82 + k by omega), if_neg (show ¬ 234 = k by omega)]; exact t1_6, by show _ = v4 235; rw [v4e 235 (by unfold mpl; omega), if_neg (show ¬ 235 = 217 by decide), if_neg (show ¬ 235 = 212 by decide), if_neg (show ¬ 235 = 82 + k by omega), if_neg (show ¬ 235 = k by omega)]; exact t1_7, B1⟩ pb
  have hd4 : ¬ vd v4 k := by
    have l1 := jF_lt hk
    have l2 := jS_lt hk
    unfold vd
    rw [ec _ (by omega), ec _ (by omega), if_neg (by omega), if_neg (by omega), if_neg (by omega), if_neg (by omega)]
    exact hd
  have hov : ¬ (200 : Int32) ≤ v4 244 := by rw [x4]; exact over_T c1
  obtain ⟨q1, q2⟩ := rag_s vlb g4.1 hk hd4
  rw [rag_mk hk] at q2
  unfold F_Game_snipJoint
  rw [bnd_eq, creason h.1 h.2.2.1 hk, hr, if_pos rfl, bnd_eq, hfi, bnd_eq, bnd_eq, make_f hk]
  dsimp only
  generalize F_Cloth_ragOf (nI k) ac dn = rag at q2 ⊢
  generalize F_Model_layPieces (nI k) 0 v4 vlb = lab at q1 q2
  rcases q2 with ⟨f1, f2⟩ | ⟨m, i0, hm48, hi48, f1, f2, dD, n⟩
  · have hff : F_Model_fallsBy (nI k) v4 vlb = (-6, lab) := Prod.ext f1 q1
    rw [f2, if_pos (show lg_cmp 0 0 = 0 by decide +kernel), bnd_eq, bnd_eq, bc_0, hf, snT_none (q := 0) (by omega) e hff]
    have hz := ends_GR 0 (GRk_le g4 (by omega)) hov
    exact ⟨_, _, _, _, _, _, _, _, _, _, _, _, _, _, _, _, _, _, rfl, rfl, hz⟩
  · have hff : F_Model_fallsBy (nI k) v4 vlb = (nI m, lab) := Prod.ext f1 q1
    have hlg : ¬ lg_cmp rag 0 = 0 := fun z => by
      have y := lgz.mp z
      have bi := (n i0 hi48).mpr f2
      rw [y, b6_zero] at bi
      exact Bool.false_ne_true bi
    have hbc := bc_cells dD n
    have hcn := cellsOf_n (nI m) lab
    have hp : 1 ≤ cntB (fun c => decide (lab c = nI m)) 48 := cntB_pos hi48 (decide_eq_true f2)
    have hle := cntB_le (fun c => decide (lab c = nI m)) 48
    generalize cntB (fun c => decide (lab c = nI m)) 48 = N at hcn hp hle
    have hx : ¬ F_Model_cellsOf (nI m) lab ≤ 0 := by rw [hcn]; exact nI_nle (by omega) (by omega)
    have hcb : (-48 : Int) ≤ (F_Model_cellsOf (nI m) lab).toInt ∧ (F_Model_cellsOf (nI m) lab).toInt ≤ 48 := by
      rw [hcn, nI_toInt (by omega)]; omega
    clear hcn
    generalize hcc : F_Model_cellsOf (nI m) lab = cells at hbc hx hcb
    obtain ⟨Y1, w1, l1, l2⟩ := gone_loop (nI k) vs vlb lab (nI m) (F_Tailor_hasMark (nI k) mks1 fma1) hx 49 0 v4 (by omega) (by omega)
    rw [nI_0] at l1
    have hC5 := tear_CR (vs' := w1) g4.1 dD (fun i hi => by rw [l2 i, if_neg (by omega)]) (fun c hc => by
      rw [l2 (164 + c)]
      by_cases z : lab c = nI m
      · rw [if_pos ⟨by omega, by omega, by rw [show 164 + c - 164 = c by omega]; exact z⟩]
        exact ⟨fun _ => Or.inl ((n c hc).mpr z), fun _ => rfl⟩
      · rw [if_neg (fun y => z (by have := y.2.2; rwa [show 164 + c - 164 = c by omega] at this))]
        exact ⟨Or.inr, fun y => y.resolve_left (fun u => z ((n c hc).mp u))⟩)
    have B0' : ∃ M, MS 0 D0.1 D0.2 w1 M := B0.imp fun M z => MS_ext2 z (by rw [l2, if_neg (by unfold tO; omega)]) (fun i a b => by rw [l2 i, if_neg (by unfold tO at a b; omega)])
    have B1' : ∃ M, MS 1 D1.1 D1.2 w1 M := B1.imp fun M z => MS_ext2 z (by rw [l2, if_neg (by unfold tO; omega)]) (fun i a b => by rw [l2 i, if_neg (by unfold tO at a b; omega)])
    obtain ⟨X, Y2, m0, g0, m1, g1, w2, s1, s2, s3, s4, s5⟩ := rag_loop rag 0 gn (if k < 42 then mkB 1 k ac else ac) (if k < 42 then dn else mkB 1 k dn) D0.1 (pts0 + dp) rgs0 rgc0 D0.2 D1.1 (pts1) rgs1 rgc1 D1.2 (nI k) vs vlb lab (pts0 + dp + cells) (rgs0 + 1) (rgc0 + cells) (pts1) (rgs1) (rgc1) cells (nI m) (F_Tailor_hasMark (nI k) mks1 fma1) hC5 hx 83 0 D0.1 D0.2 D1.1 D1.2 w1 (by omega) (by omega) (fun i _ => rfl) B0' B1'
    rw [nI_0] at s1 s2
    have hlo : F_Game_loseRag rag 0 gn (if k < 42 then mkB 1 k ac else ac) (if k < 42 then dn else mkB 1 k dn) D0.1 (pts0 + dp) rgs0 rgc0 D0.2 D1.1 (pts1) rgs1 rgc1 D1.2 = ((F_Cloth_tearOff rag gn (if k < 42 then mkB 1 k ac else ac) (if k < 42 then dn else mkB 1 k dn)).1, (F_Cloth_tearOff rag gn (if k < 42 then mkB 1 k ac else ac) (if k < 42 then dn else mkB 1 k dn)).2.1, (F_Cloth_tearOff rag gn (if k < 42 then mkB 1 k ac else ac) (if k < 42 then dn else mkB 1 k dn)).2.2, m0, pts0 + dp + cells, rgs0 + 1, rgc0 + cells, g0, m1, pts1, rgs1, rgc1, g1) := by
      unfold F_Game_loseRag
      rw [bnd_eq, if_pos rfl, bnd_eq, hbc, bnd_eq]
      dsimp only [F_Tailor_winRag]
      rw [bnd_eq, s1]
    rw [if_neg hlg, bnd_eq, hlo, bnd_eq, bnd_eq, hbc, hf, snT_some (q := 0) (by omega) hm48 e hff hcc hx l1 s2]
    have w2e : ∀ i, 212 ≤ i → ¬ mpl i → w2 i = v4 i := fun i a hi => (s5 i hi).trans (by rw [l2 i, if_neg (by omega)])
    have hC2 := CR_ext hC5 (fun i hi => s5 i (by unfold mpl; omega))
    have hv6 : ∀ i, (upd (upd (upd w2 (tO 0) (w2 (tO 0) + cells)) (tO 0 + 4) (w2 (tO 0 + 4) + cells)) (tO 0 + 3) (w2 (tO 0 + 3) + 1)) i = if i = 215 then w2 215 + 1 else if i = 216 then w2 216 + cells else if i = 212 then w2 212 + cells else w2 i := fun i => rfl
    generalize (upd (upd (upd w2 (tO 0) (w2 (tO 0) + cells)) (tO 0 + 4) (w2 (tO 0 + 4) + cells)) (tO 0 + 3) (w2 (tO 0 + 3) + 1)) = v6 at hv6 ⊢
    have y4 : v6 244 = v4 244 := by rw [hv6 244, if_neg (show ¬ 244 = 215 by decide), if_neg (show ¬ 244 = 216 by decide), if_neg (show ¬ 244 = 212 by decide), w2e 244 (by omega) (by unfold mpl; omega)]
    have y5 : v6 245 = v4 245 := by rw [hv6 245, if_neg (show ¬ 245 = 215 by decide), if_neg (show ¬ 245 = 216 by decide), if_neg (show ¬ 245 = 212 by decide), w2e 245 (by omega) (by unfold mpl; omega)]
    have pb6 : PB 51 v6 := by
      have z := PB_chg (e := 3) (f := 48) (d0 := cells) (d1 := 0) (v1 := v6) g4.2.2.2.2.2.2 (by omega) (by omega) y4 (by rw [hv6 212, if_neg (show ¬ 212 = 215 by decide), if_neg (show ¬ 212 = 216 by decide), if_pos rfl, w2e 212 (by omega) (by unfold mpl; omega)]) (by rw [hv6 228, if_neg (show ¬ 228 = 215 by decide), if_neg (show ¬ 228 = 216 by decide), if_neg (show ¬ 228 = 212 by decide), w2e 228 (by omega) (by unfold mpl; omega)]; exact (Int32.add_zero _).symm) (hcb) (by decide)
      exact z
    obtain ⟨u0_0, u0_1, u0_3, u0_4, u0_5, u0_6, u0_7, -⟩ := g4.2.2.2.2.1
    obtain ⟨u1_0, u1_1, u1_3, u1_4, u1_5, u1_6, u1_7, -⟩ := g4.2.2.2.2.2.1
    have hG : GRk 51 0 tn (F_Cloth_tearOff rag gn (if k < 42 then mkB 1 k ac else ac) (if k < 42 then dn else mkB 1 k dn)).1 (F_Cloth_tearOff rag gn (if k < 42 then mkB 1 k ac else ac) (if k < 42 then dn else mkB 1 k dn)).2.1 (F_Cloth_tearOff rag gn (if k < 42 then mkB 1 k ac else ac) (if k < 42 then dn else mkB 1 k dn)).2.2 (upd fs k 1) (upd fm k (-6)) m0 (pts0 + dp + cells) ths0 (rgs0 + 1) (rgc0 + cells) (fnd0 + df) rdb0 wdb0 g0 m1 (pts1) ths1 (rgs1) (rgc1) (fnd1) rdb1 wdb1 g1 v6 := ⟨CR_ext hC2 (fun i hi => by rw [hv6 i, if_neg (by omega), if_neg (by omega), if_neg (by omega)]), g4.2.1.trans y5.symm, g4.2.2.1.trans y4.symm, by rw [y5]; exact g4.2.2.2.1, ⟨by show _ = v6 212; rw [hv6 212, if_neg (show ¬ 212 = 215 by decide), if_neg (show ¬ 212 = 216 by decide), if_pos rfl, w2e 212 (by omega) (by unfold mpl; omega)]; exact congrArg (fun z => z + cells) u0_0, by show _ = v6 213; rw [hv6 213, if_neg (show ¬ 213 = 215 by decide), if_neg (show ¬ 213 = 216 by decide), if_neg (show ¬ 213 = 212 by decide), w2e 213 (by omega) (by unfold mpl; omega)]; exact u0_1, by show _ = v6 215; rw [hv6 215, if_pos rfl, w2e 215 (by omega) (by unfold mpl; omega)]; exact congrArg (fun z => z + 1) u0_3, by show _ = v6 216; rw [hv6 216, if_neg (show ¬ 216 = 215 by decide), if_pos rfl, w2e 216 (by omega) (by unfold mpl; omega)]; exact congrArg (fun z => z + cells) u0_4, by show _ = v6 217; rw [hv6 217, if_neg (show ¬ 217 = 215 by decide), if_neg (show ¬ 217 = 216 by decide), if_neg (show ¬ 217 = 212 by decide), w2e 217 (by omega) (by unfold mpl; omega)]; exact u0_5, by show _ = v6 218; rw [hv6 218, if_neg (show ¬ 218 = 215 by decide), if_neg (show ¬ 218 = 216 by decide), if_neg (show ¬ 218 = 212 by decide), w2e 218 (by omega) (by unfold mpl; omega)]; exact u0_6, by show _ = v6 219; rw [hv6 219, if_neg (show ¬ 219 = 215 by decide), if_neg (show ¬ 219 = 216 by decide), if_neg (show ¬ 219 = 212 by decide), w2e 219 (by omega) (by unfold mpl; omega)]; exact u0_7, s3.imp fun M z => MS_ext2 z (by show v6 214 = w2 214; rw [hv6 214, if_neg (show ¬ 214 = 215 by decide), if_neg (show ¬ 214 = 216 by decide), if_neg (show ¬ 214 = 212 by decide)]) (fun i a b => by rw [hv6 i, if_neg (show ¬ i = 215 by unfold tO at a b; omega), if_neg (show ¬ i = 216 by unfold tO at a b; omega), if_neg (show ¬ i = 212 by unfold tO at a b; omega)])⟩, ⟨by show _ = v6 228; rw [hv6 228, if_neg (show ¬ 228 = 215 by decide), if_neg (show ¬ 228 = 216 by decide), if_neg (show ¬ 228 = 212 by decide), w2e 228 (by omega) (by unfold mpl; omega)]; exact u1_0, by show _ = v6 229; rw [hv6 229, if_neg (show ¬ 229 = 215 by decide), if_neg (show ¬ 229 = 216 by decide), if_neg (show ¬ 229 = 212 by decide), w2e 229 (by omega) (by unfold mpl; omega)]; exact u1_1, by show _ = v6 231; rw [hv6 231, if_neg (show ¬ 231 = 215 by decide), if_neg (show ¬ 231 = 216 by decide), if_neg (show ¬ 231 = 212 by decide), w2e 231 (by omega) (by unfold mpl; omega)]; exact u1_3, by show _ = v6 232; rw [hv6 232, if_neg (show ¬ 232 = 215 by decide), if_neg (show ¬ 232 = 216 by decide), if_neg (show ¬ 232 = 212 by decide), w2e 232 (by omega) (by unfold mpl; omega)]; exact u1_4, by show _ = v6 233; rw [hv6 233, if_neg (show ¬ 233 = 215 by decide), if_neg (show ¬ 233 = 216 by decide), if_neg (show ¬ 233 = 212 by decide), w2e 233 (by omega) (by unfold mpl; omega)]; exact u1_5, by show _ = v6 234; rw [hv6 234, if_neg (show ¬ 234 = 215 by decide), if_neg (show ¬ 234 = 216 by decide), if_neg (show ¬ 234 = 212 by decide), w2e 234 (by omega) (by unfold mpl; omega)]; exact u1_6, by show _ = v6 235; rw [hv6 235, if_neg (show ¬ 235 = 215 by decide), if_neg (show ¬ 235 = 216 by decide), if_neg (show ¬ 235 = 212 by decide), w2e 235 (by omega) (by unfold mpl; omega)]; exact u1_7, s4.imp fun M z => MS_ext2 z (by show v6 230 = w2 230; rw [hv6 230, if_neg (show ¬ 230 = 215 by decide), if_neg (show ¬ 230 = 216 by decide), if_neg (show ¬ 230 = 212 by decide)]) (fun i a b => by rw [hv6 i, if_neg (show ¬ i = 215 by unfold tO at a b; omega), if_neg (show ¬ i = 216 by unfold tO at a b; omega), if_neg (show ¬ i = 212 by unfold tO at a b; omega)])⟩, pb6⟩
    have hz := ends_GR cells (GRk_le hG (by omega)) (by rw [y4]; exact hov)
    exact ⟨_, _, _, _, _, _, _, _, _, _, _, _, _, _, _, _, _, _, rfl, rfl, hz⟩
set_option maxHeartbeats 4000000 in
theorem snip_1 {nx : Int32} {tn : Int32} {gn : Int64} {ac : Int64} {dn : Int64} {fs : Nat → Int32} {fm : Nat → Int32} {mks0 : Int32} {pts0 : Int32} {ths0 : Int32} {rgs0 : Int32} {rgc0 : Int32} {fnd0 : Int32} {rdb0 : Int32} {wdb0 : Int32} {fma0 : Nat → Int32} {mks1 : Int32} {pts1 : Int32} {ths1 : Int32} {rgs1 : Int32} {rgc1 : Int32} {fnd1 : Int32} {rdb1 : Int32} {wdb1 : Int32} {fma1 : Nat → Int32} {vs vlb : Nat → Int32} (h : GRk 0 nx tn gn ac dn fs fm mks0 pts0 ths0 rgs0 rgc0 fnd0 rdb0 wdb0 fma0 mks1 pts1 ths1 rgs1 rgc1 fnd1 rdb1 wdb1 fma1 vs) (e : vs 245 = 1) {k : Nat} (hk : k < 82) (hd : ¬ vd vs k) (c1 : F_Model_isOver vs = 0) (hr : F_Model_reason (nI k) vs = 0) : ∃ a g' ac' dn' m0 p0 r0 c0 n0 f0 m1 p1 r1 c1 n1 f1 v' l', F_Game_snipJoint (nI k) nx tn gn ac dn fs fm mks0 pts0 rgs0 rgc0 fnd0 fma0 mks1 pts1 rgs1 rgc1 fnd1 fma1 = (a, 1 - nx, tn + 1, g', ac', dn', upd fs k 1, upd fm k (-6), m0, p0, r0, c0, n0, f0, m1, p1, r1, c1, n1, f1) ∧ F_Model_snips (nI k) vs vlb = (a, v', l') ∧ GRk 0 (1 - nx) (tn + 1) g' ac' dn' (upd fs k 1) (upd fm k (-6)) m0 p0 ths0 r0 c0 n0 rdb0 wdb0 f0 m1 p1 ths1 r1 c1 n1 rdb1 wdb1 f1 v' := by
  have t := j_tab ⟨k, hk⟩
  dsimp only at t
  obtain rfl : nx = 1 := h.2.1.trans e
  obtain ⟨t0_0, t0_1, t0_3, t0_4, t0_5, t0_6, t0_7, M0, hMS0⟩ := h.2.2.2.2.1
  obtain ⟨t1_0, t1_1, t1_3, t1_4, t1_5, t1_6, t1_7, M1, hMS1⟩ := h.2.2.2.2.2.1
  have h20 : MS 0 mks0 fma0 (upd (upd vs k 1) (82 + k) (-6)) M0 := MS_ext2 hMS0 (by show upd (upd vs k 1) (82 + k) (-6) 214 = vs 214; rw [pk_un (j := 214) (k := 82 + k) (by omega), pk_un (j := 214) (k := k) (by omega)]) (fun i a b => by rw [pk_un (j := i) (k := 82 + k) (by unfold tO at a b; omega), pk_un (j := i) (k := k) (by unfold tO at a b; omega)])
  have h21 : MS 1 mks1 fma1 (upd (upd vs k 1) (82 + k) (-6)) M1 := MS_ext2 hMS1 (by show upd (upd vs k 1) (82 + k) (-6) 230 = vs 230; rw [pk_un (j := 230) (k := 82 + k) (by omega), pk_un (j := 230) (k := k) (by omega)]) (fun i a b => by rw [pk_un (j := i) (k := 82 + k) (by unfold tO at a b; omega), pk_un (j := i) (k := k) (by unfold tO at a b; omega)])
  obtain ⟨dp, df, hc, b1, b2⟩ := HC_ex (F_Tailor_hasMark (nI k) mks0 fma0) (F_Tailor_hasMark (nI k) mks1 fma1)
  have e5 : F_Model_hasChalk ((1 : Int32) - (vs (245 : Int32).toNatClampNeg)) (nI k) (upd (upd vs ((0 : Int32) + nI k).toNatClampNeg 1) ((82 : Int32) + nI k).toNatClampNeg (-6)) = F_Tailor_hasMark (nI k) mks0 fma0 := by
    rw [n245, e, mj0 hk, mj82 hk, (show (1 : Int32) - 1 = 0 from rfl)]
    exact (hasC (q := 0) (by omega) h20).symm
  have e8 : F_Model_hasChalk (vs (245 : Int32).toNatClampNeg) (nI k) (upd (upd vs ((0 : Int32) + nI k).toNatClampNeg 1) ((82 : Int32) + nI k).toNatClampNeg (-6)) = F_Tailor_hasMark (nI k) mks1 fma1 := by
    rw [n245, e, mj0 hk, mj82 hk]
    exact (hasC (q := 1) (by omega) h21).symm
  have hf := sn_form vlb (joint := nI k) (by rw [t.2.2.2.2.2.2.2.2]; decide) (by rw [hr]; decide) e5 e8 hc
  have hfi := find_1 (pts0 := pts0) (fnd0 := fnd0) (pts1 := pts1) (fnd1 := fnd1) k (mks0 := mks0) (mks1 := mks1) (fma0 := fma0) (fma1 := fma1) rfl rfl hc
  have v3e : ∀ i, snV (nI k) dp df vs i = if i = 233 then fnd1 + df else if i = 228 then pts1 + dp else if i = 82 + k then -6 else if i = k then 1 else vs i := by
    have w0 : upd (upd vs k 1) (82 + k) (-6) 228 = pts1 := by
      rw [pk_un (j := 228) (k := 82 + k) (by omega), pk_un (j := 228) (k := k) (by omega)]; exact t1_0.symm
    have w5 : upd (upd (upd vs k 1) (82 + k) (-6)) 228 (pts1 + dp) 233 = fnd1 := by
      rw [pk_un (j := 233) (k := 228) (by omega), pk_un (j := 233) (k := 82 + k) (by omega), pk_un (j := 233) (k := k) (by omega)]; exact t1_5.symm
    have a0 : F_Model_at 1 0 = nI 228 := by decide +kernel
    have a5 : F_Model_at 1 5 = nI 233 := by decide +kernel
    unfold snV
    rw [n245, e, a0, a5, mj0 hk, mj82 hk, nI_clamp (n := 228) (by omega), nI_clamp (n := 233) (by omega), w0, w5]
    exact fun i => rfl
  generalize snV (nI k) dp df vs = v3 at hf v3e
  have h30 : MS 0 mks0 fma0 v3 M0 := MS_ext2 hMS0 (by show v3 214 = vs 214; rw [v3e 214, if_neg (show ¬ 214 = 233 by decide), if_neg (show ¬ 214 = 228 by decide), if_neg (show ¬ 214 = 82 + k by omega), if_neg (show ¬ 214 = k by omega)]) (fun i a b => by rw [v3e i, if_neg (show ¬ i = 233 by unfold tO at a b; omega), if_neg (show ¬ i = 228 by unfold tO at a b; omega), if_neg (show ¬ i = 82 + k by unfold tO at a b; omega), if_neg (show ¬ i = k by unfold tO at a b; omega)])
  have h31 : MS 1 mks1 fma1 v3 M1 := MS_ext2 hMS1 (by show v3 230 = vs 230; rw [v3e 230, if_neg (show ¬ 230 = 233 by decide), if_neg (show ¬ 230 = 228 by decide), if_neg (show ¬ 230 = 82 + k by omega), if_neg (show ¬ 230 = k by omega)]) (fun i a b => by rw [v3e i, if_neg (show ¬ i = 233 by unfold tO at a b; omega), if_neg (show ¬ i = 228 by unfold tO at a b; omega), if_neg (show ¬ i = 82 + k by unfold tO at a b; omega), if_neg (show ¬ i = k by unfold tO at a b; omega)])
  obtain ⟨B0, B1, hm⟩ := both (nI k) ⟨M0, h30⟩ ⟨M1, h31⟩
  generalize F_Model_rubs 1 (nI k) (F_Model_rubs 0 (nI k) v3) = v4 at hf B0 B1 hm
  generalize F_Tailor_dropMark (nI k) mks0 fma0 = D0 at B0 hfi
  generalize F_Tailor_dropMark (nI k) mks1 fma1 = D1 at B1 hfi
  have v4e : ∀ i, ¬ mpl i → v4 i = if i = 233 then fnd1 + df else if i = 228 then pts1 + dp else if i = 82 + k then -6 else if i = k then 1 else vs i := fun i hi => (hm i hi).trans (v3e i)
  have x4 : v4 244 = vs 244 := by rw [v4e 244 (by unfold mpl; omega), if_neg (show ¬ 244 = 233 by decide), if_neg (show ¬ 244 = 228 by decide), if_neg (show ¬ 244 = 82 + k by omega), if_neg (show ¬ 244 = k by omega)]
  have x5 : v4 245 = vs 245 := by rw [v4e 245 (by unfold mpl; omega), if_neg (show ¬ 245 = 233 by decide), if_neg (show ¬ 245 = 228 by decide), if_neg (show ¬ 245 = 82 + k by omega), if_neg (show ¬ 245 = k by omega)]
  have pb : PB 3 v4 := by
    have z := PB_chg (e := 0) (f := 3) (d1 := dp) (d0 := 0) (v1 := v4) h.2.2.2.2.2.2 (by omega) (by omega) x4 (by rw [v4e 212 (by unfold mpl; omega), if_neg (show ¬ 212 = 233 by decide), if_neg (show ¬ 212 = 228 by decide), if_neg (show ¬ 212 = 82 + k by omega), if_neg (show ¬ 212 = k by omega)]; exact (Int32.add_zero _).symm) (by rw [v4e 228 (by unfold mpl; omega), if_neg (show ¬ 228 = 233 by decide), if_pos rfl]; exact congrArg (fun z => z + dp) t1_0) (by decide) (⟨b1, b2⟩)
    exact z
  have ec : ∀ i, i < 212 → v4 i = if i = k then 1 else if i = 82 + k then -6 else vs i := fun i hi => by
    rw [v4e i (by unfold mpl; omega), if_neg (show ¬ i = 233 by omega), if_neg (show ¬ i = 228 by omega)]
    by_cases z : i = k
    · rw [if_pos z, if_neg (show ¬ i = 82 + k by omega), if_pos z]
    · rw [if_neg z, if_neg z]
  have g4 : GRk 3 1 tn gn (if k < 42 then mkB 1 k ac else ac) (if k < 42 then dn else mkB 1 k dn) (upd fs k 1) (upd fm k (-6)) D0.1 (pts0) ths0 rgs0 rgc0 (fnd0) rdb0 wdb0 D0.2 D1.1 (pts1 + dp) ths1 rgs1 rgc1 (fnd1 + df) rdb1 wdb1 D1.2 v4 := cloth_GR h hk hd ec x4 x5 ⟨by show _ = v4 212; rw [v4e 212 (by unfold mpl; omega), if_neg (show ¬ 212 = 233 by decide), if_neg (show ¬ 212 = 228 by decide), if_neg (show ¬ 212 = 82 + k by omega), if_neg (show ¬ 212 = k by omega)]; exact t0_0, by show _ = v4 213; rw [v4e 213 (by unfold mpl; omega), if_neg (show ¬ 213 = 233 by decide), if_neg (show ¬ 213 = 228 by decide), if_neg (show ¬ 213 = 82 + k by omega), if_neg (show ¬ 213 = k by omega)]; exact t0_1, by show _ = v4 215; rw [v4e 215 (by unfold mpl; omega), if_neg (show ¬ 215 = 233 by decide), if_neg (show ¬ 215 = 228 by decide), if_neg (show ¬ 215 = 82 + k by omega), if_neg (show ¬ 215 = k by omega)]; exact t0_3, by show _ = v4 216; rw [v4e 216 (by unfold mpl; omega), if_neg (show ¬ 216 = 233 by decide), if_neg (show ¬ 216 = 228 by decide), if_neg (show ¬ 216 = 82 + k by omega), if_neg (show ¬ 216 = k by omega)]; exact t0_4, by show _ = v4 217; rw [v4e 217 (by unfold mpl; omega), if_neg (show ¬ 217 = 233 by decide), if_neg (show ¬ 217 = 228 by decide), if_neg (show ¬ 217 = 82 + k by omega), if_neg (show ¬ 217 = k by omega)]; exact t0_5, by show _ = v4 218; rw [v4e 218 (by unfold mpl; omega), if_neg (show ¬ 218 = 233 by decide), if_neg (show ¬ 218 = 228 by decide), if_neg (show ¬ 218 = 82 + k by omega), if_neg (show ¬ 218 = k by omega)]; exact t0_6, by show _ = v4 219; rw [v4e 219 (by unfold mpl; omega), if_neg (show ¬ 219 = 233 by decide), if_neg (show ¬ 219 = 228 by decide), if_neg (show ¬ 219 = 82 + k by omega), if_neg (show ¬ 219 = k by omega)]; exact t0_7, B0⟩ ⟨by show _ = v4 228; rw [v4e 228 (by unfold mpl; omega), if_neg (show ¬ 228 = 233 by decide), if_pos rfl], by show _ = v4 229; rw [v4e 229 (by unfold mpl; omega), if_neg (show ¬ 229 = 233 by decide), if_neg (show ¬ 229 = 228 by decide), if_neg (show ¬ 229 = 82 + k by omega), if_neg (show ¬ 229 = k by omega)]; exact t1_1, by show _ = v4 231; rw [v4e 231 (by unfold mpl; omega), if_neg (show ¬ 231 = 233 by decide), if_neg (show ¬ 231 = 228 by decide), if_neg (show ¬ 231 = 82 + k by omega), if_neg (show ¬ 231 = k by omega)]; exact t1_3, by show _ = v4 232; rw [v4e 232 (by unfold mpl; omega), if_neg (show ¬ 232 = 233 by decide), if_neg (show ¬ 232 = 228 by decide), if_neg (show ¬ 232 = 82 + k by omega), if_neg (show ¬ 232 = k by omega)]; exact t1_4, by show _ = v4 233; rw [v4e 233 (by unfold mpl; omega), if_pos rfl], by show _ = v4 234; rw [v4e 234 (by unfold mpl; omega), if_neg (show ¬ 234 = 233 by decide), if_neg (show ¬ 234 = 228 by decide), if_neg (show ¬ 234 = 82 + k by omega), if_neg (show ¬ 234 = k by omega)]; exact t1_6, by show _ = v4 235; rw [v4e 235 (by unfold mpl; omega), if_neg (show ¬ 235 = 233 by decide), if_neg (show ¬ 235 = 228 by decide), if_neg (show ¬ 235 = 82 + k by omega), if_neg (show ¬ 235 = k by omega)]; exact t1_7, B1⟩ pb
  have hd4 : ¬ vd v4 k := by
    have l1 := jF_lt hk
    have l2 := jS_lt hk
    unfold vd
    rw [ec _ (by omega), ec _ (by omega), if_neg (by omega), if_neg (by omega), if_neg (by omega), if_neg (by omega)]
    exact hd
  have hov : ¬ (200 : Int32) ≤ v4 244 := by rw [x4]; exact over_T c1
  obtain ⟨q1, q2⟩ := rag_s vlb g4.1 hk hd4
  rw [rag_mk hk] at q2
  unfold F_Game_snipJoint
  rw [bnd_eq, creason h.1 h.2.2.1 hk, hr, if_pos rfl, bnd_eq, hfi, bnd_eq, bnd_eq, make_f hk]
  dsimp only
  generalize F_Cloth_ragOf (nI k) ac dn = rag at q2 ⊢
  generalize F_Model_layPieces (nI k) 0 v4 vlb = lab at q1 q2
  rcases q2 with ⟨f1, f2⟩ | ⟨m, i0, hm48, hi48, f1, f2, dD, n⟩
  · have hff : F_Model_fallsBy (nI k) v4 vlb = (-6, lab) := Prod.ext f1 q1
    rw [f2, if_pos (show lg_cmp 0 0 = 0 by decide +kernel), bnd_eq, bnd_eq, bc_0, hf, snT_none (q := 1) (by omega) e hff]
    have hz := ends_GR 0 (GRk_le g4 (by omega)) hov
    exact ⟨_, _, _, _, _, _, _, _, _, _, _, _, _, _, _, _, _, _, rfl, rfl, hz⟩
  · have hff : F_Model_fallsBy (nI k) v4 vlb = (nI m, lab) := Prod.ext f1 q1
    have hlg : ¬ lg_cmp rag 0 = 0 := fun z => by
      have y := lgz.mp z
      have bi := (n i0 hi48).mpr f2
      rw [y, b6_zero] at bi
      exact Bool.false_ne_true bi
    have hbc := bc_cells dD n
    have hcn := cellsOf_n (nI m) lab
    have hp : 1 ≤ cntB (fun c => decide (lab c = nI m)) 48 := cntB_pos hi48 (decide_eq_true f2)
    have hle := cntB_le (fun c => decide (lab c = nI m)) 48
    generalize cntB (fun c => decide (lab c = nI m)) 48 = N at hcn hp hle
    have hx : ¬ F_Model_cellsOf (nI m) lab ≤ 0 := by rw [hcn]; exact nI_nle (by omega) (by omega)
    have hcb : (-48 : Int) ≤ (F_Model_cellsOf (nI m) lab).toInt ∧ (F_Model_cellsOf (nI m) lab).toInt ≤ 48 := by
      rw [hcn, nI_toInt (by omega)]; omega
    clear hcn
    generalize hcc : F_Model_cellsOf (nI m) lab = cells at hbc hx hcb
    obtain ⟨Y1, w1, l1, l2⟩ := gone_loop (nI k) vs vlb lab (nI m) (F_Tailor_hasMark (nI k) mks0 fma0) hx 49 0 v4 (by omega) (by omega)
    rw [nI_0] at l1
    have hC5 := tear_CR (vs' := w1) g4.1 dD (fun i hi => by rw [l2 i, if_neg (by omega)]) (fun c hc => by
      rw [l2 (164 + c)]
      by_cases z : lab c = nI m
      · rw [if_pos ⟨by omega, by omega, by rw [show 164 + c - 164 = c by omega]; exact z⟩]
        exact ⟨fun _ => Or.inl ((n c hc).mpr z), fun _ => rfl⟩
      · rw [if_neg (fun y => z (by have := y.2.2; rwa [show 164 + c - 164 = c by omega] at this))]
        exact ⟨Or.inr, fun y => y.resolve_left (fun u => z ((n c hc).mp u))⟩)
    have B0' : ∃ M, MS 0 D0.1 D0.2 w1 M := B0.imp fun M z => MS_ext2 z (by rw [l2, if_neg (by unfold tO; omega)]) (fun i a b => by rw [l2 i, if_neg (by unfold tO at a b; omega)])
    have B1' : ∃ M, MS 1 D1.1 D1.2 w1 M := B1.imp fun M z => MS_ext2 z (by rw [l2, if_neg (by unfold tO; omega)]) (fun i a b => by rw [l2 i, if_neg (by unfold tO at a b; omega)])
    obtain ⟨X, Y2, m0, g0, m1, g1, w2, s1, s2, s3, s4, s5⟩ := rag_loop rag 1 gn (if k < 42 then mkB 1 k ac else ac) (if k < 42 then dn else mkB 1 k dn) D0.1 (pts0) rgs0 rgc0 D0.2 D1.1 (pts1 + dp) rgs1 rgc1 D1.2 (nI k) vs vlb lab (pts0) (rgs0) (rgc0) (pts1 + dp + cells) (rgs1 + 1) (rgc1 + cells) cells (nI m) (F_Tailor_hasMark (nI k) mks0 fma0) hC5 hx 83 0 D0.1 D0.2 D1.1 D1.2 w1 (by omega) (by omega) (fun i _ => rfl) B0' B1'
    rw [nI_0] at s1 s2
    have hlo : F_Game_loseRag rag 1 gn (if k < 42 then mkB 1 k ac else ac) (if k < 42 then dn else mkB 1 k dn) D0.1 (pts0) rgs0 rgc0 D0.2 D1.1 (pts1 + dp) rgs1 rgc1 D1.2 = ((F_Cloth_tearOff rag gn (if k < 42 then mkB 1 k ac else ac) (if k < 42 then dn else mkB 1 k dn)).1, (F_Cloth_tearOff rag gn (if k < 42 then mkB 1 k ac else ac) (if k < 42 then dn else mkB 1 k dn)).2.1, (F_Cloth_tearOff rag gn (if k < 42 then mkB 1 k ac else ac) (if k < 42 then dn else mkB 1 k dn)).2.2, m0, pts0, rgs0, rgc0, g0, m1, pts1 + dp + cells, rgs1 + 1, rgc1 + cells, g1) := by
      unfold F_Game_loseRag
      rw [bnd_eq, if_neg (show ¬ (1 : Int32) = 0 by decide), bnd_eq, hbc, bnd_eq]
      dsimp only [F_Tailor_winRag]
      rw [bnd_eq, s1]
    rw [if_neg hlg, bnd_eq, hlo, bnd_eq, bnd_eq, hbc, hf, snT_some (q := 1) (by omega) hm48 e hff hcc hx l1 s2]
    have w2e : ∀ i, 212 ≤ i → ¬ mpl i → w2 i = v4 i := fun i a hi => (s5 i hi).trans (by rw [l2 i, if_neg (by omega)])
    have hC2 := CR_ext hC5 (fun i hi => s5 i (by unfold mpl; omega))
    have hv6 : ∀ i, (upd (upd (upd w2 (tO 1) (w2 (tO 1) + cells)) (tO 1 + 4) (w2 (tO 1 + 4) + cells)) (tO 1 + 3) (w2 (tO 1 + 3) + 1)) i = if i = 231 then w2 231 + 1 else if i = 232 then w2 232 + cells else if i = 228 then w2 228 + cells else w2 i := fun i => rfl
    generalize (upd (upd (upd w2 (tO 1) (w2 (tO 1) + cells)) (tO 1 + 4) (w2 (tO 1 + 4) + cells)) (tO 1 + 3) (w2 (tO 1 + 3) + 1)) = v6 at hv6 ⊢
    have y4 : v6 244 = v4 244 := by rw [hv6 244, if_neg (show ¬ 244 = 231 by decide), if_neg (show ¬ 244 = 232 by decide), if_neg (show ¬ 244 = 228 by decide), w2e 244 (by omega) (by unfold mpl; omega)]
    have y5 : v6 245 = v4 245 := by rw [hv6 245, if_neg (show ¬ 245 = 231 by decide), if_neg (show ¬ 245 = 232 by decide), if_neg (show ¬ 245 = 228 by decide), w2e 245 (by omega) (by unfold mpl; omega)]
    have pb6 : PB 51 v6 := by
      have z := PB_chg (e := 3) (f := 48) (d1 := cells) (d0 := 0) (v1 := v6) g4.2.2.2.2.2.2 (by omega) (by omega) y4 (by rw [hv6 212, if_neg (show ¬ 212 = 231 by decide), if_neg (show ¬ 212 = 232 by decide), if_neg (show ¬ 212 = 228 by decide), w2e 212 (by omega) (by unfold mpl; omega)]; exact (Int32.add_zero _).symm) (by rw [hv6 228, if_neg (show ¬ 228 = 231 by decide), if_neg (show ¬ 228 = 232 by decide), if_pos rfl, w2e 228 (by omega) (by unfold mpl; omega)]) (by decide) (hcb)
      exact z
    obtain ⟨u0_0, u0_1, u0_3, u0_4, u0_5, u0_6, u0_7, -⟩ := g4.2.2.2.2.1
    obtain ⟨u1_0, u1_1, u1_3, u1_4, u1_5, u1_6, u1_7, -⟩ := g4.2.2.2.2.2.1
    have hG : GRk 51 1 tn (F_Cloth_tearOff rag gn (if k < 42 then mkB 1 k ac else ac) (if k < 42 then dn else mkB 1 k dn)).1 (F_Cloth_tearOff rag gn (if k < 42 then mkB 1 k ac else ac) (if k < 42 then dn else mkB 1 k dn)).2.1 (F_Cloth_tearOff rag gn (if k < 42 then mkB 1 k ac else ac) (if k < 42 then dn else mkB 1 k dn)).2.2 (upd fs k 1) (upd fm k (-6)) m0 (pts0) ths0 (rgs0) (rgc0) (fnd0) rdb0 wdb0 g0 m1 (pts1 + dp + cells) ths1 (rgs1 + 1) (rgc1 + cells) (fnd1 + df) rdb1 wdb1 g1 v6 := ⟨CR_ext hC2 (fun i hi => by rw [hv6 i, if_neg (by omega), if_neg (by omega), if_neg (by omega)]), g4.2.1.trans y5.symm, g4.2.2.1.trans y4.symm, by rw [y5]; exact g4.2.2.2.1, ⟨by show _ = v6 212; rw [hv6 212, if_neg (show ¬ 212 = 231 by decide), if_neg (show ¬ 212 = 232 by decide), if_neg (show ¬ 212 = 228 by decide), w2e 212 (by omega) (by unfold mpl; omega)]; exact u0_0, by show _ = v6 213; rw [hv6 213, if_neg (show ¬ 213 = 231 by decide), if_neg (show ¬ 213 = 232 by decide), if_neg (show ¬ 213 = 228 by decide), w2e 213 (by omega) (by unfold mpl; omega)]; exact u0_1, by show _ = v6 215; rw [hv6 215, if_neg (show ¬ 215 = 231 by decide), if_neg (show ¬ 215 = 232 by decide), if_neg (show ¬ 215 = 228 by decide), w2e 215 (by omega) (by unfold mpl; omega)]; exact u0_3, by show _ = v6 216; rw [hv6 216, if_neg (show ¬ 216 = 231 by decide), if_neg (show ¬ 216 = 232 by decide), if_neg (show ¬ 216 = 228 by decide), w2e 216 (by omega) (by unfold mpl; omega)]; exact u0_4, by show _ = v6 217; rw [hv6 217, if_neg (show ¬ 217 = 231 by decide), if_neg (show ¬ 217 = 232 by decide), if_neg (show ¬ 217 = 228 by decide), w2e 217 (by omega) (by unfold mpl; omega)]; exact u0_5, by show _ = v6 218; rw [hv6 218, if_neg (show ¬ 218 = 231 by decide), if_neg (show ¬ 218 = 232 by decide), if_neg (show ¬ 218 = 228 by decide), w2e 218 (by omega) (by unfold mpl; omega)]; exact u0_6, by show _ = v6 219; rw [hv6 219, if_neg (show ¬ 219 = 231 by decide), if_neg (show ¬ 219 = 232 by decide), if_neg (show ¬ 219 = 228 by decide), w2e 219 (by omega) (by unfold mpl; omega)]; exact u0_7, s3.imp fun M z => MS_ext2 z (by show v6 214 = w2 214; rw [hv6 214, if_neg (show ¬ 214 = 231 by decide), if_neg (show ¬ 214 = 232 by decide), if_neg (show ¬ 214 = 228 by decide)]) (fun i a b => by rw [hv6 i, if_neg (show ¬ i = 231 by unfold tO at a b; omega), if_neg (show ¬ i = 232 by unfold tO at a b; omega), if_neg (show ¬ i = 228 by unfold tO at a b; omega)])⟩, ⟨by show _ = v6 228; rw [hv6 228, if_neg (show ¬ 228 = 231 by decide), if_neg (show ¬ 228 = 232 by decide), if_pos rfl, w2e 228 (by omega) (by unfold mpl; omega)]; exact congrArg (fun z => z + cells) u1_0, by show _ = v6 229; rw [hv6 229, if_neg (show ¬ 229 = 231 by decide), if_neg (show ¬ 229 = 232 by decide), if_neg (show ¬ 229 = 228 by decide), w2e 229 (by omega) (by unfold mpl; omega)]; exact u1_1, by show _ = v6 231; rw [hv6 231, if_pos rfl, w2e 231 (by omega) (by unfold mpl; omega)]; exact congrArg (fun z => z + 1) u1_3, by show _ = v6 232; rw [hv6 232, if_neg (show ¬ 232 = 231 by decide), if_pos rfl, w2e 232 (by omega) (by unfold mpl; omega)]; exact congrArg (fun z => z + cells) u1_4, by show _ = v6 233; rw [hv6 233, if_neg (show ¬ 233 = 231 by decide), if_neg (show ¬ 233 = 232 by decide), if_neg (show ¬ 233 = 228 by decide), w2e 233 (by omega) (by unfold mpl; omega)]; exact u1_5, by show _ = v6 234; rw [hv6 234, if_neg (show ¬ 234 = 231 by decide), if_neg (show ¬ 234 = 232 by decide), if_neg (show ¬ 234 = 228 by decide), w2e 234 (by omega) (by unfold mpl; omega)]; exact u1_6, by show _ = v6 235; rw [hv6 235, if_neg (show ¬ 235 = 231 by decide), if_neg (show ¬ 235 = 232 by decide), if_neg (show ¬ 235 = 228 by decide), w2e 235 (by omega) (by unfold mpl; omega)]; exact u1_7, s4.imp fun M z => MS_ext2 z (by show v6 230 = w2 230; rw [hv6 230, if_neg (show ¬ 230 = 231 by decide), if_neg (show ¬ 230 = 232 by decide), if_neg (show ¬ 230 = 228 by decide)]) (fun i a b => by rw [hv6 i, if_neg (show ¬ i = 231 by unfold tO at a b; omega), if_neg (show ¬ i = 232 by unfold tO at a b; omega), if_neg (show ¬ i = 228 by unfold tO at a b; omega)])⟩, pb6⟩
    have hz := ends_GR cells (GRk_le hG (by omega)) (by rw [y4]; exact hov)
    exact ⟨_, _, _, _, _, _, _, _, _, _, _, _, _, _, _, _, _, _, rfl, rfl, hz⟩
set_option maxHeartbeats 4000000 in
theorem sim_snip {nx : Int32} {tn : Int32} {gn : Int64} {ac : Int64} {dn : Int64} {fs : Nat → Int32} {fm : Nat → Int32} {mks0 : Int32} {pts0 : Int32} {ths0 : Int32} {rgs0 : Int32} {rgc0 : Int32} {fnd0 : Int32} {rdb0 : Int32} {wdb0 : Int32} {fma0 : Nat → Int32} {mks1 : Int32} {pts1 : Int32} {ths1 : Int32} {rgs1 : Int32} {rgc1 : Int32} {fnd1 : Int32} {rdb1 : Int32} {wdb1 : Int32} {fma1 : Nat → Int32} {vs vlb : Nat → Int32} (h : GRk 0 nx tn gn ac dn fs fm mks0 pts0 ths0 rgs0 rgc0 fnd0 rdb0 wdb0 fma0 mks1 pts1 ths1 rgs1 rgc1 fnd1 rdb1 wdb1 fma1 vs) (j : Int32) : SIM (F_Game_obey 115 j nx tn gn ac dn fs fm mks0 pts0 ths0 rgs0 rgc0 fnd0 rdb0 wdb0 fma0 mks1 pts1 ths1 rgs1 rgc1 fnd1 rdb1 wdb1 fma1) (F_Model_does 115 j vs vlb) := by
  have d10 : ¬ (1 : Int32) = 0 := by decide
  have em : F_Model_does 115 j vs vlb = ((F_Model_snips j vs vlb).1, (F_Model_snips j vs vlb).2.1, (F_Model_snips j vs vlb).2.2) := by
    unfold F_Model_does
    rw [if_neg (show ¬ (115 : Int32) = 98 by decide), if_neg (show ¬ (115 : Int32) = 99 by decide), if_neg (show ¬ (115 : Int32) = 100 by decide), if_pos rfl]
    rfl
  rw [em]
  have sd : ¬ F_Model_reason j vs ≤ 0 → ¬ F_Model_isJoint j = 0 → F_Model_snips j vs vlb = (-5, vs, vlb) := fun a b => by
    unfold F_Model_snips
    rw [bnd_eq, if_neg b, bnd_eq, if_neg a]
  unfold F_Game_obey
  rw [if_neg (show ¬ (115 : Int32) = 112 by decide), bnd_eq]
  by_cases hj : vp_in j 82
  · obtain ⟨k, hk, rfl⟩ := vp_in_of hj (by decide)
    have t := j_tab ⟨k, hk⟩
    dsimp only at t
    have tj : ¬ F_Model_isJoint (nI k) = 0 := by rw [t.2.2.2.2.2.2.2.2]; decide
    rw [t.2.2.2.2.2.2.2.1, if_neg d10, bnd_eq, cover h.1 h.2.2.1]
    by_cases c1 : F_Model_isOver vs = 0
    · rw [if_pos c1, bnd_eq, cvoid h.1 hk]
      by_cases c2 : F_Model_isVoid (nI k) vs = 0
      · rw [if_pos c2, if_neg (show ¬ (115 : Int32) = 98 by decide), if_neg (show ¬ (115 : Int32) = 99 by decide), if_neg (show ¬ (115 : Int32) = 100 by decide), if_pos rfl, bnd_eq]
        have hrr : F_Model_reason (nI k) vs = if vs k = 1 then 3 else 0 := by
          unfold F_Model_reason
          dsimp only [bnd]
          rw [if_pos c1, if_pos c2, mj0 hk]
        by_cases c3 : vs k = 1
        · rw [if_pos c3] at hrr
          rw [sd (by rw [hrr]; decide) tj]
          unfold F_Game_snipJoint
          rw [bnd_eq, creason h.1 h.2.2.1 hk, hrr, if_neg (show ¬ (3 : Int32) = 0 by decide)]
          exact ⟨rfl, h⟩
        · rw [if_neg c3] at hrr
          rcases h.2.2.2.1 with e | e
          · obtain ⟨a, g', ac', dn', m0, p0, r0, cc0, n0, f0, m1, p1, r1, cc1, n1, f1, v', l', e1, e2, e3⟩ := snip_0 (vlb := vlb) h e hk ((mvoid hk).mp c2) c1 hrr
            rw [e1, e2]
            exact ⟨rfl, e3⟩
          · obtain ⟨a, g', ac', dn', m0, p0, r0, cc0, n0, f0, m1, p1, r1, cc1, n1, f1, v', l', e1, e2, e3⟩ := snip_1 (vlb := vlb) h e hk ((mvoid hk).mp c2) c1 hrr
            rw [e1, e2]
            exact ⟨rfl, e3⟩
      · rw [if_neg c2]
        have hrr : ¬ F_Model_reason (nI k) vs ≤ 0 := by
          unfold F_Model_reason
          dsimp only [bnd]
          rw [if_pos c1, if_neg c2]; decide
        rw [sd hrr tj]
        exact ⟨rfl, h⟩
    · rw [if_neg c1]
      have hrr : ¬ F_Model_reason (nI k) vs ≤ 0 := by
        unfold F_Model_reason
        dsimp only [bnd]
        rw [if_neg c1]; decide
      rw [sd hrr tj]
      exact ⟨rfl, h⟩
  · obtain ⟨j1, j2⟩ := nj hj
    have ms : F_Model_snips j vs vlb = (-1, vs, vlb) := by
      unfold F_Model_snips
      rw [bnd_eq, if_pos j2]
    rw [j1, if_pos rfl, ms]
    exact ⟨rfl, h⟩
