-- one turn, both sides: chalk
theorem add_MS {q : Nat} {mks : Int32} {f vs v1 : Nat → Int32} {M k : Nat} (h : MS q mks f vs M) (hM : M < 8) (hno : ∀ i, i < M → ¬ f i = nI k) (hk : k < 82) (hv : ∀ i, v1 i = if i = tO q + 2 then nI (M + 1) else if i = tO q + 8 + M then nI k else vs i) : MS q (mks + 1) (upd f mks.toNatClampNeg (nI k)) v1 (M + 1) := by
  obtain ⟨h1, h2, ⟨-, h3, h4⟩, h5⟩ := h
  rw [h1, nI_clamp (by omega)]
  refine ⟨nI_1 M, by rw [hv, if_pos rfl], ⟨by omega, fun i hi => ?_, fun i l hi hl e => ?_⟩, fun i hi => ?_⟩
  · by_cases a : i = M
    · subst a; rw [pk_us]; exact ⟨k, hk, rfl⟩
    · rw [pk_un a]; exact h3 i (by omega)
  · by_cases a : i = M
    · by_cases b : l = M
      · omega
      · rw [a, pk_us, pk_un b] at e; exact absurd e.symm (hno l (by omega))
    · by_cases b : l = M
      · rw [b, pk_us, pk_un a] at e; exact absurd e (hno i (by omega))
      · rw [pk_un a, pk_un b] at e; exact h4 i l (by omega) (by omega) e
  · rw [hv, if_neg (by omega)]
    by_cases a : i = M
    · subst a; rw [pk_us, if_pos rfl]
    · rw [pk_un a, if_neg (by omega)]; exact h5 i (by omega)
theorem chalk_GR0 {nx : Int32} {tn : Int32} {gn : Int64} {ac : Int64} {dn : Int64} {fs : Nat → Int32} {fm : Nat → Int32} {mks0 : Int32} {pts0 : Int32} {ths0 : Int32} {rgs0 : Int32} {rgc0 : Int32} {fnd0 : Int32} {rdb0 : Int32} {wdb0 : Int32} {fma0 : Nat → Int32} {mks1 : Int32} {pts1 : Int32} {ths1 : Int32} {rgs1 : Int32} {rgc1 : Int32} {fnd1 : Int32} {rdb1 : Int32} {wdb1 : Int32} {fma1 : Nat → Int32} {vs v1 : Nat → Int32} {M k : Nat} (h : GRk 0 nx tn gn ac dn fs fm mks0 pts0 ths0 rgs0 rgc0 fnd0 rdb0 wdb0 fma0 mks1 pts1 ths1 rgs1 rgc1 fnd1 rdb1 wdb1 fma1 vs) (hMS : MS 0 mks0 fma0 vs M) (hM : M < 8) (hno : ∀ i, i < M → ¬ fma0 i = nI k) (hk : k < 82) (hv : ∀ i, v1 i = if i = tO 0 + 2 then nI (M + 1) else if i = tO 0 + 8 + M then nI k else vs i) : GRk 60 nx tn gn ac dn fs fm (mks0 + 1) pts0 ths0 rgs0 rgc0 fnd0 rdb0 wdb0 (upd fma0 mks0.toNatClampNeg (nI k)) mks1 pts1 ths1 rgs1 rgc1 fnd1 rdb1 wdb1 fma1 v1 := by
  obtain ⟨t1, t2, t3, t4, t5, t6, t7, -⟩ := h.2.2.2.2.1
  have u : ∀ i, i < 212 ∨ 244 ≤ i → v1 i = vs i := fun i hi => by rw [hv, if_neg (by unfold tO; omega), if_neg (by unfold tO; omega)]
  have w : ∀ i, i = 212 ∨ i = 228 → v1 i = vs i := fun i hi => by rw [hv, if_neg (by unfold tO; omega), if_neg (by unfold tO; omega)]
  refine ⟨CR_ext h.1 (fun i hi => u i (Or.inl hi)), by rw [u _ (by omega)]; exact h.2.1, by rw [u _ (by omega)]; exact h.2.2.1, by rw [u _ (by omega)]; exact h.2.2.2.1, ⟨by rw [hv, if_neg (by omega), if_neg (by omega)]; exact t1, by rw [hv, if_neg (by omega), if_neg (by omega)]; exact t2, by rw [hv, if_neg (by omega), if_neg (by omega)]; exact t3, by rw [hv, if_neg (by omega), if_neg (by omega)]; exact t4, by rw [hv, if_neg (by omega), if_neg (by omega)]; exact t5, by rw [hv, if_neg (by omega), if_neg (by omega)]; exact t6, by rw [hv, if_neg (by omega), if_neg (by omega)]; exact t7, M + 1, add_MS hMS hM hno hk hv⟩, TRc_ext h.2.2.2.2.2.1 (fun i a b => by rw [hv, if_neg (by unfold tO at *; omega), if_neg (by unfold tO at *; omega)]), ?_⟩
  obtain ⟨T, g1, g2, g3, g4⟩ := PB_up h.2.2.2.2.2.2
  exact ⟨T, g1, by rw [u _ (by omega)]; exact g2, by rw [w _ (by omega)]; exact g3, by rw [w _ (by omega)]; exact g4⟩
theorem chalk_GR1 {nx : Int32} {tn : Int32} {gn : Int64} {ac : Int64} {dn : Int64} {fs : Nat → Int32} {fm : Nat → Int32} {mks0 : Int32} {pts0 : Int32} {ths0 : Int32} {rgs0 : Int32} {rgc0 : Int32} {fnd0 : Int32} {rdb0 : Int32} {wdb0 : Int32} {fma0 : Nat → Int32} {mks1 : Int32} {pts1 : Int32} {ths1 : Int32} {rgs1 : Int32} {rgc1 : Int32} {fnd1 : Int32} {rdb1 : Int32} {wdb1 : Int32} {fma1 : Nat → Int32} {vs v1 : Nat → Int32} {M k : Nat} (h : GRk 0 nx tn gn ac dn fs fm mks0 pts0 ths0 rgs0 rgc0 fnd0 rdb0 wdb0 fma0 mks1 pts1 ths1 rgs1 rgc1 fnd1 rdb1 wdb1 fma1 vs) (hMS : MS 1 mks1 fma1 vs M) (hM : M < 8) (hno : ∀ i, i < M → ¬ fma1 i = nI k) (hk : k < 82) (hv : ∀ i, v1 i = if i = tO 1 + 2 then nI (M + 1) else if i = tO 1 + 8 + M then nI k else vs i) : GRk 60 nx tn gn ac dn fs fm mks0 pts0 ths0 rgs0 rgc0 fnd0 rdb0 wdb0 fma0 (mks1 + 1) pts1 ths1 rgs1 rgc1 fnd1 rdb1 wdb1 (upd fma1 mks1.toNatClampNeg (nI k)) v1 := by
  obtain ⟨t1, t2, t3, t4, t5, t6, t7, -⟩ := h.2.2.2.2.2.1
  have u : ∀ i, i < 212 ∨ 244 ≤ i → v1 i = vs i := fun i hi => by rw [hv, if_neg (by unfold tO; omega), if_neg (by unfold tO; omega)]
  have w : ∀ i, i = 212 ∨ i = 228 → v1 i = vs i := fun i hi => by rw [hv, if_neg (by unfold tO; omega), if_neg (by unfold tO; omega)]
  refine ⟨CR_ext h.1 (fun i hi => u i (Or.inl hi)), by rw [u _ (by omega)]; exact h.2.1, by rw [u _ (by omega)]; exact h.2.2.1, by rw [u _ (by omega)]; exact h.2.2.2.1, TRc_ext h.2.2.2.2.1 (fun i a b => by rw [hv, if_neg (by unfold tO at *; omega), if_neg (by unfold tO at *; omega)]), ⟨by rw [hv, if_neg (by omega), if_neg (by omega)]; exact t1, by rw [hv, if_neg (by omega), if_neg (by omega)]; exact t2, by rw [hv, if_neg (by omega), if_neg (by omega)]; exact t3, by rw [hv, if_neg (by omega), if_neg (by omega)]; exact t4, by rw [hv, if_neg (by omega), if_neg (by omega)]; exact t5, by rw [hv, if_neg (by omega), if_neg (by omega)]; exact t6, by rw [hv, if_neg (by omega), if_neg (by omega)]; exact t7, M + 1, add_MS hMS hM hno hk hv⟩, ?_⟩
  obtain ⟨T, g1, g2, g3, g4⟩ := PB_up h.2.2.2.2.2.2
  exact ⟨T, g1, by rw [u _ (by omega)]; exact g2, by rw [w _ (by omega)]; exact g3, by rw [w _ (by omega)]; exact g4⟩
set_option maxHeartbeats 4000000 in
theorem sim_chalk {nx : Int32} {tn : Int32} {gn : Int64} {ac : Int64} {dn : Int64} {fs : Nat → Int32} {fm : Nat → Int32} {mks0 : Int32} {pts0 : Int32} {ths0 : Int32} {rgs0 : Int32} {rgc0 : Int32} {fnd0 : Int32} {rdb0 : Int32} {wdb0 : Int32} {fma0 : Nat → Int32} {mks1 : Int32} {pts1 : Int32} {ths1 : Int32} {rgs1 : Int32} {rgc1 : Int32} {fnd1 : Int32} {rdb1 : Int32} {wdb1 : Int32} {fma1 : Nat → Int32} {vs vlb : Nat → Int32} (h : GRk 0 nx tn gn ac dn fs fm mks0 pts0 ths0 rgs0 rgc0 fnd0 rdb0 wdb0 fma0 mks1 pts1 ths1 rgs1 rgc1 fnd1 rdb1 wdb1 fma1 vs) (j : Int32) : SIM (F_Game_obey 99 j nx tn gn ac dn fs fm mks0 pts0 ths0 rgs0 rgc0 fnd0 rdb0 wdb0 fma0 mks1 pts1 ths1 rgs1 rgc1 fnd1 rdb1 wdb1 fma1) (F_Model_does 99 j vs vlb) := by
  have d10 : ¬ (1 : Int32) = 0 := by decide
  have em : F_Model_does 99 j vs vlb = ((F_Model_chalks j vs).1, (F_Model_chalks j vs).2, vlb) := by
    unfold F_Model_does
    rw [if_neg (show ¬ (99 : Int32) = 98 by decide), if_pos rfl]
    rfl
  rw [em]
  unfold F_Game_obey F_Model_chalks
  rw [if_neg (show ¬ (99 : Int32) = 112 by decide)]
  dsimp only [bnd]
  by_cases hj : vp_in j 82
  · obtain ⟨k, hk, rfl⟩ := vp_in_of hj (by decide)
    have t := j_tab ⟨k, hk⟩
    dsimp only at t
    rw [t.2.2.2.2.2.2.2.1, t.2.2.2.2.2.2.2.2, if_neg d10, if_neg d10, if_neg (show ¬ (99 : Int32) = 98 by decide), if_pos rfl, cover h.1 h.2.2.1]
    by_cases c1 : F_Model_isOver vs = 0
    · rw [if_pos c1, if_pos c1, cvoid h.1 hk, n245]
      by_cases c2 : F_Model_isVoid (nI k) vs = 0
      · rw [if_pos c2]
        rcases h.2.2.2.1 with e | e
        · obtain rfl : nx = 0 := h.2.1.trans e
          unfold F_Game_markJoint
          rw [if_pos rfl]
          dsimp only [bnd]
          rw [cholds h.1 hk, e]
          by_cases c3 : F_Model_holds (nI k) vs = 0
          · rw [if_pos c3, if_pos c3]; exact ⟨rfl, h⟩
          · rw [if_neg c3, if_neg c3]
            obtain ⟨-, -, -, -, -, -, -, M, hMS⟩ := h.2.2.2.2.1
            have hm : F_Tailor_hasMark (nI k) mks0 fma0 = F_Model_hasChalk 0 (nI k) vs := hasC (q := 0) (by omega) hMS
            rw [hm]
            by_cases c4 : F_Model_hasChalk 0 (nI k) vs = 0
            · rw [if_pos c4, if_pos c4]
              have a2 : F_Model_at 0 2 = nI 214 := by decide +kernel
              have a8 : F_Model_at 0 8 = nI 220 := by decide +kernel
              have hno : ∀ i, i < M → ¬ fma0 i = nI k := by
                have z := (hm_0 (nI k) hMS.2.2.1.1 fma0).2.mp
                rw [← hMS.1, hm] at z
                exact z c4
              have hM8 := hMS.2.2.1.1
              have hc : vs 214 = nI M := hMS.2.1
              rw [a2, a8, nI_clamp (by omega), hc, nI_add, nI_clamp (by omega)]
              unfold F_Tailor_addMark
              rw [hMS.1]
              by_cases c5 : M = 8
              · have d8 : ¬ nI M < 8 := by rw [c5]; decide
                have d9 : nI M = 8 := by rw [c5]; rfl
                rw [if_neg d8, if_pos d9]
                dsimp only
                rw [if_pos rfl]
                have hh := h
                rw [hMS.1] at hh
                exact ⟨rfl, hh⟩
              · have d8 : nI M < 8 := (nI_ltI (b := 8) (by omega) (by omega)).mpr (by omega)
                have d9 : ¬ nI M = 8 := fun z => c5 ((nI_eq (b := 8) (by omega) (by omega)).mp z)
                rw [if_pos d8, if_neg d9]
                dsimp only
                rw [if_neg d10]
                have hv : ∀ i, upd (upd vs (220 + M) (nI k)) 214 (upd vs (220 + M) (nI k) 214 + 1) i = if i = tO 0 + 2 then nI (M + 1) else if i = tO 0 + 8 + M then nI k else vs i := fun i => by
                  show _ = if i = 214 then nI (M + 1) else if i = 220 + M then nI k else vs i
                  rw [pk_un (j := 214) (k := 220 + M) (by omega), hc, nI_1]
                  by_cases a : i = 214
                  · rw [if_pos a, a, pk_us]
                  · rw [if_neg a, pk_un a]
                    by_cases bb : i = 220 + M
                    · rw [if_pos bb, bb, pk_us]
                    · rw [if_neg bb, pk_un bb]
                have hg := chalk_GR0 h hMS (by omega) hno hk hv
                rw [hMS.1] at hg
                refine ⟨?_, ends_GR (upd (upd vs (220 + M) (nI k)) 214 (upd vs (220 + M) (nI k) 214 + 1) 214) hg (by rw [hv, if_neg (by unfold tO; omega), if_neg (by unfold tO; omega)]; exact over_T c1)⟩
                show nI M + 1 = upd (upd vs (220 + M) (nI k)) 214 (upd vs (220 + M) (nI k) 214 + 1) 214
                rw [pk_us, pk_un (by omega), hc]
            · rw [if_neg c4, if_neg c4]; exact ⟨rfl, h⟩
        · obtain rfl : nx = 1 := h.2.1.trans e
          unfold F_Game_markJoint
          rw [if_neg d10]
          dsimp only [bnd]
          rw [cholds h.1 hk, e]
          by_cases c3 : F_Model_holds (nI k) vs = 0
          · rw [if_pos c3, if_pos c3]; exact ⟨rfl, h⟩
          · rw [if_neg c3, if_neg c3]
            obtain ⟨-, -, -, -, -, -, -, M, hMS⟩ := h.2.2.2.2.2.1
            have hm : F_Tailor_hasMark (nI k) mks1 fma1 = F_Model_hasChalk 1 (nI k) vs := hasC (q := 1) (by omega) hMS
            rw [hm]
            by_cases c4 : F_Model_hasChalk 1 (nI k) vs = 0
            · rw [if_pos c4, if_pos c4]
              have a2 : F_Model_at 1 2 = nI 230 := by decide +kernel
              have a8 : F_Model_at 1 8 = nI 236 := by decide +kernel
              have hno : ∀ i, i < M → ¬ fma1 i = nI k := by
                have z := (hm_0 (nI k) hMS.2.2.1.1 fma1).2.mp
                rw [← hMS.1, hm] at z
                exact z c4
              have hM8 := hMS.2.2.1.1
              have hc : vs 230 = nI M := hMS.2.1
              rw [a2, a8, nI_clamp (by omega), hc, nI_add, nI_clamp (by omega)]
              unfold F_Tailor_addMark
              rw [hMS.1]
              by_cases c5 : M = 8
              · have d8 : ¬ nI M < 8 := by rw [c5]; decide
                have d9 : nI M = 8 := by rw [c5]; rfl
                rw [if_neg d8, if_pos d9]
                dsimp only
                rw [if_pos rfl]
                have hh := h
                rw [hMS.1] at hh
                exact ⟨rfl, hh⟩
              · have d8 : nI M < 8 := (nI_ltI (b := 8) (by omega) (by omega)).mpr (by omega)
                have d9 : ¬ nI M = 8 := fun z => c5 ((nI_eq (b := 8) (by omega) (by omega)).mp z)
                rw [if_pos d8, if_neg d9]
                dsimp only
                rw [if_neg d10]
                have hv : ∀ i, upd (upd vs (236 + M) (nI k)) 230 (upd vs (236 + M) (nI k) 230 + 1) i = if i = tO 1 + 2 then nI (M + 1) else if i = tO 1 + 8 + M then nI k else vs i := fun i => by
                  show _ = if i = 230 then nI (M + 1) else if i = 236 + M then nI k else vs i
                  rw [pk_un (j := 230) (k := 236 + M) (by omega), hc, nI_1]
                  by_cases a : i = 230
                  · rw [if_pos a, a, pk_us]
                  · rw [if_neg a, pk_un a]
                    by_cases bb : i = 236 + M
                    · rw [if_pos bb, bb, pk_us]
                    · rw [if_neg bb, pk_un bb]
                have hg := chalk_GR1 h hMS (by omega) hno hk hv
                rw [hMS.1] at hg
                refine ⟨?_, ends_GR (upd (upd vs (236 + M) (nI k)) 230 (upd vs (236 + M) (nI k) 230 + 1) 230) hg (by rw [hv, if_neg (by unfold tO; omega), if_neg (by unfold tO; omega)]; exact over_T c1)⟩
                show nI M + 1 = upd (upd vs (236 + M) (nI k)) 230 (upd vs (236 + M) (nI k) 230 + 1) 230
                rw [pk_us, pk_un (by omega), hc]
            · rw [if_neg c4, if_neg c4]; exact ⟨rfl, h⟩
      · rw [if_neg c2]
        have c3 : F_Model_holds (nI k) vs = 0 := (mholds hk).mpr (fun z => c2 ((mvoid hk).mpr z.1))
        rw [if_pos c3]
        exact ⟨rfl, h⟩
    · rw [if_neg c1, if_neg c1]; exact ⟨rfl, h⟩
  · obtain ⟨j1, j2⟩ := nj hj
    rw [j1, j2, if_pos rfl, if_pos rfl]
    exact ⟨rfl, h⟩
