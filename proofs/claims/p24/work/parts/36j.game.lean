-- the game: every order does the same on both sides
theorem n244 : (244 : Int32).toNatClampNeg = 244 := by decide
theorem n245 : (245 : Int32).toNatClampNeg = 245 := by decide
/-- a player's numbers, but the marks -/
def TRc (q : Nat) (mks pts ths rgs rgc fnd rdb wdb : Int32) (f vs : Nat → Int32) : Prop := pts = vs (tO q) ∧ ths = vs (tO q + 1) ∧ rgs = vs (tO q + 3) ∧ rgc = vs (tO q + 4) ∧ fnd = vs (tO q + 5) ∧ rdb = vs (tO q + 6) ∧ wdb = vs (tO q + 7) ∧ ∃ M, MS q mks f vs M
theorem MS_ext {q : Nat} {mks : Int32} {f vs vs' : Nat → Int32} {M : Nat} (h : MS q mks f vs M) (e : ∀ i, tO q + 2 ≤ i → i < tO q + 16 → vs' i = vs i) : MS q mks f vs' M := by
  have hM := h.2.2.1.1
  exact ⟨h.1, by rw [e _ (by omega) (by omega)]; exact h.2.1, h.2.2.1, fun i hi => by rw [e _ (by omega) (by omega)]; exact h.2.2.2 i hi⟩
theorem TRc_ext {q : Nat} {mks pts ths rgs rgc fnd rdb wdb : Int32} {f vs vs' : Nat → Int32} (h : TRc q mks pts ths rgs rgc fnd rdb wdb f vs) (e : ∀ i, tO q ≤ i → i < tO q + 16 → vs' i = vs i) : TRc q mks pts ths rgs rgc fnd rdb wdb f vs' := by
  obtain ⟨h1, h2, h3, h4, h5, h6, h7, M, h8⟩ := h
  exact ⟨by rw [e _ (by omega) (by omega)]; exact h1, by rw [e _ (by omega) (by omega)]; exact h2, by rw [e _ (by omega) (by omega)]; exact h3, by rw [e _ (by omega) (by omega)]; exact h4, by rw [e _ (by omega) (by omega)]; exact h5, by rw [e _ (by omega) (by omega)]; exact h6, by rw [e _ (by omega) (by omega)]; exact h7, M, MS_ext h8 (fun i a b => e i (by omega) b)⟩
/-- points stay small -/
def PB (e : Int) (vs : Nat → Int32) : Prop := ∃ T : Nat, T ≤ 200 ∧ vs 244 = nI T ∧ (-(60 * (T : Int)) - e ≤ (vs 212).toInt ∧ (vs 212).toInt ≤ 60 * (T : Int) + e) ∧ (-(60 * (T : Int)) - e ≤ (vs 228).toInt ∧ (vs 228).toInt ≤ 60 * (T : Int) + e)
def GRk (e : Int) (nx : Int32) (tn : Int32) (gn : Int64) (ac : Int64) (dn : Int64) (fs : Nat → Int32) (fm : Nat → Int32) (mks0 : Int32) (pts0 : Int32) (ths0 : Int32) (rgs0 : Int32) (rgc0 : Int32) (fnd0 : Int32) (rdb0 : Int32) (wdb0 : Int32) (fma0 : Nat → Int32) (mks1 : Int32) (pts1 : Int32) (ths1 : Int32) (rgs1 : Int32) (rgc1 : Int32) (fnd1 : Int32) (rdb1 : Int32) (wdb1 : Int32) (fma1 : Nat → Int32) (vs : Nat → Int32) : Prop := CR gn ac dn fs fm vs ∧ nx = vs 245 ∧ tn = vs 244 ∧ p01 (vs 245) ∧ TRc 0 mks0 pts0 ths0 rgs0 rgc0 fnd0 rdb0 wdb0 fma0 vs ∧ TRc 1 mks1 pts1 ths1 rgs1 rgc1 fnd1 rdb1 wdb1 fma1 vs ∧ PB e vs
abbrev T26 : Type := Int32 × Int32 × Int32 × Int64 × Int64 × Int64 × (Nat → Int32) × (Nat → Int32) × Int32 × Int32 × Int32 × Int32 × Int32 × Int32 × Int32 × Int32 × (Nat → Int32) × Int32 × Int32 × Int32 × Int32 × Int32 × Int32 × Int32 × Int32 × (Nat → Int32)
abbrev GRz (z : T26) (vs : Nat → Int32) : Prop := GRk 0 (z.2.1) (z.2.2.1) (z.2.2.2.1) (z.2.2.2.2.1) (z.2.2.2.2.2.1) (z.2.2.2.2.2.2.1) (z.2.2.2.2.2.2.2.1) (z.2.2.2.2.2.2.2.2.1) (z.2.2.2.2.2.2.2.2.2.1) (z.2.2.2.2.2.2.2.2.2.2.1) (z.2.2.2.2.2.2.2.2.2.2.2.1) (z.2.2.2.2.2.2.2.2.2.2.2.2.1) (z.2.2.2.2.2.2.2.2.2.2.2.2.2.1) (z.2.2.2.2.2.2.2.2.2.2.2.2.2.2.1) (z.2.2.2.2.2.2.2.2.2.2.2.2.2.2.2.1) (z.2.2.2.2.2.2.2.2.2.2.2.2.2.2.2.2.1) (z.2.2.2.2.2.2.2.2.2.2.2.2.2.2.2.2.2.1) (z.2.2.2.2.2.2.2.2.2.2.2.2.2.2.2.2.2.2.1) (z.2.2.2.2.2.2.2.2.2.2.2.2.2.2.2.2.2.2.2.1) (z.2.2.2.2.2.2.2.2.2.2.2.2.2.2.2.2.2.2.2.2.1) (z.2.2.2.2.2.2.2.2.2.2.2.2.2.2.2.2.2.2.2.2.2.1) (z.2.2.2.2.2.2.2.2.2.2.2.2.2.2.2.2.2.2.2.2.2.2.1) (z.2.2.2.2.2.2.2.2.2.2.2.2.2.2.2.2.2.2.2.2.2.2.2.1) (z.2.2.2.2.2.2.2.2.2.2.2.2.2.2.2.2.2.2.2.2.2.2.2.2.1) (z.2.2.2.2.2.2.2.2.2.2.2.2.2.2.2.2.2.2.2.2.2.2.2.2.2) vs
def SIM (z : T26) (m : Int32 × (Nat → Int32) × (Nat → Int32)) : Prop := z.1 = m.1 ∧ GRz z m.2.1
theorem PB_up {vs : Nat → Int32} (h : PB 0 vs) : PB 60 vs := by
  obtain ⟨T, h1, h2, h3, h4⟩ := h
  exact ⟨T, h1, h2, by omega, by omega⟩
theorem ends_v (told : Int32) (vs : Nat → Int32) : (F_Model_ends told vs).1 = told ∧ ∀ i, (F_Model_ends told vs).2 i = if i = 244 then vs 244 + 1 else if i = 245 then 1 - vs 245 else vs i := by
  unfold F_Model_ends
  rw [n244, n245]
  refine ⟨rfl, fun i => ?_⟩
  dsimp only
  by_cases a : i = 245
  · subst a
    rw [pk_us, pk_un (by omega), if_neg (by omega), if_pos rfl]
  · rw [pk_un a]
    by_cases b : i = 244
    · subst b; rw [pk_us, if_pos rfl]
    · rw [pk_un b, if_neg b, if_neg a]
theorem over_T {vs : Nat → Int32} (h : F_Model_isOver vs = 0) : ¬ (200 : Int32) ≤ vs 244 := fun z => by
  unfold F_Model_isOver at h
  rw [n244, if_pos z] at h
  exact absurd h (by decide)
theorem ends_GR {nx : Int32} {tn : Int32} {gn : Int64} {ac : Int64} {dn : Int64} {fs : Nat → Int32} {fm : Nat → Int32} {mks0 : Int32} {pts0 : Int32} {ths0 : Int32} {rgs0 : Int32} {rgc0 : Int32} {fnd0 : Int32} {rdb0 : Int32} {wdb0 : Int32} {fma0 : Nat → Int32} {mks1 : Int32} {pts1 : Int32} {ths1 : Int32} {rgs1 : Int32} {rgc1 : Int32} {fnd1 : Int32} {rdb1 : Int32} {wdb1 : Int32} {fma1 : Nat → Int32} {vs : Nat → Int32} (told : Int32) (h : GRk 60 nx tn gn ac dn fs fm mks0 pts0 ths0 rgs0 rgc0 fnd0 rdb0 wdb0 fma0 mks1 pts1 ths1 rgs1 rgc1 fnd1 rdb1 wdb1 fma1 vs) (hT : ¬ (200 : Int32) ≤ vs 244) : GRk 0 (1 - nx) (tn + 1) gn ac dn fs fm mks0 pts0 ths0 rgs0 rgc0 fnd0 rdb0 wdb0 fma0 mks1 pts1 ths1 rgs1 rgc1 fnd1 rdb1 wdb1 fma1 (F_Model_ends told vs).2 := by
  obtain ⟨h1, h2, h3, h4, h5, h6, T, g1, g2, g3, g4⟩ := h
  have ev := (ends_v told vs).2
  generalize (F_Model_ends told vs).2 = w at ev
  have hT2 : T < 200 := by
    rw [g2] at hT
    refine Nat.lt_of_not_le fun z => hT ?_
    exact (nI_leI (a := 200) (by decide) (by omega)).mpr z
  refine ⟨CR_ext h1 (fun i hi => by rw [ev i, if_neg (by omega), if_neg (by omega)]), by rw [ev, if_neg (by omega), if_pos rfl, h2], by rw [ev, if_pos rfl, h3], by rw [ev, if_neg (by omega), if_pos rfl]; exact p01_sub h4, TRc_ext h5 (fun i a b => by rw [ev i, if_neg (by unfold tO at *; omega), if_neg (by unfold tO at *; omega)]), TRc_ext h6 (fun i a b => by rw [ev i, if_neg (by unfold tO at *; omega), if_neg (by unfold tO at *; omega)]), T + 1, by omega, by rw [ev, if_pos rfl, g2, nI_1], ?_, ?_⟩
  · rw [ev, if_neg (by omega), if_neg (by omega)]; omega
  · rw [ev, if_neg (by omega), if_neg (by omega)]; omega
theorem GRk_up {nx : Int32} {tn : Int32} {gn : Int64} {ac : Int64} {dn : Int64} {fs : Nat → Int32} {fm : Nat → Int32} {mks0 : Int32} {pts0 : Int32} {ths0 : Int32} {rgs0 : Int32} {rgc0 : Int32} {fnd0 : Int32} {rdb0 : Int32} {wdb0 : Int32} {fma0 : Nat → Int32} {mks1 : Int32} {pts1 : Int32} {ths1 : Int32} {rgs1 : Int32} {rgc1 : Int32} {fnd1 : Int32} {rdb1 : Int32} {wdb1 : Int32} {fma1 : Nat → Int32} {vs : Nat → Int32} (h : GRk 0 nx tn gn ac dn fs fm mks0 pts0 ths0 rgs0 rgc0 fnd0 rdb0 wdb0 fma0 mks1 pts1 ths1 rgs1 rgc1 fnd1 rdb1 wdb1 fma1 vs) : GRk 60 nx tn gn ac dn fs fm mks0 pts0 ths0 rgs0 rgc0 fnd0 rdb0 wdb0 fma0 mks1 pts1 ths1 rgs1 rgc1 fnd1 rdb1 wdb1 fma1 vs := ⟨h.1, h.2.1, h.2.2.1, h.2.2.2.1, h.2.2.2.2.1, h.2.2.2.2.2.1, PB_up h.2.2.2.2.2.2⟩
theorem nj {y : Int32} (h : ¬ vp_in y 82) : F_Cloth_isJoint y = 0 ∧ F_Model_isJoint y = 0 := by
  refine ⟨?_, ?_⟩
  · exact Classical.byContradiction fun z => h (jt_in z)
  · exact Classical.byContradiction fun z => h (mjt_in z)
theorem sim_pass {nx : Int32} {tn : Int32} {gn : Int64} {ac : Int64} {dn : Int64} {fs : Nat → Int32} {fm : Nat → Int32} {mks0 : Int32} {pts0 : Int32} {ths0 : Int32} {rgs0 : Int32} {rgc0 : Int32} {fnd0 : Int32} {rdb0 : Int32} {wdb0 : Int32} {fma0 : Nat → Int32} {mks1 : Int32} {pts1 : Int32} {ths1 : Int32} {rgs1 : Int32} {rgc1 : Int32} {fnd1 : Int32} {rdb1 : Int32} {wdb1 : Int32} {fma1 : Nat → Int32} {vs vlb : Nat → Int32} (h : GRk 0 nx tn gn ac dn fs fm mks0 pts0 ths0 rgs0 rgc0 fnd0 rdb0 wdb0 fma0 mks1 pts1 ths1 rgs1 rgc1 fnd1 rdb1 wdb1 fma1 vs) (j : Int32) : SIM (F_Game_obey 112 j nx tn gn ac dn fs fm mks0 pts0 ths0 rgs0 rgc0 fnd0 rdb0 wdb0 fma0 mks1 pts1 ths1 rgs1 rgc1 fnd1 rdb1 wdb1 fma1) (F_Model_does 112 j vs vlb) := by
  unfold F_Game_obey F_Model_does
  rw [if_pos rfl, if_neg (by decide), if_neg (by decide), if_neg (by decide), if_neg (by decide), if_neg (by decide)]
  dsimp only [bnd]
  unfold F_Game_passOn F_Model_passes
  dsimp only [bnd]
  rw [cover h.1 h.2.2.1]
  by_cases c : F_Model_isOver vs = 0
  · rw [if_pos c, if_pos c]
    refine ⟨?_, ends_GR (1 - vs (245 : Int32).toNatClampNeg) (GRk_up h) (over_T c)⟩
    show 1 - nx = (F_Model_ends (1 - vs (245 : Int32).toNatClampNeg) vs).1
    rw [(ends_v _ _).1, n245, h.2.1]
  · rw [if_neg c, if_neg c]
    exact ⟨rfl, h⟩
