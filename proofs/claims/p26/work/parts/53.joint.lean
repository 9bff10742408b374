-- what is told of a joint goes together
/-- chalk lies on joints that hold -/
def MH (mks : Int32) (f vs : Nat → Int32) : Prop := ∃ M : Nat, mks = nI M ∧ M ≤ 8 ∧ ∀ i, i < M → ∃ j, j < 82 ∧ f i = nI j ∧ hold vs j
def TH (t : Int32) : Prop := ∃ n : Nat, n ≤ 5 ∧ t = nI n
/-- what holds beside the relation: states of joints, makers, chalk, threads, rags -/
def EXk (gn : Int64) (fs fm : Nat → Int32) (mks0 : Int32) (fma0 : Nat → Int32) (ths0 rgs0 rgc0 mks1 : Int32) (fma1 : Nat → Int32) (ths1 rgs1 rgc1 : Int32) (vs : Nat → Int32) : Prop :=
  (∀ j, j < 82 → fs j = 0 ∨ fs j = 1 ∨ fs j = 2 ∨ fs j = 3) ∧ (∀ j, j < 82 → fs j = 0 ∨ fs j = 1 → fm j = -6) ∧ MH mks0 fma0 vs ∧ MH mks1 fma1 vs ∧ TH ths0 ∧ TH ths1 ∧
  ∃ a0 a1 b0 b1 : Nat, rgc0 = nI a0 ∧ rgc1 = nI a1 ∧ rgs0 = nI b0 ∧ rgs1 = nI b1 ∧ b0 ≤ a0 ∧ b1 ≤ a1 ∧ a0 + a1 = cntB (b6 gn) 48
theorem nomark {mks : Int32} {f vs : Nat → Int32} (h : MH mks f vs) {k : Nat} (hk : k < 82) (hn : ¬ hold vs k) : F_Tailor_hasMark (nI k) mks f = 0 := by
  obtain ⟨M, rfl, hM, hf⟩ := h
  refine (hm_0 (nI k) hM f).2.mpr (fun i hi e => ?_)
  obtain ⟨j, hj, ej, hh⟩ := hf i hi
  rw [ej] at e
  have := (nI_eq (by omega) (by omega)).mp e
  subst this
  exact hn hh
theorem chal_0 {mks0 mks1 : Int32} {fma0 fma1 vs : Nat → Int32} (h0 : MH mks0 fma0 vs) (h1 : MH mks1 fma1 vs) {k : Nat} (hk : k < 82) (hn : ¬ hold vs k) : F_Game_chalkersOf (nI k) mks0 fma0 mks1 fma1 = 0 := by
  rw [chal_f, nomark h0 hk hn, nomark h1 hk hn, if_pos rfl, if_pos rfl]
  decide
theorem of_5 {gn ac dn : Int64} {fs fm vs : Nat → Int32} (h : CR gn ac dn fs fm vs) {tn : Int32} (ht : tn = vs 244) {k : Nat} (hk : k < 82) (mks0 : Int32) (fma0 : Nat → Int32) (mks1 : Int32) (fma1 : Nat → Int32) : F_TC_of (nI k) 5 tn gn ac dn fs fm mks0 fma0 mks1 fma1 = if F_Model_isOver vs = 0 ∧ ¬ vd vs k then fm k else -6 := by
  have t := j_tab ⟨k, hk⟩
  dsimp only at t
  have e : F_TC_of (nI k) 5 tn gn ac dn fs fm mks0 fma0 mks1 fma1 = if F_Cloth_isJoint (nI k) = 0 then (-1) else if F_Game_isOver tn gn = 0 then (if F_Cloth_isVoid (nI k) gn = 0 then F_Cloth_makerOf (nI k) fm else (-6)) else (-6) := rfl
  have em : F_Cloth_makerOf (nI k) fm = fm k := (cmaker h hk).trans (h.2.2.2.1 k hk).symm
  rw [e, t.2.2.2.2.2.2.2.1, if_neg (by decide), cover h ht, cvoid h hk, em]
  by_cases a : F_Model_isOver vs = 0
  · by_cases b : vd vs k
    · rw [if_pos a, if_neg (fun z => (mvoid hk).mp z b), if_neg (fun z => z.2 b)]
    · rw [if_pos a, if_pos ((mvoid hk).mpr b), if_pos ⟨a, b⟩]
  · rw [if_neg a, if_neg (fun z => a z.1)]
theorem cnt_2 {gn ac dn : Int64} {fs fm vs : Nat → Int32} (h : CR gn ac dn fs fm vs) {tn : Int32} (ht : tn = vs 244) (nx pts0 pts1 ln hk : Int32) : F_TC_count 2 nx tn gn ac dn fs pts0 pts1 ln hk = if F_Model_isOver vs = 0 then 0 else 1 := by
  have e : F_TC_count 2 nx tn gn ac dn fs pts0 pts1 ln hk = F_TC_asNumber (F_Game_isOver tn gn) := rfl
  rw [e, cover h ht]
  rfl
theorem why_f {gn ac dn : Int64} {fs fm vs : Nat → Int32} (h : CR gn ac dn fs fm vs) {tn : Int32} (ht : tn = vs 244) {k : Nat} (hk : k < 82) : F_TC_why (nI k) tn gn fs = F_Model_reason (nI k) vs := by
  have t := j_tab ⟨k, hk⟩
  dsimp only at t
  have e : F_TC_why (nI k) tn gn fs = if F_Cloth_isJoint (nI k) = 0 then (-1) else F_Game_whyNoSnip (nI k) tn gn fs := rfl
  rw [e, t.2.2.2.2.2.2.2.1, if_neg (by decide), creason h ht hk]
theorem reason_f {vs : Nat → Int32} {k : Nat} (hk : k < 82) : F_Model_reason (nI k) vs = if F_Model_isOver vs = 0 then (if vd vs k then 2 else if vs k = 1 then 3 else 0) else 1 := by
  unfold F_Model_reason
  rw [bnd_eq, bnd_eq, mj0 hk]
  by_cases a : F_Model_isOver vs = 0
  · rw [if_pos a, if_pos a]
    by_cases b : vd vs k
    · rw [if_neg (fun z => (mvoid hk).mp z b), if_pos b]
    · rw [if_pos ((mvoid hk).mpr b), if_neg b]
  · rw [if_neg a, if_neg a]
set_option maxHeartbeats 4000000 in
theorem isJoint_ok {nx : Int32} {tn : Int32} {gn : Int64} {ac : Int64} {dn : Int64} {fs : Nat → Int32} {fm : Nat → Int32} {mks0 : Int32} {pts0 : Int32} {ths0 : Int32} {rgs0 : Int32} {rgc0 : Int32} {fnd0 : Int32} {rdb0 : Int32} {wdb0 : Int32} {fma0 : Nat → Int32} {mks1 : Int32} {pts1 : Int32} {ths1 : Int32} {rgs1 : Int32} {rgc1 : Int32} {fnd1 : Int32} {rdb1 : Int32} {wdb1 : Int32} {fma1 : Nat → Int32} {vs : Nat → Int32} (h : GRk 0 nx tn gn ac dn fs fm mks0 pts0 ths0 rgs0 rgc0 fnd0 rdb0 wdb0 fma0 mks1 pts1 ths1 rgs1 rgc1 fnd1 rdb1 wdb1 fma1 vs) (hE : EXk gn fs fm mks0 fma0 ths0 rgs0 rgc0 mks1 fma1 ths1 rgs1 rgc1 vs) (ln hk : Int32) {k : Nat} (hj : k < 82) : F_Law_isJoint (nI k) nx tn gn ac dn fs fm mks0 pts0 fma0 mks1 pts1 fma1 ln hk = 1 := by
  obtain ⟨E1, E2, E3, E4, -⟩ := hE
  have hv := h.1.2.2.1 k hj
  have hH : hold vs k ↔ ¬ vd vs k ∧ (fs k = 0 ∨ fs k = 2) := by rw [hv]
  have c4 : ¬ hold vs k → F_Game_chalkersOf (nI k) mks0 fma0 mks1 fma1 = 0 := chal_0 E3 E4 hj
  have lF := jF_lt hj
  have lS := jS_lt hj
  unfold F_Law_isJoint
  refine bnd_tr (of_2 hj ..) (bnd_tr (of_3 hj ..) ?_)
  refine bnd_tr (v := if vd vs k then 1 else 0) (bnd_tr (cell_0 h.1 lF) ?_) ?_
  · by_cases a : vs (164 + jF k) = 1
    · rw [if_pos a, if_pos rfl, if_pos (Or.inl a)]
    · rw [if_neg a, if_neg (by decide)]
      refine bnd_tr (cell_0 h.1 lS) ?_
      by_cases b : vs (164 + jS k) = 1
      · rw [if_pos b, if_pos rfl, if_pos (Or.inr b)]
      · rw [if_neg b, if_neg (by decide), if_neg (fun z => z.elim a b)]
  refine bnd_tr (of_0 hj ..) ?_
  refine bnd_tr (v := 1) ?_ ?_
  · refine bnd_tr (v := nI (jS k)) ?_ ?_
    · by_cases a : (42 : Int32) ≤ nI k
      · have := (nI_leI (a := 42) (by omega) (by omega)).mp a
        rw [if_pos a, show (8 : Int32) = nI 8 from rfl, nI_add, jS_of, if_neg (by omega)]
      · have : k < 42 := Nat.lt_of_not_le fun z => a ((nI_leI (a := 42) (by omega) (by omega)).mpr z)
        rw [if_neg a, nI_1, jS_of, if_pos this]
    rw [if_pos rfl]
    refine bnd_tr (of_1 h.1 hj ..) ?_
    refine bnd_tr (v := if vd vs k then 1 else 0) ?_ ?_
    · by_cases a : vd vs k
      · rw [if_pos a, if_neg (by decide)]
      · rw [if_neg a, if_pos rfl]
    rw [if_pos rfl]
    refine bnd_tr (of_6 h.1 hj ..) ?_
    refine bnd_tr (v := if hold vs k then 1 else 0) ?_ ?_
    · by_cases a : vd vs k
      · rw [if_pos a, if_neg (by decide), if_neg (fun z => z.1 a)]
      · rw [if_neg a, if_pos rfl]
        rcases E1 k hj with e | e | e | e
        · rw [e, if_pos (by decide), if_pos (hH.mpr ⟨a, Or.inl e⟩)]
        · rw [e, if_neg (by decide), if_neg (fun z => by have := (hH.mp z).2; rw [e] at this; exact absurd this (by decide))]
        · rw [e, if_pos (by decide), if_pos (hH.mpr ⟨a, Or.inr e⟩)]
        · rw [e, if_neg (by decide), if_neg (fun z => by have := (hH.mp z).2; rw [e] at this; exact absurd this (by decide))]
    rw [if_pos rfl]
    -- chalk on joints that hold alone
    have last : (bnd (F_TC_of (nI k) 6 tn gn ac dn fs fm mks0 fma0 mks1 fma1) fun r_23 => if r_23 = 1 then (1 : Int32) else bnd (F_TC_of (nI k) 4 tn gn ac dn fs fm mks0 fma0 mks1 fma1) fun r_25 => if r_25 = 0 then 1 else if fs k = 3 then 1 else 0) = 1 := by
      refine bnd_tr (of_6 h.1 hj ..) ?_
      by_cases a : hold vs k
      · rw [if_pos a, if_pos rfl]
      · rw [if_neg a, if_neg (by decide)]
        refine bnd_tr ((of_4 hj ..).trans (c4 a)) ?_
        rw [if_pos rfl]
    have l5 : fs k = 0 ∨ fs k = 1 → F_TC_of (nI k) 5 tn gn ac dn fs fm mks0 fma0 mks1 fma1 = -6 := fun z => by
      rw [of_5 h.1 h.2.2.1 hj, E2 k hj z]
      split <;> rfl
    have mid : (if (1 : Int32) < fs k then (bnd (F_TC_of (nI k) 6 tn gn ac dn fs fm mks0 fma0 mks1 fma1) fun r_23 => if r_23 = 1 then (1 : Int32) else bnd (F_TC_of (nI k) 4 tn gn ac dn fs fm mks0 fma0 mks1 fma1) fun r_25 => if r_25 = 0 then 1 else if fs k = 3 then 1 else 0) else bnd (F_TC_of (nI k) 5 tn gn ac dn fs fm mks0 fma0 mks1 fma1) fun r_28 => if r_28 = (-6) then (bnd (F_TC_of (nI k) 6 tn gn ac dn fs fm mks0 fma0 mks1 fma1) fun r_30 => if r_30 = 1 then (1 : Int32) else bnd (F_TC_of (nI k) 4 tn gn ac dn fs fm mks0 fma0 mks1 fma1) fun r_32 => if r_32 = 0 then 1 else if fs k = 3 then 1 else 0) else 0) = 1 := by
      by_cases a : (1 : Int32) < fs k
      · rw [if_pos a]; exact last
      · rw [if_neg a]
        have : fs k = 0 ∨ fs k = 1 := by
          rcases E1 k hj with e | e | e | e
          · exact Or.inl e
          · exact Or.inr e
          · rw [e] at a; exact absurd (by decide) a
          · rw [e] at a; exact absurd (by decide) a
        refine bnd_tr (l5 this) ?_
        rw [if_pos rfl]; exact last
    by_cases a : vd vs k
    · rw [if_pos a, if_neg (by decide)]
      refine bnd_tr ((of_4 hj ..).trans (c4 (fun z => z.1 a))) ?_
      rw [if_pos rfl]
      refine bnd_tr (v := -6) (by rw [of_5 h.1 h.2.2.1 hj, if_neg (fun z => z.2 a)]) ?_
      rw [if_pos rfl]
      exact mid
    · rw [if_neg a, if_pos rfl]
      exact mid
  refine bnd_tr (v := F_Model_reason (nI k) vs) (bnd_tr (cnt_2 h.1 h.2.2.1 ..) ?_) ?_
  · rw [reason_f hj, ← hv]
    by_cases a : F_Model_isOver vs = 0
    · rw [if_pos a, if_neg (by decide), if_pos a]
      by_cases b : vd vs k
      · rw [if_pos b, if_neg (by decide), if_pos b]
      · rw [if_neg b, if_pos rfl, if_neg b]
    · rw [if_neg a, if_pos rfl, if_neg a]
  rw [if_neg (by decide)]
  refine bnd_tr (why_f h.1 h.2.2.1 hj) ?_
  rw [if_pos rfl]
  by_cases a : F_Model_reason (nI k) vs = 0
  · rw [if_pos a]
    refine bnd_tr ((ifS_f h.1 h.2.2.1 hj).trans (if_pos a)) ?_
    obtain ⟨b', hb', eb⟩ := bc_nn (F_Cloth_ragOf (nI k) ac dn)
    rw [eb, if_neg (nI_pos (by omega))]
  · rw [if_neg a]
    refine bnd_tr ((ifS_f h.1 h.2.2.1 hj).trans (if_neg a)) ?_
    rw [if_pos rfl]
