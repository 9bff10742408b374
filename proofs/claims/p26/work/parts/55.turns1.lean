-- what a turn says and does, with what holds beside the relation kept
def HG (gn : Int64) (fs : Nat → Int32) (j : Nat) : Prop := ¬ (b6 gn (jF j) = true ∨ b6 gn (jS j) = true) ∧ (fs j = 0 ∨ fs j = 2)
theorem HG_hold {gn ac dn : Int64} {fs fm vs : Nat → Int32} (h : CR gn ac dn fs fm vs) {j : Nat} (hj : j < 82) : hold vs j ↔ HG gn fs j := by
  unfold hold HG vd
  rw [h.1 _ (jF_lt hj), h.1 _ (jS_lt hj), h.2.2.1 j hj]
theorem vd_b6 {gn ac dn : Int64} {fs fm vs : Nat → Int32} (h : CR gn ac dn fs fm vs) {j : Nat} (hj : j < 82) : vd vs j ↔ (b6 gn (jF j) = true ∨ b6 gn (jS j) = true) := by
  unfold vd
  rw [h.1 _ (jF_lt hj), h.1 _ (jS_lt hj)]
def MG (gn : Int64) (fs : Nat → Int32) (mks : Int32) (f : Nat → Int32) : Prop := ∃ M : Nat, mks = nI M ∧ M ≤ 8 ∧ ∀ i, i < M → ∃ j, j < 82 ∧ f i = nI j ∧ HG gn fs j
theorem MG_MH {gn ac dn : Int64} {fs fm vs : Nat → Int32} (h : CR gn ac dn fs fm vs) {mks : Int32} {f : Nat → Int32} : MH mks f vs ↔ MG gn fs mks f := by
  constructor
  · rintro ⟨M, a, b, c⟩
    refine ⟨M, a, b, fun i hi => ?_⟩
    obtain ⟨j, q1, q2, q3⟩ := c i hi
    exact ⟨j, q1, q2, (HG_hold h q1).mp q3⟩
  · rintro ⟨M, a, b, c⟩
    refine ⟨M, a, b, fun i hi => ?_⟩
    obtain ⟨j, q1, q2, q3⟩ := c i hi
    exact ⟨j, q1, q2, (HG_hold h q1).mpr q3⟩
def EG (gn : Int64) (fs fm : Nat → Int32) (mks0 : Int32) (fma0 : Nat → Int32) (ths0 rgs0 rgc0 mks1 : Int32) (fma1 : Nat → Int32) (ths1 rgs1 rgc1 : Int32) : Prop :=
  (∀ j, j < 82 → fs j = 0 ∨ fs j = 1 ∨ fs j = 2 ∨ fs j = 3) ∧ (∀ j, j < 82 → fs j = 0 ∨ fs j = 1 → fm j = -6) ∧ MG gn fs mks0 fma0 ∧ MG gn fs mks1 fma1 ∧ TH ths0 ∧ TH ths1 ∧
  ∃ a0 a1 b0 b1 : Nat, rgc0 = nI a0 ∧ rgc1 = nI a1 ∧ rgs0 = nI b0 ∧ rgs1 = nI b1 ∧ b0 ≤ a0 ∧ b1 ≤ a1 ∧ a0 + a1 = cntB (b6 gn) 48
theorem EX_EG {ac dn : Int64} {vs : Nat → Int32} {gn : Int64} {fs fm : Nat → Int32} {mks0 : Int32} {fma0 : Nat → Int32} {ths0 rgs0 rgc0 mks1 : Int32} {fma1 : Nat → Int32} {ths1 rgs1 rgc1 : Int32} (h : CR gn ac dn fs fm vs) : EXk gn fs fm mks0 fma0 ths0 rgs0 rgc0 mks1 fma1 ths1 rgs1 rgc1 vs ↔ EG gn fs fm mks0 fma0 ths0 rgs0 rgc0 mks1 fma1 ths1 rgs1 rgc1 := by
  unfold EXk EG
  rw [MG_MH h, MG_MH h]
-- chalk off
theorem dm_go {joint : Int32} {M : Nat} (hM : M ≤ 8) (f0 f : Nat → Int32) : ∀ (n k q : Nat) (w : Nat → Int32), q ≤ k → k ≤ M → M - k < n → (∀ i, i < q → ∃ i', i' < M ∧ w i = f i' ∧ ¬ f i' = joint) → (∀ i, k ≤ i → w i = f i) → ∃ M', M' ≤ M ∧ (F_Tailor_dropMark_L4 joint (nI M) f0 n (nI k) (nI q) w).2.1 = nI M' ∧ ∀ i, i < M' → ∃ i', i' < M ∧ (F_Tailor_dropMark_L4 joint (nI M) f0 n (nI k) (nI q) w).2.2 i = f i' ∧ ¬ f i' = joint := by
  intro n
  induction n with
  | zero => intro k q w hq hk hn; exact absurd hn (Nat.not_lt_zero _)
  | succ n ih =>
    intro k q w hq hk hn h1 h2
    rw [F_Tailor_dropMark_L4]
    by_cases c : nI M ≤ nI k
    · rw [if_pos c]
      exact ⟨q, by omega, rfl, h1⟩
    · have hlt : k < M := Nat.lt_of_not_le fun z => c (nI_le z (by omega))
      rw [if_neg c, nI_clamp (n := k) (by omega), h2 k (Nat.le_refl k), nI_1]
      by_cases e : f k = joint
      · rw [if_pos e]
        exact ih (k + 1) q w (by omega) (by omega) (by omega) h1 (fun i hi => h2 i (by omega))
      · rw [if_neg e, nI_1, nI_clamp (n := q) (by omega)]
        refine ih (k + 1) (q + 1) (upd w q (f k)) (by omega) (by omega) (by omega) (fun i hi => ?_) (fun i hi => ?_)
        · by_cases z : i = q
          · subst z
            exact ⟨k, hlt, pk_us, e⟩
          · obtain ⟨i', a, b, c⟩ := h1 i (by omega)
            exact ⟨i', a, by rw [pk_un z]; exact b, c⟩
        · rw [pk_un (show ¬ i = q by omega)]
          exact h2 i (by omega)
theorem dm_sub (joint : Int32) {M : Nat} (hM : M ≤ 8) (f : Nat → Int32) : ∃ M', M' ≤ M ∧ (F_Tailor_dropMark joint (nI M) f).1 = nI M' ∧ ∀ i, i < M' → ∃ i', i' < M ∧ (F_Tailor_dropMark joint (nI M) f).2 i = f i' ∧ ¬ f i' = joint := by
  have r := dm_go (joint := joint) hM f f 9 0 0 f (by omega) (by omega) (by omega) (fun i hi => absurd hi (Nat.not_lt_zero _)) (fun i _ => rfl)
  rw [nI_0] at r
  exact r
/-- what is left of chalk when it goes from one joint -/
theorem MG_dm {gn gn' : Int64} {fs fs' : Nat → Int32} {mks : Int32} {f : Nat → Int32} {k : Nat} (hk : k < 82) (h : MG gn fs mks f) (hp : ∀ j, j < 82 → ¬ j = k → HG gn fs j → HG gn' fs' j) : MG gn' fs' (F_Tailor_dropMark (nI k) mks f).1 (F_Tailor_dropMark (nI k) mks f).2 := by
  obtain ⟨M, rfl, hM, hf⟩ := h
  obtain ⟨M', a, b, c⟩ := dm_sub (nI k) hM f
  refine ⟨M', b, by omega, fun i hi => ?_⟩
  obtain ⟨i', q1, q2, q3⟩ := c i hi
  obtain ⟨j, r1, r2, r3⟩ := hf i' q1
  exact ⟨j, r1, q2.trans r2, hp j r1 (fun z => q3 (by rw [r2, z])) r3⟩
theorem MG_im {gn gn' : Int64} {fs fs' : Nat → Int32} {mks : Int32} {f : Nat → Int32} (h : MG gn fs mks f) (hp : ∀ j, j < 82 → HG gn fs j → HG gn' fs' j) : MG gn' fs' mks f := by
  obtain ⟨M, a, hM, hf⟩ := h
  refine ⟨M, a, hM, fun i hi => ?_⟩
  obtain ⟨j, r1, r2, r3⟩ := hf i hi
  exact ⟨j, r1, r2, hp j r1 r3⟩
/-- is a joint void -/
theorem isv {k : Nat} (hk : k < 82) (g : Int64) : F_Cloth_isVoid (nI k) g = 0 ↔ ¬ (b6 g (jF k) = true ∨ b6 g (jS k) = true) := by
  have t := j_tab ⟨k, hk⟩
  dsimp only at t
  have lF := jF_lt hk
  have s := jS_of (j := k)
  unfold F_Cloth_isVoid
  rw [bnd_eq, t.2.2.2.2.1]
  by_cases d : k < 42
  · rw [if_pos d] at s
    rw [if_pos d, if_pos rfl, bnd_eq, t.1, bnd_eq, has_0 (by omega), b6_or, b6_shr1, s, show 1 + jF k = jF k + 1 by omega]
    cases b6 g (jF k) <;> cases b6 g (jF k + 1) <;> simp
  · rw [if_neg d] at s
    rw [if_neg d, if_neg (by decide), bnd_eq, t.1, bnd_eq, has_0 (by omega), b6_or, b6_shr8, s, show 8 + jF k = jF k + 8 by omega]
    cases b6 g (jF k) <;> cases b6 g (jF k + 8) <;> simp
/-- chalk while a rag is lost -/
def MGq (g : Int64) (fs : Nat → Int32) (k : Nat) (mks : Int32) (f : Nat → Int32) : Prop := ∃ M : Nat, mks = nI M ∧ M ≤ 8 ∧ ∀ i, i < M → ∃ j, j < 82 ∧ f i = nI j ∧ (fs j = 0 ∨ fs j = 2) ∧ (j < k → ¬ (b6 g (jF j) = true ∨ b6 g (jS j) = true))
theorem MGq_up {g : Int64} {fs : Nat → Int32} {k : Nat} {mks : Int32} {f : Nat → Int32} (h : MGq g fs k mks f) (hv : ¬ (b6 g (jF k) = true ∨ b6 g (jS k) = true)) : MGq g fs (k + 1) mks f := by
  obtain ⟨M, a, hM, hf⟩ := h
  refine ⟨M, a, hM, fun i hi => ?_⟩
  obtain ⟨j, r1, r2, r3, r4⟩ := hf i hi
  refine ⟨j, r1, r2, r3, fun z => ?_⟩
  by_cases e : j = k
  · rw [e]; exact hv
  · exact r4 (by omega)
theorem MGq_dm {g : Int64} {fs : Nat → Int32} {k : Nat} {mks : Int32} {f : Nat → Int32} (h : MGq g fs k mks f) : MGq g fs (k + 1) (F_Tailor_dropMark (nI k) mks f).1 (F_Tailor_dropMark (nI k) mks f).2 := by
  obtain ⟨M, rfl, hM, hf⟩ := h
  obtain ⟨M', a, b, c⟩ := dm_sub (nI k) hM f
  refine ⟨M', b, by omega, fun i hi => ?_⟩
  obtain ⟨i', q1, q2, q3⟩ := c i hi
  obtain ⟨j, r1, r2, r3, r4⟩ := hf i' q1
  exact ⟨j, r1, q2.trans r2, r3, fun z => r4 (by have : ¬ j = k := fun e => q3 (by rw [r2, e]); omega)⟩
theorem l25_go (rag : Int64) (nx : Int32) (gn ac dn : Int64) (a1 a2 a3 a4 : Int32) (a5 : Nat → Int32) (a6 a7 a8 a9 : Int32) (a10 : Nat → Int32) (g gc gd : Int64) (fs : Nat → Int32) (p0 r0 c0 p1 r1 c1 : Int32) : ∀ (n k : Nat) (m0 : Int32) (f0 : Nat → Int32) (m1 : Int32) (f1 : Nat → Int32), k ≤ 82 → 82 - k < n → MGq g fs k m0 f0 → MGq g fs k m1 f1 → ∃ X m0' f0' m1' f1', F_Game_loseRag_L25 rag nx gn ac dn a1 a2 a3 a4 a5 a6 a7 a8 a9 a10 n (nI k) g gc gd m0 p0 r0 c0 f0 m1 p1 r1 c1 f1 = (X, g, gc, gd, m0', p0, r0, c0, f0', m1', p1, r1, c1, f1') ∧ MGq g fs 82 m0' f0' ∧ MGq g fs 82 m1' f1' := by
  intro n
  induction n with
  | zero => intro k m0 f0 m1 f1 hk hn; exact absurd hn (Nat.not_lt_zero _)
  | succ n ih =>
    intro k m0 f0 m1 f1 hk hn h0 h1
    rw [F_Game_loseRag_L25]
    by_cases c : (82 : Int32) ≤ nI k
    · have e : k = 82 := by
        have := (nI_leI (a := 82) (by omega) (by omega)).mp c
        omega
      subst e
      rw [if_pos c]
      exact ⟨_, _, _, _, _, rfl, h0, h1⟩
    · have hlt : k < 82 := lp_lt rfl rfl hk c
      rw [if_neg c, bnd_eq, nI_1]
      by_cases z : F_Cloth_isVoid (nI k) g = 0
      · rw [if_pos z]
        have v := (isv hlt g).mp z
        exact ih (k + 1) m0 f0 m1 f1 (by omega) (by omega) (MGq_up h0 v) (MGq_up h1 v)
      · rw [if_neg z, bnd_eq, dms_f]
        exact ih (k + 1) _ _ _ _ (by omega) (by omega) (MGq_dm h0) (MGq_dm h1)
theorem MGq_MG {g : Int64} {fs : Nat → Int32} {mks : Int32} {f : Nat → Int32} (h : MGq g fs 82 mks f) : MG g fs mks f := by
  obtain ⟨M, a, hM, hf⟩ := h
  refine ⟨M, a, hM, fun i hi => ?_⟩
  obtain ⟨j, r1, r2, r3, r4⟩ := hf i hi
  exact ⟨j, r1, r2, r4 r1, r3⟩
/-- joints of one state that aren't void, counted -/
theorem jta_go (s : Int32) (g : Int64) (fs : Nat → Int32) : ∀ (n k q : Nat), k ≤ 82 → 82 - k < n → q = cntB (fun j => decide (fs j = s ∧ ¬ (b6 g (jF j) = true ∨ b6 g (jS j) = true))) k → (F_Cloth_jointsThatAre_L4 s g fs n (nI k) (nI q)).2 = nI (cntB (fun j => decide (fs j = s ∧ ¬ (b6 g (jF j) = true ∨ b6 g (jS j) = true))) 82) := by
  intro n
  induction n with
  | zero => intro k q hk hn; exact absurd hn (Nat.not_lt_zero _)
  | succ n ih =>
    intro k q hk hn hq
    rw [F_Cloth_jointsThatAre_L4]
    by_cases c : (82 : Int32) ≤ nI k
    · have e : k = 82 := by
        have := (nI_leI (a := 82) (by omega) (by omega)).mp c
        omega
      subst e
      rw [if_pos c, hq]
    · have hlt : k < 82 := lp_lt rfl rfl hk c
      have st : cntB (fun j => decide (fs j = s ∧ ¬ (b6 g (jF j) = true ∨ b6 g (jS j) = true))) (k + 1) = cntB (fun j => decide (fs j = s ∧ ¬ (b6 g (jF j) = true ∨ b6 g (jS j) = true))) k + (decide (fs k = s ∧ ¬ (b6 g (jF k) = true ∨ b6 g (jS k) = true))).toNat := rfl
      rw [if_neg c, nI_clamp (by omega), nI_1, bnd_eq]
      by_cases e : fs k = s
      · rw [if_pos e]
        by_cases z : F_Cloth_isVoid (nI k) g = 0
        · rw [if_pos z, nI_1]
          refine ih (k + 1) (q + 1) (by omega) (by omega) ?_
          rw [st, decide_eq_true (show fs k = s ∧ ¬ (b6 g (jF k) = true ∨ b6 g (jS k) = true) from ⟨e, (isv hlt g).mp z⟩), hq]
          rfl
        · rw [if_neg z]
          refine ih (k + 1) q (by omega) (by omega) ?_
          rw [st, decide_eq_false (show ¬ (fs k = s ∧ ¬ (b6 g (jF k) = true ∨ b6 g (jS k) = true)) from fun y => z ((isv hlt g).mpr y.2)), hq]
          rfl
      · rw [if_neg e]
        refine ih (k + 1) q (by omega) (by omega) ?_
        rw [st, decide_eq_false (show ¬ (fs k = s ∧ ¬ (b6 g (jF k) = true ∨ b6 g (jS k) = true)) from fun y => e y.1), hq]
        rfl
theorem jta_n (s : Int32) (g : Int64) (fs : Nat → Int32) : F_Cloth_jointsThatAre s g fs = nI (cntB (fun j => decide (fs j = s ∧ ¬ (b6 g (jF j) = true ∨ b6 g (jS j) = true))) 82) := by
  have r := jta_go s g fs 83 0 0 (by omega) (by omega) rfl
  rw [nI_0] at r
  exact r
/-- a turn that says W and brings its doer G -/
def TR (W G : Int32) (nx : Int32) (tn : Int32) (gn : Int64) (ac : Int64) (dn : Int64) (fs : Nat → Int32) (fm : Nat → Int32) (mks0 : Int32) (pts0 : Int32) (ths0 : Int32) (rgs0 : Int32) (rgc0 : Int32) (fnd0 : Int32) (rdb0 : Int32) (wdb0 : Int32) (fma0 : Nat → Int32) (mks1 : Int32) (pts1 : Int32) (ths1 : Int32) (rgs1 : Int32) (rgc1 : Int32) (fnd1 : Int32) (rdb1 : Int32) (wdb1 : Int32) (fma1 : Nat → Int32) (z : T26) : Prop :=
  (W < 0 ∧ G = 0 ∧ z = (W, nx, tn, gn, ac, dn, fs, fm, mks0, pts0, ths0, rgs0, rgc0, fnd0, rdb0, wdb0, fma0, mks1, pts1, ths1, rgs1, rgc1, fnd1, rdb1, wdb1, fma1)) ∨ (0 ≤ W ∧ ∃ g' a' d' fs' fm' m0 p0 t0 r0 c0 n0 d0 w0 f0 m1 p1 t1 r1 c1 n1 d1 w1 f1, z = (W, 1 - nx, tn + 1, g', a', d', fs', fm', m0, p0, t0, r0, c0, n0, d0, w0, f0, m1, p1, t1, r1, c1, n1, d1, w1, f1) ∧ (nx = 0 → p0 = pts0 + G ∧ p1 = pts1) ∧ (nx = 1 → p1 = pts1 + G ∧ p0 = pts0) ∧ EG g' fs' fm' m0 f0 t0 r0 c0 m1 f1 t1 r1 c1)
theorem TR_no {W : Int32} {nx : Int32} {tn : Int32} {gn : Int64} {ac : Int64} {dn : Int64} {fs : Nat → Int32} {fm : Nat → Int32} {mks0 : Int32} {pts0 : Int32} {ths0 : Int32} {rgs0 : Int32} {rgc0 : Int32} {fnd0 : Int32} {rdb0 : Int32} {wdb0 : Int32} {fma0 : Nat → Int32} {mks1 : Int32} {pts1 : Int32} {ths1 : Int32} {rgs1 : Int32} {rgc1 : Int32} {fnd1 : Int32} {rdb1 : Int32} {wdb1 : Int32} {fma1 : Nat → Int32} (hW : W < 0) : TR W 0 nx tn gn ac dn fs fm mks0 pts0 ths0 rgs0 rgc0 fnd0 rdb0 wdb0 fma0 mks1 pts1 ths1 rgs1 rgc1 fnd1 rdb1 wdb1 fma1 (W, nx, tn, gn, ac, dn, fs, fm, mks0, pts0, ths0, rgs0, rgc0, fnd0, rdb0, wdb0, fma0, mks1, pts1, ths1, rgs1, rgc1, fnd1, rdb1, wdb1, fma1) := Or.inl ⟨hW, rfl, rfl⟩
theorem nI_ge0 {n : Nat} (h : n < 2 ^ 31) : (0 : Int32) ≤ nI n := nI_pos' h
