-- each order's turn
theorem st_f {k : Nat} (hk : k < 82) (fs : Nat → Int32) : F_Cloth_stateOf (nI k) fs = fs k := by
  have t := j_tab ⟨k, hk⟩
  dsimp only at t
  unfold F_Cloth_stateOf
  rw [bnd_eq, t.2.2.2.2.2.2.2.1, if_neg d01, nI_clamp (by omega)]
theorem mk_f {k : Nat} (hk : k < 82) (fm : Nat → Int32) : F_Cloth_makerOf (nI k) fm = fm k := by
  have t := j_tab ⟨k, hk⟩
  dsimp only at t
  unfold F_Cloth_makerOf
  rw [bnd_eq, t.2.2.2.2.2.2.2.1, if_neg d01, nI_clamp (by omega)]
theorem ob_A {nx : Int32} {tn : Int32} {gn : Int64} {ac : Int64} {dn : Int64} {fs : Nat → Int32} {fm : Nat → Int32} {mks0 : Int32} {pts0 : Int32} {ths0 : Int32} {rgs0 : Int32} {rgc0 : Int32} {fnd0 : Int32} {rdb0 : Int32} {wdb0 : Int32} {fma0 : Nat → Int32} {mks1 : Int32} {pts1 : Int32} {ths1 : Int32} {rgs1 : Int32} {rgc1 : Int32} {fnd1 : Int32} {rdb1 : Int32} {wdb1 : Int32} {fma1 : Nat → Int32} {o : Int32} (ho : ¬ o = 112) : F_Game_obey o (nI 82) nx tn gn ac dn fs fm mks0 pts0 ths0 rgs0 rgc0 fnd0 rdb0 wdb0 fma0 mks1 pts1 ths1 rgs1 rgc1 fnd1 rdb1 wdb1 fma1 = (-1, nx, tn, gn, ac, dn, fs, fm, mks0, pts0, ths0, rgs0, rgc0, fnd0, rdb0, wdb0, fma0, mks1, pts1, ths1, rgs1, rgc1, fnd1, rdb1, wdb1, fma1) := by
  unfold F_Game_obey
  rw [if_neg ho, bnd_eq, show F_Cloth_isJoint (nI 82) = 0 by decide +kernel, if_pos rfl]
theorem ob_B {nx : Int32} {tn : Int32} {gn : Int64} {ac : Int64} {dn : Int64} {fs : Nat → Int32} {fm : Nat → Int32} {mks0 : Int32} {pts0 : Int32} {ths0 : Int32} {rgs0 : Int32} {rgc0 : Int32} {fnd0 : Int32} {rdb0 : Int32} {wdb0 : Int32} {fma0 : Nat → Int32} {mks1 : Int32} {pts1 : Int32} {ths1 : Int32} {rgs1 : Int32} {rgc1 : Int32} {fnd1 : Int32} {rdb1 : Int32} {wdb1 : Int32} {fma1 : Nat → Int32} {o : Int32} (ho : ¬ o = 112) {k : Nat} (hk : k < 82) (hb : ¬ (F_Game_isOver tn gn = 0 ∧ F_Cloth_isVoid (nI k) gn = 0)) : F_Game_obey o (nI k) nx tn gn ac dn fs fm mks0 pts0 ths0 rgs0 rgc0 fnd0 rdb0 wdb0 fma0 mks1 pts1 ths1 rgs1 rgc1 fnd1 rdb1 wdb1 fma1 = (-5, nx, tn, gn, ac, dn, fs, fm, mks0, pts0, ths0, rgs0, rgc0, fnd0, rdb0, wdb0, fma0, mks1, pts1, ths1, rgs1, rgc1, fnd1, rdb1, wdb1, fma1) := by
  have t := j_tab ⟨k, hk⟩
  dsimp only at t
  unfold F_Game_obey
  rw [if_neg ho, bnd_eq, t.2.2.2.2.2.2.2.1, if_neg d01, bnd_eq]
  by_cases a : F_Game_isOver tn gn = 0
  · rw [if_pos a, bnd_eq, if_neg (fun z => hb ⟨a, z⟩)]
  · rw [if_neg a]
theorem HG_off {gn : Int64} {fs : Nat → Int32} {k : Nat} (s : Int32) {j : Nat} (hn : ¬ j = k) (h : HG gn fs j) : HG gn (upd fs k s) j := ⟨h.1, by rw [pk_un hn]; exact h.2⟩
theorem EG_1 {fs : Nat → Int32} {k : Nat} {s : Int32} (hs : s = 0 ∨ s = 1 ∨ s = 2 ∨ s = 3) (h : ∀ j, j < 82 → fs j = 0 ∨ fs j = 1 ∨ fs j = 2 ∨ fs j = 3) : ∀ j, j < 82 → upd fs k s j = 0 ∨ upd fs k s j = 1 ∨ upd fs k s j = 2 ∨ upd fs k s j = 3 := fun j hj => by
  by_cases e : j = k
  · rw [e, pk_us]; exact hs
  · rw [pk_un e]; exact h j hj
theorem EG_2 {fs fm : Nat → Int32} {k : Nat} {s m : Int32} (hs : (s = 0 ∨ s = 1) → m = -6) (h : ∀ j, j < 82 → fs j = 0 ∨ fs j = 1 → fm j = -6) : ∀ j, j < 82 → upd fs k s j = 0 ∨ upd fs k s j = 1 → upd fm k m j = -6 := fun j hj => by
  by_cases e : j = k
  · rw [e, pk_us, pk_us]; exact hs
  · rw [pk_un e, pk_un e]; exact h j hj
theorem MG_off {gn : Int64} {fs : Nat → Int32} {mks : Int32} {f : Nat → Int32} {k : Nat} {s : Int32} (h : MG gn fs mks f) (hn : ¬ (fs k = 0 ∨ fs k = 2)) : MG gn (upd fs k s) mks f :=
  MG_im h (fun j _ g => HG_off s (fun e => hn (by rw [← e]; exact g.2)) g)
theorem cnt_or {f g : Nat → Bool} : ∀ {n : Nat}, (∀ i, i < n → f i = true → g i = false) → cntB (fun i => f i || g i) n = cntB f n + cntB g n
  | 0, _ => rfl
  | n + 1, h => by
    have r := cnt_or (f := f) (g := g) (n := n) (fun i hi => h i (by omega))
    show cntB (fun i => f i || g i) n + (f n || g n).toNat = cntB f n + (f n).toNat + (cntB g n + (g n).toNat)
    rw [r]
    cases e : f n with
    | false => simp; omega
    | true => rw [h n (by omega) e]; simp; omega
theorem chb0 (j mks0 : Int32) (fma0 : Nat → Int32) (mks1 : Int32) (fma1 : Nat → Int32) : ((F_Game_chalkersOf j mks0 fma0 mks1 fma1 >>> ((0 : Int32) &&& 31)) &&& 1) = 1 ↔ ¬ F_Tailor_hasMark j mks0 fma0 = 0 := by
  rw [chal_f]
  by_cases a : F_Tailor_hasMark j mks0 fma0 = 0
  · rw [if_pos a]
    refine ⟨fun z => ?_, fun z => absurd a z⟩
    by_cases b : F_Tailor_hasMark j mks1 fma1 = 0
    · rw [if_pos b] at z; exact absurd z (by decide)
    · rw [if_neg b] at z; exact absurd z (by decide)
  · rw [if_neg a]
    refine ⟨fun _ => a, fun _ => ?_⟩
    split <;> decide
theorem chb1 (j mks0 : Int32) (fma0 : Nat → Int32) (mks1 : Int32) (fma1 : Nat → Int32) : ((F_Game_chalkersOf j mks0 fma0 mks1 fma1 >>> ((1 : Int32) &&& 31)) &&& 1) = 1 ↔ ¬ F_Tailor_hasMark j mks1 fma1 = 0 := by
  rw [chal_f]
  by_cases b : F_Tailor_hasMark j mks1 fma1 = 0
  · rw [if_pos b, if_pos b]
    refine ⟨fun z => ?_, fun z => absurd b z⟩
    by_cases a : F_Tailor_hasMark j mks0 fma0 = 0
    · rw [if_pos a] at z; exact absurd z (by decide)
    · rw [if_neg a] at z; exact absurd z (by decide)
  · rw [if_neg b, if_neg b]
    refine ⟨fun _ => b, fun _ => ?_⟩
    split <;> decide
theorem MG_MGq {gn g : Int64} {fs : Nat → Int32} {mks : Int32} {f : Nat → Int32} (h : MG gn fs mks f) : MGq g fs 0 mks f := by
  obtain ⟨M, a, hM, hf⟩ := h
  refine ⟨M, a, hM, fun i hi => ?_⟩
  obtain ⟨j, r1, r2, r3⟩ := hf i hi
  exact ⟨j, r1, r2, r3.2, fun z => absurd z (Nat.not_lt_zero _)⟩
/-- the points of a snip -/
def dV (r8 : Int32) : Int32 := if r8 = 0 then 0 else 1
def dU (r5 : Int32) : Int32 := if r5 = 0 then 0 else 3
theorem HC_d {r5 r8 dp df : Int32} (h : HC r5 r8 dp df) : dp = dV r8 - dU r5 := by
  unfold dV dU
  rcases h with ⟨a, b, rfl, -⟩ | ⟨a, b, rfl, -⟩ | ⟨a, b, rfl, -⟩ | ⟨a, b, rfl, -⟩
  · rw [if_pos a, if_pos b]; decide
  · rw [if_pos a, if_neg b]; decide
  · rw [if_neg a, if_pos b]; decide
  · rw [if_neg a, if_neg b]; decide
theorem pts_d (p v u B : Int32) : p + (v - u) + B = p + (B + v - u) := by
  rw [Int32.add_assoc, Int32.add_comm (v - u) B, Int32.sub_eq_add_neg, Int32.sub_eq_add_neg, Int32.add_assoc B v (-u)]
theorem t_chalk0 {tn : Int32} {gn : Int64} {ac : Int64} {dn : Int64} {fs : Nat → Int32} {fm : Nat → Int32} {mks0 : Int32} {pts0 : Int32} {ths0 : Int32} {rgs0 : Int32} {rgc0 : Int32} {fnd0 : Int32} {rdb0 : Int32} {wdb0 : Int32} {fma0 : Nat → Int32} {mks1 : Int32} {pts1 : Int32} {ths1 : Int32} {rgs1 : Int32} {rgc1 : Int32} {fnd1 : Int32} {rdb1 : Int32} {wdb1 : Int32} {fma1 : Nat → Int32} {vs : Nat → Int32} (h : GRk 0 (0 : Int32) tn gn ac dn fs fm mks0 pts0 ths0 rgs0 rgc0 fnd0 rdb0 wdb0 fma0 mks1 pts1 ths1 rgs1 rgc1 fnd1 rdb1 wdb1 fma1 vs) (hE : EG gn fs fm mks0 fma0 ths0 rgs0 rgc0 mks1 fma1 ths1 rgs1 rgc1) {k : Nat} (hk : k < 82) (ha : F_Game_isOver tn gn = 0) (hv : F_Cloth_isVoid (nI k) gn = 0) {v20 : Int32} (hv20 : v20 = 0 ↔ F_Tailor_hasMark (nI k) mks0 fma0 = 0) : ∃ W, (bnd (F_TC_of (nI k) 6 tn gn ac dn fs fm mks0 fma0 mks1 fma1) fun r_23 => if r_23 = 0 then (-5 : Int32) else if v20 = 0 then (bnd (F_TC_player 0 2 mks0 pts0 ths0 rgs0 rgc0 fnd0 rdb0 wdb0 mks1 pts1 ths1 rgs1 rgc1 fnd1 rdb1 wdb1) fun r_26 => if r_26 = 8 then (-4 : Int32) else bnd (F_TC_player 0 2 mks0 pts0 ths0 rgs0 rgc0 fnd0 rdb0 wdb0 mks1 pts1 ths1 rgs1 rgc1 fnd1 rdb1 wdb1) fun r_28 => r_28 + 1) else (-5)) = W ∧ TR W 0 (0 : Int32) tn gn ac dn fs fm mks0 pts0 ths0 rgs0 rgc0 fnd0 rdb0 wdb0 fma0 mks1 pts1 ths1 rgs1 rgc1 fnd1 rdb1 wdb1 fma1 (F_Game_obey 99 (nI k) (0 : Int32) tn gn ac dn fs fm mks0 pts0 ths0 rgs0 rgc0 fnd0 rdb0 wdb0 fma0 mks1 pts1 ths1 rgs1 rgc1 fnd1 rdb1 wdb1 fma1) := by
  obtain ⟨E1, E2, E3, E4, E5⟩ := hE
  obtain ⟨M, eM, hM, hf⟩ := id E3
  have t := j_tab ⟨k, hk⟩
  dsimp only at t
  have fin : ∀ {r : Int32 × Int32 × Int32 × Int32 × (Nat → Int32) × Int32 × (Nat → Int32)}, F_Game_markJoint (nI k) 0 tn ac dn mks0 fma0 mks1 fma1 = r → F_Game_obey 99 (nI k) (0 : Int32) tn gn ac dn fs fm mks0 pts0 ths0 rgs0 rgc0 fnd0 rdb0 wdb0 fma0 mks1 pts1 ths1 rgs1 rgc1 fnd1 rdb1 wdb1 fma1 = (r.1, r.2.1, r.2.2.1, gn, ac, dn, fs, fm, r.2.2.2.1, pts0, ths0, rgs0, rgc0, fnd0, rdb0, wdb0, r.2.2.2.2.1, r.2.2.2.2.2.1, pts1, ths1, rgs1, rgc1, fnd1, rdb1, wdb1, r.2.2.2.2.2.2) := by
    intro r er
    unfold F_Game_obey
    rw [if_neg (by decide), bnd_eq, t.2.2.2.2.2.2.2.1, if_neg d01, bnd_eq, ha, if_pos rfl, bnd_eq, hv, if_pos rfl, if_neg (by decide), if_pos rfl, er, bnd_eq]
  by_cases a6 : hold vs k
  · have hn : ¬ F_Cloth_holds (nI k) ac dn = 0 := by rw [cholds h.1 hk]; exact fun z => (mholds hk).mp z a6
    by_cases b : F_Tailor_hasMark (nI k) mks0 fma0 = 0
    · by_cases c : M = 8
      · refine ⟨-4, bnd_tr (of_6 h.1 hk ..) ?_, ?_⟩
        · rw [if_pos a6, if_neg d01, if_pos (hv20.mpr b)]
          refine bnd_tr (v := mks0) rfl ?_
          rw [if_pos (by rw [eM, c]; decide)]
        · rw [fin (r := (-4, 0, tn, mks0, fma0, mks1, fma1)) (by
            unfold F_Game_markJoint F_Tailor_addMark
            rw [if_pos rfl, bnd_eq, if_neg hn, bnd_eq, if_pos b, if_neg (by rw [eM, c]; decide), bnd_eq, if_pos rfl])]
          exact TR_no (by decide)
      · refine ⟨mks0 + 1, bnd_tr (of_6 h.1 hk ..) ?_, ?_⟩
        · rw [if_pos a6, if_neg d01, if_pos (hv20.mpr b)]
          refine bnd_tr (v := mks0) rfl ?_
          rw [if_neg (by rw [eM]; exact fun z => c ((nI_eq (b := 8) (by omega) (by omega)).mp z))]
          exact bnd_tr (v := mks0) rfl rfl
        · rw [fin (r := (mks0 + 1, 1 - 0, tn + 1, mks0 + 1, upd fma0 mks0.toNatClampNeg (nI k), mks1, fma1)) (by
            unfold F_Game_markJoint F_Tailor_addMark F_Game_endTurn
            rw [if_pos rfl, bnd_eq, if_neg hn, bnd_eq, if_pos b, if_pos (by rw [eM]; exact nI_lt (b := 8) (by omega) (by omega)), bnd_eq, if_neg d01, bnd_eq])]
          have eC : mks0.toNatClampNeg = M := by rw [eM, nI_clamp (by omega)]
          have hG : HG gn fs k := (HG_hold h.1 hk).mp a6
          have E' : MG gn fs (mks0 + 1) (upd fma0 mks0.toNatClampNeg (nI k)) := by
            refine ⟨M + 1, by rw [eM, nI_1], by omega, fun i hi => ?_⟩
            rw [eC]
            by_cases z : i = M
            · rw [z, pk_us]; exact ⟨k, hk, rfl, hG⟩
            · rw [pk_un z]; exact hf i (by omega)
          exact Or.inr ⟨by rw [eM, nI_1]; exact nI_ge0 (by omega), _, _, _, _, _, _, _, _, _, _, _, _, _, _, _, _, _, _, _, _, _, _, _, rfl, fun _ => ⟨(Int32.add_zero _).symm, rfl⟩, fun z => absurd z (by decide), ⟨E1, E2, E', E4, E5⟩⟩
    · refine ⟨-5, bnd_tr (of_6 h.1 hk ..) ?_, ?_⟩
      · rw [if_pos a6, if_neg d01, if_neg (fun z => b (hv20.mp z))]
      · rw [fin (r := (-5, 0, tn, mks0, fma0, mks1, fma1)) (by
          unfold F_Game_markJoint
          rw [if_pos rfl, bnd_eq, if_neg hn, bnd_eq, if_neg b])]
        exact TR_no (by decide)
  · have hz : F_Cloth_holds (nI k) ac dn = 0 := by rw [cholds h.1 hk]; exact (mholds hk).mpr a6
    refine ⟨-5, bnd_tr (of_6 h.1 hk ..) ?_, ?_⟩
    · rw [if_neg a6, if_pos rfl]
    · rw [fin (r := (-5, 0, tn, mks0, fma0, mks1, fma1)) (by
        unfold F_Game_markJoint
        rw [if_pos rfl, bnd_eq, if_pos hz])]
      exact TR_no (by decide)
theorem t_sew0 {tn : Int32} {gn : Int64} {ac : Int64} {dn : Int64} {fs : Nat → Int32} {fm : Nat → Int32} {mks0 : Int32} {pts0 : Int32} {ths0 : Int32} {rgs0 : Int32} {rgc0 : Int32} {fnd0 : Int32} {rdb0 : Int32} {wdb0 : Int32} {fma0 : Nat → Int32} {mks1 : Int32} {pts1 : Int32} {ths1 : Int32} {rgs1 : Int32} {rgc1 : Int32} {fnd1 : Int32} {rdb1 : Int32} {wdb1 : Int32} {fma1 : Nat → Int32} {vs : Nat → Int32} (h : GRk 0 (0 : Int32) tn gn ac dn fs fm mks0 pts0 ths0 rgs0 rgc0 fnd0 rdb0 wdb0 fma0 mks1 pts1 ths1 rgs1 rgc1 fnd1 rdb1 wdb1 fma1 vs) (hE : EG gn fs fm mks0 fma0 ths0 rgs0 rgc0 mks1 fma1 ths1 rgs1 rgc1) {k : Nat} (hk : k < 82) (ha : F_Game_isOver tn gn = 0) (hv : F_Cloth_isVoid (nI k) gn = 0) : ∃ W, (if fs k = 1 then (if ths0 = 0 then (-5 : Int32) else ths0 - 1) else (-5)) = W ∧ TR W 0 (0 : Int32) tn gn ac dn fs fm mks0 pts0 ths0 rgs0 rgc0 fnd0 rdb0 wdb0 fma0 mks1 pts1 ths1 rgs1 rgc1 fnd1 rdb1 wdb1 fma1 (F_Game_obey 119 (nI k) (0 : Int32) tn gn ac dn fs fm mks0 pts0 ths0 rgs0 rgc0 fnd0 rdb0 wdb0 fma0 mks1 pts1 ths1 rgs1 rgc1 fnd1 rdb1 wdb1 fma1) := by
  obtain ⟨E1, E2, E3, E4, E5, E6, E7⟩ := hE
  obtain ⟨N, hN, eN⟩ := id E5
  have t := j_tab ⟨k, hk⟩
  dsimp only at t
  have fin : ∀ {r : Int32 × Int32 × Int32 × Int64 × Int64 × (Nat → Int32) × (Nat → Int32) × Int32 × Int32}, F_Game_sewJoint (nI k) 0 tn ac dn fs fm ths0 ths1 = r → F_Game_obey 119 (nI k) (0 : Int32) tn gn ac dn fs fm mks0 pts0 ths0 rgs0 rgc0 fnd0 rdb0 wdb0 fma0 mks1 pts1 ths1 rgs1 rgc1 fnd1 rdb1 wdb1 fma1 = (r.1, r.2.1, r.2.2.1, gn, r.2.2.2.1, r.2.2.2.2.1, r.2.2.2.2.2.1, r.2.2.2.2.2.2.1, mks0, pts0, r.2.2.2.2.2.2.2.1, rgs0, rgc0, fnd0, rdb0, wdb0, fma0, mks1, pts1, r.2.2.2.2.2.2.2.2, rgs1, rgc1, fnd1, rdb1, wdb1, fma1) := by
    intro r er
    unfold F_Game_obey
    rw [if_neg (by decide), bnd_eq, t.2.2.2.2.2.2.2.1, if_neg d01, bnd_eq, ha, if_pos rfl, bnd_eq, hv, if_pos rfl, if_neg (by decide), if_neg (by decide), if_neg (by decide), if_neg (by decide), if_pos rfl, er, bnd_eq]
  by_cases a : fs k = 1
  · by_cases b : ths0 = 0
    · refine ⟨-5, by rw [if_pos a, if_pos b], ?_⟩
      rw [fin (r := (-5, 0, tn, ac, dn, fs, fm, ths0, ths1)) (by
        unfold F_Game_sewJoint
        rw [if_pos rfl, bnd_eq, st_f hk, if_pos a, if_pos b])]
      exact TR_no (by decide)
    · refine ⟨ths0 - 1, by rw [if_pos a, if_neg b], ?_⟩
      rw [fin (r := (ths0 - 1, 1 - 0, tn + 1, if k < 42 then mkB 2 k ac else ac, if k < 42 then dn else mkB 2 k dn, upd fs k 2, upd fm k 0, ths0 - 1, ths1)) (by
        unfold F_Game_sewJoint F_Game_endTurn
        rw [if_pos rfl, bnd_eq, st_f hk, if_pos a, if_neg b, make_f hk, bnd_eq, bnd_eq])]
      have n0 : 0 < N := Nat.pos_of_ne_zero fun z => b (by rw [eN, z]; rfl)
      have eP : ths0 - 1 = nI (N - 1) := by
        rw [eN, show N = (N - 1) + 1 by omega, nI_pred]
        rfl
      have hn : ¬ (fs k = 0 ∨ fs k = 2) := by rw [a]; decide
      have E' : TH (ths0 - 1) := ⟨N - 1, by omega, eP⟩
      exact Or.inr ⟨by rw [eP]; exact nI_ge0 (by omega), _, _, _, _, _, _, _, _, _, _, _, _, _, _, _, _, _, _, _, _, _, _, _, rfl, fun _ => ⟨(Int32.add_zero _).symm, rfl⟩, fun z => absurd z (by decide), ⟨EG_1 (by decide) E1, EG_2 (by decide) E2, MG_off E3 hn, MG_off E4 hn, E', E6, E7⟩⟩
  · refine ⟨-5, by rw [if_neg a], ?_⟩
    rw [fin (r := (-5, 0, tn, ac, dn, fs, fm, ths0, ths1)) (by
      unfold F_Game_sewJoint
      rw [if_pos rfl, bnd_eq, st_f hk, if_neg a])]
    exact TR_no (by decide)
theorem t_bluff0 {tn : Int32} {gn : Int64} {ac : Int64} {dn : Int64} {fs : Nat → Int32} {fm : Nat → Int32} {mks0 : Int32} {pts0 : Int32} {ths0 : Int32} {rgs0 : Int32} {rgc0 : Int32} {fnd0 : Int32} {rdb0 : Int32} {wdb0 : Int32} {fma0 : Nat → Int32} {mks1 : Int32} {pts1 : Int32} {ths1 : Int32} {rgs1 : Int32} {rgc1 : Int32} {fnd1 : Int32} {rdb1 : Int32} {wdb1 : Int32} {fma1 : Nat → Int32} (hE : EG gn fs fm mks0 fma0 ths0 rgs0 rgc0 mks1 fma1 ths1 rgs1 rgc1) {k : Nat} (hk : k < 82) (ha : F_Game_isOver tn gn = 0) (hv : F_Cloth_isVoid (nI k) gn = 0) : ∃ W, (if fs k = 1 then F_Cloth_jointsThatAre 3 gn fs + 1 else (-5 : Int32)) = W ∧ TR W 0 (0 : Int32) tn gn ac dn fs fm mks0 pts0 ths0 rgs0 rgc0 fnd0 rdb0 wdb0 fma0 mks1 pts1 ths1 rgs1 rgc1 fnd1 rdb1 wdb1 fma1 (F_Game_obey 98 (nI k) (0 : Int32) tn gn ac dn fs fm mks0 pts0 ths0 rgs0 rgc0 fnd0 rdb0 wdb0 fma0 mks1 pts1 ths1 rgs1 rgc1 fnd1 rdb1 wdb1 fma1) := by
  obtain ⟨E1, E2, E3, E4, E7⟩ := hE
  have t := j_tab ⟨k, hk⟩
  dsimp only at t
  have fin : ∀ {r : Int32 × Int32 × Int32 × Int64 × Int64 × (Nat → Int32) × (Nat → Int32)}, F_Game_bluffJoint (nI k) 0 tn gn ac dn fs fm = r → F_Game_obey 98 (nI k) (0 : Int32) tn gn ac dn fs fm mks0 pts0 ths0 rgs0 rgc0 fnd0 rdb0 wdb0 fma0 mks1 pts1 ths1 rgs1 rgc1 fnd1 rdb1 wdb1 fma1 = (r.1, r.2.1, r.2.2.1, gn, r.2.2.2.1, r.2.2.2.2.1, r.2.2.2.2.2.1, r.2.2.2.2.2.2, mks0, pts0, ths0, rgs0, rgc0, fnd0, rdb0, wdb0, fma0, mks1, pts1, ths1, rgs1, rgc1, fnd1, rdb1, wdb1, fma1) := by
    intro r er
    unfold F_Game_obey
    rw [if_neg (by decide), bnd_eq, t.2.2.2.2.2.2.2.1, if_neg d01, bnd_eq, ha, if_pos rfl, bnd_eq, hv, if_pos rfl, if_pos rfl, er, bnd_eq]
  by_cases a : fs k = 1
  · refine ⟨F_Cloth_jointsThatAre 3 gn fs + 1, by rw [if_pos a], ?_⟩
    have nv := (isv hk gn).mp hv
    have ec := cnt_up (f := fun j => decide (fs j = 3 ∧ ¬ (b6 gn (jF j) = true ∨ b6 gn (jS j) = true))) (g := fun j => decide (upd fs k 3 j = 3 ∧ ¬ (b6 gn (jF j) = true ∨ b6 gn (jS j) = true))) (q := k) (n := 82) hk (decide_eq_false (fun z => absurd (a.symm.trans z.1) (by decide))) (decide_eq_true ⟨pk_us, nv⟩) (fun i hi => by
      rw [pk_un hi])
    have eW : F_Cloth_jointsThatAre 3 gn (upd fs k 3) = F_Cloth_jointsThatAre 3 gn fs + 1 := by
      rw [jta_n, jta_n, ec, nI_1]
    rw [fin (r := (F_Cloth_jointsThatAre 3 gn fs + 1, 1 - 0, tn + 1, if k < 42 then mkB 3 k ac else ac, if k < 42 then dn else mkB 3 k dn, upd fs k 3, upd fm k 0)) (by
      unfold F_Game_bluffJoint F_Game_endTurn
      rw [bnd_eq, st_f hk, if_pos a, make_f hk, bnd_eq, bnd_eq, bnd_eq, eW])]
    have hn : ¬ (fs k = 0 ∨ fs k = 2) := by rw [a]; decide
    have hle := cntB_le (fun j => decide (fs j = 3 ∧ ¬ (b6 gn (jF j) = true ∨ b6 gn (jS j) = true))) 82
    exact Or.inr ⟨by rw [jta_n, nI_1]; exact nI_ge0 (by omega), _, _, _, _, _, _, _, _, _, _, _, _, _, _, _, _, _, _, _, _, _, _, _, rfl, fun _ => ⟨(Int32.add_zero _).symm, rfl⟩, fun z => absurd z (by decide), ⟨EG_1 (by decide) E1, EG_2 (by decide) E2, MG_off E3 hn, MG_off E4 hn, E7⟩⟩
  · refine ⟨-5, by rw [if_neg a], ?_⟩
    rw [fin (r := (-5, 0, tn, ac, dn, fs, fm)) (by
      unfold F_Game_bluffJoint
      rw [bnd_eq, st_f hk, if_neg a])]
    exact TR_no (by decide)
theorem t_doubt0 {tn : Int32} {gn : Int64} {ac : Int64} {dn : Int64} {fs : Nat → Int32} {fm : Nat → Int32} {mks0 : Int32} {pts0 : Int32} {ths0 : Int32} {rgs0 : Int32} {rgc0 : Int32} {fnd0 : Int32} {rdb0 : Int32} {wdb0 : Int32} {fma0 : Nat → Int32} {mks1 : Int32} {pts1 : Int32} {ths1 : Int32} {rgs1 : Int32} {rgc1 : Int32} {fnd1 : Int32} {rdb1 : Int32} {wdb1 : Int32} {fma1 : Nat → Int32} (hE : EG gn fs fm mks0 fma0 ths0 rgs0 rgc0 mks1 fma1 ths1 rgs1 rgc1) {k : Nat} (hk : k < 82) (ha : F_Game_isOver tn gn = 0) (hv : F_Cloth_isVoid (nI k) gn = 0) : ∃ W G, (if fm k = (1 : Int32) - 0 then (if fs k = 3 then (1 : Int32) else 0) else (-5)) = W ∧ (if (0 : Int32) ≤ W then (if W = 1 then (2 : Int32) else (-2)) else 0) = G ∧ TR W G (0 : Int32) tn gn ac dn fs fm mks0 pts0 ths0 rgs0 rgc0 fnd0 rdb0 wdb0 fma0 mks1 pts1 ths1 rgs1 rgc1 fnd1 rdb1 wdb1 fma1 (F_Game_obey 100 (nI k) (0 : Int32) tn gn ac dn fs fm mks0 pts0 ths0 rgs0 rgc0 fnd0 rdb0 wdb0 fma0 mks1 pts1 ths1 rgs1 rgc1 fnd1 rdb1 wdb1 fma1) := by
  obtain ⟨E1, E2, E3, E4, E7⟩ := hE
  have t := j_tab ⟨k, hk⟩
  dsimp only at t
  have fin : ∀ {r : Int32 × Int32 × Int32 × Int64 × Int64 × (Nat → Int32) × (Nat → Int32) × Int32 × Int32 × Int32 × Int32 × Int32 × Int32}, F_Game_doubtJoint (nI k) 0 tn ac dn fs fm pts0 rdb0 wdb0 pts1 rdb1 wdb1 = r → F_Game_obey 100 (nI k) (0 : Int32) tn gn ac dn fs fm mks0 pts0 ths0 rgs0 rgc0 fnd0 rdb0 wdb0 fma0 mks1 pts1 ths1 rgs1 rgc1 fnd1 rdb1 wdb1 fma1 = (r.1, r.2.1, r.2.2.1, gn, r.2.2.2.1, r.2.2.2.2.1, r.2.2.2.2.2.1, r.2.2.2.2.2.2.1, mks0, r.2.2.2.2.2.2.2.1, ths0, rgs0, rgc0, fnd0, r.2.2.2.2.2.2.2.2.1, r.2.2.2.2.2.2.2.2.2.1, fma0, mks1, r.2.2.2.2.2.2.2.2.2.2.1, ths1, rgs1, rgc1, fnd1, r.2.2.2.2.2.2.2.2.2.2.2.1, r.2.2.2.2.2.2.2.2.2.2.2.2, fma1) := by
    intro r er
    unfold F_Game_obey
    rw [if_neg (by decide), bnd_eq, t.2.2.2.2.2.2.2.1, if_neg d01, bnd_eq, ha, if_pos rfl, bnd_eq, hv, if_pos rfl, if_neg (by decide), if_neg (by decide), if_pos rfl, er, bnd_eq]
  by_cases a : fm k = (1 : Int32) - 0
  · have n6 : ¬ fm k = -6 := by rw [a]; decide
    by_cases b : fs k = 3
    · refine ⟨1, 2, by rw [if_pos a, if_pos b], by decide, ?_⟩
      rw [fin (r := (1, 1 - 0, tn + 1, if k < 42 then mkB 1 k ac else ac, if k < 42 then dn else mkB 1 k dn, upd fs k 1, upd fm k (-6), pts0 + 2, rdb0 + 1, wdb0, pts1, rdb1, wdb1)) (by
        unfold F_Game_doubtJoint F_Game_endTurn
        rw [bnd_eq, mk_f hk, if_pos a, bnd_eq, st_f hk, if_pos b, if_pos rfl, make_f hk, bnd_eq, bnd_eq])]
      have hn : ¬ (fs k = 0 ∨ fs k = 2) := by rw [b]; decide
      exact Or.inr ⟨by decide, _, _, _, _, _, _, _, _, _, _, _, _, _, _, _, _, _, _, _, _, _, _, _, rfl, fun _ => ⟨rfl, rfl⟩, fun z => absurd z (by decide), ⟨EG_1 (by decide) E1, EG_2 (fun _ => rfl) E2, MG_off E3 hn, MG_off E4 hn, E7⟩⟩
    · refine ⟨0, -2, by rw [if_pos a, if_neg b], by decide, ?_⟩
      rw [fin (r := (0, 1 - 0, tn + 1, if k < 42 then mkB 2 k ac else ac, if k < 42 then dn else mkB 2 k dn, upd fs k 2, upd fm k (-6), pts0 - 2, rdb0, wdb0 + 1, pts1, rdb1, wdb1)) (by
        unfold F_Game_doubtJoint F_Game_endTurn
        rw [bnd_eq, mk_f hk, if_pos a, bnd_eq, st_f hk, if_neg b, if_pos rfl, make_f hk, bnd_eq, bnd_eq])]
      have s2 : fs k = 2 := by
        rcases E1 k hk with e | e | e | e
        · exact absurd (E2 k hk (Or.inl e)) n6
        · exact absurd (E2 k hk (Or.inr e)) n6
        · exact e
        · exact absurd e b
      have same : ∀ j, j < 82 → HG gn fs j → HG gn (upd fs k 2) j := fun j _ g => by
        by_cases e : j = k
        · exact ⟨g.1, by rw [e, pk_us]; exact Or.inr rfl⟩
        · exact HG_off 2 e g
      exact Or.inr ⟨by decide, _, _, _, _, _, _, _, _, _, _, _, _, _, _, _, _, _, _, _, _, _, _, _, rfl, fun _ => ⟨Int32.sub_eq_add_neg _ _, rfl⟩, fun z => absurd z (by decide), ⟨EG_1 (by decide) E1, EG_2 (fun _ => rfl) E2, MG_im E3 same, MG_im E4 same, E7⟩⟩
  · refine ⟨-5, 0, by rw [if_neg a], by decide, ?_⟩
    rw [fin (r := (-5, 0, tn, ac, dn, fs, fm, pts0, rdb0, wdb0, pts1, rdb1, wdb1)) (by
      unfold F_Game_doubtJoint
      rw [bnd_eq, mk_f hk, if_neg a])]
    exact TR_no (by decide)
theorem t_pass0 {tn : Int32} {gn : Int64} {ac : Int64} {dn : Int64} {fs : Nat → Int32} {fm : Nat → Int32} {mks0 : Int32} {pts0 : Int32} {ths0 : Int32} {rgs0 : Int32} {rgc0 : Int32} {fnd0 : Int32} {rdb0 : Int32} {wdb0 : Int32} {fma0 : Nat → Int32} {mks1 : Int32} {pts1 : Int32} {ths1 : Int32} {rgs1 : Int32} {rgc1 : Int32} {fnd1 : Int32} {rdb1 : Int32} {wdb1 : Int32} {fma1 : Nat → Int32} (hE : EG gn fs fm mks0 fma0 ths0 rgs0 rgc0 mks1 fma1 ths1 rgs1 rgc1) (j : Int32) : ∃ W, (if F_Game_isOver tn gn = 0 then (1 : Int32) - 0 else (-5)) = W ∧ TR W 0 (0 : Int32) tn gn ac dn fs fm mks0 pts0 ths0 rgs0 rgc0 fnd0 rdb0 wdb0 fma0 mks1 pts1 ths1 rgs1 rgc1 fnd1 rdb1 wdb1 fma1 (F_Game_obey 112 j (0 : Int32) tn gn ac dn fs fm mks0 pts0 ths0 rgs0 rgc0 fnd0 rdb0 wdb0 fma0 mks1 pts1 ths1 rgs1 rgc1 fnd1 rdb1 wdb1 fma1) := by
  have fin : ∀ {r : Int32 × Int32 × Int32}, F_Game_passOn 0 tn gn = r → F_Game_obey 112 j (0 : Int32) tn gn ac dn fs fm mks0 pts0 ths0 rgs0 rgc0 fnd0 rdb0 wdb0 fma0 mks1 pts1 ths1 rgs1 rgc1 fnd1 rdb1 wdb1 fma1 = (r.1, r.2.1, r.2.2, gn, ac, dn, fs, fm, mks0, pts0, ths0, rgs0, rgc0, fnd0, rdb0, wdb0, fma0, mks1, pts1, ths1, rgs1, rgc1, fnd1, rdb1, wdb1, fma1) := by
    intro r er
    unfold F_Game_obey
    rw [if_pos rfl, er, bnd_eq]
  by_cases a : F_Game_isOver tn gn = 0
  · refine ⟨1 - 0, by rw [if_pos a], ?_⟩
    rw [fin (r := (1 - 0, 1 - 0, tn + 1)) (by
      unfold F_Game_passOn F_Game_endTurn
      rw [bnd_eq, if_pos a, bnd_eq])]
    exact Or.inr ⟨by decide, _, _, _, _, _, _, _, _, _, _, _, _, _, _, _, _, _, _, _, _, _, _, _, rfl, fun _ => ⟨(Int32.add_zero _).symm, rfl⟩, fun z => absurd z (by decide), hE⟩
  · refine ⟨-5, by rw [if_neg a], ?_⟩
    rw [fin (r := (-5, 0, tn)) (by
      unfold F_Game_passOn
      rw [bnd_eq, if_neg a])]
    exact TR_no (by decide)
theorem t_snip0 {tn : Int32} {gn : Int64} {ac : Int64} {dn : Int64} {fs : Nat → Int32} {fm : Nat → Int32} {mks0 : Int32} {pts0 : Int32} {ths0 : Int32} {rgs0 : Int32} {rgc0 : Int32} {fnd0 : Int32} {rdb0 : Int32} {wdb0 : Int32} {fma0 : Nat → Int32} {mks1 : Int32} {pts1 : Int32} {ths1 : Int32} {rgs1 : Int32} {rgc1 : Int32} {fnd1 : Int32} {rdb1 : Int32} {wdb1 : Int32} {fma1 : Nat → Int32} {vs : Nat → Int32} (h : GRk 0 (0 : Int32) tn gn ac dn fs fm mks0 pts0 ths0 rgs0 rgc0 fnd0 rdb0 wdb0 fma0 mks1 pts1 ths1 rgs1 rgc1 fnd1 rdb1 wdb1 fma1 vs) (hE : EG gn fs fm mks0 fma0 ths0 rgs0 rgc0 mks1 fma1 ths1 rgs1 rgc1) {k : Nat} (hk : k < 82) : ∃ W G, F_TC_ifSnipped (nI k) tn gn ac dn fs = W ∧ (if (0 : Int32) ≤ W then W + dV (F_Tailor_hasMark (nI k) mks0 fma0) - dU (F_Tailor_hasMark (nI k) mks1 fma1) else 0) = G ∧ TR W G (0 : Int32) tn gn ac dn fs fm mks0 pts0 ths0 rgs0 rgc0 fnd0 rdb0 wdb0 fma0 mks1 pts1 ths1 rgs1 rgc1 fnd1 rdb1 wdb1 fma1 (F_Game_obey 115 (nI k) (0 : Int32) tn gn ac dn fs fm mks0 pts0 ths0 rgs0 rgc0 fnd0 rdb0 wdb0 fma0 mks1 pts1 ths1 rgs1 rgc1 fnd1 rdb1 wdb1 fma1) := by
  obtain ⟨E1, E2, E3, E4, E5, E6, a0, a1, b0, b1, ea0, ea1, eb0, eb1, l0, l1, hsum⟩ := hE
  have t := j_tab ⟨k, hk⟩
  dsimp only at t
  have ov := cover h.1 h.2.2.1
  have cv := cvoid h.1 hk
  have fin : ∀ {r : Int32 × Int32 × Int32 × Int64 × Int64 × Int64 × (Nat → Int32) × (Nat → Int32) × Int32 × Int32 × Int32 × Int32 × Int32 × (Nat → Int32) × Int32 × Int32 × Int32 × Int32 × Int32 × (Nat → Int32)}, F_Game_isOver tn gn = 0 → F_Cloth_isVoid (nI k) gn = 0 → F_Game_snipJoint (nI k) 0 tn gn ac dn fs fm mks0 pts0 rgs0 rgc0 fnd0 fma0 mks1 pts1 rgs1 rgc1 fnd1 fma1 = r → F_Game_obey 115 (nI k) (0 : Int32) tn gn ac dn fs fm mks0 pts0 ths0 rgs0 rgc0 fnd0 rdb0 wdb0 fma0 mks1 pts1 ths1 rgs1 rgc1 fnd1 rdb1 wdb1 fma1 = (r.1, r.2.1, r.2.2.1, r.2.2.2.1, r.2.2.2.2.1, r.2.2.2.2.2.1, r.2.2.2.2.2.2.1, r.2.2.2.2.2.2.2.1, r.2.2.2.2.2.2.2.2.1, r.2.2.2.2.2.2.2.2.2.1, ths0, r.2.2.2.2.2.2.2.2.2.2.1, r.2.2.2.2.2.2.2.2.2.2.2.1, r.2.2.2.2.2.2.2.2.2.2.2.2.1, rdb0, wdb0, r.2.2.2.2.2.2.2.2.2.2.2.2.2.1, r.2.2.2.2.2.2.2.2.2.2.2.2.2.2.1, r.2.2.2.2.2.2.2.2.2.2.2.2.2.2.2.1, ths1, r.2.2.2.2.2.2.2.2.2.2.2.2.2.2.2.2.1, r.2.2.2.2.2.2.2.2.2.2.2.2.2.2.2.2.2.1, r.2.2.2.2.2.2.2.2.2.2.2.2.2.2.2.2.2.2.1, rdb1, wdb1, r.2.2.2.2.2.2.2.2.2.2.2.2.2.2.2.2.2.2.2) := by
    intro r ha hv er
    unfold F_Game_obey
    rw [if_neg (by decide), bnd_eq, t.2.2.2.2.2.2.2.1, if_neg d01, bnd_eq, ha, if_pos rfl, bnd_eq, hv, if_pos rfl, if_neg (by decide), if_neg (by decide), if_neg (by decide), if_pos rfl, er, bnd_eq]
  by_cases hr : F_Model_reason (nI k) vs = 0
  · have hr2 := hr
    rw [reason_f hk] at hr2
    have c1 : F_Model_isOver vs = 0 := Classical.byContradiction fun z => by rw [if_neg z] at hr2; exact absurd hr2 d01
    rw [if_pos c1] at hr2
    have hd : ¬ vd vs k := fun z => by rw [if_pos z] at hr2; exact absurd hr2 (by decide)
    have ha : F_Game_isOver tn gn = 0 := ov.trans c1
    have hv : F_Cloth_isVoid (nI k) gn = 0 := cv.trans ((mvoid hk).mpr hd)
    obtain ⟨dp, df, hc, -, -⟩ := HC_ex (F_Tailor_hasMark (nI k) mks1 fma1) (F_Tailor_hasMark (nI k) mks0 fma0)
    have hfi := find_0 (pts0 := pts0) (fnd0 := fnd0) (pts1 := pts1) (fnd1 := fnd1) k (mks0 := mks0) (mks1 := mks1) (fma0 := fma0) (fma1 := fma1) rfl rfl hc
    have ed := HC_d hc
    have m0 : MG gn (upd fs k 1) (F_Tailor_dropMark (nI k) mks0 fma0).1 (F_Tailor_dropMark (nI k) mks0 fma0).2 := MG_dm hk E3 (fun j _ ne g => HG_off 1 ne g)
    have m1 : MG gn (upd fs k 1) (F_Tailor_dropMark (nI k) mks1 fma1).1 (F_Tailor_dropMark (nI k) mks1 fma1).2 := MG_dm hk E4 (fun j _ ne g => HG_off 1 ne g)
    generalize F_Tailor_dropMark (nI k) mks0 fma0 = D0 at hfi m0
    generalize F_Tailor_dropMark (nI k) mks1 fma1 = D1 at hfi m1
    have eW := (ifS_f h.1 h.2.2.1 hk).trans (if_pos hr)
    obtain ⟨q1, q2⟩ := rag_s (fun _ => 0) h.1 hk hd
    rcases q2 with ⟨-, f2⟩ | ⟨m, i0, hm48, hi48, -, f2, dD, n⟩
    · -- no rag
      refine ⟨0, dV (F_Tailor_hasMark (nI k) mks0 fma0) - dU (F_Tailor_hasMark (nI k) mks1 fma1), by rw [eW, f2, bc_0], by rw [if_pos (by decide), Int32.zero_add], ?_⟩
      rw [fin ha hv (r := (0, 1 - 0, tn + 1, gn, if k < 42 then mkB 1 k ac else ac, if k < 42 then dn else mkB 1 k dn, upd fs k 1, upd fm k (-6), D0.1, pts0 + dp, rgs0, rgc0, fnd0 + df, D0.2, D1.1, pts1, rgs1, rgc1, fnd1, D1.2)) (by
        unfold F_Game_snipJoint F_Game_endTurn
        rw [bnd_eq, creason h.1 h.2.2.1 hk, if_pos hr, hfi, bnd_eq, f2, bnd_eq, make_f hk, bnd_eq, if_pos (by decide +kernel), bnd_eq, bnd_eq, bc_0])]
      exact Or.inr ⟨by decide, _, _, _, _, _, _, _, _, _, _, _, _, _, _, _, _, _, _, _, _, _, _, _, rfl, fun _ => ⟨by rw [ed], rfl⟩, fun z => absurd z (by decide), ⟨EG_1 (by decide) E1, EG_2 (fun _ => rfl) E2, m0, m1, E5, E6, a0, a1, b0, b1, ea0, ea1, eb0, eb1, l0, l1, hsum⟩⟩
    · -- a rag falls
      have L2 := (lay_lab (nI k) 0 vs (fun _ => 0)).2
      have hlg : ¬ lg_cmp (F_Cloth_ragOf (nI k) ac dn) 0 = 0 := fun z => by
        have y := lgz.mp z
        have bi := (n i0 hi48).mpr f2
        rw [y, b6_zero] at bi
        exact Bool.false_ne_true bi
      have eB := bitCount_48 dD
      have hp : 1 ≤ cntB (b6 (F_Cloth_ragOf (nI k) ac dn)) 48 := cntB_pos hi48 ((n i0 hi48).mpr f2)
      have hle := cntB_le (b6 (F_Cloth_ragOf (nI k) ac dn)) 48
      have ec : cntB (b6 (gn ||| F_Cloth_ragOf (nI k) ac dn)) 48 = cntB (b6 gn) 48 + cntB (b6 (F_Cloth_ragOf (nI k) ac dn)) 48 := by
        rw [← cnt_or (f := b6 gn) (g := b6 (F_Cloth_ragOf (nI k) ac dn)) (fun i hi y => ?_)]
        · exact cntB_eq (fun i _ => b6_or _ _ i)
        · refine not_true_false.mpr (fun z => ?_)
          have w := (n i hi).mp z
          rw [(L2 i hi).1 ((h.1.1 i hi).mp y)] at w
          exact nI_n6 (by omega) w.symm
      generalize eR : F_Cloth_ragOf (nI k) ac dn = rag at eW hlg eB hp hle ec
      generalize cntB (b6 rag) 48 = N at eB hp hle ec
      obtain ⟨X, m0', f0', m1', f1', eL, g0, g1⟩ := l25_go rag 0 gn (if k < 42 then mkB 1 k ac else ac) (if k < 42 then dn else mkB 1 k dn) D0.1 (pts0 + dp) rgs0 rgc0 D0.2 D1.1 pts1 rgs1 rgc1 D1.2 (gn ||| rag) (F_Cloth_tearOff rag gn (if k < 42 then mkB 1 k ac else ac) (if k < 42 then dn else mkB 1 k dn)).2.1 (F_Cloth_tearOff rag gn (if k < 42 then mkB 1 k ac else ac) (if k < 42 then dn else mkB 1 k dn)).2.2 (upd fs k 1) (pts0 + dp + F_Long_bitCount rag) (rgs0 + 1) (rgc0 + F_Long_bitCount rag) pts1 rgs1 rgc1 83 0 D0.1 D0.2 D1.1 D1.2 (by omega) (by omega) (MG_MGq m0) (MG_MGq m1)
      rw [nI_0] at eL
      have el : F_Game_loseRag rag 0 gn (if k < 42 then mkB 1 k ac else ac) (if k < 42 then dn else mkB 1 k dn) D0.1 (pts0 + dp) rgs0 rgc0 D0.2 D1.1 pts1 rgs1 rgc1 D1.2 = (gn ||| rag, (F_Cloth_tearOff rag gn (if k < 42 then mkB 1 k ac else ac) (if k < 42 then dn else mkB 1 k dn)).2.1, (F_Cloth_tearOff rag gn (if k < 42 then mkB 1 k ac else ac) (if k < 42 then dn else mkB 1 k dn)).2.2, m0', pts0 + dp + F_Long_bitCount rag, rgs0 + 1, rgc0 + F_Long_bitCount rag, f0', m1', pts1, rgs1, rgc1, f1') := by
        unfold F_Game_loseRag F_Tailor_winRag
        rw [bnd_eq, if_pos rfl, bnd_eq, bnd_eq]
        exact bnd_tr eL rfl
      refine ⟨F_Long_bitCount rag, F_Long_bitCount rag + dV (F_Tailor_hasMark (nI k) mks0 fma0) - dU (F_Tailor_hasMark (nI k) mks1 fma1), eW, by rw [if_pos (by rw [eB]; exact nI_ge0 (by omega))], ?_⟩
      rw [fin ha hv (r := (F_Long_bitCount rag, 1 - 0, tn + 1, gn ||| rag, (F_Cloth_tearOff rag gn (if k < 42 then mkB 1 k ac else ac) (if k < 42 then dn else mkB 1 k dn)).2.1, (F_Cloth_tearOff rag gn (if k < 42 then mkB 1 k ac else ac) (if k < 42 then dn else mkB 1 k dn)).2.2, upd fs k 1, upd fm k (-6), m0', pts0 + dp + F_Long_bitCount rag, rgs0 + 1, rgc0 + F_Long_bitCount rag, fnd0 + df, f0', m1', pts1, rgs1, rgc1, fnd1, f1')) ?_]
      · exact Or.inr ⟨by rw [eB]; exact nI_ge0 (by omega), _, _, _, _, _, _, _, _, _, _, _, _, _, _, _, _, _, _, _, _, _, _, _, rfl, fun _ => ⟨by rw [ed, pts_d], rfl⟩, fun z => absurd z (by decide), ⟨EG_1 (by decide) E1, EG_2 (fun _ => rfl) E2, MGq_MG g0, MGq_MG g1, E5, E6, a0 + N, a1, b0 + 1, b1, by rw [ea0, eB, nI_add], ea1, by rw [eb0, nI_1], eb1, by omega, l1, by rw [ec]; omega⟩⟩
      · unfold F_Game_snipJoint F_Game_endTurn
        rw [bnd_eq, creason h.1 h.2.2.1 hk, if_pos hr, hfi, bnd_eq, eR, bnd_eq, make_f hk, bnd_eq, if_neg hlg, el, bnd_eq, bnd_eq, bnd_eq]
  · -- nothing to snip
    refine ⟨-5, 0, (ifS_f h.1 h.2.2.1 hk).trans (if_neg hr), if_neg (by decide), ?_⟩
    by_cases hb : F_Game_isOver tn gn = 0 ∧ F_Cloth_isVoid (nI k) gn = 0
    · rw [fin hb.1 hb.2 (r := (-5, 0, tn, gn, ac, dn, fs, fm, mks0, pts0, rgs0, rgc0, fnd0, fma0, mks1, pts1, rgs1, rgc1, fnd1, fma1)) (by
        unfold F_Game_snipJoint
        rw [bnd_eq, creason h.1 h.2.2.1 hk, if_neg hr])]
      exact TR_no (by decide)
    · rw [ob_B (by decide) hk hb]
      exact TR_no (by decide)
theorem t_chalk1 {tn : Int32} {gn : Int64} {ac : Int64} {dn : Int64} {fs : Nat → Int32} {fm : Nat → Int32} {mks0 : Int32} {pts0 : Int32} {ths0 : Int32} {rgs0 : Int32} {rgc0 : Int32} {fnd0 : Int32} {rdb0 : Int32} {wdb0 : Int32} {fma0 : Nat → Int32} {mks1 : Int32} {pts1 : Int32} {ths1 : Int32} {rgs1 : Int32} {rgc1 : Int32} {fnd1 : Int32} {rdb1 : Int32} {wdb1 : Int32} {fma1 : Nat → Int32} {vs : Nat → Int32} (h : GRk 0 (1 : Int32) tn gn ac dn fs fm mks0 pts0 ths0 rgs0 rgc0 fnd0 rdb0 wdb0 fma0 mks1 pts1 ths1 rgs1 rgc1 fnd1 rdb1 wdb1 fma1 vs) (hE : EG gn fs fm mks0 fma0 ths0 rgs0 rgc0 mks1 fma1 ths1 rgs1 rgc1) {k : Nat} (hk : k < 82) (ha : F_Game_isOver tn gn = 0) (hv : F_Cloth_isVoid (nI k) gn = 0) {v20 : Int32} (hv20 : v20 = 0 ↔ F_Tailor_hasMark (nI k) mks1 fma1 = 0) : ∃ W, (bnd (F_TC_of (nI k) 6 tn gn ac dn fs fm mks0 fma0 mks1 fma1) fun r_23 => if r_23 = 0 then (-5 : Int32) else if v20 = 0 then (bnd (F_TC_player 1 2 mks0 pts0 ths0 rgs0 rgc0 fnd0 rdb0 wdb0 mks1 pts1 ths1 rgs1 rgc1 fnd1 rdb1 wdb1) fun r_26 => if r_26 = 8 then (-4 : Int32) else bnd (F_TC_player 1 2 mks0 pts0 ths0 rgs0 rgc0 fnd0 rdb0 wdb0 mks1 pts1 ths1 rgs1 rgc1 fnd1 rdb1 wdb1) fun r_28 => r_28 + 1) else (-5)) = W ∧ TR W 0 (1 : Int32) tn gn ac dn fs fm mks0 pts0 ths0 rgs0 rgc0 fnd0 rdb0 wdb0 fma0 mks1 pts1 ths1 rgs1 rgc1 fnd1 rdb1 wdb1 fma1 (F_Game_obey 99 (nI k) (1 : Int32) tn gn ac dn fs fm mks0 pts0 ths0 rgs0 rgc0 fnd0 rdb0 wdb0 fma0 mks1 pts1 ths1 rgs1 rgc1 fnd1 rdb1 wdb1 fma1) := by
  obtain ⟨E1, E2, E3, E4, E5⟩ := hE
  obtain ⟨M, eM, hM, hf⟩ := id E4
  have t := j_tab ⟨k, hk⟩
  dsimp only at t
  have fin : ∀ {r : Int32 × Int32 × Int32 × Int32 × (Nat → Int32) × Int32 × (Nat → Int32)}, F_Game_markJoint (nI k) 1 tn ac dn mks0 fma0 mks1 fma1 = r → F_Game_obey 99 (nI k) (1 : Int32) tn gn ac dn fs fm mks0 pts0 ths0 rgs0 rgc0 fnd0 rdb0 wdb0 fma0 mks1 pts1 ths1 rgs1 rgc1 fnd1 rdb1 wdb1 fma1 = (r.1, r.2.1, r.2.2.1, gn, ac, dn, fs, fm, r.2.2.2.1, pts0, ths0, rgs0, rgc0, fnd0, rdb0, wdb0, r.2.2.2.2.1, r.2.2.2.2.2.1, pts1, ths1, rgs1, rgc1, fnd1, rdb1, wdb1, r.2.2.2.2.2.2) := by
    intro r er
    unfold F_Game_obey
    rw [if_neg (by decide), bnd_eq, t.2.2.2.2.2.2.2.1, if_neg d01, bnd_eq, ha, if_pos rfl, bnd_eq, hv, if_pos rfl, if_neg (by decide), if_pos rfl, er, bnd_eq]
  by_cases a6 : hold vs k
  · have hn : ¬ F_Cloth_holds (nI k) ac dn = 0 := by rw [cholds h.1 hk]; exact fun z => (mholds hk).mp z a6
    by_cases b : F_Tailor_hasMark (nI k) mks1 fma1 = 0
    · by_cases c : M = 8
      · refine ⟨-4, bnd_tr (of_6 h.1 hk ..) ?_, ?_⟩
        · rw [if_pos a6, if_neg d01, if_pos (hv20.mpr b)]
          refine bnd_tr (v := mks1) rfl ?_
          rw [if_pos (by rw [eM, c]; decide)]
        · rw [fin (r := (-4, 1, tn, mks0, fma0, mks1, fma1)) (by
            unfold F_Game_markJoint F_Tailor_addMark
            rw [if_neg (show ¬ (1 : Int32) = 0 by decide), bnd_eq, if_neg hn, bnd_eq, if_pos b, if_neg (by rw [eM, c]; decide), bnd_eq, if_pos rfl])]
          exact TR_no (by decide)
      · refine ⟨mks1 + 1, bnd_tr (of_6 h.1 hk ..) ?_, ?_⟩
        · rw [if_pos a6, if_neg d01, if_pos (hv20.mpr b)]
          refine bnd_tr (v := mks1) rfl ?_
          rw [if_neg (by rw [eM]; exact fun z => c ((nI_eq (b := 8) (by omega) (by omega)).mp z))]
          exact bnd_tr (v := mks1) rfl rfl
        · rw [fin (r := (mks1 + 1, 1 - 1, tn + 1, mks0, fma0, mks1 + 1, upd fma1 mks1.toNatClampNeg (nI k))) (by
            unfold F_Game_markJoint F_Tailor_addMark F_Game_endTurn
            rw [if_neg (show ¬ (1 : Int32) = 0 by decide), bnd_eq, if_neg hn, bnd_eq, if_pos b, if_pos (by rw [eM]; exact nI_lt (b := 8) (by omega) (by omega)), bnd_eq, if_neg d01, bnd_eq])]
          have eC : mks1.toNatClampNeg = M := by rw [eM, nI_clamp (by omega)]
          have hG : HG gn fs k := (HG_hold h.1 hk).mp a6
          have E' : MG gn fs (mks1 + 1) (upd fma1 mks1.toNatClampNeg (nI k)) := by
            refine ⟨M + 1, by rw [eM, nI_1], by omega, fun i hi => ?_⟩
            rw [eC]
            by_cases z : i = M
            · rw [z, pk_us]; exact ⟨k, hk, rfl, hG⟩
            · rw [pk_un z]; exact hf i (by omega)
          exact Or.inr ⟨by rw [eM, nI_1]; exact nI_ge0 (by omega), _, _, _, _, _, _, _, _, _, _, _, _, _, _, _, _, _, _, _, _, _, _, _, rfl, fun z => absurd z (by decide), fun _ => ⟨(Int32.add_zero _).symm, rfl⟩, ⟨E1, E2, E3, E', E5⟩⟩
    · refine ⟨-5, bnd_tr (of_6 h.1 hk ..) ?_, ?_⟩
      · rw [if_pos a6, if_neg d01, if_neg (fun z => b (hv20.mp z))]
      · rw [fin (r := (-5, 1, tn, mks0, fma0, mks1, fma1)) (by
          unfold F_Game_markJoint
          rw [if_neg (show ¬ (1 : Int32) = 0 by decide), bnd_eq, if_neg hn, bnd_eq, if_neg b])]
        exact TR_no (by decide)
  · have hz : F_Cloth_holds (nI k) ac dn = 0 := by rw [cholds h.1 hk]; exact (mholds hk).mpr a6
    refine ⟨-5, bnd_tr (of_6 h.1 hk ..) ?_, ?_⟩
    · rw [if_neg a6, if_pos rfl]
    · rw [fin (r := (-5, 1, tn, mks0, fma0, mks1, fma1)) (by
        unfold F_Game_markJoint
        rw [if_neg (show ¬ (1 : Int32) = 0 by decide), bnd_eq, if_pos hz])]
      exact TR_no (by decide)
theorem t_sew1 {tn : Int32} {gn : Int64} {ac : Int64} {dn : Int64} {fs : Nat → Int32} {fm : Nat → Int32} {mks0 : Int32} {pts0 : Int32} {ths0 : Int32} {rgs0 : Int32} {rgc0 : Int32} {fnd0 : Int32} {rdb0 : Int32} {wdb0 : Int32} {fma0 : Nat → Int32} {mks1 : Int32} {pts1 : Int32} {ths1 : Int32} {rgs1 : Int32} {rgc1 : Int32} {fnd1 : Int32} {rdb1 : Int32} {wdb1 : Int32} {fma1 : Nat → Int32} {vs : Nat → Int32} (h : GRk 0 (1 : Int32) tn gn ac dn fs fm mks0 pts0 ths0 rgs0 rgc0 fnd0 rdb0 wdb0 fma0 mks1 pts1 ths1 rgs1 rgc1 fnd1 rdb1 wdb1 fma1 vs) (hE : EG gn fs fm mks0 fma0 ths0 rgs0 rgc0 mks1 fma1 ths1 rgs1 rgc1) {k : Nat} (hk : k < 82) (ha : F_Game_isOver tn gn = 0) (hv : F_Cloth_isVoid (nI k) gn = 0) : ∃ W, (if fs k = 1 then (if ths1 = 0 then (-5 : Int32) else ths1 - 1) else (-5)) = W ∧ TR W 0 (1 : Int32) tn gn ac dn fs fm mks0 pts0 ths0 rgs0 rgc0 fnd0 rdb0 wdb0 fma0 mks1 pts1 ths1 rgs1 rgc1 fnd1 rdb1 wdb1 fma1 (F_Game_obey 119 (nI k) (1 : Int32) tn gn ac dn fs fm mks0 pts0 ths0 rgs0 rgc0 fnd0 rdb0 wdb0 fma0 mks1 pts1 ths1 rgs1 rgc1 fnd1 rdb1 wdb1 fma1) := by
  obtain ⟨E1, E2, E3, E4, E5, E6, E7⟩ := hE
  obtain ⟨N, hN, eN⟩ := id E6
  have t := j_tab ⟨k, hk⟩
  dsimp only at t
  have fin : ∀ {r : Int32 × Int32 × Int32 × Int64 × Int64 × (Nat → Int32) × (Nat → Int32) × Int32 × Int32}, F_Game_sewJoint (nI k) 1 tn ac dn fs fm ths0 ths1 = r → F_Game_obey 119 (nI k) (1 : Int32) tn gn ac dn fs fm mks0 pts0 ths0 rgs0 rgc0 fnd0 rdb0 wdb0 fma0 mks1 pts1 ths1 rgs1 rgc1 fnd1 rdb1 wdb1 fma1 = (r.1, r.2.1, r.2.2.1, gn, r.2.2.2.1, r.2.2.2.2.1, r.2.2.2.2.2.1, r.2.2.2.2.2.2.1, mks0, pts0, r.2.2.2.2.2.2.2.1, rgs0, rgc0, fnd0, rdb0, wdb0, fma0, mks1, pts1, r.2.2.2.2.2.2.2.2, rgs1, rgc1, fnd1, rdb1, wdb1, fma1) := by
    intro r er
    unfold F_Game_obey
    rw [if_neg (by decide), bnd_eq, t.2.2.2.2.2.2.2.1, if_neg d01, bnd_eq, ha, if_pos rfl, bnd_eq, hv, if_pos rfl, if_neg (by decide), if_neg (by decide), if_neg (by decide), if_neg (by decide), if_pos rfl, er, bnd_eq]
  by_cases a : fs k = 1
  · by_cases b : ths1 = 0
    · refine ⟨-5, by rw [if_pos a, if_pos b], ?_⟩
      rw [fin (r := (-5, 1, tn, ac, dn, fs, fm, ths0, ths1)) (by
        unfold F_Game_sewJoint
        rw [if_neg (show ¬ (1 : Int32) = 0 by decide), bnd_eq, st_f hk, if_pos a, if_pos b])]
      exact TR_no (by decide)
    · refine ⟨ths1 - 1, by rw [if_pos a, if_neg b], ?_⟩
      rw [fin (r := (ths1 - 1, 1 - 1, tn + 1, if k < 42 then mkB 2 k ac else ac, if k < 42 then dn else mkB 2 k dn, upd fs k 2, upd fm k 1, ths0, ths1 - 1)) (by
        unfold F_Game_sewJoint F_Game_endTurn
        rw [if_neg (show ¬ (1 : Int32) = 0 by decide), bnd_eq, st_f hk, if_pos a, if_neg b, make_f hk, bnd_eq, bnd_eq])]
      have n0 : 0 < N := Nat.pos_of_ne_zero fun z => b (by rw [eN, z]; rfl)
      have eP : ths1 - 1 = nI (N - 1) := by
        rw [eN, show N = (N - 1) + 1 by omega, nI_pred]
        rfl
      have hn : ¬ (fs k = 0 ∨ fs k = 2) := by rw [a]; decide
      have E' : TH (ths1 - 1) := ⟨N - 1, by omega, eP⟩
      exact Or.inr ⟨by rw [eP]; exact nI_ge0 (by omega), _, _, _, _, _, _, _, _, _, _, _, _, _, _, _, _, _, _, _, _, _, _, _, rfl, fun z => absurd z (by decide), fun _ => ⟨(Int32.add_zero _).symm, rfl⟩, ⟨EG_1 (by decide) E1, EG_2 (by decide) E2, MG_off E3 hn, MG_off E4 hn, E5, E', E7⟩⟩
  · refine ⟨-5, by rw [if_neg a], ?_⟩
    rw [fin (r := (-5, 1, tn, ac, dn, fs, fm, ths0, ths1)) (by
      unfold F_Game_sewJoint
      rw [if_neg (show ¬ (1 : Int32) = 0 by decide), bnd_eq, st_f hk, if_neg a])]
    exact TR_no (by decide)
theorem t_bluff1 {tn : Int32} {gn : Int64} {ac : Int64} {dn : Int64} {fs : Nat → Int32} {fm : Nat → Int32} {mks0 : Int32} {pts0 : Int32} {ths0 : Int32} {rgs0 : Int32} {rgc0 : Int32} {fnd0 : Int32} {rdb0 : Int32} {wdb0 : Int32} {fma0 : Nat → Int32} {mks1 : Int32} {pts1 : Int32} {ths1 : Int32} {rgs1 : Int32} {rgc1 : Int32} {fnd1 : Int32} {rdb1 : Int32} {wdb1 : Int32} {fma1 : Nat → Int32} (hE : EG gn fs fm mks0 fma0 ths0 rgs0 rgc0 mks1 fma1 ths1 rgs1 rgc1) {k : Nat} (hk : k < 82) (ha : F_Game_isOver tn gn = 0) (hv : F_Cloth_isVoid (nI k) gn = 0) : ∃ W, (if fs k = 1 then F_Cloth_jointsThatAre 3 gn fs + 1 else (-5 : Int32)) = W ∧ TR W 0 (1 : Int32) tn gn ac dn fs fm mks0 pts0 ths0 rgs0 rgc0 fnd0 rdb0 wdb0 fma0 mks1 pts1 ths1 rgs1 rgc1 fnd1 rdb1 wdb1 fma1 (F_Game_obey 98 (nI k) (1 : Int32) tn gn ac dn fs fm mks0 pts0 ths0 rgs0 rgc0 fnd0 rdb0 wdb0 fma0 mks1 pts1 ths1 rgs1 rgc1 fnd1 rdb1 wdb1 fma1) := by
  obtain ⟨E1, E2, E3, E4, E7⟩ := hE
  have t := j_tab ⟨k, hk⟩
  dsimp only at t
  have fin : ∀ {r : Int32 × Int32 × Int32 × Int64 × Int64 × (Nat → Int32) × (Nat → Int32)}, F_Game_bluffJoint (nI k) 1 tn gn ac dn fs fm = r → F_Game_obey 98 (nI k) (1 : Int32) tn gn ac dn fs fm mks0 pts0 ths0 rgs0 rgc0 fnd0 rdb0 wdb0 fma0 mks1 pts1 ths1 rgs1 rgc1 fnd1 rdb1 wdb1 fma1 = (r.1, r.2.1, r.2.2.1, gn, r.2.2.2.1, r.2.2.2.2.1, r.2.2.2.2.2.1, r.2.2.2.2.2.2, mks0, pts0, ths0, rgs0, rgc0, fnd0, rdb0, wdb0, fma0, mks1, pts1, ths1, rgs1, rgc1, fnd1, rdb1, wdb1, fma1) := by
    intro r er
    unfold F_Game_obey
    rw [if_neg (by decide), bnd_eq, t.2.2.2.2.2.2.2.1, if_neg d01, bnd_eq, ha, if_pos rfl, bnd_eq, hv, if_pos rfl, if_pos rfl, er, bnd_eq]
  by_cases a : fs k = 1
  · refine ⟨F_Cloth_jointsThatAre 3 gn fs + 1, by rw [if_pos a], ?_⟩
    have nv := (isv hk gn).mp hv
    have ec := cnt_up (f := fun j => decide (fs j = 3 ∧ ¬ (b6 gn (jF j) = true ∨ b6 gn (jS j) = true))) (g := fun j => decide (upd fs k 3 j = 3 ∧ ¬ (b6 gn (jF j) = true ∨ b6 gn (jS j) = true))) (q := k) (n := 82) hk (decide_eq_false (fun z => absurd (a.symm.trans z.1) (by decide))) (decide_eq_true ⟨pk_us, nv⟩) (fun i hi => by
      rw [pk_un hi])
    have eW : F_Cloth_jointsThatAre 3 gn (upd fs k 3) = F_Cloth_jointsThatAre 3 gn fs + 1 := by
      rw [jta_n, jta_n, ec, nI_1]
    rw [fin (r := (F_Cloth_jointsThatAre 3 gn fs + 1, 1 - 1, tn + 1, if k < 42 then mkB 3 k ac else ac, if k < 42 then dn else mkB 3 k dn, upd fs k 3, upd fm k 1)) (by
      unfold F_Game_bluffJoint F_Game_endTurn
      rw [bnd_eq, st_f hk, if_pos a, make_f hk, bnd_eq, bnd_eq, bnd_eq, eW])]
    have hn : ¬ (fs k = 0 ∨ fs k = 2) := by rw [a]; decide
    have hle := cntB_le (fun j => decide (fs j = 3 ∧ ¬ (b6 gn (jF j) = true ∨ b6 gn (jS j) = true))) 82
    exact Or.inr ⟨by rw [jta_n, nI_1]; exact nI_ge0 (by omega), _, _, _, _, _, _, _, _, _, _, _, _, _, _, _, _, _, _, _, _, _, _, _, rfl, fun z => absurd z (by decide), fun _ => ⟨(Int32.add_zero _).symm, rfl⟩, ⟨EG_1 (by decide) E1, EG_2 (by decide) E2, MG_off E3 hn, MG_off E4 hn, E7⟩⟩
  · refine ⟨-5, by rw [if_neg a], ?_⟩
    rw [fin (r := (-5, 1, tn, ac, dn, fs, fm)) (by
      unfold F_Game_bluffJoint
      rw [bnd_eq, st_f hk, if_neg a])]
    exact TR_no (by decide)
theorem t_doubt1 {tn : Int32} {gn : Int64} {ac : Int64} {dn : Int64} {fs : Nat → Int32} {fm : Nat → Int32} {mks0 : Int32} {pts0 : Int32} {ths0 : Int32} {rgs0 : Int32} {rgc0 : Int32} {fnd0 : Int32} {rdb0 : Int32} {wdb0 : Int32} {fma0 : Nat → Int32} {mks1 : Int32} {pts1 : Int32} {ths1 : Int32} {rgs1 : Int32} {rgc1 : Int32} {fnd1 : Int32} {rdb1 : Int32} {wdb1 : Int32} {fma1 : Nat → Int32} (hE : EG gn fs fm mks0 fma0 ths0 rgs0 rgc0 mks1 fma1 ths1 rgs1 rgc1) {k : Nat} (hk : k < 82) (ha : F_Game_isOver tn gn = 0) (hv : F_Cloth_isVoid (nI k) gn = 0) : ∃ W G, (if fm k = (1 : Int32) - 1 then (if fs k = 3 then (1 : Int32) else 0) else (-5)) = W ∧ (if (0 : Int32) ≤ W then (if W = 1 then (2 : Int32) else (-2)) else 0) = G ∧ TR W G (1 : Int32) tn gn ac dn fs fm mks0 pts0 ths0 rgs0 rgc0 fnd0 rdb0 wdb0 fma0 mks1 pts1 ths1 rgs1 rgc1 fnd1 rdb1 wdb1 fma1 (F_Game_obey 100 (nI k) (1 : Int32) tn gn ac dn fs fm mks0 pts0 ths0 rgs0 rgc0 fnd0 rdb0 wdb0 fma0 mks1 pts1 ths1 rgs1 rgc1 fnd1 rdb1 wdb1 fma1) := by
  obtain ⟨E1, E2, E3, E4, E7⟩ := hE
  have t := j_tab ⟨k, hk⟩
  dsimp only at t
  have fin : ∀ {r : Int32 × Int32 × Int32 × Int64 × Int64 × (Nat → Int32) × (Nat → Int32) × Int32 × Int32 × Int32 × Int32 × Int32 × Int32}, F_Game_doubtJoint (nI k) 1 tn ac dn fs fm pts0 rdb0 wdb0 pts1 rdb1 wdb1 = r → F_Game_obey 100 (nI k) (1 : Int32) tn gn ac dn fs fm mks0 pts0 ths0 rgs0 rgc0 fnd0 rdb0 wdb0 fma0 mks1 pts1 ths1 rgs1 rgc1 fnd1 rdb1 wdb1 fma1 = (r.1, r.2.1, r.2.2.1, gn, r.2.2.2.1, r.2.2.2.2.1, r.2.2.2.2.2.1, r.2.2.2.2.2.2.1, mks0, r.2.2.2.2.2.2.2.1, ths0, rgs0, rgc0, fnd0, r.2.2.2.2.2.2.2.2.1, r.2.2.2.2.2.2.2.2.2.1, fma0, mks1, r.2.2.2.2.2.2.2.2.2.2.1, ths1, rgs1, rgc1, fnd1, r.2.2.2.2.2.2.2.2.2.2.2.1, r.2.2.2.2.2.2.2.2.2.2.2.2, fma1) := by
    intro r er
    unfold F_Game_obey
    rw [if_neg (by decide), bnd_eq, t.2.2.2.2.2.2.2.1, if_neg d01, bnd_eq, ha, if_pos rfl, bnd_eq, hv, if_pos rfl, if_neg (by decide), if_neg (by decide), if_pos rfl, er, bnd_eq]
  by_cases a : fm k = (1 : Int32) - 1
  · have n6 : ¬ fm k = -6 := by rw [a]; decide
    by_cases b : fs k = 3
    · refine ⟨1, 2, by rw [if_pos a, if_pos b], by decide, ?_⟩
      rw [fin (r := (1, 1 - 1, tn + 1, if k < 42 then mkB 1 k ac else ac, if k < 42 then dn else mkB 1 k dn, upd fs k 1, upd fm k (-6), pts0, rdb0, wdb0, pts1 + 2, rdb1 + 1, wdb1)) (by
        unfold F_Game_doubtJoint F_Game_endTurn
        rw [bnd_eq, mk_f hk, if_pos a, bnd_eq, st_f hk, if_pos b, if_neg (show ¬ (1 : Int32) = 0 by decide), make_f hk, bnd_eq, bnd_eq])]
      have hn : ¬ (fs k = 0 ∨ fs k = 2) := by rw [b]; decide
      exact Or.inr ⟨by decide, _, _, _, _, _, _, _, _, _, _, _, _, _, _, _, _, _, _, _, _, _, _, _, rfl, fun z => absurd z (by decide), fun _ => ⟨rfl, rfl⟩, ⟨EG_1 (by decide) E1, EG_2 (fun _ => rfl) E2, MG_off E3 hn, MG_off E4 hn, E7⟩⟩
    · refine ⟨0, -2, by rw [if_pos a, if_neg b], by decide, ?_⟩
      rw [fin (r := (0, 1 - 1, tn + 1, if k < 42 then mkB 2 k ac else ac, if k < 42 then dn else mkB 2 k dn, upd fs k 2, upd fm k (-6), pts0, rdb0, wdb0, pts1 - 2, rdb1, wdb1 + 1)) (by
        unfold F_Game_doubtJoint F_Game_endTurn
        rw [bnd_eq, mk_f hk, if_pos a, bnd_eq, st_f hk, if_neg b, if_neg (show ¬ (1 : Int32) = 0 by decide), make_f hk, bnd_eq, bnd_eq])]
      have s2 : fs k = 2 := by
        rcases E1 k hk with e | e | e | e
        · exact absurd (E2 k hk (Or.inl e)) n6
        · exact absurd (E2 k hk (Or.inr e)) n6
        · exact e
        · exact absurd e b
      have same : ∀ j, j < 82 → HG gn fs j → HG gn (upd fs k 2) j := fun j _ g => by
        by_cases e : j = k
        · exact ⟨g.1, by rw [e, pk_us]; exact Or.inr rfl⟩
        · exact HG_off 2 e g
      exact Or.inr ⟨by decide, _, _, _, _, _, _, _, _, _, _, _, _, _, _, _, _, _, _, _, _, _, _, _, rfl, fun z => absurd z (by decide), fun _ => ⟨Int32.sub_eq_add_neg _ _, rfl⟩, ⟨EG_1 (by decide) E1, EG_2 (fun _ => rfl) E2, MG_im E3 same, MG_im E4 same, E7⟩⟩
  · refine ⟨-5, 0, by rw [if_neg a], by decide, ?_⟩
    rw [fin (r := (-5, 1, tn, ac, dn, fs, fm, pts0, rdb0, wdb0, pts1, rdb1, wdb1)) (by
      unfold F_Game_doubtJoint
      rw [bnd_eq, mk_f hk, if_neg a])]
    exact TR_no (by decide)
theorem t_pass1 {tn : Int32} {gn : Int64} {ac : Int64} {dn : Int64} {fs : Nat → Int32} {fm : Nat → Int32} {mks0 : Int32} {pts0 : Int32} {ths0 : Int32} {rgs0 : Int32} {rgc0 : Int32} {fnd0 : Int32} {rdb0 : Int32} {wdb0 : Int32} {fma0 : Nat → Int32} {mks1 : Int32} {pts1 : Int32} {ths1 : Int32} {rgs1 : Int32} {rgc1 : Int32} {fnd1 : Int32} {rdb1 : Int32} {wdb1 : Int32} {fma1 : Nat → Int32} (hE : EG gn fs fm mks0 fma0 ths0 rgs0 rgc0 mks1 fma1 ths1 rgs1 rgc1) (j : Int32) : ∃ W, (if F_Game_isOver tn gn = 0 then (1 : Int32) - 1 else (-5)) = W ∧ TR W 0 (1 : Int32) tn gn ac dn fs fm mks0 pts0 ths0 rgs0 rgc0 fnd0 rdb0 wdb0 fma0 mks1 pts1 ths1 rgs1 rgc1 fnd1 rdb1 wdb1 fma1 (F_Game_obey 112 j (1 : Int32) tn gn ac dn fs fm mks0 pts0 ths0 rgs0 rgc0 fnd0 rdb0 wdb0 fma0 mks1 pts1 ths1 rgs1 rgc1 fnd1 rdb1 wdb1 fma1) := by
  have fin : ∀ {r : Int32 × Int32 × Int32}, F_Game_passOn 1 tn gn = r → F_Game_obey 112 j (1 : Int32) tn gn ac dn fs fm mks0 pts0 ths0 rgs0 rgc0 fnd0 rdb0 wdb0 fma0 mks1 pts1 ths1 rgs1 rgc1 fnd1 rdb1 wdb1 fma1 = (r.1, r.2.1, r.2.2, gn, ac, dn, fs, fm, mks0, pts0, ths0, rgs0, rgc0, fnd0, rdb0, wdb0, fma0, mks1, pts1, ths1, rgs1, rgc1, fnd1, rdb1, wdb1, fma1) := by
    intro r er
    unfold F_Game_obey
    rw [if_pos rfl, er, bnd_eq]
  by_cases a : F_Game_isOver tn gn = 0
  · refine ⟨1 - 1, by rw [if_pos a], ?_⟩
    rw [fin (r := (1 - 1, 1 - 1, tn + 1)) (by
      unfold F_Game_passOn F_Game_endTurn
      rw [bnd_eq, if_pos a, bnd_eq])]
    exact Or.inr ⟨by decide, _, _, _, _, _, _, _, _, _, _, _, _, _, _, _, _, _, _, _, _, _, _, _, rfl, fun z => absurd z (by decide), fun _ => ⟨(Int32.add_zero _).symm, rfl⟩, hE⟩
  · refine ⟨-5, by rw [if_neg a], ?_⟩
    rw [fin (r := (-5, 1, tn)) (by
      unfold F_Game_passOn
      rw [bnd_eq, if_neg a])]
    exact TR_no (by decide)
theorem t_snip1 {tn : Int32} {gn : Int64} {ac : Int64} {dn : Int64} {fs : Nat → Int32} {fm : Nat → Int32} {mks0 : Int32} {pts0 : Int32} {ths0 : Int32} {rgs0 : Int32} {rgc0 : Int32} {fnd0 : Int32} {rdb0 : Int32} {wdb0 : Int32} {fma0 : Nat → Int32} {mks1 : Int32} {pts1 : Int32} {ths1 : Int32} {rgs1 : Int32} {rgc1 : Int32} {fnd1 : Int32} {rdb1 : Int32} {wdb1 : Int32} {fma1 : Nat → Int32} {vs : Nat → Int32} (h : GRk 0 (1 : Int32) tn gn ac dn fs fm mks0 pts0 ths0 rgs0 rgc0 fnd0 rdb0 wdb0 fma0 mks1 pts1 ths1 rgs1 rgc1 fnd1 rdb1 wdb1 fma1 vs) (hE : EG gn fs fm mks0 fma0 ths0 rgs0 rgc0 mks1 fma1 ths1 rgs1 rgc1) {k : Nat} (hk : k < 82) : ∃ W G, F_TC_ifSnipped (nI k) tn gn ac dn fs = W ∧ (if (0 : Int32) ≤ W then W + dV (F_Tailor_hasMark (nI k) mks1 fma1) - dU (F_Tailor_hasMark (nI k) mks0 fma0) else 0) = G ∧ TR W G (1 : Int32) tn gn ac dn fs fm mks0 pts0 ths0 rgs0 rgc0 fnd0 rdb0 wdb0 fma0 mks1 pts1 ths1 rgs1 rgc1 fnd1 rdb1 wdb1 fma1 (F_Game_obey 115 (nI k) (1 : Int32) tn gn ac dn fs fm mks0 pts0 ths0 rgs0 rgc0 fnd0 rdb0 wdb0 fma0 mks1 pts1 ths1 rgs1 rgc1 fnd1 rdb1 wdb1 fma1) := by
  obtain ⟨E1, E2, E3, E4, E5, E6, a0, a1, b0, b1, ea0, ea1, eb0, eb1, l0, l1, hsum⟩ := hE
  have t := j_tab ⟨k, hk⟩
  dsimp only at t
  have ov := cover h.1 h.2.2.1
  have cv := cvoid h.1 hk
  have fin : ∀ {r : Int32 × Int32 × Int32 × Int64 × Int64 × Int64 × (Nat → Int32) × (Nat → Int32) × Int32 × Int32 × Int32 × Int32 × Int32 × (Nat → Int32) × Int32 × Int32 × Int32 × Int32 × Int32 × (Nat → Int32)}, F_Game_isOver tn gn = 0 → F_Cloth_isVoid (nI k) gn = 0 → F_Game_snipJoint (nI k) 1 tn gn ac dn fs fm mks0 pts0 rgs0 rgc0 fnd0 fma0 mks1 pts1 rgs1 rgc1 fnd1 fma1 = r → F_Game_obey 115 (nI k) (1 : Int32) tn gn ac dn fs fm mks0 pts0 ths0 rgs0 rgc0 fnd0 rdb0 wdb0 fma0 mks1 pts1 ths1 rgs1 rgc1 fnd1 rdb1 wdb1 fma1 = (r.1, r.2.1, r.2.2.1, r.2.2.2.1, r.2.2.2.2.1, r.2.2.2.2.2.1, r.2.2.2.2.2.2.1, r.2.2.2.2.2.2.2.1, r.2.2.2.2.2.2.2.2.1, r.2.2.2.2.2.2.2.2.2.1, ths0, r.2.2.2.2.2.2.2.2.2.2.1, r.2.2.2.2.2.2.2.2.2.2.2.1, r.2.2.2.2.2.2.2.2.2.2.2.2.1, rdb0, wdb0, r.2.2.2.2.2.2.2.2.2.2.2.2.2.1, r.2.2.2.2.2.2.2.2.2.2.2.2.2.2.1, r.2.2.2.2.2.2.2.2.2.2.2.2.2.2.2.1, ths1, r.2.2.2.2.2.2.2.2.2.2.2.2.2.2.2.2.1, r.2.2.2.2.2.2.2.2.2.2.2.2.2.2.2.2.2.1, r.2.2.2.2.2.2.2.2.2.2.2.2.2.2.2.2.2.2.1, rdb1, wdb1, r.2.2.2.2.2.2.2.2.2.2.2.2.2.2.2.2.2.2.2) := by
    intro r ha hv er
    unfold F_Game_obey
    rw [if_neg (by decide), bnd_eq, t.2.2.2.2.2.2.2.1, if_neg d01, bnd_eq, ha, if_pos rfl, bnd_eq, hv, if_pos rfl, if_neg (by decide), if_neg (by decide), if_neg (by decide), if_pos rfl, er, bnd_eq]
  by_cases hr : F_Model_reason (nI k) vs = 0
  · have hr2 := hr
    rw [reason_f hk] at hr2
    have c1 : F_Model_isOver vs = 0 := Classical.byContradiction fun z => by rw [if_neg z] at hr2; exact absurd hr2 d01
    rw [if_pos c1] at hr2
    have hd : ¬ vd vs k := fun z => by rw [if_pos z] at hr2; exact absurd hr2 (by decide)
    have ha : F_Game_isOver tn gn = 0 := ov.trans c1
    have hv : F_Cloth_isVoid (nI k) gn = 0 := cv.trans ((mvoid hk).mpr hd)
    obtain ⟨dp, df, hc, -, -⟩ := HC_ex (F_Tailor_hasMark (nI k) mks0 fma0) (F_Tailor_hasMark (nI k) mks1 fma1)
    have hfi := find_1 (pts0 := pts0) (fnd0 := fnd0) (pts1 := pts1) (fnd1 := fnd1) k (mks0 := mks0) (mks1 := mks1) (fma0 := fma0) (fma1 := fma1) rfl rfl hc
    have ed := HC_d hc
    have m0 : MG gn (upd fs k 1) (F_Tailor_dropMark (nI k) mks0 fma0).1 (F_Tailor_dropMark (nI k) mks0 fma0).2 := MG_dm hk E3 (fun j _ ne g => HG_off 1 ne g)
    have m1 : MG gn (upd fs k 1) (F_Tailor_dropMark (nI k) mks1 fma1).1 (F_Tailor_dropMark (nI k) mks1 fma1).2 := MG_dm hk E4 (fun j _ ne g => HG_off 1 ne g)
    generalize F_Tailor_dropMark (nI k) mks0 fma0 = D0 at hfi m0
    generalize F_Tailor_dropMark (nI k) mks1 fma1 = D1 at hfi m1
    have eW := (ifS_f h.1 h.2.2.1 hk).trans (if_pos hr)
    obtain ⟨q1, q2⟩ := rag_s (fun _ => 0) h.1 hk hd
    rcases q2 with ⟨-, f2⟩ | ⟨m, i0, hm48, hi48, -, f2, dD, n⟩
    · -- no rag
      refine ⟨0, dV (F_Tailor_hasMark (nI k) mks1 fma1) - dU (F_Tailor_hasMark (nI k) mks0 fma0), by rw [eW, f2, bc_0], by rw [if_pos (by decide), Int32.zero_add], ?_⟩
      rw [fin ha hv (r := (0, 1 - 1, tn + 1, gn, if k < 42 then mkB 1 k ac else ac, if k < 42 then dn else mkB 1 k dn, upd fs k 1, upd fm k (-6), D0.1, pts0, rgs0, rgc0, fnd0, D0.2, D1.1, pts1 + dp, rgs1, rgc1, fnd1 + df, D1.2)) (by
        unfold F_Game_snipJoint F_Game_endTurn
        rw [bnd_eq, creason h.1 h.2.2.1 hk, if_pos hr, hfi, bnd_eq, f2, bnd_eq, make_f hk, bnd_eq, if_pos (by decide +kernel), bnd_eq, bnd_eq, bc_0])]
      exact Or.inr ⟨by decide, _, _, _, _, _, _, _, _, _, _, _, _, _, _, _, _, _, _, _, _, _, _, _, rfl, fun z => absurd z (by decide), fun _ => ⟨by rw [ed], rfl⟩, ⟨EG_1 (by decide) E1, EG_2 (fun _ => rfl) E2, m0, m1, E5, E6, a0, a1, b0, b1, ea0, ea1, eb0, eb1, l0, l1, hsum⟩⟩
    · -- a rag falls
      have L2 := (lay_lab (nI k) 0 vs (fun _ => 0)).2
      have hlg : ¬ lg_cmp (F_Cloth_ragOf (nI k) ac dn) 0 = 0 := fun z => by
        have y := lgz.mp z
        have bi := (n i0 hi48).mpr f2
        rw [y, b6_zero] at bi
        exact Bool.false_ne_true bi
      have eB := bitCount_48 dD
      have hp : 1 ≤ cntB (b6 (F_Cloth_ragOf (nI k) ac dn)) 48 := cntB_pos hi48 ((n i0 hi48).mpr f2)
      have hle := cntB_le (b6 (F_Cloth_ragOf (nI k) ac dn)) 48
      have ec : cntB (b6 (gn ||| F_Cloth_ragOf (nI k) ac dn)) 48 = cntB (b6 gn) 48 + cntB (b6 (F_Cloth_ragOf (nI k) ac dn)) 48 := by
        rw [← cnt_or (f := b6 gn) (g := b6 (F_Cloth_ragOf (nI k) ac dn)) (fun i hi y => ?_)]
        · exact cntB_eq (fun i _ => b6_or _ _ i)
        · refine not_true_false.mpr (fun z => ?_)
          have w := (n i hi).mp z
          rw [(L2 i hi).1 ((h.1.1 i hi).mp y)] at w
          exact nI_n6 (by omega) w.symm
      generalize eR : F_Cloth_ragOf (nI k) ac dn = rag at eW hlg eB hp hle ec
      generalize cntB (b6 rag) 48 = N at eB hp hle ec
      obtain ⟨X, m0', f0', m1', f1', eL, g0, g1⟩ := l25_go rag 1 gn (if k < 42 then mkB 1 k ac else ac) (if k < 42 then dn else mkB 1 k dn) D0.1 pts0 rgs0 rgc0 D0.2 D1.1 (pts1 + dp) rgs1 rgc1 D1.2 (gn ||| rag) (F_Cloth_tearOff rag gn (if k < 42 then mkB 1 k ac else ac) (if k < 42 then dn else mkB 1 k dn)).2.1 (F_Cloth_tearOff rag gn (if k < 42 then mkB 1 k ac else ac) (if k < 42 then dn else mkB 1 k dn)).2.2 (upd fs k 1) pts0 rgs0 rgc0 (pts1 + dp + F_Long_bitCount rag) (rgs1 + 1) (rgc1 + F_Long_bitCount rag) 83 0 D0.1 D0.2 D1.1 D1.2 (by omega) (by omega) (MG_MGq m0) (MG_MGq m1)
      rw [nI_0] at eL
      have el : F_Game_loseRag rag 1 gn (if k < 42 then mkB 1 k ac else ac) (if k < 42 then dn else mkB 1 k dn) D0.1 pts0 rgs0 rgc0 D0.2 D1.1 (pts1 + dp) rgs1 rgc1 D1.2 = (gn ||| rag, (F_Cloth_tearOff rag gn (if k < 42 then mkB 1 k ac else ac) (if k < 42 then dn else mkB 1 k dn)).2.1, (F_Cloth_tearOff rag gn (if k < 42 then mkB 1 k ac else ac) (if k < 42 then dn else mkB 1 k dn)).2.2, m0', pts0, rgs0, rgc0, f0', m1', pts1 + dp + F_Long_bitCount rag, rgs1 + 1, rgc1 + F_Long_bitCount rag, f1') := by
        unfold F_Game_loseRag F_Tailor_winRag
        rw [bnd_eq, if_neg (show ¬ (1 : Int32) = 0 by decide), bnd_eq, bnd_eq]
        exact bnd_tr eL rfl
      refine ⟨F_Long_bitCount rag, F_Long_bitCount rag + dV (F_Tailor_hasMark (nI k) mks1 fma1) - dU (F_Tailor_hasMark (nI k) mks0 fma0), eW, by rw [if_pos (by rw [eB]; exact nI_ge0 (by omega))], ?_⟩
      rw [fin ha hv (r := (F_Long_bitCount rag, 1 - 1, tn + 1, gn ||| rag, (F_Cloth_tearOff rag gn (if k < 42 then mkB 1 k ac else ac) (if k < 42 then dn else mkB 1 k dn)).2.1, (F_Cloth_tearOff rag gn (if k < 42 then mkB 1 k ac else ac) (if k < 42 then dn else mkB 1 k dn)).2.2, upd fs k 1, upd fm k (-6), m0', pts0, rgs0, rgc0, fnd0, f0', m1', pts1 + dp + F_Long_bitCount rag, rgs1 + 1, rgc1 + F_Long_bitCount rag, fnd1 + df, f1')) ?_]
      · exact Or.inr ⟨by rw [eB]; exact nI_ge0 (by omega), _, _, _, _, _, _, _, _, _, _, _, _, _, _, _, _, _, _, _, _, _, _, _, rfl, fun z => absurd z (by decide), fun _ => ⟨by rw [ed, pts_d], rfl⟩, ⟨EG_1 (by decide) E1, EG_2 (fun _ => rfl) E2, MGq_MG g0, MGq_MG g1, E5, E6, a0, a1 + N, b0, b1 + 1, ea0, by rw [ea1, eB, nI_add], eb0, by rw [eb1, nI_1], l0, by omega, by rw [ec]; omega⟩⟩
      · unfold F_Game_snipJoint F_Game_endTurn
        rw [bnd_eq, creason h.1 h.2.2.1 hk, if_pos hr, hfi, bnd_eq, eR, bnd_eq, make_f hk, bnd_eq, if_neg hlg, el, bnd_eq, bnd_eq, bnd_eq]
  · -- nothing to snip
    refine ⟨-5, 0, (ifS_f h.1 h.2.2.1 hk).trans (if_neg hr), if_neg (by decide), ?_⟩
    by_cases hb : F_Game_isOver tn gn = 0 ∧ F_Cloth_isVoid (nI k) gn = 0
    · rw [fin hb.1 hb.2 (r := (-5, 1, tn, gn, ac, dn, fs, fm, mks0, pts0, rgs0, rgc0, fnd0, fma0, mks1, pts1, rgs1, rgc1, fnd1, fma1)) (by
        unfold F_Game_snipJoint
        rw [bnd_eq, creason h.1 h.2.2.1 hk, if_neg hr])]
      exact TR_no (by decide)
    · rw [ob_B (by decide) hk hb]
      exact TR_no (by decide)
