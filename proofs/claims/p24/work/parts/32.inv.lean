-- what stays so of an object, and of the reference, behind every call
def gok (S : GS) : Prop := tm_ok 8 (S.1 2) ∧ tm_ok 8 (S.1 10)
def IX (x : XS) : Prop := gok x.1 ∧ x.2.1 ≤ 6 ∧ (∀ i, gok (x.2.2.1 i)) ∧ (∀ i, gok (x.2.2.2.2.1 i)) ∧ tm_ok 80 x.2.2.2.2.2.1 ∧ ∀ j, ch16 (x.2.2.2.2.2.2 j)
theorem v7_all {P : GS → Prop} {a b c d e f g : GS} (ha : P a) (hb : P b) (hc : P c) (hd : P d) (he : P e) (hf : P f) (hg : P g) : ∀ i, P (v7 a b c d e f g i)
  | 0 => ha
  | 1 => hb
  | 2 => hc
  | 3 => hd
  | 4 => he
  | 5 => hf
  | _ + 6 => hg
theorem g2_all {P : GS → Prop} {a b : GS} (ha : P a) (hb : P b) : ∀ i, P (g2 a b i)
  | 0 => ha
  | _ + 1 => hb
theorem oby_ok {o j : Int32} {S : GS} (h : gok S) : gok (oby o j S).2 := by
  have := obey_M (order := o) (joint := j) (nx := S.1 0) (tn := S.1 1) (gn := S.2.1 0) (ac := S.2.1 1) (dn := S.2.1 2) (fs := S.2.2 0) (fm := S.2.2 1) (pts0 := S.1 3) (ths0 := S.1 4) (rgs0 := S.1 5) (rgc0 := S.1 6) (fnd0 := S.1 7) (rdb0 := S.1 8) (wdb0 := S.1 9) (fma0 := S.2.2 2) (pts1 := S.1 11) (ths1 := S.1 12) (rgs1 := S.1 13) (rgc1 := S.1 14) (fnd1 := S.1 15) (rdb1 := S.1 16) (wdb1 := S.1 17) (fma1 := S.2.2 3) h.1 h.2
  exact this
theorem IX_note {x : XS} (h : IX x) : IX (X_note x) := ⟨h.1, h.2.1, v7_all (h.2.2.1 0) (h.2.2.1 1) (h.2.2.1 2) (h.2.2.1 3) (h.2.2.1 4) (h.2.2.1 5) h.1, h.2.2.2⟩
theorem keepX_le : ∀ (k : Nat) (V : Nat → GS), (keepX k V).1 ≤ 6
  | 0, _ => (by decide : 1 ≤ 6)
  | 1, _ => (by decide : 2 ≤ 6)
  | 2, _ => (by decide : 3 ≤ 6)
  | 3, _ => (by decide : 4 ≤ 6)
  | 4, _ => (by decide : 5 ≤ 6)
  | 5, _ => (by decide : 6 ≤ 6)
  | _ + 6, _ => Nat.le_refl _
theorem keepX_all {P : GS → Prop} : ∀ (k : Nat) (V : Nat → GS), (∀ i, P (V i)) → ∀ i, P ((keepX k V).2 i)
  | 0, _, h => v7_all (h _) (h _) (h _) (h _) (h _) (h _) (h _)
  | 1, _, h => v7_all (h _) (h _) (h _) (h _) (h _) (h _) (h _)
  | 2, _, h => v7_all (h _) (h _) (h _) (h _) (h _) (h _) (h _)
  | 3, _, h => v7_all (h _) (h _) (h _) (h _) (h _) (h _) (h _)
  | 4, _, h => v7_all (h _) (h _) (h _) (h _) (h _) (h _) (h _)
  | 5, _, h => v7_all (h _) (h _) (h _) (h _) (h _) (h _) (h _)
  | _ + 6, _, h => v7_all (h _) (h _) (h _) (h _) (h _) (h _) (h _)
theorem IX_keep {x : XS} (h : IX x) : IX (X_keep x) := ⟨h.1, keepX_le _ _, keepX_all _ _ h.2.2.1, h.2.2.2⟩
theorem IX_obey {o j : Int32} {x : XS} (h : IX x) : IX (X_obey o j x).2 := ⟨oby_ok h.1, h.2⟩
theorem IX_turn {o j : Int32} {x : XS} (h : IX x) : IX (X_takeTurn o j x).2 := by
  unfold X_takeTurn
  split
  · exact IX_obey (IX_note h)
  · exact IX_keep (IX_obey (IX_note h))
theorem turn_pad (o j : Int32) (x : XS) : (X_takeTurn o j x).2.2.2.2 = x.2.2.2 := by
  unfold X_takeTurn
  split <;> rfl
theorem IX_undo {x : XS} (h : IX x) : IX (X_undo x).2 := by
  obtain ⟨S, k, V, r⟩ := x
  cases k with
  | zero => exact h
  | succ k => exact ⟨h.2.2.1 k, Nat.le_of_succ_le h.2.1, h.2.2.1, h.2.2.2⟩
theorem undo_pad (x : XS) : (X_undo x).2.2.2.2 = x.2.2.2 := by
  obtain ⟨S, k, V, r⟩ := x
  cases k <;> rfl
theorem IX_fill0 {x : XS} (h : IX x) : IX (X_fill0 x) := ⟨h.1, h.2.1, h.2.2.1, g2_all h.1 (h.2.2.2.1 1), h.2.2.2.2⟩
theorem IX_fill1 {x : XS} (h : IX x) : IX (X_fill1 x) := ⟨h.1, h.2.1, h.2.2.1, g2_all (h.2.2.2.1 0) h.1, h.2.2.2.2⟩
theorem IX_save {s : Int32} {x : XS} (h : IX x) : IX (X_save s x).2 := by
  unfold X_save
  split
  · exact h
  · split
    · exact IX_fill0 h
    · exact IX_fill1 h
theorem IX_become0 {x : XS} (h : IX x) : IX (X_become0 x) := ⟨h.2.2.2.1 0, h.2⟩
theorem IX_become1 {x : XS} (h : IX x) : IX (X_become1 x) := ⟨h.2.2.2.1 1, h.2⟩
theorem IX_restore {s : Int32} {x : XS} (h : IX x) : IX (X_restore s x).2 := by
  unfold X_restore
  split
  · exact h
  · split
    · split
      · exact h
      · exact IX_become0 (IX_keep (IX_note h))
    · split
      · exact h
      · exact IX_become1 (IX_keep (IX_note h))
theorem save_pad (s : Int32) (x : XS) : (X_save s x).2.2.2.2.2.2 = x.2.2.2.2.2 := by
  unfold X_save
  split
  · rfl
  · split <;> rfl
theorem restore_pad (s : Int32) (x : XS) : (X_restore s x).2.2.2.2.2.2 = x.2.2.2.2.2 := by
  unfold X_restore
  split
  · rfl
  · split
    · split <;> rfl
    · split <;> rfl
-- the pad's orders, on a game in one value
def pk26 (z : Int32 × Int32 × Int32 × Int64 × Int64 × Int64 × (Nat → Int32) × (Nat → Int32) × Int32 × Int32 × Int32 × Int32 × Int32 × Int32 × Int32 × Int32 × (Nat → Int32) × Int32 × Int32 × Int32 × Int32 × Int32 × Int32 × Int32 × Int32 × (Nat → Int32)) : Int32 × GS := (z.1, mkGS (z.2.1) (z.2.2.1) (z.2.2.2.1) (z.2.2.2.2.1) (z.2.2.2.2.2.1) (z.2.2.2.2.2.2.1) (z.2.2.2.2.2.2.2.1) (z.2.2.2.2.2.2.2.2.1) (z.2.2.2.2.2.2.2.2.2.1) (z.2.2.2.2.2.2.2.2.2.2.1) (z.2.2.2.2.2.2.2.2.2.2.2.1) (z.2.2.2.2.2.2.2.2.2.2.2.2.1) (z.2.2.2.2.2.2.2.2.2.2.2.2.2.1) (z.2.2.2.2.2.2.2.2.2.2.2.2.2.2.1) (z.2.2.2.2.2.2.2.2.2.2.2.2.2.2.2.1) (z.2.2.2.2.2.2.2.2.2.2.2.2.2.2.2.2.1) (z.2.2.2.2.2.2.2.2.2.2.2.2.2.2.2.2.2.1) (z.2.2.2.2.2.2.2.2.2.2.2.2.2.2.2.2.2.2.1) (z.2.2.2.2.2.2.2.2.2.2.2.2.2.2.2.2.2.2.2.1) (z.2.2.2.2.2.2.2.2.2.2.2.2.2.2.2.2.2.2.2.2.1) (z.2.2.2.2.2.2.2.2.2.2.2.2.2.2.2.2.2.2.2.2.2.1) (z.2.2.2.2.2.2.2.2.2.2.2.2.2.2.2.2.2.2.2.2.2.2.1) (z.2.2.2.2.2.2.2.2.2.2.2.2.2.2.2.2.2.2.2.2.2.2.2.1) (z.2.2.2.2.2.2.2.2.2.2.2.2.2.2.2.2.2.2.2.2.2.2.2.2.1) (z.2.2.2.2.2.2.2.2.2.2.2.2.2.2.2.2.2.2.2.2.2.2.2.2.2))
/-- a game told anew by what can be seen of it -/
def nrm (S : GS) : GS := mkGS (S.1 0) (S.1 1) (S.2.1 0) (S.2.1 1) (S.2.1 2) (S.2.2 0) (S.2.2 1) (S.1 2) (S.1 3) (S.1 4) (S.1 5) (S.1 6) (S.1 7) (S.1 8) (S.1 9) (S.2.2 2) (S.1 10) (S.1 11) (S.1 12) (S.1 13) (S.1 14) (S.1 15) (S.1 16) (S.1 17) (S.2.2 3)
def obL (ln : Int32) (fsg : Nat → Int32) : Nat → Int32 → Int32 → Int32 → Int32 → GS → Int32 × GS
  | 0, _, _, _, _, S => (0, S)
  | n + 1, i, num, ord, done, S => if ln < i then (done, S) else if F_Pad_signAt i ln fsg = 59 then (if (0 : Int32) ≤ (oby ord num S).1 then obL ln fsg n (i + 1) 0 ord (done + 1) (oby ord num S).2 else (done, (oby ord num S).2)) else if F_Pad_isDigit (F_Pad_signAt i ln fsg) = 0 then obL ln fsg n (i + 1) num (F_Pad_signAt i ln fsg) done S else obL ln fsg n (i + 1) (((10 : Int32) * num) + (F_Pad_signAt i ln fsg - 48)) ord done S
set_option maxHeartbeats 4000000 in
theorem obL_eq (nx : Int32) (tn : Int32) (gn : Int64) (ac : Int64) (dn : Int64) (fs : Nat → Int32) (fm : Nat → Int32) (mks0 : Int32) (pts0 : Int32) (ths0 : Int32) (rgs0 : Int32) (rgc0 : Int32) (fnd0 : Int32) (rdb0 : Int32) (wdb0 : Int32) (fma0 : Nat → Int32) (mks1 : Int32) (pts1 : Int32) (ths1 : Int32) (rgs1 : Int32) (rgc1 : Int32) (fnd1 : Int32) (rdb1 : Int32) (wdb1 : Int32) (fma1 : Nat → Int32) (ln : Int32) (fsg : Nat → Int32) : ∀ (n : Nat) (x4 x3 x2 x1 : Int32) (w13 : Int32) (w14 : Int32) (w22 : Int64) (w23 : Int64) (w24 : Int64) (w3f : Nat → Int32) (w4f : Nat → Int32) (w51 : Int32) (w52 : Int32) (w53 : Int32) (w54 : Int32) (w55 : Int32) (w56 : Int32) (w57 : Int32) (w58 : Int32) (w6f : Nat → Int32) (w71 : Int32) (w72 : Int32) (w73 : Int32) (w74 : Int32) (w75 : Int32) (w76 : Int32) (w77 : Int32) (w78 : Int32) (w8f : Nat → Int32), pk26 (F_TC_obeyPad_L10 nx tn gn ac dn fs fm mks0 pts0 ths0 rgs0 rgc0 fnd0 rdb0 wdb0 fma0 mks1 pts1 ths1 rgs1 rgc1 fnd1 rdb1 wdb1 fma1 ln fsg n x4 x3 x2 x1 w13 w14 w22 w23 w24 w3f w4f w51 w52 w53 w54 w55 w56 w57 w58 w6f w71 w72 w73 w74 w75 w76 w77 w78 w8f) = obL ln fsg n x4 x3 x2 x1 (mkGS w13 w14 w22 w23 w24 w3f w4f w51 w52 w53 w54 w55 w56 w57 w58 w6f w71 w72 w73 w74 w75 w76 w77 w78 w8f) := by
  intro n
  induction n with
  | zero => intros; rfl
  | succ n ih =>
    intro x4 x3 x2 x1 w13 w14 w22 w23 w24 w3f w4f w51 w52 w53 w54 w55 w56 w57 w58 w6f w71 w72 w73 w74 w75 w76 w77 w78 w8f
    rw [F_TC_obeyPad_L10, obL]
    dsimp only [bnd]
    by_cases c : ln < x4
    · rw [if_pos c, if_pos c]; rfl
    · rw [if_neg c, if_neg c]
      by_cases d : F_Pad_signAt x4 ln fsg = 59
      · rw [if_pos d, if_pos d]
        have ho : oby x2 x3 (mkGS w13 w14 w22 w23 w24 w3f w4f w51 w52 w53 w54 w55 w56 w57 w58 w6f w71 w72 w73 w74 w75 w76 w77 w78 w8f) = pk26 (F_Game_obey x2 x3 w13 w14 w22 w23 w24 w3f w4f w51 w52 w53 w54 w55 w56 w57 w58 w6f w71 w72 w73 w74 w75 w76 w77 w78 w8f) := rfl
        rw [ho]
        generalize F_Game_obey x2 x3 w13 w14 w22 w23 w24 w3f w4f w51 w52 w53 w54 w55 w56 w57 w58 w6f w71 w72 w73 w74 w75 w76 w77 w78 w8f = r
        by_cases e : (0 : Int32) ≤ r.1
        · rw [if_pos e, if_pos (show (0 : Int32) ≤ (pk26 r).1 from e)]
          exact ih _ _ _ _ _ _ _ _ _ _ _ _ _ _ _ _ _ _ _ _ _ _ _ _ _ _ _ _ _
        · rw [if_neg e, if_neg (show ¬ (0 : Int32) ≤ (pk26 r).1 from e)]; rfl
      · rw [if_neg d, if_neg d]
        by_cases e : F_Pad_isDigit (F_Pad_signAt x4 ln fsg) = 0
        · rw [if_pos e, if_pos e]; exact ih _ _ _ _ _ _ _ _ _ _ _ _ _ _ _ _ _ _ _ _ _ _ _ _ _ _ _ _ _
        · rw [if_neg e, if_neg e]; exact ih _ _ _ _ _ _ _ _ _ _ _ _ _ _ _ _ _ _ _ _ _ _ _ _ _ _ _ _ _
theorem obp_x (x : XS) : X_obeyPad x = ((obL x.2.2.2.2.2.1 x.2.2.2.2.2.2 82 0 0 112 0 (nrm x.1)).1, ((obL x.2.2.2.2.2.1 x.2.2.2.2.2.2 82 0 0 112 0 (nrm x.1)).2, x.2)) := by
  have h := obL_eq (x.1.1 0) (x.1.1 1) (x.1.2.1 0) (x.1.2.1 1) (x.1.2.1 2) (x.1.2.2 0) (x.1.2.2 1) (x.1.1 2) (x.1.1 3) (x.1.1 4) (x.1.1 5) (x.1.1 6) (x.1.1 7) (x.1.1 8) (x.1.1 9) (x.1.2.2 2) (x.1.1 10) (x.1.1 11) (x.1.1 12) (x.1.1 13) (x.1.1 14) (x.1.1 15) (x.1.1 16) (x.1.1 17) (x.1.2.2 3) x.2.2.2.2.2.1 x.2.2.2.2.2.2 82 0 0 112 0 (x.1.1 0) (x.1.1 1) (x.1.2.1 0) (x.1.2.1 1) (x.1.2.1 2) (x.1.2.2 0) (x.1.2.2 1) (x.1.1 2) (x.1.1 3) (x.1.1 4) (x.1.1 5) (x.1.1 6) (x.1.1 7) (x.1.1 8) (x.1.1 9) (x.1.2.2 2) (x.1.1 10) (x.1.1 11) (x.1.1 12) (x.1.1 13) (x.1.1 14) (x.1.1 15) (x.1.1 16) (x.1.1 17) (x.1.2.2 3)
  have h2 : pk26 (obpR x) = obL x.2.2.2.2.2.1 x.2.2.2.2.2.2 82 0 0 112 0 (nrm x.1) := h
  rw [← h2]; rfl
theorem obL_ok (ln : Int32) (fsg : Nat → Int32) : ∀ (n : Nat) (i num ord done : Int32) (S : GS), gok S → gok (obL ln fsg n i num ord done S).2 := by
  intro n
  induction n with
  | zero => intro i num ord done S h; exact h
  | succ n ih =>
    intro i num ord done S h
    rw [obL]
    split
    · exact h
    · split
      · split
        · exact ih _ _ _ _ _ (oby_ok h)
        · exact oby_ok h
      · split
        · exact ih _ _ _ _ _ h
        · exact ih _ _ _ _ _ h
theorem IX_obeyPad {x : XS} (h : IX x) : IX (X_obeyPad x).2 := by
  rw [obp_x]
  exact ⟨obL_ok _ _ _ _ _ _ _ _ h.1, h.2⟩
theorem IX_clear {x : XS} (h : IX x) : IX (X_clear x) := ⟨h.1, h.2.1, h.2.2.1, h.2.2.2.1, ⟨0, by omega, rfl⟩, h.2.2.2.2.2⟩
theorem IX_carryOut {x : XS} (h : IX x) : IX (X_carryOut x).2 := by
  unfold X_carryOut
  split
  · exact IX_clear (IX_obeyPad (IX_keep (IX_note h)))
  · exact h
-- the reference
def MIr (f : Nat → Int32) (o : Nat) : Prop := p01 (f (o + 245)) ∧ tm_ok 8 (f (o + 214)) ∧ tm_ok 8 (f (o + 230))
def IM (y : MST) : Prop := MI (y.1 0) ∧ tm_ok 6 (y.2 0) ∧ (∀ k, k < 6 → MIr (y.1 2) (246 * k)) ∧ (∀ k, k < 2 → MIr (y.1 3) (246 * k)) ∧ tm_ok 80 (y.2 1)
theorem MIr_of {f g : Nat → Int32} {o : Nat} (h : MI f) (e : ∀ j, j < 246 → g (o + j) = f j) : MIr g o := by
  unfold MIr
  rw [e 245 (by omega), e 214 (by omega), e 230 (by omega)]
  exact h
theorem MIr_tr {f g : Nat → Int32} {o p : Nat} (h : MIr f p) (e : ∀ j, j < 246 → g (o + j) = f (p + j)) : MIr g o := by
  unfold MIr
  rw [e 245 (by omega), e 214 (by omega), e 230 (by omega)]
  exact h
theorem MI_of {f g : Nat → Int32} {p : Nat} (h : MIr f p) (e : ∀ j, j < 246 → g j = f (p + j)) : MI g := by
  unfold MI
  rw [e 245 (by omega), e 214 (by omega), e 230 (by omega)]
  exact h
theorem rec_IM {kp : Int32} {vs vhi : Nat → Int32} (hk : tm_ok 6 kp) (h : MI vs) (hr : ∀ k, k < 6 → MIr vhi (246 * k)) : tm_ok 6 (F_Model_records kp vs vhi).2 ∧ ∀ k, k < 6 → MIr (F_Model_records kp vs vhi).1 (246 * k) := by
  obtain ⟨k, hk6, rfl⟩ := hk
  by_cases e : k < 6
  · obtain ⟨h1, h2⟩ := rec_lt vs vhi e
    refine ⟨⟨k + 1, by omega, h1⟩, fun k2 hk2 => ?_⟩
    by_cases c : k2 = k
    · exact MIr_of h (fun j hj => by rw [h2 k2 j hk2 hj, if_pos c])
    · exact MIr_tr (hr k2 hk2) (fun j hj => by rw [h2 k2 j hk2 hj, if_neg c])
  · have e6 : k = 6 := by omega
    subst e6
    obtain ⟨h1, h2⟩ := rec_6 vs vhi
    refine ⟨⟨6, by omega, h1⟩, fun k2 hk2 => ?_⟩
    by_cases c : k2 = 5
    · exact MIr_of h (fun j hj => by rw [h2 k2 j hk2 hj, if_pos c])
    · exact MIr_tr (hr (k2 + 1) (by omega)) (fun j hj => by rw [h2 k2 j hk2 hj, if_neg c])
def M_turns (o j : Int32) (y : MST) : Int32 × MST := ((F_Model_turns o j (y.2 0) (y.1 0) (y.1 2) (y.1 6)).1, (mA (F_Model_turns o j (y.2 0) (y.1 0) (y.1 2) (y.1 6)).2.2.1 (F_Model_turns o j (y.2 0) (y.1 0) (y.1 2) (y.1 6)).2.2.2.1 (F_Model_turns o j (y.2 0) (y.1 0) (y.1 2) (y.1 6)).2.2.2.2.1 (y.1 3) (y.1 4) (y.1 5) (F_Model_turns o j (y.2 0) (y.1 0) (y.1 2) (y.1 6)).2.2.2.2.2, f2 (F_Model_turns o j (y.2 0) (y.1 0) (y.1 2) (y.1 6)).2.1 (y.2 1)))
theorem M_chalk_t (j : Int32) (y : MST) : M_chalk j y = M_turns 99 j y := by
  unfold M_chalk M_turns F_Model_chalk
  dsimp only [bnd]
theorem M_snip_t (j : Int32) (y : MST) : M_snip j y = M_turns 115 j y := by
  unfold M_snip M_turns F_Model_snip
  dsimp only [bnd]
theorem M_sew_t (j : Int32) (y : MST) : M_sew j y = M_turns 119 j y := by
  unfold M_sew M_turns F_Model_sew
  dsimp only [bnd]
theorem M_bluff_t (j : Int32) (y : MST) : M_bluff j y = M_turns 98 j y := by
  unfold M_bluff M_turns F_Model_bluff
  dsimp only [bnd]
theorem M_doubt_t (j : Int32) (y : MST) : M_doubt j y = M_turns 100 j y := by
  unfold M_doubt M_turns F_Model_doubt
  dsimp only [bnd]
theorem M_pass_t (y : MST) : M_pass y = M_turns 112 0 y := by
  unfold M_pass M_turns F_Model_pass
  dsimp only [bnd]
theorem turns_f (o j kp : Int32) (vs vhi vlb : Nat → Int32) : F_Model_turns o j kp vs vhi vlb = if (F_Model_does o j vs vlb).1 < 0 then ((F_Model_does o j vs vlb).1, kp, (F_Model_does o j vs vlb).2.1, vs, vhi, (F_Model_does o j vs vlb).2.2) else ((F_Model_does o j vs vlb).1, (F_Model_records kp vs vhi).2, (F_Model_does o j vs vlb).2.1, vs, (F_Model_records kp vs vhi).1, (F_Model_does o j vs vlb).2.2) := rfl
theorem IM_turns {o j : Int32} {y : MST} (h : IM y) : IM (M_turns o j y).2 := by
  have hd : MI (F_Model_does o j (y.1 0) (y.1 6)).2.1 := does_MI h.1
  have hr := rec_IM h.2.1 h.1 h.2.2.1
  unfold M_turns
  rw [turns_f]
  by_cases c : (F_Model_does o j (y.1 0) (y.1 6)).1 < 0
  · rw [if_pos c]; exact ⟨hd, h.2.1, h.2.2.1, h.2.2.2⟩
  · rw [if_neg c]; exact ⟨hd, hr.1, hr.2, h.2.2.2⟩
theorem IM_undo {y : MST} (h : IM y) : IM (M_undo y).2 := by
  obtain ⟨k, hk, e⟩ := h.2.1
  unfold M_undo
  rw [e]
  cases k with
  | zero => rw [undo_0]; exact ⟨h.1, ⟨0, by omega, rfl⟩, h.2.2⟩
  | succ k =>
    obtain ⟨-, h1, h2⟩ := undo_s (y.1 0) (y.1 2) (k := k) (by omega)
    exact ⟨MI_of (h.2.2.1 k (by omega)) h2, ⟨k, by omega, h1⟩, h.2.2⟩
theorem IM_save {s : Int32} {y : MST} (h : IM y) : IM (M_save s y).2 := by
  unfold M_save
  by_cases hs : p01 s
  · obtain ⟨q, hq, rfl⟩ := p01_nat hs
    obtain ⟨-, -, h2⟩ := save_s hq (y.1 0) (y.1 3) (y.1 4)
    refine ⟨h.1, h.2.1, h.2.2.1, fun k hk => ?_, h.2.2.2.2⟩
    by_cases c : k = q
    · exact MIr_of h.1 (fun j hj => by
        show (F_Model_save (nI q) (y.1 0) (y.1 3) (y.1 4)).2.1 (246 * k + j) = _
        rw [h2 k j (by omega) hj, if_pos c])
    · exact MIr_tr (h.2.2.2.1 k hk) (fun j hj => by
        show (F_Model_save (nI q) (y.1 0) (y.1 3) (y.1 4)).2.1 (246 * k + j) = _
        rw [h2 k j (by omega) hj, if_neg c])
  · rw [save_n hs]; exact ⟨h.1, h.2.1, h.2.2.1, h.2.2.2⟩
theorem IM_restore {s : Int32} {y : MST} (h : IM y) : IM (M_restore s y).2 := by
  unfold M_restore
  by_cases hs : p01 s
  · obtain ⟨q, hq, rfl⟩ := p01_nat hs
    by_cases hv : y.1 4 q = 0
    · rw [rest_0 hq _ _ _ _ _ _ hv]; exact ⟨h.1, h.2.1, h.2.2.1, h.2.2.2⟩
    · obtain ⟨-, h1, h2, h3⟩ := rest_s hq (y.2 0) (y.1 0) (y.1 1) (y.1 2) (y.1 3) (y.1 4) hv
      have hr := rec_IM h.2.1 h.1 h.2.2.1
      refine ⟨MI_of (h.2.2.2.1 q (by omega)) h3, ?_, ?_, h.2.2.2⟩
      · show tm_ok 6 (F_Model_restore_kg (nI q) (y.2 0) (y.1 0) (y.1 1) (y.1 2) (y.1 3) (y.1 4)).2.1
        rw [h1]; exact hr.1
      · show ∀ k, k < 6 → MIr (F_Model_restore_kg (nI q) (y.2 0) (y.1 0) (y.1 1) (y.1 2) (y.1 3) (y.1 4)).2.2.2.2 (246 * k)
        rw [h2]; exact hr.2
  · rw [rest_n hs]; exact ⟨h.1, h.2.1, h.2.2.1, h.2.2.2⟩
