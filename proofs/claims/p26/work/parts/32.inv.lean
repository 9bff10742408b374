-- what stays so of an object, and of the reference, behind every call
def gok (S : GS) : Prop := tm_ok 8 (S.1 2) ∧ tm_ok 8 (S.1 10)
def IX (x : XS) : Prop := gok x.1 ∧ x.2.1 ≤ 6 ∧ (∀ i, gok (x.2.2.1 i)) ∧ (∀ i, gok (x.2.2.2.2.1 i)) ∧ tm_ok 80 x.2.2.2.2.2.1 ∧ ∀ j, ch16 (x.2.2.2.2.2.2 j)
theorem v7_all {P : GS → Prop} {a b c d e f g : GS} (ha : P a) (hb : P b) (hc : P c) (hd : P d) (he : P e) (hf : P f) (hg : P g) : ∀ i, P (v7 a b c d e f g i)
  | 0 => ha
  | 1 => hb
  | 2 => hc
  | 3 => hd
  | 4 => he
  | 5 => hf
  | _ + 6 => hg
theorem g2_all {P : GS → Prop} {a b : GS} (ha : P a) (hb : P b) : ∀ i, P (g2 a b i)
  | 0 => ha
  | _ + 1 => hb
theorem oby_ok {o j : Int32} {S : GS} (h : gok S) : gok (oby o j S).2 := by
  have := obey_M (order := o) (joint := j) (nx := S.1 0) (tn := S.1 1) (gn := S.2.1 0) (ac := S.2.1 1) (dn := S.2.1 2) (fs := S.2.2 0) (fm := S.2.2 1) (pts0 := S.1 3) (ths0 := S.1 4) (rgs0 := S.1 5) (rgc0 := S.1 6) (fnd0 := S.1 7) (rdb0 := S.1 8) (wdb0 := S.1 9) (fma0 := S.2.2 2) (pts1 := S.1 11) (ths1 := S.1 12) (rgs1 := S.1 13) (rgc1 := S.1 14) (fnd1 := S.1 15) (rdb1 := S.1 16) (wdb1 := S.1 17) (fma1 := S.2.2 3) h.1 h.2
  exact this
theorem IX_note {x : XS} (h : IX x) : IX (X_note x) := ⟨h.1, h.2.1, v7_all (h.2.2.1 0) (h.2.2.1 1) (h.2.2.1 2) (h.2.2.1 3) (h.2.2.1 4) (h.2.2.1 5) h.1, h.2.2.2⟩
theorem keepX_le : ∀ (k : Nat) (V : Nat → GS), (keepX k V).1 ≤ 6
  | 0, _ => (by decide : 1 ≤ 6)
  | 1, _ => (by decide : 2 ≤ 6)
  | 2, _ => (by decide : 3 ≤ 6)
  | 3, _ => (by decide : 4 ≤ 6)
  | 4, _ => (by decide : 5 ≤ 6)
  | 5, _ => (by decide : 6 ≤ 6)
  | _ + 6, _ => Nat.le_refl _
theorem keepX_all {P : GS → Prop} : ∀ (k : Nat) (V : Nat → GS), (∀ i, P (V i)) → ∀ i, P ((keepX k V).2 i)
  | 0, _, h => v7_all (h _) (h _) (h _) (h _) (h _) (h _) (h _)
  | 1, _, h => v7_all (h _) (h _) (h _) (h _) (h _) (h _) (h _)
  | 2, _, h => v7_all (h _) (h _) (h _) (h _) (h _) (h _) (h _)
  | 3, _, h => v7_all (h _) (h _) (h _) (h _) (h _) (h _) (h _)
  | 4, _, h => v7_all (h _) (h _) (h _) (h _) (h _) (h _) (h _)
  | 5, _, h => v7_all (h _) (h _) (h _) (h _) (h _) (h _) (h _)
  | _ + 6, _, h => v7_all (h _) (h _) (h _) (h _) (h _) (h _) (h _)
theorem IX_keep {x : XS} (h : IX x) : IX (X_keep x) := ⟨h.1, keepX_le _ _, keepX_all _ _ h.2.2.1, h.2.2.2⟩
theorem IX_obey {o j : Int32} {x : XS} (h : IX x) : IX (X_obey o j x).2 := ⟨oby_ok h.1, h.2⟩
theorem IX_turn {o j : Int32} {x : XS} (h : IX x) : IX (X_takeTurn o j x).2 := by
  unfold X_takeTurn
  split
  · exact IX_obey (IX_note h)
  · exact IX_keep (IX_obey (IX_note h))
theorem IX_undo {x : XS} (h : IX x) : IX (X_undo x).2 := by
  obtain ⟨S, k, V, r⟩ := x
  cases k with
  | zero => exact h
  | succ k => exact ⟨h.2.2.1 k, Nat.le_of_succ_le h.2.1, h.2.2.1, h.2.2.2⟩
-- the pad's orders, on a game in one value
-- the reference
