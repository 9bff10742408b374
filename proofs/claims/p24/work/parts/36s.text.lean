-- carrying out a text, both sides
def tup (x1 : Int32) (S : GS) : T26 := (x1, (S.1 0), (S.1 1), (S.2.1 0), (S.2.1 1), (S.2.1 2), (S.2.2 0), (S.2.2 1), (S.1 2), (S.1 3), (S.1 4), (S.1 5), (S.1 6), (S.1 7), (S.1 8), (S.1 9), (S.2.2 2), (S.1 10), (S.1 11), (S.1 12), (S.1 13), (S.1 14), (S.1 15), (S.1 16), (S.1 17), (S.2.2 3))
def opL (S0 S : GS) (ln : Int32) (fsg : Nat → Int32) (n : Nat) (x4 x3 x2 x1 : Int32) : T26 := F_TC_obeyPad_L10 (S0.1 0) (S0.1 1) (S0.2.1 0) (S0.2.1 1) (S0.2.1 2) (S0.2.2 0) (S0.2.2 1) (S0.1 2) (S0.1 3) (S0.1 4) (S0.1 5) (S0.1 6) (S0.1 7) (S0.1 8) (S0.1 9) (S0.2.2 2) (S0.1 10) (S0.1 11) (S0.1 12) (S0.1 13) (S0.1 14) (S0.1 15) (S0.1 16) (S0.1 17) (S0.2.2 3) ln fsg n x4 x3 x2 x1 (S.1 0) (S.1 1) (S.2.1 0) (S.2.1 1) (S.2.1 2) (S.2.2 0) (S.2.2 1) (S.1 2) (S.1 3) (S.1 4) (S.1 5) (S.1 6) (S.1 7) (S.1 8) (S.1 9) (S.2.2 2) (S.1 10) (S.1 11) (S.1 12) (S.1 13) (S.1 14) (S.1 15) (S.1 16) (S.1 17) (S.2.2 3)
theorem opL_eq (S0 S : GS) (ln : Int32) (fsg : Nat → Int32) (n : Nat) (x4 x3 x2 x1 : Int32) : opL S0 S ln fsg (n + 1) x4 x3 x2 x1 = if ln < x4 then tup x1 S else if F_Pad_signAt x4 ln fsg = 59 then (if (0 : Int32) ≤ (oby x2 x3 S).1 then opL S0 (oby x2 x3 S).2 ln fsg n (x4 + 1) 0 x2 (x1 + 1) else tup x1 (oby x2 x3 S).2) else if F_Pad_isDigit (F_Pad_signAt x4 ln fsg) = 0 then opL S0 S ln fsg n (x4 + 1) x3 (F_Pad_signAt x4 ln fsg) x1 else opL S0 S ln fsg n (x4 + 1) (((10 : Int32) * x3) + (F_Pad_signAt x4 ln fsg - 48)) x2 x1 := by
  unfold opL
  rw [F_TC_obeyPad_L10]
  dsimp only [bnd]
  rfl
theorem nI_n0 (q : Nat) (h : q < 2 ^ 31) : ¬ nI q < 0 := fun z => by
  rw [Int32.lt_iff_toInt_lt, nI_toInt h] at z
  have e : (0 : Int32).toInt = 0 := by decide
  omega
theorem sg_lt {L q : Nat} (hq : q < L) (hL : L ≤ 80) (f : Nat → Int32) : F_Pad_signAt (nI q) (nI L) f = f q := by
  unfold F_Pad_signAt
  rw [if_neg (nI_n0 q (by omega)), if_neg (fun z => by have := (nI_leI (by omega) (by omega)).mp z; omega), nI_clamp (by omega)]
theorem sg_ge {L q : Nat} (hq : L ≤ q) (hq2 : q ≤ 90) (f : Nat → Int32) : F_Pad_signAt (nI q) (nI L) f = 59 := by
  unfold F_Pad_signAt
  rw [if_neg (nI_n0 q (by omega)), if_pos ((nI_leI (by omega) (by omega)).mpr hq)]
theorem ch_lt {L q : Nat} (hq : q < L) (hL : L ≤ 80) (f : Nat → Int32) : F_Model_charAt (nI q) (nI L) f = f q := by
  unfold F_Model_charAt
  rw [if_neg (fun z => by have := (nI_leI (by omega) (by omega)).mp z; omega), nI_clamp (by omega)]
theorem ch_ge {L q : Nat} (hq : L ≤ q) (hq2 : q ≤ 90) (f : Nat → Int32) : F_Model_charAt (nI q) (nI L) f = 0 := by
  unfold F_Model_charAt
  rw [if_pos ((nI_leI (by omega) (by omega)).mpr hq)]
theorem dg_t : ∀ j : Fin 10, ¬ F_Pad_isDigit (nI j.val + 48) = 0 ∧ ¬ nI j.val + 48 = 59 ∧ ¬ nI j.val + 48 = 0 := by decide +kernel
theorem dg {v : Int32} (h : ¬ F_Model_in (v - 48) 0 9 = 0) : ¬ F_Pad_isDigit v = 0 ∧ ¬ v = 59 ∧ ¬ v = 0 := by
  have e : v = (v - 48) + 48 := (Int32.sub_add_cancel v 48).symm
  generalize v - 48 = d at h e
  subst e
  unfold F_Model_in at h
  by_cases a : d < 0
  · rw [if_pos a] at h; exact absurd rfl h
  · rw [if_neg a] at h
    by_cases b : (9 : Int32) < d
    · rw [if_pos b] at h; exact absurd rfl h
    · obtain ⟨j, hj, rfl⟩ := nI_of2 (x := d) (M := 9) (n := 9) (by decide) a (by
        rw [Int32.lt_iff_toInt_lt] at b
        rw [Int32.le_iff_toInt_le]
        omega)
      exact dg_t ⟨j, by omega⟩
theorem dg_at {L p : Nat} (hL : L ≤ 80) (hp : p ≤ 90) {f : Nat → Int32} (h : ¬ F_Model_in (F_Model_digitAt (nI p) (nI L) f) 0 9 = 0) : p < L ∧ F_Model_digitAt (nI p) (nI L) f = f p - 48 ∧ ¬ F_Pad_isDigit (f p) = 0 ∧ ¬ f p = 59 := by
  have e : F_Model_digitAt (nI p) (nI L) f = F_Model_charAt (nI p) (nI L) f - 48 := by
    unfold F_Model_digitAt
    dsimp only [bnd]
  rw [e] at h ⊢
  by_cases c : p < L
  · rw [ch_lt c hL] at h ⊢
    exact ⟨c, rfl, (dg h).1, (dg h).2.1⟩
  · rw [ch_ge (by omega) hp] at h
    exact absurd h (by decide)
def bT (q : Nat) (vln : Int32) (vpd : Nat → Int32) : Int32 := if F_Model_in (F_Model_digitAt (nI q + 1) vln vpd) 0 9 = 0 then (-2 : Int32) - nI q else if F_Model_digitAt (nI q + 1) vln vpd ≤ 0 then nI q + 2 else if F_Model_in (F_Model_digitAt (nI q + 2) vln vpd) 0 9 = 0 then nI q + 2 else nI q + 3
theorem bo_f (q : Nat) (vln : Int32) (vpd : Nat → Int32) : F_Model_behindOrder (nI q) vln vpd = if F_Model_charAt (nI q) vln vpd = 112 then nI q + 1 else if F_Model_charAt (nI q) vln vpd = 99 then bT q vln vpd else if F_Model_charAt (nI q) vln vpd = 115 then bT q vln vpd else if F_Model_charAt (nI q) vln vpd = 119 then bT q vln vpd else if F_Model_charAt (nI q) vln vpd = 98 then bT q vln vpd else if F_Model_charAt (nI q) vln vpd = 100 then bT q vln vpd else (-1 : Int32) - nI q := by
  unfold F_Model_behindOrder bT
  dsimp only [bnd]
theorem bo_i {q i j : Nat} (hq : q ≤ 84) (hi : i ≤ 3) (hj : j ≤ 3) (h : nI (q + j) = nI (q + i)) : i = j := by
  have := (nI_eq (by omega) (by omega)).mp h
  omega
theorem bT_go {q i L : Nat} {vpd : Nat → Int32} (hL : L ≤ 80) (hq : q < 82) (hi : i ≤ 3) (h : bT q (nI L) vpd = nI (q + i)) : (q + 1 < L ∧ F_Model_digitAt (nI (q + 1)) (nI L) vpd = vpd (q + 1) - 48 ∧ ¬ F_Pad_isDigit (vpd (q + 1)) = 0 ∧ ¬ vpd (q + 1) = 59) ∧ (i = 2 ∨ (i = 3 ∧ q + 2 < L ∧ F_Model_digitAt (nI (q + 2)) (nI L) vpd = vpd (q + 2) - 48 ∧ ¬ F_Pad_isDigit (vpd (q + 2)) = 0 ∧ ¬ vpd (q + 2) = 59)) := by
  have h2 : nI q + 2 = nI (q + 2) := nI_add q 2
  have h3 : nI q + 3 = nI (q + 3) := nI_add q 3
  unfold bT at h
  rw [nI_1, h2, h3] at h
  by_cases a : F_Model_in (F_Model_digitAt (nI (q + 1)) (nI L) vpd) 0 9 = 0
  · rw [if_pos a] at h
    exact absurd (by rw [h]; exact (bo_neg ⟨q + i, by omega⟩).2.2.2.2.2.2.1) (bo_neg ⟨q, by omega⟩).2.1
  · refine ⟨dg_at hL (by omega) a, ?_⟩
    rw [if_neg a] at h
    by_cases b : F_Model_digitAt (nI (q + 1)) (nI L) vpd ≤ 0
    · rw [if_pos b] at h
      exact Or.inl (bo_i (by omega) hi (by omega) h)
    · rw [if_neg b] at h
      by_cases c : F_Model_in (F_Model_digitAt (nI (q + 2)) (nI L) vpd) 0 9 = 0
      · rw [if_pos c] at h
        exact Or.inl (bo_i (by omega) hi (by omega) h)
      · rw [if_neg c] at h
        exact Or.inr ⟨bo_i (by omega) hi (by omega) h, dg_at hL (by omega) c⟩
/-- an order: its letter and its digits -/
theorem bo_full {q i L : Nat} {vpd : Nat → Int32} (hL : L ≤ 80) (hq : q < 82) (hi : i ≤ 3) (h : F_Model_behindOrder (nI q) (nI L) vpd = nI (q + i)) : q < L ∧ let6 (vpd q) ∧ ((vpd q = 112 ∧ i = 1) ∨ (q + 1 < L ∧ F_Model_digitAt (nI (q + 1)) (nI L) vpd = vpd (q + 1) - 48 ∧ ¬ F_Pad_isDigit (vpd (q + 1)) = 0 ∧ ¬ vpd (q + 1) = 59) ∧ (i = 2 ∨ (i = 3 ∧ q + 2 < L ∧ F_Model_digitAt (nI (q + 2)) (nI L) vpd = vpd (q + 2) - 48 ∧ ¬ F_Pad_isDigit (vpd (q + 2)) = 0 ∧ ¬ vpd (q + 2) = 59))) := by
  have hqL : q < L := by
    refine Nat.lt_of_not_le fun z => ?_
    rw [bo_f, ch_ge z (by omega), if_neg (by decide), if_neg (by decide), if_neg (by decide), if_neg (by decide), if_neg (by decide), if_neg (by decide)] at h
    exact absurd (by rw [h]; exact (bo_neg ⟨q + i, by omega⟩).2.2.2.2.2.2.1) (bo_neg ⟨q, by omega⟩).1
  rw [bo_f, ch_lt hqL hL] at h
  by_cases c0 : vpd q = 112
  · rw [if_pos c0, nI_1] at h
    exact ⟨hqL, Or.inr (Or.inr (Or.inr (Or.inr (Or.inr c0)))), Or.inl ⟨c0, bo_i (by omega) hi (by omega) h⟩⟩
  · rw [if_neg c0] at h
    by_cases c1 : vpd q = 99
    · rw [if_pos c1] at h
      exact ⟨hqL, Or.inl c1, Or.inr (bT_go hL (by omega) hi h)⟩
    · rw [if_neg c1] at h
      by_cases c2 : vpd q = 115
      · rw [if_pos c2] at h
        exact ⟨hqL, Or.inr (Or.inl c2), Or.inr (bT_go hL (by omega) hi h)⟩
      · rw [if_neg c2] at h
        by_cases c3 : vpd q = 119
        · rw [if_pos c3] at h
          exact ⟨hqL, Or.inr (Or.inr (Or.inl c3)), Or.inr (bT_go hL (by omega) hi h)⟩
        · rw [if_neg c3] at h
          by_cases c4 : vpd q = 98
          · rw [if_pos c4] at h
            exact ⟨hqL, Or.inr (Or.inr (Or.inr (Or.inl c4))), Or.inr (bT_go hL (by omega) hi h)⟩
          · rw [if_neg c4] at h
            by_cases c5 : vpd q = 100
            · rw [if_pos c5] at h
              exact ⟨hqL, Or.inr (Or.inr (Or.inr (Or.inr (Or.inl c5)))), Or.inr (bT_go hL (by omega) hi h)⟩
            · rw [if_neg c5] at h
              exact absurd (by rw [h]; exact (bo_neg ⟨q + i, by omega⟩).2.2.2.2.2.2.1) (bo_neg ⟨q, by omega⟩).1
theorem let6_s {c : Int32} (h : let6 c) : ¬ c = 59 ∧ F_Pad_isDigit c = 0 := by
  rcases h with rfl | rfl | rfl | rfl | rfl | rfl <;> decide
theorem does_p (j j2 : Int32) (vs vlb : Nat → Int32) : F_Model_does 112 j vs vlb = F_Model_does 112 j2 vs vlb := by
  unfold F_Model_does
  rw [if_neg (by decide), if_neg (by decide), if_neg (by decide), if_neg (by decide), if_neg (by decide), if_neg (by decide), if_neg (by decide), if_neg (by decide), if_neg (by decide), if_neg (by decide)]
/-- the sign at a place is the same on both sides, up to the end -/
theorem op_let (S0 S : GS) {L q : Nat} (hL : L ≤ 80) (hq : q < L) (f : Nat → Int32) (hl : let6 (f q)) (n : Nat) (x3 x2 x1 : Int32) : opL S0 S (nI L) f (n + 1) (nI q) x3 x2 x1 = opL S0 S (nI L) f n (nI (q + 1)) x3 (f q) x1 := by
  obtain ⟨a, b⟩ := let6_s hl
  rw [opL_eq, if_neg (fun z => by have := (nI_ltI (by omega) (by omega)).mp z; omega), sg_lt hq hL, if_neg a, if_pos b, nI_1]
theorem op_dig (S0 S : GS) {L q : Nat} (hL : L ≤ 80) (hq : q < L) (f : Nat → Int32) (h1 : ¬ F_Pad_isDigit (f q) = 0) (h2 : ¬ f q = 59) (n : Nat) (x3 x2 x1 : Int32) : opL S0 S (nI L) f (n + 1) (nI q) x3 x2 x1 = opL S0 S (nI L) f n (nI (q + 1)) (10 * x3 + (f q - 48)) x2 x1 := by
  rw [opL_eq, if_neg (fun z => by have := (nI_ltI (by omega) (by omega)).mp z; omega), sg_lt hq hL, if_neg h2, if_neg h1, nI_1]
theorem op_end (S0 S : GS) {L q : Nat} (hL : L ≤ 80) (hq : q ≤ L) (f : Nat → Int32) (hs : L ≤ q ∨ f q = 59) (n : Nat) (x3 x2 x1 : Int32) : opL S0 S (nI L) f (n + 1) (nI q) x3 x2 x1 = if (0 : Int32) ≤ (oby x2 x3 S).1 then opL S0 (oby x2 x3 S).2 (nI L) f n (nI (q + 1)) 0 x2 (x1 + 1) else tup x1 (oby x2 x3 S).2 := by
  have e : F_Pad_signAt (nI q) (nI L) f = 59 := by
    rcases Nat.lt_or_ge q L with c | c
    · rw [sg_lt c hL]; exact hs.resolve_left (by omega)
    · exact sg_ge c (by omega) f
  rw [opL_eq, if_neg (fun z => by have := (nI_ltI (by omega) (by omega)).mp z; omega), if_pos e, nI_1]
theorem i32_nlt {x : Int32} : ¬ (0 : Int32) ≤ x ↔ x < 0 := by
  rw [Int32.le_iff_toInt_le, Int32.lt_iff_toInt_lt]
  omega
theorem ten0 (x : Int32) : (10 : Int32) * 0 + x = x := by
  rw [show (10 : Int32) * 0 = 0 from rfl, Int32.zero_add]
/-- how one order goes, then the rest -/
theorem op_num (S0 S : GS) {L q i : Nat} {vpd f : Nat → Int32} (hL : L ≤ 80) (hf : ∀ j, j < L → f j = vpd j) (hb : q < L ∧ let6 (vpd q) ∧ ((vpd q = 112 ∧ i = 1) ∨ (q + 1 < L ∧ F_Model_digitAt (nI (q + 1)) (nI L) vpd = vpd (q + 1) - 48 ∧ ¬ F_Pad_isDigit (vpd (q + 1)) = 0 ∧ ¬ vpd (q + 1) = 59) ∧ (i = 2 ∨ (i = 3 ∧ q + 2 < L ∧ F_Model_digitAt (nI (q + 2)) (nI L) vpd = vpd (q + 2) - 48 ∧ ¬ F_Pad_isDigit (vpd (q + 2)) = 0 ∧ ¬ vpd (q + 2) = 59)))) (x2 x1 : Int32) : q + i ≤ L ∧ 1 ≤ i ∧ ∃ num : Int32, (∀ n, opL S0 S (nI L) f (n + i) (nI q) 0 x2 x1 = opL S0 S (nI L) f n (nI (q + i)) num (vpd q) x1) ∧ ∀ vs vlb, F_Model_does (vpd q) num vs vlb = if i = 3 then F_Model_does (vpd q) (10 * F_Model_digitAt (nI (q + 1)) (nI L) vpd + F_Model_digitAt (nI (q + 2)) (nI L) vpd) vs vlb else F_Model_does (vpd q) (F_Model_digitAt (nI (q + 1)) (nI L) vpd) vs vlb := by
  obtain ⟨hq, hl, hb⟩ := hb
  have e0 := hf q hq
  have el : ∀ n x3, opL S0 S (nI L) f (n + 1) (nI q) x3 x2 x1 = opL S0 S (nI L) f n (nI (q + 1)) x3 (vpd q) x1 := fun n x3 => by
    rw [op_let S0 S hL hq f (by rw [e0]; exact hl), e0]
  rcases hb with ⟨c, rfl⟩ | ⟨⟨h1, d1, g1, k1⟩, rfl | ⟨rfl, h2, d2, g2, k2⟩⟩
  · exact ⟨hq, Nat.le_refl _, 0, fun n => el n 0, fun vs vlb => by rw [if_neg (by decide), c]; exact does_p _ _ _ _⟩
  · have e1 := hf (q + 1) h1
    refine ⟨by omega, by omega, vpd (q + 1) - 48, fun n => ?_, fun vs vlb => by rw [if_neg (by decide), d1]⟩
    rw [show n + 2 = (n + 1) + 1 from rfl, el, op_dig S0 S hL h1 f (by rw [e1]; exact g1) (by rw [e1]; exact k1), ten0, e1]
  · have e1 := hf (q + 1) h1
    have e2 := hf (q + 2) h2
    refine ⟨by omega, by omega, 10 * (vpd (q + 1) - 48) + (vpd (q + 2) - 48), fun n => ?_, fun vs vlb => by rw [if_pos rfl, d1, d2]⟩
    rw [show n + 3 = ((n + 1) + 1) + 1 from rfl, el, op_dig S0 S hL h1 f (by rw [e1]; exact g1) (by rw [e1]; exact k1), ten0, e1, op_dig S0 S hL h2 f (by rw [e2]; exact g2) (by rw [e2]; exact k2), e2]
theorem co_stop {vkp vln : Int32} {vs vah vhi vpd vlb : Nat → Int32} {fu : Nat} (hfu : 1 ≤ fu) (x2 x1 w03 : Int32) (w1f w3f w5f : Nat → Int32) : (F_Model_carryOut_kg_L26 vkp vln vs vah vhi vpd vlb fu 0 x2 x1 w03 w1f w3f w5f).2.2.1 = x1 ∧ (F_Model_carryOut_kg_L26 vkp vln vs vah vhi vpd vlb fu 0 x2 x1 w03 w1f w3f w5f).2.2.2.2.1 = w1f := by
  obtain ⟨n, rfl⟩ : ∃ n, fu = n + 1 := ⟨fu - 1, by omega⟩
  rw [F_Model_carryOut_kg_L26, if_pos rfl]
  exact ⟨rfl, rfl⟩
theorem co_fini {vkp vln : Int32} {vs vah vhi vpd vlb : Nat → Int32} {fu : Nat} (hfu : 1 ≤ fu) {x2 : Int32} (h : vln ≤ x2) (x1 w03 : Int32) (w1f w3f w5f : Nat → Int32) : (F_Model_carryOut_kg_L26 vkp vln vs vah vhi vpd vlb fu 1 x2 x1 w03 w1f w3f w5f).2.2.1 = x1 ∧ (F_Model_carryOut_kg_L26 vkp vln vs vah vhi vpd vlb fu 1 x2 x1 w03 w1f w3f w5f).2.2.2.2.1 = w1f := by
  obtain ⟨n, rfl⟩ : ∃ n, fu = n + 1 := ⟨fu - 1, by omega⟩
  rw [F_Model_carryOut_kg_L26, if_neg (by decide), if_pos h]
  exact ⟨rfl, rfl⟩
/-- one order in the reference -/
theorem co_one {vkp : Int32} {vs vah vhi vpd vlb : Nat → Int32} {L q i : Nat} (hL : L ≤ 80) (hq : q < L) (hi1 : 1 ≤ i) (hi : i ≤ 3) (hb : F_Model_behindOrder (nI q) (nI L) vpd = nI (q + i)) {num : Int32} (hn : ∀ vs vlb, F_Model_does (vpd q) num vs vlb = if i = 3 then F_Model_does (vpd q) (10 * F_Model_digitAt (nI (q + 1)) (nI L) vpd + F_Model_digitAt (nI (q + 2)) (nI L) vpd) vs vlb else F_Model_does (vpd q) (F_Model_digitAt (nI (q + 1)) (nI L) vpd) vs vlb) (n : Nat) (x1 w03 : Int32) (w1f w3f w5f : Nat → Int32) : F_Model_carryOut_kg_L26 vkp (nI L) vs vah vhi vpd vlb (n + 1) 1 (nI q) x1 w03 w1f w3f w5f = if (F_Model_does (vpd q) num w1f w5f).1 < 0 then F_Model_carryOut_kg_L26 vkp (nI L) vs vah vhi vpd vlb n 0 (nI (q + i + 1)) (x1 + 0) w03 (F_Model_does (vpd q) num w1f w5f).2.1 w3f (F_Model_does (vpd q) num w1f w5f).2.2 else F_Model_carryOut_kg_L26 vkp (nI L) vs vah vhi vpd vlb n 1 (nI (q + i + 1)) (x1 + 1) w03 (F_Model_does (vpd q) num w1f w5f).2.1 w3f (F_Model_does (vpd q) num w1f w5f).2.2 := by
  have h3 : nI q + 3 = nI (q + 3) := nI_add q 3
  have h2 : nI q + 2 = nI (q + 2) := nI_add q 2
  rw [hn, F_Model_carryOut_kg_L26, if_neg (by decide), if_neg (fun z => by have := (nI_leI (by omega) (by omega)).mp z; omega)]
  dsimp only [bnd]
  rw [hb, h3, h2, nI_1, ch_lt hq hL]
  by_cases c : i = 3
  · subst c
    rw [if_pos rfl, if_pos rfl, nI_1]
  · rw [if_neg (c := nI (q + i) = nI (q + 3)) (fun z => c (bo_i (q := q) (i := 3) (j := i) (by omega) (by omega) hi z).symm), if_neg c, nI_1]
def TI (L q : Nat) (vpd : Nat → Int32) : Prop := q = L + 1 ∨ (q < L ∧ WR (nI L) vpd (nI q))
theorem WR_go {L q : Nat} {vpd : Nat → Int32} (hL : L ≤ 80) (hq : q ≤ 81) (h : WR (nI L) vpd (nI q)) : ∃ i, 1 ≤ i ∧ i ≤ 3 ∧ F_Model_behindOrder (nI q) (nI L) vpd = nI (q + i) ∧ (L ≤ q + i ∨ (vpd (q + i) = 59 ∧ WR (nI L) vpd (nI (q + i + 1)))) := by
  obtain ⟨n, h⟩ := h
  cases n with
  | zero => rw [F_Model_wrong_L4] at h; exact absurd h (by decide)
  | succ n =>
    rw [F_Model_wrong_L4, if_neg (by decide)] at h
    obtain ⟨r, hr⟩ : ∃ z, z = F_Model_behindOrder (nI q) (nI L) vpd := ⟨_, rfl⟩
    rw [bnd_e hr] at h
    have hb : BO q r := by rw [hr]; exact bo_cases
    have hn0 := bo_neg ⟨q, by omega⟩
    rcases hb with ⟨i, hi1, hi3, rfl⟩ | rfl | rfl
    · refine ⟨i, hi1, hi3, hr.symm, ?_⟩
      have hi := bo_neg ⟨q + i, by omega⟩
      rw [if_pos hi.2.2.2.2.2.2.1] at h
      by_cases c : nI L ≤ nI (q + i)
      · exact Or.inl ((nI_leI (by omega) (by omega)).mp c)
      · rw [if_neg c] at h
        by_cases d : vpd (nI (q + i)).toNatClampNeg = 59
        · rw [if_pos d, nI_1] at h
          rw [nI_clamp (by omega)] at d
          exact Or.inr ⟨d, n, h⟩
        · rw [if_neg d] at h; exact absurd h hi.2.2.2.2.2.2.2.2
    · rw [if_neg hn0.1] at h; exact absurd h hn0.2.2.2.2.1
    · rw [if_neg hn0.2.1] at h; exact absurd h hn0.2.2.2.2.2.1
theorem WR_lt {L q : Nat} {vpd : Nat → Int32} (hL : L ≤ 80) (hq : q ≤ 81) (h : WR (nI L) vpd (nI q)) : q < L := by
  obtain ⟨i, hi1, hi3, hb, -⟩ := WR_go hL hq h
  exact (bo_full hL (by omega) hi3 hb).1
theorem text_go (S0 : GS) {vkp : Int32} {vs0 vah vhi vpd vlb f : Nat → Int32} {L : Nat} (hL : L ≤ 80) (hf : ∀ j, j < L → f j = vpd j) (w03 : Int32) (w3f : Nat → Int32) : ∀ (m q : Nat) (S : GS) (vs lb : Nat → Int32) (x2 x1 : Int32) (n n2 : Nat), L + 1 - q ≤ m → TI L q vpd → GRS S vs → m < n → m < n2 → (opL S0 S (nI L) f n (nI q) 0 x2 x1).1 = (F_Model_carryOut_kg_L26 vkp (nI L) vs0 vah vhi vpd vlb n2 1 (nI q) x1 w03 vs w3f lb).2.2.1 ∧ GRz (opL S0 S (nI L) f n (nI q) 0 x2 x1) (F_Model_carryOut_kg_L26 vkp (nI L) vs0 vah vhi vpd vlb n2 1 (nI q) x1 w03 vs w3f lb).2.2.2.2.1 := by
  intro m
  induction m using Nat.strongRecOn with
  | ind m ih =>
    intro q S vs lb x2 x1 n n2 hm ht hg hn hn2
    rcases ht with rfl | ⟨hq, hw⟩
    · obtain ⟨k, rfl⟩ : ∃ k, n = k + 1 := ⟨n - 1, by omega⟩
      obtain ⟨e1, e2⟩ := co_fini (vkp := vkp) (vs := vs0) (vah := vah) (vhi := vhi) (vpd := vpd) (vlb := vlb) (fu := n2) (by omega) ((nI_leI (a := L) (b := L + 1) (by omega) (by omega)).mpr (by omega)) x1 w03 vs w3f lb
      rw [e1, e2, opL_eq, if_pos ((nI_ltI (by omega) (by omega)).mpr (by omega))]
      exact ⟨rfl, hg⟩
    · obtain ⟨i, hi1, hi3, hb, hc⟩ := WR_go hL (by omega) hw
      have hfull := bo_full hL (by omega) hi3 hb
      obtain ⟨hle, -, num, ho, hd⟩ := op_num S0 S hL hf hfull x2 x1
      obtain ⟨k, rfl⟩ : ∃ k, n = (k + 1) + i := ⟨n - 1 - i, by omega⟩
      obtain ⟨k2, rfl⟩ : ∃ k2, n2 = k2 + 1 := ⟨n2 - 1, by omega⟩
      have hend : L ≤ q + i ∨ f (q + i) = 59 := by
        rcases Nat.lt_or_ge (q + i) L with z | z
        · exact Or.inr ((hf _ z).trans (hc.resolve_left (by omega)).1)
        · exact Or.inl z
      rw [ho (k + 1), op_end S0 S hL hle f hend, co_one hL hq hi1 hi3 hb hd]
      obtain ⟨s1, s2⟩ := sim_oby hfull.2.1 hg num lb
      by_cases c : (F_Model_does (vpd q) num vs lb).1 < 0
      · obtain ⟨e1, e2⟩ := co_stop (vkp := vkp) (vln := nI L) (vs := vs0) (vah := vah) (vhi := vhi) (vpd := vpd) (vlb := vlb) (fu := k2) (by omega) (nI (q + i + 1)) (x1 + 0) w03 (F_Model_does (vpd q) num vs lb).2.1 w3f (F_Model_does (vpd q) num vs lb).2.2
        rw [if_neg (i32_nlt.mpr (by rw [s1]; exact c)), if_pos c, e1, e2]
        exact ⟨(Int32.add_zero x1).symm, s2⟩
      · rw [if_pos (Decidable.not_not.mp (fun z => c (by rw [← s1]; exact i32_nlt.mp z))), if_neg c]
        refine ih (L + 1 - (q + i + 1)) (by omega) (q + i + 1) _ _ _ _ _ _ _ (Nat.le_refl _) ?_ s2 (by omega) (by omega)
        rcases hc with z | z
        · exact Or.inl (by omega)
        · rcases Nat.lt_or_ge (q + i) L with y | y
          · exact Or.inr ⟨WR_lt hL (by omega) z.2, z.2⟩
          · exact Or.inl (by omega)
theorem carry_both {x : XS} {y : MST} (h : RS x y) : (X_carryOut x).1 = (M_carryOut y).1 ∧ RS (X_carryOut x).2 (M_carryOut y).2 := by
  have hx := rx_carryOut h.1
  obtain ⟨h1, h2, h3, h4⟩ := h
  have e := fault_eq h1.2.2
  by_cases c : F_Model_wrong (y.2 1) (y.1 5) = -6
  · have eX : X_carryOut x = ((X_obeyPad (X_keep (X_note x))).1, X_clear (X_obeyPad (X_keep (X_note x))).2) := if_pos (e.trans c)
    have hk := keep_H (rs_k6 h1) h3 h2
    obtain ⟨L, hL, l1, l2, hj⟩ := h1.2.2
    have hw : WR (nI L) (y.1 5) (nI 0) := ⟨90, by rw [nI_0, ← l2]; exact c⟩
    have ht := text_go (vkp := y.2 0) (vs0 := y.1 0) (vah := y.1 1) (vhi := y.1 2) (vlb := y.1 6) x.1 hL hj (F_Model_records (y.2 0) (y.1 0) (y.1 2)).2 (F_Model_records (y.2 0) (y.1 0) (y.1 2)).1 81 0 x.1 (y.1 0) (y.1 6) 112 0 82 90 (by omega) (Or.inr ⟨WR_lt hL (by omega) hw, hw⟩) h2 (by omega) (by omega)
    rw [nI_0, ← l2] at ht
    have eo : obpR (X_keep (X_note x)) = opL x.1 x.1 (y.2 1) x.2.2.2.2.2.2 82 0 0 112 0 := by
      rw [l2, ← l1]; rfl
    rw [← eo] at ht
    unfold M_carryOut at hx ⊢
    rw [co_f, if_pos c] at hx ⊢
    rw [eX] at hx ⊢
    have hl := co_MI (y.2 0) (y.2 1) (y.1 0) (y.1 1) (y.1 2) (y.1 5) (y.1 6) (F_Model_records (y.2 0) (y.1 0) (y.1 2)).2 (F_Model_records (y.2 0) (y.1 0) (y.1 2)).1 90 1 0 0 (y.1 0) (y.1 6) h1.2.1.1
    generalize F_Model_carryOut_kg_L26 (y.2 0) (y.2 1) (y.1 0) (y.1 1) (y.1 2) (y.1 5) (y.1 6) 90 1 0 0 (F_Model_records (y.2 0) (y.1 0) (y.1 2)).2 (y.1 0) (F_Model_records (y.2 0) (y.1 0) (y.1 2)).1 (y.1 6) = qq at ht hl hx ⊢
    refine ⟨ht.1, hx, ht.2, ?_, h4⟩
    show HR (keepX x.2.1 (noteV x.1 x.2.2.1)).1 (keepX x.2.1 (noteV x.1 x.2.2.1)).2 qq.2.2.2.1 qq.2.2.2.2.2.1
    rw [hl.1, hl.2.2]
    exact hk
  · have eX : X_carryOut x = (-3, x) := if_neg (fun z => c (e.symm.trans z))
    unfold M_carryOut at hx ⊢
    rw [co_f, if_neg c] at hx ⊢
    rw [eX] at hx ⊢
    exact ⟨rfl, hx, h2, h3, h4⟩
theorem rs_carryOut {x : XS} {y : MST} (h : RS x y) : RS (X_carryOut x).2 (M_carryOut y).2 := (carry_both h).2
theorem es_carryOut {x : XS} {y : MST} (h : RS x y) : (X_carryOut x).1 = (M_carryOut y).1 := (carry_both h).1
