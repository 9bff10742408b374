-- the law's turn over the whole object
def EGS (S : GS) : Prop := EG (S.2.1 0) (S.2.2 0) (S.2.2 1) (S.1 2) (S.2.2 2) (S.1 4) (S.1 5) (S.1 6) (S.1 10) (S.2.2 3) (S.1 12) (S.1 13) (S.1 14)
def INV (S : GS) : Prop := ∃ vs, GRS S vs ∧ EGS S
def SameG (S' S : GS) : Prop := S'.1 0 = S.1 0 ∧ S'.1 1 = S.1 1 ∧ S'.1 3 = S.1 3 ∧ S'.1 11 = S.1 11 ∧ S'.2.1 0 = S.2.1 0
/-- what becomes of the whole object in a turn that says W and brings G -/
def TX (W G : Int32) (x x' : XS) : Prop := IX x' ∧ INV x'.1 ∧ ((W < 0 ∧ G = 0 ∧ SameG x'.1 x.1 ∧ x'.2.1 = x.2.1) ∨ (0 ≤ W ∧ x'.1.1 0 = 1 - x.1.1 0 ∧ x'.1.1 1 = x.1.1 1 + 1 ∧ (x.1.1 0 = 0 → x'.1.1 3 = x.1.1 3 + G ∧ x'.1.1 11 = x.1.1 11) ∧ (x.1.1 0 = 1 → x'.1.1 11 = x.1.1 11 + G ∧ x'.1.1 3 = x.1.1 3) ∧ ∃ q V, q < 6 ∧ x'.2.1 = q + 1 ∧ x.2.1 ≤ q + 1 ∧ (x.2.1 < 6 → x.2.1 = q) ∧ x'.2.2.1 = V ∧ V q = x.1))
theorem keep_at : ∀ (k : Nat) (V : Nat → GS), k ≤ 6 → ∃ q, q < 6 ∧ (keepX k V).1 = q + 1 ∧ k ≤ q + 1 ∧ (k < 6 → k = q) ∧ (keepX k V).2 q = V 6
  | 0, _, _ => ⟨0, by omega, rfl, by omega, fun _ => rfl, rfl⟩
  | 1, _, _ => ⟨1, by omega, rfl, by omega, fun _ => rfl, rfl⟩
  | 2, _, _ => ⟨2, by omega, rfl, by omega, fun _ => rfl, rfl⟩
  | 3, _, _ => ⟨3, by omega, rfl, by omega, fun _ => rfl, rfl⟩
  | 4, _, _ => ⟨4, by omega, rfl, by omega, fun _ => rfl, rfl⟩
  | 5, _, _ => ⟨5, by omega, rfl, by omega, fun _ => rfl, rfl⟩
  | 6, _, _ => ⟨5, by omega, rfl, by omega, fun h => absurd h (by omega), rfl⟩
  | k + 7, _, h => absurd h (by omega)
theorem take_f (o j : Int32) (x : XS) : X_takeTurn o j x = if (oby o j x.1).1 < 0 then ((oby o j x.1).1, (oby o j x.1).2, (X_note x).2) else ((oby o j x.1).1, X_keep ((oby o j x.1).2, (X_note x).2)) := rfl
theorem take_ok {o : Int32} (ho : let6 o) {x : XS} (hI : IX x) (hV : INV x.1) {W G : Int32} {j : Int32} (hT : TR W G (x.1.1 0) (x.1.1 1) (x.1.2.1 0) (x.1.2.1 1) (x.1.2.1 2) (x.1.2.2 0) (x.1.2.2 1) (x.1.1 2) (x.1.1 3) (x.1.1 4) (x.1.1 5) (x.1.1 6) (x.1.1 7) (x.1.1 8) (x.1.1 9) (x.1.2.2 2) (x.1.1 10) (x.1.1 11) (x.1.1 12) (x.1.1 13) (x.1.1 14) (x.1.1 15) (x.1.1 16) (x.1.1 17) (x.1.2.2 3) (F_Game_obey o j (x.1.1 0) (x.1.1 1) (x.1.2.1 0) (x.1.2.1 1) (x.1.2.1 2) (x.1.2.2 0) (x.1.2.2 1) (x.1.1 2) (x.1.1 3) (x.1.1 4) (x.1.1 5) (x.1.1 6) (x.1.1 7) (x.1.1 8) (x.1.1 9) (x.1.2.2 2) (x.1.1 10) (x.1.1 11) (x.1.1 12) (x.1.1 13) (x.1.1 14) (x.1.1 15) (x.1.1 16) (x.1.1 17) (x.1.2.2 3))) : ∃ x', X_takeTurn o j x = (W, x') ∧ TX W G x x' := by
  obtain ⟨vs, hG, hE⟩ := hV
  have sim := (sim_oby ho hG j (fun _ => 0)).2
  have hI' := IX_turn (o := o) (j := j) hI
  have hz : ∀ {r}, F_Game_obey o j (x.1.1 0) (x.1.1 1) (x.1.2.1 0) (x.1.2.1 1) (x.1.2.1 2) (x.1.2.2 0) (x.1.2.2 1) (x.1.1 2) (x.1.1 3) (x.1.1 4) (x.1.1 5) (x.1.1 6) (x.1.1 7) (x.1.1 8) (x.1.1 9) (x.1.2.2 2) (x.1.1 10) (x.1.1 11) (x.1.1 12) (x.1.1 13) (x.1.1 14) (x.1.1 15) (x.1.1 16) (x.1.1 17) (x.1.2.2 3) = r → obyR o j x.1 = r := fun h => h
  rcases hT with ⟨hW, hg, e⟩ | ⟨hW, g', a', d', fs', fm', m0, p0, t0, r0, c0, n0, d0, w0, f0, m1, p1, t1, r1, c1, n1, d1, w1, f1, e, h0, h1, e'⟩
  · have eo : oby o j x.1 = (W, mkGS (x.1.1 0) (x.1.1 1) (x.1.2.1 0) (x.1.2.1 1) (x.1.2.1 2) (x.1.2.2 0) (x.1.2.2 1) (x.1.1 2) (x.1.1 3) (x.1.1 4) (x.1.1 5) (x.1.1 6) (x.1.1 7) (x.1.1 8) (x.1.1 9) (x.1.2.2 2) (x.1.1 10) (x.1.1 11) (x.1.1 12) (x.1.1 13) (x.1.1 14) (x.1.1 15) (x.1.1 16) (x.1.1 17) (x.1.2.2 3)) := by
      unfold oby
      rw [hz e]
    rw [take_f, eo, if_pos hW] at hI' ⊢
    rw [eo] at sim
    exact ⟨_, rfl, hI', ⟨_, sim, hE⟩, Or.inl ⟨hW, hg, ⟨rfl, rfl, rfl, rfl, rfl⟩, rfl⟩⟩
  · have eo : oby o j x.1 = (W, mkGS (1 - x.1.1 0) (x.1.1 1 + 1) g' a' d' fs' fm' m0 p0 t0 r0 c0 n0 d0 w0 f0 m1 p1 t1 r1 c1 n1 d1 w1 f1) := by
      unfold oby
      rw [hz e]
    have hW' : ¬ W < 0 := Int32.not_lt.mpr hW
    rw [take_f, eo, if_neg hW'] at hI' ⊢
    rw [eo] at sim
    obtain ⟨q, k1, k2, k3, k4, k5⟩ := keep_at x.2.1 (noteV x.1 x.2.2.1) hI.2.1
    exact ⟨_, rfl, hI', ⟨_, sim, e'⟩, Or.inr ⟨hW, rfl, rfl, h0, h1, q, _, k1, k2, k3, k4, rfl, k5⟩⟩
/-- what the law finds in a branch -/
def PX (x : XS) (v : Int32 × Int32 × Int32 × XS) : Prop := v.1 = v.2.1 ∧ TX v.2.1 v.2.2.1 x v.2.2.2
theorem PX_b {x : XS} {α : Type} {a v : α} {f : α → Int32 × Int32 × Int32 × XS} (h : a = v) (k : PX x (f v)) : PX x (bnd a f) := by rw [h]; exact k
theorem PX_i {x x' : XS} {W G : Int32} (h : TX W G x x') : PX x (W, W, G, x') := ⟨rfl, h⟩
theorem bit_if {c : Prop} [Decidable c] {m : Int32} (h : c ↔ ¬ m = 0) : ((if c then (1 : Int32) else 0) = 0 ↔ m = 0) ∧ (if c then (1 : Int32) else 0) = dV m ∧ (if c then (3 : Int32) else 0) = dU m := by
  unfold dV dU
  by_cases a : m = 0
  · have n : ¬ c := fun z => h.mp z a
    rw [if_neg n, if_pos a, if_neg n, if_pos a]
    exact ⟨⟨fun _ => a, fun _ => rfl⟩, rfl, rfl⟩
  · have n : c := h.mpr a
    rw [if_pos n, if_neg a, if_pos n, if_neg a]
    exact ⟨⟨fun z => absurd z d01, fun z => absurd z a⟩, rfl, rfl⟩
theorem le82 {k : Nat} (hk : k ≤ 82) : ((82 : Int32) ≤ nI k ↔ k = 82) ∧ (nI k = 82 ↔ k = 82) := by
  refine ⟨⟨fun z => ?_, fun z => ?_⟩, ⟨fun z => ?_, fun z => ?_⟩⟩
  · have := (nI_leI (a := 82) (by omega) (by omega)).mp z
    omega
  · subst z; decide
  · exact (nI_eq (b := 82) (by omega) (by omega)).mp z
  · subst z; rfl
/-- nothing but one's own answers in a refused turn -/
theorem no_A {o : Int32} (ho : ¬ o = 112) (h6 : let6 o) {x : XS} (hI : IX x) (hV : INV x.1) : ∃ x', X_takeTurn o (nI 82) x = (-1, x') ∧ TX (-1) 0 x x' := take_ok h6 hI hV (by rw [ob_A ho]; exact TR_no (by decide))
theorem no_B {o : Int32} (ho : ¬ o = 112) (h6 : let6 o) {x : XS} (hI : IX x) (hV : INV x.1) {k : Nat} (hk : k < 82) (hb : ¬ (F_Game_isOver (x.1.1 1) (x.1.2.1 0) = 0 ∧ F_Cloth_isVoid (nI k) (x.1.2.1 0) = 0)) : ∃ x', X_takeTurn o (nI k) x = (-5, x') ∧ TX (-5) 0 x x' := take_ok h6 hI hV (by rw [ob_B ho hk hb]; exact TR_no (by decide))
/-- may there be a turn at this joint -/
def V14 (x : XS) (k : Nat) (v14 : Int32) : Prop := (k < 82 ∧ F_Game_isOver (x.1.1 1) (x.1.2.1 0) = 0 ∧ F_Cloth_isVoid (nI k) (x.1.2.1 0) = 0 → v14 = 1) ∧ (¬ (F_Game_isOver (x.1.1 1) (x.1.2.1 0) = 0 ∧ F_Cloth_isVoid (nI k) (x.1.2.1 0) = 0) → v14 = 0)
theorem p01S {S : GS} {vs : Nat → Int32} (h : GRS S vs) : p01 (S.1 0) := by
  have e : S.1 0 = vs 245 := h.2.1
  rw [e]
  exact h.2.2.2.1
theorem f_chalk {x : XS} (hI : IX x) (hV : INV x.1) {k : Nat} (hk : k ≤ 82) {v14 : Int32} (h14 : V14 x k v14) : PX x (bnd ((if (82 : Int32) ≤ (nI k) then 0 else (bnd (F_TC_of (nI k) (4 : Int32) (x.1.1 1) (x.1.2.1 0) (x.1.2.1 1) (x.1.2.1 2) (x.1.2.2 0) (x.1.2.2 1) (x.1.1 2) (x.1.2.2 2) (x.1.1 10) (x.1.2.2 3)) (fun r_18 => (if ((r_18 >>> ((x.1.1 0) &&& 31)) &&& 1) = 1 then 1 else 0)))) : Int32) (fun v_20 => (bnd ((if (nI k) = 82 then (-1) else (if v14 = 0 then (-5) else (bnd (F_TC_of (nI k) (6 : Int32) (x.1.1 1) (x.1.2.1 0) (x.1.2.1 1) (x.1.2.1 2) (x.1.2.2 0) (x.1.2.2 1) (x.1.1 2) (x.1.2.2 2) (x.1.1 10) (x.1.2.2 3)) (fun r_23 => (if r_23 = 0 then (-5) else (if v_20 = 0 then (bnd (F_TC_player (x.1.1 0) (2 : Int32) (x.1.1 2) (x.1.1 3) (x.1.1 4) (x.1.1 5) (x.1.1 6) (x.1.1 7) (x.1.1 8) (x.1.1 9) (x.1.1 10) (x.1.1 11) (x.1.1 12) (x.1.1 13) (x.1.1 14) (x.1.1 15) (x.1.1 16) (x.1.1 17)) (fun r_26 => (if r_26 = 8 then (-4) else (bnd (F_TC_player (x.1.1 0) (2 : Int32) (x.1.1 2) (x.1.1 3) (x.1.1 4) (x.1.1 5) (x.1.1 6) (x.1.1 7) (x.1.1 8) (x.1.1 9) (x.1.1 10) (x.1.1 11) (x.1.1 12) (x.1.1 13) (x.1.1 14) (x.1.1 15) (x.1.1 16) (x.1.1 17)) (fun r_28 => (r_28 + 1)))))) else (-5))))))) : Int32) (fun v_29 => (bnd (X_chalk (nI k) x) (fun r_30 => (r_30.1, v_29, 0, r_30.2))))))) := by
  have hV' := hV
  obtain ⟨vs, hG, hE⟩ := hV'
  have hn := p01S hG
  rcases Nat.lt_or_ge k 82 with hlt | hge
  · have n1 : ¬ (82 : Int32) ≤ nI k := fun z => by have := (le82 hk).1.mp z; omega
    have n2 : ¬ nI k = 82 := fun z => by have := (le82 hk).2.mp z; omega
    have hb := (bit_if (chbo hn (nI k) (x.1.1 2) (x.1.2.2 2) (x.1.1 10) (x.1.2.2 3))).1
    refine PX_b (v := if ((F_Game_chalkersOf (nI k) (x.1.1 2) (x.1.2.2 2) (x.1.1 10) (x.1.2.2 3) >>> (x.1.1 0 &&& 31)) &&& 1) = 1 then (1 : Int32) else 0) (by rw [if_neg n1]; exact bnd_tr (of_4 hlt ..) rfl) ?_
    by_cases a : F_Game_isOver (x.1.1 1) (x.1.2.1 0) = 0 ∧ F_Cloth_isVoid (nI k) (x.1.2.1 0) = 0
    · obtain ⟨W, eW, hT⟩ := tw_chalk hn hG hE hlt a.1 a.2 hb
      obtain ⟨x', e, hX⟩ := take_ok (Or.inl rfl) hI hV hT
      refine PX_b (v := W) (by rw [if_neg n2, if_neg (by rw [h14.1 ⟨hlt, a⟩]; exact d01)]; exact eW) (PX_b (v := (W, x')) e (PX_i hX))
    · obtain ⟨x', e, hX⟩ := no_B (o := 99) (by decide) (Or.inl rfl) hI hV hlt a
      refine PX_b (v := -5) (by rw [if_neg n2, if_pos (h14.2 a)]) (PX_b (v := (-5, x')) e (PX_i hX))
  · have e82 : k = 82 := by omega
    subst e82
    obtain ⟨x', e, hX⟩ := no_A (o := 99) (by decide) (Or.inl rfl) hI hV
    refine PX_b (v := 0) (if_pos ((le82 hk).1.mpr rfl)) (PX_b (v := -1) (if_pos ((le82 hk).2.mpr rfl)) (PX_b (v := (-1, x')) e (PX_i hX)))
theorem f_sew {x : XS} (hI : IX x) (hV : INV x.1) {k : Nat} (hk : k ≤ 82) {v14 r9 : Int32} (h14 : V14 x k v14) (h9 : k < 82 → r9 = x.1.2.2 0 k) : PX x (bnd (F_TC_player (x.1.1 0) (1 : Int32) (x.1.1 2) (x.1.1 3) (x.1.1 4) (x.1.1 5) (x.1.1 6) (x.1.1 7) (x.1.1 8) (x.1.1 9) (x.1.1 10) (x.1.1 11) (x.1.1 12) (x.1.1 13) (x.1.1 14) (x.1.1 15) (x.1.1 16) (x.1.1 17)) (fun r_251 => (bnd ((if (nI k) = 82 then (-1) else (if v14 = 0 then (-5) else (if r9 = 1 then (if r_251 = 0 then (-5) else (r_251 - 1)) else (-5)))) : Int32) (fun v_256 => (bnd (X_sew (nI k) x) (fun r_257 => (r_257.1, v_256, 0, r_257.2))))))) := by
  have hV' := hV
  obtain ⟨vs, hG, hE⟩ := hV'
  have hn := p01S hG
  refine PX_b (v := ownT (x.1.1 0) (x.1.1 4) (x.1.1 12)) (by
    generalize x.1.1 0 = nx at hn ⊢
    rcases hn with rfl | rfl <;> rfl) ?_
  rcases Nat.lt_or_ge k 82 with hlt | hge
  · have n2 : ¬ nI k = 82 := fun z => by have := (le82 hk).2.mp z; omega
    by_cases a : F_Game_isOver (x.1.1 1) (x.1.2.1 0) = 0 ∧ F_Cloth_isVoid (nI k) (x.1.2.1 0) = 0
    · obtain ⟨W, eW, hT⟩ := tw_sew hn hG hE hlt a.1 a.2
      obtain ⟨x', e, hX⟩ := take_ok (o := 119) (Or.inr (Or.inr (Or.inl rfl))) hI hV hT
      refine PX_b (v := W) (by rw [if_neg n2, if_neg (by rw [h14.1 ⟨hlt, a⟩]; exact d01), h9 hlt]; exact eW) (PX_b (v := (W, x')) e (PX_i hX))
    · obtain ⟨x', e, hX⟩ := no_B (o := 119) (by decide) (Or.inr (Or.inr (Or.inl rfl))) hI hV hlt a
      refine PX_b (v := -5) (by rw [if_neg n2, if_pos (h14.2 a)]) (PX_b (v := (-5, x')) e (PX_i hX))
  · have e82 : k = 82 := by omega
    subst e82
    obtain ⟨x', e, hX⟩ := no_A (o := 119) (by decide) (Or.inr (Or.inr (Or.inl rfl))) hI hV
    refine PX_b (v := -1) (if_pos ((le82 hk).2.mpr rfl)) (PX_b (v := (-1, x')) e (PX_i hX))
theorem f_bluff {x : XS} (hI : IX x) (hV : INV x.1) {k : Nat} (hk : k ≤ 82) {v14 r9 : Int32} (h14 : V14 x k v14) (h9 : k < 82 → r9 = x.1.2.2 0 k) : PX x (bnd ((if (nI k) = 82 then (-1) else (if v14 = 0 then (-5) else (if r9 = 1 then (bnd (F_TC_count (8 : Int32) (x.1.1 0) (x.1.1 1) (x.1.2.1 0) (x.1.2.1 1) (x.1.2.1 2) (x.1.2.2 0) (x.1.1 3) (x.1.1 11) x.2.2.2.2.2.1 (nI x.2.1)) (fun r_278 => (r_278 + 1))) else (-5)))) : Int32) (fun v_279 => (bnd (X_bluff (nI k) x) (fun r_280 => (r_280.1, v_279, 0, r_280.2))))) := by
  have hV' := hV
  obtain ⟨vs, hG, hE⟩ := hV'
  have hn := p01S hG
  have b : let6 98 := Or.inr (Or.inr (Or.inr (Or.inl rfl)))
  rcases Nat.lt_or_ge k 82 with hlt | hge
  · have n2 : ¬ nI k = 82 := fun z => by have := (le82 hk).2.mp z; omega
    by_cases a : F_Game_isOver (x.1.1 1) (x.1.2.1 0) = 0 ∧ F_Cloth_isVoid (nI k) (x.1.2.1 0) = 0
    · obtain ⟨W, eW, hT⟩ := tw_bluff hn hE hlt a.1 a.2
      obtain ⟨x', e, hX⟩ := take_ok b hI hV hT
      refine PX_b (v := W) (by rw [if_neg n2, if_neg (by rw [h14.1 ⟨hlt, a⟩]; exact d01), h9 hlt]; exact eW) (PX_b (v := (W, x')) e (PX_i hX))
    · obtain ⟨x', e, hX⟩ := no_B (o := 98) (by decide) b hI hV hlt a
      refine PX_b (v := -5) (by rw [if_neg n2, if_pos (h14.2 a)]) (PX_b (v := (-5, x')) e (PX_i hX))
  · have e82 : k = 82 := by omega
    subst e82
    obtain ⟨x', e, hX⟩ := no_A (o := 98) (by decide) b hI hV
    refine PX_b (v := -1) (if_pos ((le82 hk).2.mpr rfl)) (PX_b (v := (-1, x')) e (PX_i hX))
theorem f_doubt {x : XS} (hI : IX x) (hV : INV x.1) {k : Nat} (hk : k ≤ 82) {v14 r9 : Int32} (h14 : V14 x k v14) (h9 : k < 82 → r9 = x.1.2.2 0 k) : PX x (bnd ((if (nI k) = 82 then (-1) else (if v14 = 0 then (-5) else (bnd (F_TC_of (nI k) (5 : Int32) (x.1.1 1) (x.1.2.1 0) (x.1.2.1 1) (x.1.2.1 2) (x.1.2.2 0) (x.1.2.2 1) (x.1.1 2) (x.1.2.2 2) (x.1.1 10) (x.1.2.2 3)) (fun r_299 => (if r_299 = ((1 : Int32) - (x.1.1 0)) then (if r9 = 3 then 1 else 0) else (-5)))))) : Int32) (fun v_302 => (bnd ((if (0 : Int32) ≤ v_302 then (if v_302 = 1 then 2 else (-2)) else 0) : Int32) (fun v_305 => (bnd (X_doubt (nI k) x) (fun r_306 => (r_306.1, v_302, v_305, r_306.2))))))) := by
  have hV' := hV
  obtain ⟨vs, hG, hE⟩ := hV'
  have hn := p01S hG
  have b : let6 100 := Or.inr (Or.inr (Or.inr (Or.inr (Or.inl rfl))))
  have hC : CR (x.1.2.1 0) (x.1.2.1 1) (x.1.2.1 2) (x.1.2.2 0) (x.1.2.2 1) vs := hG.1
  have hT4 : x.1.1 1 = vs 244 := hG.2.2.1
  rcases Nat.lt_or_ge k 82 with hlt | hge
  · have n2 : ¬ nI k = 82 := fun z => by have := (le82 hk).2.mp z; omega
    by_cases a : F_Game_isOver (x.1.1 1) (x.1.2.1 0) = 0 ∧ F_Cloth_isVoid (nI k) (x.1.2.1 0) = 0
    · obtain ⟨W, G, eW, eG, hT⟩ := tw_doubt hn hE hlt a.1 a.2
      obtain ⟨x', e, hX⟩ := take_ok b hI hV hT
      have a1 : F_Model_isOver vs = 0 := by rw [← cover hC hT4]; exact a.1
      have a2 : ¬ vd vs k := (mvoid hlt).mp (by rw [← cvoid hC hlt]; exact a.2)
      refine PX_b (v := W) (by
        rw [if_neg n2, if_neg (by rw [h14.1 ⟨hlt, a⟩]; exact d01), h9 hlt]
        refine bnd_tr ((of_5 hC hT4 hlt ..).trans (if_pos ⟨a1, a2⟩)) ?_
        exact eW) (PX_b (v := G) eG (PX_b (v := (W, x')) e (PX_i hX)))
    · obtain ⟨x', e, hX⟩ := no_B (o := 100) (by decide) b hI hV hlt a
      refine PX_b (v := -5) (by rw [if_neg n2, if_pos (h14.2 a)]) (PX_b (v := 0) (if_neg (by decide)) (PX_b (v := (-5, x')) e (PX_i hX)))
  · have e82 : k = 82 := by omega
    subst e82
    obtain ⟨x', e, hX⟩ := no_A (o := 100) (by decide) b hI hV
    refine PX_b (v := -1) (if_pos ((le82 hk).2.mpr rfl)) (PX_b (v := 0) (if_neg (by decide)) (PX_b (v := (-1, x')) e (PX_i hX)))
theorem f_pass {x : XS} (hI : IX x) (hV : INV x.1) {v8 : Int32} (h8 : v8 = 0 ↔ F_Game_isOver (x.1.1 1) (x.1.2.1 0) = 0) : PX x (bnd ((if v8 = 0 then ((1 : Int32) - (x.1.1 0)) else (-5)) : Int32) (fun v_333 => (bnd (X_pass  x) (fun r_334 => (r_334.1, v_333, 0, r_334.2))))) := by
  have hV' := hV
  obtain ⟨vs, hG, hE⟩ := hV'
  have hn := p01S hG
  obtain ⟨W, eW, hT⟩ := tw_pass hn hE 0
  obtain ⟨x', e, hX⟩ := take_ok (o := 112) (Or.inr (Or.inr (Or.inr (Or.inr (Or.inr rfl))))) hI hV hT
  refine PX_b (v := W) ?_ (PX_b (v := (W, x')) e (PX_i hX))
  rw [← eW]
  by_cases a : F_Game_isOver (x.1.1 1) (x.1.2.1 0) = 0
  · rw [if_pos a, if_pos (h8.mpr a)]
  · rw [if_neg a, if_neg (fun z => a (h8.mp z))]
theorem f_snip {x : XS} (hI : IX x) (hV : INV x.1) {k : Nat} (hk : k ≤ 82) : PX x (bnd (F_TC_ifSnipped (nI k) (x.1.1 1) (x.1.2.1 0) (x.1.2.1 1) (x.1.2.1 2) (x.1.2.2 0)) (fun r_95 => (bnd ((if (0 : Int32) ≤ r_95 then (bnd ((bnd (F_TC_of (nI k) (4 : Int32) (x.1.1 1) (x.1.2.1 0) (x.1.2.1 1) (x.1.2.1 2) (x.1.2.2 0) (x.1.2.2 1) (x.1.1 2) (x.1.2.2 2) (x.1.1 10) (x.1.2.2 3)) (fun r_97 => (if ((r_97 >>> ((x.1.1 0) &&& 31)) &&& 1) = 1 then 1 else 0))) : Int32) (fun v_99 => (bnd ((bnd (F_TC_of (nI k) (4 : Int32) (x.1.1 1) (x.1.2.1 0) (x.1.2.1 1) (x.1.2.1 2) (x.1.2.2 0) (x.1.2.2 1) (x.1.1 2) (x.1.2.2 2) (x.1.1 10) (x.1.2.2 3)) (fun r_100 => (if ((r_100 >>> (((1 : Int32) - (x.1.1 0)) &&& 31)) &&& 1) = 1 then 3 else 0))) : Int32) (fun v_102 => ((r_95 + v_99) - v_102))))) else 0) : Int32) (fun v_107 => (bnd (X_snip (nI k) x) (fun r_108 => (r_108.1, r_95, v_107, r_108.2))))))) := by
  have hV' := hV
  obtain ⟨vs, hG, hE⟩ := hV'
  have hn := p01S hG
  have b : let6 115 := Or.inr (Or.inl rfl)
  rcases Nat.lt_or_ge k 82 with hlt | hge
  · obtain ⟨W, G, eW, eG, hT⟩ := tw_snip hn hG hE hlt
    obtain ⟨x', e, hX⟩ := take_ok b hI hV hT
    refine PX_b (v := W) eW (PX_b (v := G) ?_ (PX_b (v := (W, x')) e (PX_i hX)))
    rw [← eG]
    by_cases a : (0 : Int32) ≤ W
    · rw [if_pos a, if_pos a]
      have o1 := (bit_if (chbo hn (nI k) (x.1.1 2) (x.1.2.2 2) (x.1.1 10) (x.1.2.2 3))).2.1
      have o2 := (bit_if (chbr hn (nI k) (x.1.1 2) (x.1.2.2 2) (x.1.1 10) (x.1.2.2 3))).2.2
      exact bnd_tr (bnd_tr (of_4 hlt ..) o1) (bnd_tr (bnd_tr (of_4 hlt ..) o2) rfl)
    · rw [if_neg a, if_neg a]
  · have e82 : k = 82 := by omega
    subst e82
    obtain ⟨x', e, hX⟩ := no_A (o := 115) (by decide) b hI hV
    refine PX_b (v := -1) ?_ (PX_b (v := 0) (if_neg (by decide)) (PX_b (v := (-1, x')) e (PX_i hX)))
    unfold F_TC_ifSnipped
    rw [bnd_eq, show F_Cloth_isJoint (nI 82) = 0 by decide +kernel, if_pos rfl]
theorem joint_f (b : Int32) : ∃ k : Nat, k ≤ 82 ∧ F_Law_joint b = nI k := by
  obtain ⟨p, hp, ep⟩ : ∃ p : Nat, p < 3 ∧ F_Law_low (b >>> (3 &&& 31)) 3 = nI p := ⟨_, Nat.mod_lt _ (by decide), low_f (n := 3) _ (by decide)⟩
  obtain ⟨q, hq, eq⟩ : ∃ q : Nat, q < 4 ∧ F_Law_low (b >>> (6 &&& 31)) 4 = nI q := ⟨_, Nat.mod_lt _ (by decide), low_f (n := 4) _ (by decide)⟩
  obtain ⟨r, hr, er⟩ : ∃ r : Nat, r < 83 ∧ F_Law_low (b >>> (3 &&& 31)) 83 = nI r := ⟨_, Nat.mod_lt _ (by decide), low_f (n := 83) _ (by decide)⟩
  have tab : ∀ p : Fin 3, ∀ q : Fin 4, (∃ k : Fin 83, ((42 : Int32) + ((8 : Int32) * nI p.val)) + nI q.val = nI k.val) ∧ ∃ k : Fin 83, ((7 : Int32) * nI p.val) + nI q.val = nI k.val := by decide +kernel
  obtain ⟨⟨⟨k1, h1⟩, e1⟩, ⟨⟨k2, h2⟩, e2⟩⟩ := tab ⟨p, hp⟩ ⟨q, hq⟩
  unfold F_Law_joint
  rw [bnd_eq, bnd_eq, ep, eq]
  by_cases a : (b &&& 7) = 0
  · rw [if_pos a, bnd_eq, er]; exact ⟨r, by omega, rfl⟩
  · rw [if_neg a]
    by_cases c : (4 : Int32) ≤ (b &&& 7)
    · rw [if_pos c]; exact ⟨k1, by omega, e1⟩
    · rw [if_neg c]; exact ⟨k2, by omega, e2⟩
/-- what the law says of a whole turn -/
def FX (x : XS) (z : Int32 × XS) : Prop := ∃ x' W G, z = (1, x') ∧ TX W G x x'
theorem FX_b {x : XS} {α : Type} {a v : α} {f : α → Int32 × XS} (h : a = v) (k : FX x (f v)) : FX x (bnd a f) := by rw [h]; exact k
theorem FX_P {x : XS} {a : Int32 × Int32 × Int32 × XS} {f : Int32 × Int32 × Int32 × XS → Int32 × XS} (h : PX x a) (k : ∀ W G x', TX W G x x' → FX x (f (W, W, G, x'))) : FX x (bnd a f) := by
  obtain ⟨v1, W, G, x'⟩ := a
  obtain ⟨e, hX⟩ := h
  dsimp only at e hX
  subst e
  exact k _ G x' hX
theorem fin_ok {x : XS} (hn : p01 (x.1.1 0)) {r3 r4 : Int32} (h3 : r3 = F_TC_player (x.1.1 0) 0 (x.1.1 2) (x.1.1 3) (x.1.1 4) (x.1.1 5) (x.1.1 6) (x.1.1 7) (x.1.1 8) (x.1.1 9) (x.1.1 10) (x.1.1 11) (x.1.1 12) (x.1.1 13) (x.1.1 14) (x.1.1 15) (x.1.1 16) (x.1.1 17)) (h4 : r4 = F_TC_player ((1 : Int32) - x.1.1 0) 0 (x.1.1 2) (x.1.1 3) (x.1.1 4) (x.1.1 5) (x.1.1 6) (x.1.1 7) (x.1.1 8) (x.1.1 9) (x.1.1 10) (x.1.1 11) (x.1.1 12) (x.1.1 13) (x.1.1 14) (x.1.1 15) (x.1.1 16) (x.1.1 17)) {W G : Int32} {x' : XS} (hX : TX W G x x') : FX x (bnd ((if W = W then (bnd (F_TC_player (x.1.1 0) (0 : Int32) (x'.1.1 2) (x'.1.1 3) (x'.1.1 4) (x'.1.1 5) (x'.1.1 6) (x'.1.1 7) (x'.1.1 8) (x'.1.1 9) (x'.1.1 10) (x'.1.1 11) (x'.1.1 12) (x'.1.1 13) (x'.1.1 14) (x'.1.1 15) (x'.1.1 16) (x'.1.1 17)) (fun r_338 => (if r_338 = (r3 + G) then (bnd (F_TC_player ((1 : Int32) - (x.1.1 0)) (0 : Int32) (x'.1.1 2) (x'.1.1 3) (x'.1.1 4) (x'.1.1 5) (x'.1.1 6) (x'.1.1 7) (x'.1.1 8) (x'.1.1 9) (x'.1.1 10) (x'.1.1 11) (x'.1.1 12) (x'.1.1 13) (x'.1.1 14) (x'.1.1 15) (x'.1.1 16) (x'.1.1 17)) (fun r_340 => (if r_340 = r4 then (bnd (F_TC_count (0 : Int32) (x'.1.1 0) (x'.1.1 1) (x'.1.2.1 0) (x'.1.2.1 1) (x'.1.2.1 2) (x'.1.2.2 0) (x'.1.1 3) (x'.1.1 11) x'.2.2.2.2.2.1 (nI x'.2.1)) (fun r_342 => (bnd ((if (0 : Int32) ≤ W then 1 else 0) : Int32) (fun v_344 => (if r_342 = ((x.1.1 1) + v_344) then 1 else 0))))) else 0))) else 0))) else 0) : Int32) (fun v_347 => (if v_347 = 0 then (0, x') else (bnd (F_TC_count (1 : Int32) (x'.1.1 0) (x'.1.1 1) (x'.1.2.1 0) (x'.1.2.1 1) (x'.1.2.1 2) (x'.1.2.2 0) (x'.1.1 3) (x'.1.1 11) x'.2.2.2.2.2.1 (nI x'.2.1)) (fun r_349 => (bnd ((if (0 : Int32) ≤ W then ((1 : Int32) - (x.1.1 0)) else (x.1.1 0)) : Int32) (fun v_351 => (if r_349 = v_351 then (1, x') else (0, x'))))))))) := by
  have key : ∀ v : Int32 × XS, v = (1, x') → FX x v := fun v e => ⟨x', W, G, e, hX⟩
  refine key _ ?_
  obtain ⟨-, -, hc⟩ := hX
  generalize en : x.1.1 0 = nx at hn hc h3 h4 ⊢
  rcases hn with rfl | rfl
  · have e3 : r3 = x.1.1 3 + 500 := h3
    have e4 : r4 = x.1.1 11 + 500 := h4
    rcases hc with ⟨hW, rfl, ⟨s0, s1, s3, s4, -⟩, -⟩ | ⟨hW, s0, s1, sp, -, -⟩
    · have nW : ¬ (0 : Int32) ≤ W := Int32.not_le.mpr hW
      refine bnd_tr (v := 1) ?_ ?_
      · rw [if_pos rfl]
        refine bnd_tr (v := x'.1.1 3 + 500) rfl ?_
        rw [if_pos (by rw [e3, s3, Int32.add_zero])]
        refine bnd_tr (v := x'.1.1 11 + 500) rfl ?_
        rw [if_pos (by rw [e4, s4])]
        refine bnd_tr (v := x'.1.1 1) rfl (bnd_tr (v := 0) (if_neg nW) ?_)
        rw [if_pos (by rw [s1, Int32.add_zero])]
      · rw [if_neg d01]
        refine bnd_tr (v := x'.1.1 0) rfl (bnd_tr (v := 0) (if_neg nW) ?_)
        rw [if_pos (by rw [s0, en])]
    · obtain ⟨p0, p1⟩ := sp rfl
      refine bnd_tr (v := 1) ?_ ?_
      · rw [if_pos rfl]
        refine bnd_tr (v := x'.1.1 3 + 500) rfl ?_
        rw [if_pos (by rw [e3, p0, Int32.add_assoc, Int32.add_assoc, Int32.add_comm G])]
        refine bnd_tr (v := x'.1.1 11 + 500) rfl ?_
        rw [if_pos (by rw [e4, p1])]
        refine bnd_tr (v := x'.1.1 1) rfl (bnd_tr (v := 1) (if_pos hW) ?_)
        rw [if_pos s1]
      · rw [if_neg d01]
        refine bnd_tr (v := x'.1.1 0) rfl (bnd_tr (v := (1 : Int32) - 0) (if_pos hW) ?_)
        rw [if_pos s0]
  · have e3 : r3 = x.1.1 11 + 500 := h3
    have e4 : r4 = x.1.1 3 + 500 := h4
    rcases hc with ⟨hW, rfl, ⟨s0, s1, s3, s4, -⟩, -⟩ | ⟨hW, s0, s1, -, sp, -⟩
    · have nW : ¬ (0 : Int32) ≤ W := Int32.not_le.mpr hW
      refine bnd_tr (v := 1) ?_ ?_
      · rw [if_pos rfl]
        refine bnd_tr (v := x'.1.1 11 + 500) rfl ?_
        rw [if_pos (by rw [e3, s4, Int32.add_zero])]
        refine bnd_tr (v := x'.1.1 3 + 500) rfl ?_
        rw [if_pos (by rw [e4, s3])]
        refine bnd_tr (v := x'.1.1 1) rfl (bnd_tr (v := 0) (if_neg nW) ?_)
        rw [if_pos (by rw [s1, Int32.add_zero])]
      · rw [if_neg d01]
        refine bnd_tr (v := x'.1.1 0) rfl (bnd_tr (v := 1) (if_neg nW) ?_)
        rw [if_pos (by rw [s0, en])]
    · obtain ⟨p0, p1⟩ := sp rfl
      refine bnd_tr (v := 1) ?_ ?_
      · rw [if_pos rfl]
        refine bnd_tr (v := x'.1.1 11 + 500) rfl ?_
        rw [if_pos (by rw [e3, p0, Int32.add_assoc, Int32.add_assoc, Int32.add_comm G])]
        refine bnd_tr (v := x'.1.1 3 + 500) rfl ?_
        rw [if_pos (by rw [e4, p1])]
        refine bnd_tr (v := x'.1.1 1) rfl (bnd_tr (v := 1) (if_pos hW) ?_)
        rw [if_pos s1]
      · rw [if_neg d01]
        refine bnd_tr (v := x'.1.1 0) rfl (bnd_tr (v := (1 : Int32) - 1) (if_pos hW) ?_)
        rw [if_pos s0]
theorem turn_ok {x : XS} (hI : IX x) (hV : INV x.1) (a b : Int32) : FX x (X_turn a b x) := by
  have hV' := hV
  obtain ⟨vs, hG, hE⟩ := hV'
  have hn := p01S hG
  have hC : CR (x.1.2.1 0) (x.1.2.1 1) (x.1.2.1 2) (x.1.2.2 0) (x.1.2.2 1) vs := hG.1
  obtain ⟨k, hk, ek⟩ := joint_f b
  obtain ⟨c, hc, ec⟩ : ∃ c : Nat, c < 16 ∧ F_Law_low a 16 = nI c := ⟨_, Nat.mod_lt _ (by decide), low_f (n := 16) _ (by decide)⟩
  have ob : F_Game_isOver (x.1.1 1) (x.1.2.1 0) = 0 ∨ F_Game_isOver (x.1.1 1) (x.1.2.1 0) = 1 := F_Game_isOver_b ..
  unfold X_turn
  refine FX_b ek (FX_b (v := x.1.1 0) rfl (FX_b (v := F_TC_player (x.1.1 0) 0 (x.1.1 2) (x.1.1 3) (x.1.1 4) (x.1.1 5) (x.1.1 6) (x.1.1 7) (x.1.1 8) (x.1.1 9) (x.1.1 10) (x.1.1 11) (x.1.1 12) (x.1.1 13) (x.1.1 14) (x.1.1 15) (x.1.1 16) (x.1.1 17)) rfl (FX_b (v := F_TC_player ((1 : Int32) - x.1.1 0) 0 (x.1.1 2) (x.1.1 3) (x.1.1 4) (x.1.1 5) (x.1.1 6) (x.1.1 7) (x.1.1 8) (x.1.1 9) (x.1.1 10) (x.1.1 11) (x.1.1 12) (x.1.1 13) (x.1.1 14) (x.1.1 15) (x.1.1 16) (x.1.1 17)) rfl (FX_b (v := x.1.1 1) rfl ?_))))
  refine FX_b (v := F_Game_isOver (x.1.1 1) (x.1.2.1 0)) (bnd_tr (v := F_Game_isOver (x.1.1 1) (x.1.2.1 0)) (show F_TC_asNumber (F_Game_isOver (x.1.1 1) (x.1.2.1 0)) = _ from asN ob) ?_) ?_
  · rcases ob with o | o
    · rw [o, if_neg (by decide)]
    · rw [o, if_pos rfl]
  obtain ⟨r9, e9, h9⟩ : ∃ r9, F_TC_of (nI k) 0 (x.1.1 1) (x.1.2.1 0) (x.1.2.1 1) (x.1.2.1 2) (x.1.2.2 0) (x.1.2.2 1) (x.1.1 2) (x.1.2.2 2) (x.1.1 10) (x.1.2.2 3) = r9 ∧ (k < 82 → r9 = x.1.2.2 0 k) := ⟨_, rfl, fun z => of_0 z ..⟩
  refine FX_b e9 ?_
  obtain ⟨v14, e14, h14⟩ : ∃ v14 : Int32, (if F_Game_isOver (x.1.1 1) (x.1.2.1 0) = 0 then (if (82 : Int32) ≤ nI k then (0 : Int32) else bnd (F_TC_of (nI k) 1 (x.1.1 1) (x.1.2.1 0) (x.1.2.1 1) (x.1.2.1 2) (x.1.2.2 0) (x.1.2.2 1) (x.1.1 2) (x.1.2.2 2) (x.1.1 10) (x.1.2.2 3)) fun r_12 => if r_12 = 0 then (1 : Int32) else 0) else 0) = v14 ∧ V14 x k v14 := by
    by_cases o : F_Game_isOver (x.1.1 1) (x.1.2.1 0) = 0
    · rw [if_pos o]
      rcases Nat.lt_or_ge k 82 with hlt | hge
      · have n1 : ¬ (82 : Int32) ≤ nI k := fun z => by have := (le82 hk).1.mp z; omega
        rw [if_neg n1, bnd_eq, of_1 hC hlt]
        by_cases d : vd vs k
        · refine ⟨0, by rw [if_pos d, if_neg d01], fun z => ?_, fun _ => rfl⟩
          have w := z.2.2
          rw [cvoid hC hlt] at w
          exact absurd d ((mvoid hlt).mp w)
        · refine ⟨1, by rw [if_neg d, if_pos rfl], fun _ => rfl, fun z => ?_⟩
          exact absurd ⟨o, by rw [cvoid hC hlt]; exact (mvoid hlt).mpr d⟩ z
      · rw [if_pos ((le82 hk).1.mpr (by omega))]
        exact ⟨0, rfl, fun z => absurd z.1 (by omega), fun _ => rfl⟩
    · rw [if_neg o]
      exact ⟨0, rfl, fun z => absurd z.2.1 o, fun _ => rfl⟩
  refine FX_b e14 ?_
  refine FX_P ?_ (fun W G x' hX => fin_ok hn rfl rfl hX)
  refine PX_b ec ?_
  have h8 : F_Game_isOver (x.1.1 1) (x.1.2.1 0) = 0 ↔ F_Game_isOver (x.1.1 1) (x.1.2.1 0) = 0 := Iff.rfl
  have cs : c = 0 ∨ c = 1 ∨ c = 2 ∨ c = 3 ∨ c = 4 ∨ c = 5 ∨ c = 6 ∨ c = 7 ∨ c = 8 ∨ c = 9 ∨ c = 10 ∨ c = 11 ∨ c = 12 ∨ c = 13 ∨ c = 14 ∨ c = 15 := by omega
  rcases cs with rfl | rfl | rfl | rfl | rfl | rfl | rfl | rfl | rfl | rfl | rfl | rfl | rfl | rfl | rfl | rfl
  · rw [if_pos (show nI 0 = 0 from rfl)]
    exact f_chalk hI hV hk h14
  · rw [if_neg (show ¬ nI 1 = 0 by decide), if_pos (show nI 1 = 1 from rfl)]
    exact f_chalk hI hV hk h14
  · rw [if_neg (show ¬ nI 2 = 0 by decide), if_neg (show ¬ nI 2 = 1 by decide), if_pos (show nI 2 = 2 from rfl)]
    exact f_chalk hI hV hk h14
  · rw [if_neg (show ¬ nI 3 = 0 by decide), if_neg (show ¬ nI 3 = 1 by decide), if_neg (show ¬ nI 3 = 2 by decide), if_pos (show nI 3 = 3 from rfl)]
    exact f_snip hI hV hk
  · rw [if_neg (show ¬ nI 4 = 0 by decide), if_neg (show ¬ nI 4 = 1 by decide), if_neg (show ¬ nI 4 = 2 by decide), if_neg (show ¬ nI 4 = 3 by decide), if_pos (show nI 4 = 4 from rfl)]
    exact f_snip hI hV hk
  · rw [if_neg (show ¬ nI 5 = 0 by decide), if_neg (show ¬ nI 5 = 1 by decide), if_neg (show ¬ nI 5 = 2 by decide), if_neg (show ¬ nI 5 = 3 by decide), if_neg (show ¬ nI 5 = 4 by decide), if_pos (show nI 5 = 5 from rfl)]
    exact f_snip hI hV hk
  · rw [if_neg (show ¬ nI 6 = 0 by decide), if_neg (show ¬ nI 6 = 1 by decide), if_neg (show ¬ nI 6 = 2 by decide), if_neg (show ¬ nI 6 = 3 by decide), if_neg (show ¬ nI 6 = 4 by decide), if_neg (show ¬ nI 6 = 5 by decide), if_pos (show nI 6 = 6 from rfl)]
    exact f_snip hI hV hk
  · rw [if_neg (show ¬ nI 7 = 0 by decide), if_neg (show ¬ nI 7 = 1 by decide), if_neg (show ¬ nI 7 = 2 by decide), if_neg (show ¬ nI 7 = 3 by decide), if_neg (show ¬ nI 7 = 4 by decide), if_neg (show ¬ nI 7 = 5 by decide), if_neg (show ¬ nI 7 = 6 by decide), if_pos (show nI 7 = 7 from rfl)]
    exact f_snip hI hV hk
  · rw [if_neg (show ¬ nI 8 = 0 by decide), if_neg (show ¬ nI 8 = 1 by decide), if_neg (show ¬ nI 8 = 2 by decide), if_neg (show ¬ nI 8 = 3 by decide), if_neg (show ¬ nI 8 = 4 by decide), if_neg (show ¬ nI 8 = 5 by decide), if_neg (show ¬ nI 8 = 6 by decide), if_neg (show ¬ nI 8 = 7 by decide), if_pos (show nI 8 = 8 from rfl)]
    exact f_snip hI hV hk
  · rw [if_neg (show ¬ nI 9 = 0 by decide), if_neg (show ¬ nI 9 = 1 by decide), if_neg (show ¬ nI 9 = 2 by decide), if_neg (show ¬ nI 9 = 3 by decide), if_neg (show ¬ nI 9 = 4 by decide), if_neg (show ¬ nI 9 = 5 by decide), if_neg (show ¬ nI 9 = 6 by decide), if_neg (show ¬ nI 9 = 7 by decide), if_neg (show ¬ nI 9 = 8 by decide), if_pos (show nI 9 = 9 from rfl)]
    exact f_sew hI hV hk h14 h9
  · rw [if_neg (show ¬ nI 10 = 0 by decide), if_neg (show ¬ nI 10 = 1 by decide), if_neg (show ¬ nI 10 = 2 by decide), if_neg (show ¬ nI 10 = 3 by decide), if_neg (show ¬ nI 10 = 4 by decide), if_neg (show ¬ nI 10 = 5 by decide), if_neg (show ¬ nI 10 = 6 by decide), if_neg (show ¬ nI 10 = 7 by decide), if_neg (show ¬ nI 10 = 8 by decide), if_neg (show ¬ nI 10 = 9 by decide), if_pos (show nI 10 = 10 from rfl)]
    exact f_sew hI hV hk h14 h9
  · rw [if_neg (show ¬ nI 11 = 0 by decide), if_neg (show ¬ nI 11 = 1 by decide), if_neg (show ¬ nI 11 = 2 by decide), if_neg (show ¬ nI 11 = 3 by decide), if_neg (show ¬ nI 11 = 4 by decide), if_neg (show ¬ nI 11 = 5 by decide), if_neg (show ¬ nI 11 = 6 by decide), if_neg (show ¬ nI 11 = 7 by decide), if_neg (show ¬ nI 11 = 8 by decide), if_neg (show ¬ nI 11 = 9 by decide), if_neg (show ¬ nI 11 = 10 by decide), if_pos (show nI 11 = 11 from rfl)]
    exact f_bluff hI hV hk h14 h9
  · rw [if_neg (show ¬ nI 12 = 0 by decide), if_neg (show ¬ nI 12 = 1 by decide), if_neg (show ¬ nI 12 = 2 by decide), if_neg (show ¬ nI 12 = 3 by decide), if_neg (show ¬ nI 12 = 4 by decide), if_neg (show ¬ nI 12 = 5 by decide), if_neg (show ¬ nI 12 = 6 by decide), if_neg (show ¬ nI 12 = 7 by decide), if_neg (show ¬ nI 12 = 8 by decide), if_neg (show ¬ nI 12 = 9 by decide), if_neg (show ¬ nI 12 = 10 by decide), if_neg (show ¬ nI 12 = 11 by decide), if_pos (show nI 12 = 12 from rfl)]
    exact f_bluff hI hV hk h14 h9
  · rw [if_neg (show ¬ nI 13 = 0 by decide), if_neg (show ¬ nI 13 = 1 by decide), if_neg (show ¬ nI 13 = 2 by decide), if_neg (show ¬ nI 13 = 3 by decide), if_neg (show ¬ nI 13 = 4 by decide), if_neg (show ¬ nI 13 = 5 by decide), if_neg (show ¬ nI 13 = 6 by decide), if_neg (show ¬ nI 13 = 7 by decide), if_neg (show ¬ nI 13 = 8 by decide), if_neg (show ¬ nI 13 = 9 by decide), if_neg (show ¬ nI 13 = 10 by decide), if_neg (show ¬ nI 13 = 11 by decide), if_neg (show ¬ nI 13 = 12 by decide), if_pos (show nI 13 = 13 from rfl)]
    exact f_doubt hI hV hk h14 h9
  · rw [if_neg (show ¬ nI 14 = 0 by decide), if_neg (show ¬ nI 14 = 1 by decide), if_neg (show ¬ nI 14 = 2 by decide), if_neg (show ¬ nI 14 = 3 by decide), if_neg (show ¬ nI 14 = 4 by decide), if_neg (show ¬ nI 14 = 5 by decide), if_neg (show ¬ nI 14 = 6 by decide), if_neg (show ¬ nI 14 = 7 by decide), if_neg (show ¬ nI 14 = 8 by decide), if_neg (show ¬ nI 14 = 9 by decide), if_neg (show ¬ nI 14 = 10 by decide), if_neg (show ¬ nI 14 = 11 by decide), if_neg (show ¬ nI 14 = 12 by decide), if_neg (show ¬ nI 14 = 13 by decide), if_pos (show nI 14 = 14 from rfl)]
    exact f_doubt hI hV hk h14 h9
  · rw [if_neg (show ¬ nI 15 = 0 by decide), if_neg (show ¬ nI 15 = 1 by decide), if_neg (show ¬ nI 15 = 2 by decide), if_neg (show ¬ nI 15 = 3 by decide), if_neg (show ¬ nI 15 = 4 by decide), if_neg (show ¬ nI 15 = 5 by decide), if_neg (show ¬ nI 15 = 6 by decide), if_neg (show ¬ nI 15 = 7 by decide), if_neg (show ¬ nI 15 = 8 by decide), if_neg (show ¬ nI 15 = 9 by decide), if_neg (show ¬ nI 15 = 10 by decide), if_neg (show ¬ nI 15 = 11 by decide), if_neg (show ¬ nI 15 = 12 by decide), if_neg (show ¬ nI 15 = 13 by decide), if_neg (show ¬ nI 15 = 14 by decide)]
    exact f_pass hI hV h8
