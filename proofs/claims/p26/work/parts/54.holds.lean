-- what the law asks of the answers, in one go
theorem bnd_P {α β : Type} {x : α} {f : α → β} {w : β} (P : α → Prop) (h : P x) (k : ∀ q, P q → f q = w) : bnd x f = w := k x h
theorem bnd_p {α β : Type} {x : Int32 × α} {f : Int32 × α → β} {w : β} (h : x.1 = 1) (k : ∀ z, f (1, z) = w) : bnd x f = w := by
  obtain ⟨a, b⟩ := x
  dsimp only at h
  subst h
  exact k b
theorem bnd_tr1 {α β : Type} {x v : α} {f : α → Int32 × β} {w : Int32} (h : x = v) (k : (f v).1 = w) : (bnd x f).1 = w := by rw [h]; exact k
theorem bnd_P1 {α β : Type} {x : α} {f : α → Int32 × β} {w : Int32} (P : α → Prop) (h : P x) (k : ∀ q, P q → (f q).1 = w) : (bnd x f).1 = w := k x h
theorem cntB_mono {f g : Nat → Bool} : ∀ {n : Nat}, (∀ i, i < n → f i = true → g i = true) → cntB f n ≤ cntB g n
  | 0, _ => Nat.le_refl _
  | n + 1, h => by
    have r := cntB_mono (f := f) (g := g) (n := n) (fun i hi => h i (by omega))
    have q : (f n).toNat ≤ (g n).toNat := by
      cases e : f n with
      | false => exact Nat.zero_le _
      | true => rw [h n (by omega) e]; exact Nat.le_refl _
    show cntB f n + (f n).toNat ≤ cntB g n + (g n).toNat
    omega
theorem nI_n1 {j : Nat} (hj : j < 82) : nI j ≠ -1 := fun e => by
  have a := congrArg Int32.toInt e
  rw [nI_toInt (by omega)] at a
  have b : (-1 : Int32).toInt = -1 := rfl
  omega
theorem GE_m {ab : Int32} {vs : Nat → Int32} {a d : Int64} (h : GE (-6) ab vs a d) : GE (-1) ab vs a d := by
  have up : ∀ j, j < 82 → act (-6) ab vs j → act (-1) ab vs j := fun j hj q => ⟨nI_n1 hj, q.2⟩
  refine ⟨fun j hj q => h.1 j hj ⟨nI_n6 hj, q.2⟩, fun c hc => ?_, fun c hc => ?_⟩
  · obtain ⟨j, a1, a2, a3⟩ := h.2.1 c hc
    exact ⟨j, a1, a2, up j (by omega) a3⟩
  · obtain ⟨j, a0, a1, a2, a3⟩ := h.2.2 c hc
    exact ⟨j, a0, a1, a2, up j a1 a3⟩
-- cells
theorem cell_2 {gn ac dn : Int64} {fs fm vs : Nat → Int32} (vlb : Nat → Int32) (h : CR gn ac dn fs fm vs) {c : Nat} (hc : c < 48) : F_TC_cell (nI c) 2 gn ac dn = F_Model_layPieces (-6) 0 vs vlb c := by
  have t := c_tab ⟨c, hc⟩
  dsimp only at t
  have e : F_TC_cell (nI c) 2 gn ac dn = if F_Cloth_isCell (nI c) = 0 then (-1) else F_Cloth_lowestOfPiece (nI c) gn ac dn := rfl
  rw [e, t.1, if_neg d01, ccell2 vlb h hc, mpieceOf, nI_clamp (by omega)]
  by_cases g : F_Model_isGone (nI c) vs = 0
  · rw [if_pos g, if_neg (by decide)]
  · rw [if_neg g, if_neg (by decide)]
    have gg : vs (164 + c) = 1 := Classical.byContradiction fun z => g ((mgone hc).mpr z)
    exact (((lay_lab (-6) 0 vs vlb).2 c hc).1 gg).symm
theorem cell_1 {c : Nat} (hc : c < 48) (gn ac dn : Int64) : F_TC_cell (nI c) 1 gn ac dn = F_Long_bitCount (F_Cloth_pieceOf (nI c) gn ac dn) := by
  have t := c_tab ⟨c, hc⟩
  dsimp only at t
  have e : F_TC_cell (nI c) 1 gn ac dn = if F_Cloth_isCell (nI c) = 0 then (-1) else F_Long_bitCount (F_Cloth_pieceOf (nI c) gn ac dn) := rfl
  rw [e, t.1, if_neg d01]
theorem cell_1g {gn ac dn : Int64} {fs fm vs : Nat → Int32} (h : CR gn ac dn fs fm vs) {c : Nat} (hc : c < 48) (g : vs (164 + c) = 1) : F_TC_cell (nI c) 1 gn ac dn = 0 := by
  rw [cell_1 hc, cpieceOf, cgone h hc, if_neg (fun z => (mgone hc).mp z g), bc_0]
theorem cell_1n {gn ac dn : Int64} {fs fm vs : Nat → Int32} (h : CR gn ac dn fs fm vs) {c : Nat} (hc : c < 48) (g : ¬ vs (164 + c) = 1) : F_TC_cell (nI c) 1 gn ac dn = F_Long_bitCount (F_Cloth_spread (nI c) ac dn) := by
  rw [cell_1 hc, cpieceOf, cgone h hc, if_pos ((mgone hc).mpr g)]
theorem cell_3g {gn ac dn : Int64} {fs fm vs : Nat → Int32} (h : CR gn ac dn fs fm vs) {c : Nat} (hc : c < 48) (g : vs (164 + c) = 1) : F_TC_cell (nI c) 3 gn ac dn = 0 := by
  have t := c_tab ⟨c, hc⟩
  dsimp only at t
  have e : F_TC_cell (nI c) 3 gn ac dn = if F_Cloth_isCell (nI c) = 0 then (-1) else (F_Cloth_holdsOn_L4 (nI c) ac dn 83 0 0).2 := rfl
  rw [e, t.1, if_neg d01]
  have go : ∀ (n k : Nat) (x : Int32), k ≤ 82 → (F_Cloth_holdsOn_L4 (nI c) ac dn n (nI k) x).2 = x := by
    intro n
    induction n with
    | zero => intro k x hk; rfl
    | succ n ih =>
      intro k x hk
      rw [F_Cloth_holdsOn_L4]
      by_cases cc : (82 : Int32) ≤ nI k
      · rw [if_pos cc]
      · have hlt : k < 82 := lp_lt rfl rfl hk cc
        have tt := j_tab ⟨k, hlt⟩
        dsimp only at tt
        have lF := jF_lt hlt
        have lS := jS_lt hlt
        rw [if_neg cc, bnd_eq, cholds h hlt, nI_1]
        by_cases d : F_Model_holds (nI k) vs = 0
        · rw [if_pos d]
          exact ih (k + 1) x (by omega)
        · have hh : hold vs k := (holdsN hlt).mp d
          have n1 : ¬ nI (jF k) = nI c := fun e => hh.1 (Or.inl (by rw [(nI_eq (by omega) (by omega)).mp e]; exact g))
          have n2 : ¬ nI (jS k) = nI c := fun e => hh.1 (Or.inr (by rw [(nI_eq (by omega) (by omega)).mp e]; exact g))
          rw [if_neg d, bnd_eq, tt.1, if_neg n1, bnd_eq, tt.2.1, if_neg n2]
          exact ih (k + 1) x (by omega)
  exact go 83 0 0 (by omega)
theorem spr_n {gn ac dn : Int64} {fs fm vs : Nat → Int32} (h : CR gn ac dn fs fm vs) {c : Nat} (hc : c < 48) : ¬ F_Long_bitCount (F_Cloth_spread (nI c) ac dn) ≤ 0 := by
  obtain ⟨d, b, -⟩ := sp_all hc (GE_EB (GE_0 h))
  rw [bitCount_48 d]
  have := cntB_pos (f := b6 (F_Cloth_spread (nI c) ac dn)) hc b
  have := cntB_le (b6 (F_Cloth_spread (nI c) ac dn)) 48
  exact nI_nle (by omega) (by omega)
theorem has_v (p : Int64) {b : Nat} (hb : b < 64) : F_TC_asNumber (F_Cloth_has p (nI b)) = if b6 p b = true then 1 else 0 := by
  rw [asN (has_01 _ _)]
  by_cases q : b6 p b = true
  · rw [if_pos q]
    exact (has_01 _ _).resolve_left (fun z => absurd q (not_true_false.mp ((has_0 hb).mp z)))
  · rw [if_neg q]
    exact (has_0 hb).mpr (not_true_false.mpr q)
theorem tog_0 {gn ac dn : Int64} {fs fm vs : Nat → Int32} (h : CR gn ac dn fs fm vs) {a b : Nat} (ha : a < 48) (hb : b < 48) (ga : ¬ vs (164 + a) = 1) : F_TC_together (nI a) (nI b) 0 gn ac dn fs = if vs (164 + b) = 1 then -5 else if b6 (F_Cloth_spread (nI a) ac dn) b = true then 1 else 0 := by
  have ta := (c_tab ⟨a, ha⟩).1
  have tb := (c_tab ⟨b, hb⟩).1
  dsimp only at ta tb
  have e : F_TC_together (nI a) (nI b) 0 gn ac dn fs = if F_Cloth_isCell (nI a) = 0 then (-1) else if F_Cloth_isCell (nI b) = 0 then (-1) else if F_Cloth_isGone (nI a) gn = 0 then (if F_Cloth_isGone (nI b) gn = 0 then F_TC_asNumber (F_Cloth_has (F_Cloth_pieceOf (nI a) gn ac dn) (nI b)) else (-5)) else (-5) := rfl
  have za : F_Cloth_isGone (nI a) gn = 0 := by rw [cgone h ha]; exact (mgone ha).mpr ga
  rw [e, if_neg (by rw [ta]; exact d01), if_neg (by rw [tb]; exact d01), if_pos za, cpieceOf, if_pos za, has_v _ (by omega), cgone h hb]
  by_cases g : vs (164 + b) = 1
  · rw [if_neg (fun z => (mgone hb).mp z g), if_pos g]
  · rw [if_pos ((mgone hb).mpr g), if_neg g]
theorem tog_1 {gn ac dn : Int64} {fs fm vs : Nat → Int32} (h : CR gn ac dn fs fm vs) {a b : Nat} (ha : a < 48) (hb : b < 48) (ga : ¬ vs (164 + a) = 1) : F_TC_together (nI a) (nI b) 1 gn ac dn fs = if vs (164 + b) = 1 then -5 else if b6 (F_Cloth_pieceIfBluffedHeld (nI a) gn ac dn fs) b = true then 1 else 0 := by
  have ta := (c_tab ⟨a, ha⟩).1
  have tb := (c_tab ⟨b, hb⟩).1
  dsimp only at ta tb
  have e : F_TC_together (nI a) (nI b) 1 gn ac dn fs = if F_Cloth_isCell (nI a) = 0 then (-1) else if F_Cloth_isCell (nI b) = 0 then (-1) else if F_Cloth_isGone (nI a) gn = 0 then (if F_Cloth_isGone (nI b) gn = 0 then F_TC_asNumber (F_Cloth_has (F_Cloth_pieceIfBluffedHeld (nI a) gn ac dn fs) (nI b)) else (-5)) else (-5) := rfl
  have za : F_Cloth_isGone (nI a) gn = 0 := by rw [cgone h ha]; exact (mgone ha).mpr ga
  rw [e, if_neg (by rw [ta]; exact d01), if_neg (by rw [tb]; exact d01), if_pos za, has_v _ (by omega), cgone h hb]
  by_cases g : vs (164 + b) = 1
  · rw [if_neg (fun z => (mgone hb).mp z g), if_pos g]
  · rw [if_pos ((mgone hb).mpr g), if_neg g]
/-- held bluffs make pieces greater -/
theorem spr_le {vs : Nat → Int32} {ac dn a1 d1 : Int64} (h0 : GE (-6) 0 vs ac dn) (h1 : GE (-6) 1 vs a1 d1) {a : Nat} (ha : a < 48) (ga : ¬ vs (164 + a) = 1) : ¬ F_Long_bitCount (F_Cloth_spread (nI a) a1 d1) < F_Long_bitCount (F_Cloth_spread (nI a) ac dn) := by
  obtain ⟨w1, -⟩ := lay_lab (-6) 1 vs (fun _ => 0)
  have w0 : cpt (-6) 0 vs (F_Model_layPieces (-6) 1 vs (fun _ => 0)) := fun j hj q => w1 j hj ⟨q.1, q.2.elim Or.inl (fun z => absurd rfl z.1)⟩
  obtain ⟨s1, s2⟩ := GE_w h0 w0
  have c1 := conn (vlb := fun _ => 0) h1 ha ga
  have c0 := (conn (vlb := fun _ => 0) h0 ha ga).1
  rw [bitCount_48 c0, bitCount_48 c1.1]
  refine nI_nlt (cntB_mono (fun c hc hb => (c1.2 c hc).mpr (sp_sound ha s1 s2 c hb))) ?_
  have := cntB_le (b6 (F_Cloth_spread (nI a) a1 d1)) 48
  omega
-- loops
theorem l47_go {nx : Int32} {tn : Int32} {gn : Int64} {ac : Int64} {dn : Int64} {fs : Nat → Int32} {fm : Nat → Int32} {mks0 : Int32} {pts0 : Int32} {ths0 : Int32} {rgs0 : Int32} {rgc0 : Int32} {fnd0 : Int32} {rdb0 : Int32} {wdb0 : Int32} {fma0 : Nat → Int32} {mks1 : Int32} {pts1 : Int32} {ths1 : Int32} {rgs1 : Int32} {rgc1 : Int32} {fnd1 : Int32} {rdb1 : Int32} {wdb1 : Int32} {fma1 : Nat → Int32} {vs : Nat → Int32} (h : GRk 0 nx tn gn ac dn fs fm mks0 pts0 ths0 rgs0 rgc0 fnd0 rdb0 wdb0 fma0 mks1 pts1 ths1 rgs1 rgc1 fnd1 rdb1 wdb1 fma1 vs) (hE : EXk gn fs fm mks0 fma0 ths0 rgs0 rgc0 mks1 fma1 ths1 rgs1 rgc1 vs) (x ln hk : Int32) : ∀ (n k : Nat) (w : Nat → Int32), k ≤ 82 → (F_Law_holds_L47 x nx tn gn ac dn fs fm mks0 pts0 ths0 rgs0 rgc0 fnd0 rdb0 wdb0 fma0 mks1 pts1 ths1 rgs1 rgc1 fnd1 rdb1 wdb1 fma1 ln hk n (nI k) 1 w).2.1 = 1 ∧ ∀ s, s < 4 → (F_Law_holds_L47 x nx tn gn ac dn fs fm mks0 pts0 ths0 rgs0 rgc0 fnd0 rdb0 wdb0 fma0 mks1 pts1 ths1 rgs1 rgc1 fnd1 rdb1 wdb1 fma1 ln hk n (nI k) 1 w).2.2 s = (F_Cloth_jointsThatAre_L4 (nI s) gn fs n (nI k) (w s)).2 := by
  intro n
  induction n with
  | zero => intro k w hk; exact ⟨rfl, fun s hs => rfl⟩
  | succ n ih =>
    intro k w hk'
    by_cases c : (82 : Int32) ≤ nI k
    · rw [F_Law_holds_L47, if_pos c]
      refine ⟨rfl, fun s hs => ?_⟩
      rw [F_Cloth_jointsThatAre_L4, if_pos c]
    · have hlt : k < 82 := lp_lt rfl rfl hk' c
      obtain ⟨m, hm, em⟩ : ∃ m : Nat, m < 4 ∧ fs k = nI m := by
        rcases hE.1 k hlt with e | e | e | e
        · exact ⟨0, by omega, e⟩
        · exact ⟨1, by omega, e⟩
        · exact ⟨2, by omega, e⟩
        · exact ⟨3, by omega, e⟩
      have hs : F_Law_holds_L47 x nx tn gn ac dn fs fm mks0 pts0 ths0 rgs0 rgc0 fnd0 rdb0 wdb0 fma0 mks1 pts1 ths1 rgs1 rgc1 fnd1 rdb1 wdb1 fma1 ln hk (n + 1) (nI k) 1 w = F_Law_holds_L47 x nx tn gn ac dn fs fm mks0 pts0 ths0 rgs0 rgc0 fnd0 rdb0 wdb0 fma0 mks1 pts1 ths1 rgs1 rgc1 fnd1 rdb1 wdb1 fma1 ln hk n (nI (k + 1)) 1 (upd w m (w m + (if vd vs k then (0 : Int32) else 1))) := by
        rw [F_Law_holds_L47, if_neg c, if_neg d01]
        refine bnd_tr (isJoint_ok h hE ln hk hlt) (bnd_tr ((of_0 hlt ..).trans em) (bnd_tr (v := if vd vs k then (0 : Int32) else 1) (bnd_tr (of_1 h.1 hlt ..) ?_) ?_))
        · by_cases a : vd vs k
          · rw [if_pos a, if_pos a, if_neg d01]
          · rw [if_neg a, if_neg a, if_pos rfl]
        · rw [nI_clamp (by omega), nI_1]
      have hj : ∀ s, s < 4 → F_Cloth_jointsThatAre_L4 (nI s) gn fs (n + 1) (nI k) (w s) = F_Cloth_jointsThatAre_L4 (nI s) gn fs n (nI (k + 1)) (upd w m (w m + (if vd vs k then (0 : Int32) else 1)) s) := by
        intro s hs
        rw [F_Cloth_jointsThatAre_L4, if_neg c, nI_clamp (by omega), em, nI_1]
        by_cases e : s = m
        · rw [if_pos (by rw [e]), e, pk_us, bnd_eq, cvoid h.1 hlt]
          by_cases a : vd vs k
          · rw [if_neg (fun z => (mvoid hlt).mp z a), if_pos a, Int32.add_zero]
          · rw [if_pos ((mvoid hlt).mpr a), if_neg a]
        · rw [if_neg (fun z => e ((nI_eq (by omega) (by omega)).mp z).symm), pk_un e]
      obtain ⟨r1, r2⟩ := ih (k + 1) (upd w m (w m + (if vd vs k then (0 : Int32) else 1))) (by omega)
      rw [hs]
      exact ⟨r1, fun s q => by rw [hj s q]; exact r2 s q⟩
theorem l105_go {nx : Int32} {tn : Int32} {gn : Int64} {ac : Int64} {dn : Int64} {fs : Nat → Int32} {fm : Nat → Int32} {mks0 : Int32} {pts0 : Int32} {ths0 : Int32} {rgs0 : Int32} {rgc0 : Int32} {fnd0 : Int32} {rdb0 : Int32} {wdb0 : Int32} {fma0 : Nat → Int32} {mks1 : Int32} {pts1 : Int32} {ths1 : Int32} {rgs1 : Int32} {rgc1 : Int32} {fnd1 : Int32} {rdb1 : Int32} {wdb1 : Int32} {fma1 : Nat → Int32} {vs : Nat → Int32} (vlb : Nat → Int32) (h : GRk 0 nx tn gn ac dn fs fm mks0 pts0 ths0 rgs0 rgc0 fnd0 rdb0 wdb0 fma0 mks1 pts1 ths1 rgs1 rgc1 fnd1 rdb1 wdb1 fma1 vs) (x ln hk : Int32) : ∀ (n k : Nat) (a b : Int32), k ≤ 48 → (F_Law_holds_L105 x nx tn gn ac dn fs fm mks0 pts0 ths0 rgs0 rgc0 fnd0 rdb0 wdb0 fma0 mks1 pts1 ths1 rgs1 rgc1 fnd1 rdb1 wdb1 fma1 ln hk n (nI k) 1 a b).2.1 = 1 ∧ (F_Law_holds_L105 x nx tn gn ac dn fs fm mks0 pts0 ths0 rgs0 rgc0 fnd0 rdb0 wdb0 fma0 mks1 pts1 ths1 rgs1 rgc1 fnd1 rdb1 wdb1 fma1 ln hk n (nI k) 1 a b).2.2.1 = (F_Model_pieces_L11 vs vlb n (nI k) a (F_Model_layPieces (-6) 0 vs vlb)).2.1 ∧ (F_Law_holds_L105 x nx tn gn ac dn fs fm mks0 pts0 ths0 rgs0 rgc0 fnd0 rdb0 wdb0 fma0 mks1 pts1 ths1 rgs1 rgc1 fnd1 rdb1 wdb1 fma1 ln hk n (nI k) 1 a b).2.2.2 = (F_Model_left_L4 vs n (nI k) b).2 := by
  intro n
  induction n with
  | zero => intro k a b hk; exact ⟨rfl, rfl, rfl⟩
  | succ n ih =>
    intro k a b hk'
    by_cases c : (48 : Int32) ≤ nI k
    · rw [F_Law_holds_L105, if_pos c]
      exact ⟨rfl, by rw [F_Model_pieces_L11, if_pos c], by rw [F_Model_left_L4, if_pos c]⟩
    · have hlt : k < 48 := lp_lt rfl rfl hk' c
      have hL := (lay_lab (-6) 0 vs vlb)
      have p11 : F_Model_pieces_L11 vs vlb (n + 1) (nI k) a (F_Model_layPieces (-6) 0 vs vlb) = F_Model_pieces_L11 vs vlb n (nI (k + 1)) (a + (if F_Model_layPieces (-6) 0 vs vlb k = nI k then (1 : Int32) else 0)) (F_Model_layPieces (-6) 0 vs vlb) := by
        rw [F_Model_pieces_L11, if_neg c, nI_clamp (by omega), nI_1]
        by_cases e : F_Model_layPieces (-6) 0 vs vlb k = nI k
        · rw [if_pos e, if_pos e]
        · rw [if_neg e, if_neg e]
      have p4 : F_Model_left_L4 vs (n + 1) (nI k) b = F_Model_left_L4 vs n (nI (k + 1)) (b + (if vs (164 + k) = 1 then (0 : Int32) else 1)) := by
        rw [F_Model_left_L4, if_neg c, bnd_eq, nI_1]
        by_cases g : vs (164 + k) = 1
        · rw [if_neg (fun z => (mgone hlt).mp z g), if_pos g]
        · rw [if_pos ((mgone hlt).mpr g), if_neg g]
      have c2 := cell_2 (gn := gn) (ac := ac) (dn := dn) vlb h.1 hlt
      have hs : F_Law_holds_L105 x nx tn gn ac dn fs fm mks0 pts0 ths0 rgs0 rgc0 fnd0 rdb0 wdb0 fma0 mks1 pts1 ths1 rgs1 rgc1 fnd1 rdb1 wdb1 fma1 ln hk (n + 1) (nI k) 1 a b = F_Law_holds_L105 x nx tn gn ac dn fs fm mks0 pts0 ths0 rgs0 rgc0 fnd0 rdb0 wdb0 fma0 mks1 pts1 ths1 rgs1 rgc1 fnd1 rdb1 wdb1 fma1 ln hk n (nI (k + 1)) 1 (a + (if F_Model_layPieces (-6) 0 vs vlb k = nI k then (1 : Int32) else 0)) (b + (if vs (164 + k) = 1 then (0 : Int32) else 1)) := by
        rw [F_Law_holds_L105, if_neg c, if_neg d01]
        refine bnd_tr (v := if vs (164 + k) = 1 then (1 : Int32) else 0) (bnd_tr (cell_0 h.1 hlt) ?_) (bnd_tr (v := if vs (164 + k) = 1 then (0 : Int32) else 1) ?_ (bnd_tr (v := if F_Model_layPieces (-6) 0 vs vlb k = nI k then (1 : Int32) else 0) (bnd_tr c2 rfl) (bnd_tr (v := 1) ?_ ?_)))
        · by_cases g : vs (164 + k) = 1
          · rw [if_pos g, if_pos rfl]
          · rw [if_neg g, if_neg (by decide)]
        · by_cases g : vs (164 + k) = 1
          · rw [if_pos g, if_pos g, if_neg d01]
          · rw [if_neg g, if_neg g, if_pos rfl]
        · by_cases g : vs (164 + k) = 1
          · rw [if_pos g, if_neg d01]
            refine bnd_tr (cell_1g h.1 hlt g) ?_
            rw [if_pos rfl]
            refine bnd_tr (c2.trans ((hL.2 k hlt).1 g)) ?_
            rw [if_pos rfl]
            refine bnd_tr (cell_3g h.1 hlt g) ?_
            rw [if_pos rfl]
          · obtain ⟨m, hm, em, gm, hf⟩ := (hL.2 k hlt).2 g
            have e2 := c2.trans em
            have m2 : F_TC_cell (nI m) 2 gn ac dn = nI m := (cell_2 vlb h.1 (by omega)).trans ((hf _ hL.1).trans em)
            rw [if_neg g, if_pos rfl]
            refine bnd_tr (cell_1n h.1 hlt g) ?_
            rw [if_neg (spr_n h.1 hlt)]
            refine bnd_tr e2 ?_
            rw [if_neg (nI_nlt hm (by omega))]
            refine bnd_tr e2 (bnd_tr m2 (bnd_tr e2 ?_))
            rw [if_pos rfl]
        · rw [nI_1]
      rw [hs, p11, p4]
      exact ih (k + 1) _ _ (by omega)
-- chalk
theorem mk_in {i M : Nat} (hi : i < M) (hM : M ≤ 8) (f : Nat → Int32) : F_Tailor_markAt (nI i) (nI M) f = f i := by
  unfold F_Tailor_markAt
  rw [if_neg (nI_pos (by omega)), if_neg (nI_ge hi (by omega)), nI_clamp (by omega)]
theorem mk_out {M : Nat} (hM : M ≤ 8) (f : Nat → Int32) : F_Tailor_markAt (nI M) (nI M) f = -1 := by
  unfold F_Tailor_markAt
  rw [if_neg (nI_pos (by omega)), if_pos (nI_le (Nat.le_refl _) (by omega))]
theorem bitq_0 {j mks0 mks1 : Int32} {fma0 fma1 : Nat → Int32} (h : ¬ F_Tailor_hasMark j mks0 fma0 = 0) : ((F_Game_chalkersOf j mks0 fma0 mks1 fma1 >>> ((0 : Int32) &&& 31)) &&& 1) = 1 := by
  rw [chal_f, if_neg h]
  split <;> decide
theorem bitq_1 {j mks0 mks1 : Int32} {fma0 fma1 : Nat → Int32} (h : ¬ F_Tailor_hasMark j mks1 fma1 = 0) : ((F_Game_chalkersOf j mks0 fma0 mks1 fma1 >>> ((1 : Int32) &&& 31)) &&& 1) = 1 := by
  rw [chal_f, if_neg h, if_neg h]
  split <;> decide
/-- what is asked of one player's chalk -/
def CQ (p mks0 mks1 : Int32) (fma0 fma1 : Nat → Int32) (M : Nat) : Prop := M ≤ 8 ∧ F_TC_chalked p (nI M) mks0 fma0 mks1 fma1 = -1 ∧ ∀ i, i < M → ∃ j, j < 82 ∧ F_TC_chalked p (nI i) mks0 fma0 mks1 fma1 = nI j ∧ ((F_Game_chalkersOf (nI j) mks0 fma0 mks1 fma1 >>> (p &&& 31)) &&& 1) = 1
theorem CQ_0 {mks0 mks1 : Int32} {fma0 fma1 vs : Nat → Int32} {M : Nat} (h : MS 0 mks0 fma0 vs M) : CQ 0 mks0 mks1 fma0 fma1 M := by
  obtain ⟨e, -, ⟨hM, hj, -⟩, -⟩ := h
  have ec : ∀ r, F_TC_chalked 0 r mks0 fma0 mks1 fma1 = F_Tailor_markAt r mks0 fma0 := fun r => rfl
  refine ⟨hM, by rw [ec, e]; exact mk_out hM _, fun i hi => ?_⟩
  obtain ⟨j, a, b⟩ := hj i hi
  refine ⟨j, a, by rw [ec, e, mk_in hi hM]; exact b, bitq_0 (fun z => ?_)⟩
  rw [e] at z
  exact (hm_0 _ hM _).2.mp z i hi b
theorem CQ_1 {mks0 mks1 : Int32} {fma0 fma1 vs : Nat → Int32} {M : Nat} (h : MS 1 mks1 fma1 vs M) : CQ 1 mks0 mks1 fma0 fma1 M := by
  obtain ⟨e, -, ⟨hM, hj, -⟩, -⟩ := h
  have ec : ∀ r, F_TC_chalked 1 r mks0 fma0 mks1 fma1 = F_Tailor_markAt r mks1 fma1 := fun r => rfl
  refine ⟨hM, by rw [ec, e]; exact mk_out hM _, fun i hi => ?_⟩
  obtain ⟨j, a, b⟩ := hj i hi
  refine ⟨j, a, by rw [ec, e, mk_in hi hM]; exact b, bitq_1 (fun z => ?_)⟩
  rw [e] at z
  exact (hm_0 _ hM _).2.mp z i hi b
theorem l448_go {nx : Int32} {tn : Int32} {gn : Int64} {ac : Int64} {dn : Int64} {fs : Nat → Int32} {fm : Nat → Int32} {mks0 : Int32} {pts0 : Int32} {ths0 : Int32} {rgs0 : Int32} {rgc0 : Int32} {fnd0 : Int32} {rdb0 : Int32} {wdb0 : Int32} {fma0 : Nat → Int32} {mks1 : Int32} {pts1 : Int32} {ths1 : Int32} {rgs1 : Int32} {rgc1 : Int32} {fnd1 : Int32} {rdb1 : Int32} {wdb1 : Int32} {fma1 : Nat → Int32} (x ln hk p : Int32) {M : Nat} (hC : CQ p mks0 mks1 fma0 fma1 M) (hp : F_TC_player p 2 mks0 pts0 ths0 rgs0 rgc0 fnd0 rdb0 wdb0 mks1 pts1 ths1 rgs1 rgc1 fnd1 rdb1 wdb1 = nI M) : ∀ (n k : Nat), k ≤ M → (F_Law_holds_L448 x nx tn gn ac dn fs fm mks0 pts0 ths0 rgs0 rgc0 fnd0 rdb0 wdb0 fma0 mks1 pts1 ths1 rgs1 rgc1 fnd1 rdb1 wdb1 fma1 ln hk p n (nI k) 1).2 = 1 := by
  intro n
  induction n with
  | zero => intro k hk; rfl
  | succ n ih =>
    intro k hk'
    have hM := hC.1
    have e : F_Law_holds_L448 x nx tn gn ac dn fs fm mks0 pts0 ths0 rgs0 rgc0 fnd0 rdb0 wdb0 fma0 mks1 pts1 ths1 rgs1 rgc1 fnd1 rdb1 wdb1 fma1 ln hk p (n + 1) (nI k) 1 = if nI M ≤ nI k then (nI k, 1) else F_Law_holds_L448 x nx tn gn ac dn fs fm mks0 pts0 ths0 rgs0 rgc0 fnd0 rdb0 wdb0 fma0 mks1 pts1 ths1 rgs1 rgc1 fnd1 rdb1 wdb1 fma1 ln hk p n (nI (k + 1)) 1 := by
      rw [F_Law_holds_L448]
      refine bnd_tr hp ?_
      by_cases c : nI M ≤ nI k
      · rw [if_pos c, if_pos c]
      · have hlt : k < M := Nat.lt_of_not_le fun z => c (nI_le z (by omega))
        obtain ⟨j, hj, ej, hb⟩ := hC.2.2 k hlt
        rw [if_neg c, if_neg c, if_neg d01]
        refine bnd_tr (v := 1) (bnd_tr ej (bnd_tr (of_4 hj ..) ?_)) ?_
        · rw [if_pos hb]
        · rw [nI_1]
    rw [e]
    by_cases c : nI M ≤ nI k
    · rw [if_pos c]
    · rw [if_neg c]
      exact ih (k + 1) (Nat.lt_of_not_le fun z => c (nI_le z (by omega)))
theorem l434_st {nx : Int32} {tn : Int32} {gn : Int64} {ac : Int64} {dn : Int64} {fs : Nat → Int32} {fm : Nat → Int32} {mks0 : Int32} {pts0 : Int32} {ths0 : Int32} {rgs0 : Int32} {rgc0 : Int32} {fnd0 : Int32} {rdb0 : Int32} {wdb0 : Int32} {fma0 : Nat → Int32} {mks1 : Int32} {pts1 : Int32} {ths1 : Int32} {rgs1 : Int32} {rgc1 : Int32} {fnd1 : Int32} {rdb1 : Int32} {wdb1 : Int32} {fma1 : Nat → Int32} (x ln hk p : Int32) {M a b : Nat} (hC : CQ p mks0 mks1 fma0 fma1 M) (hp : F_TC_player p 2 mks0 pts0 ths0 rgs0 rgc0 fnd0 rdb0 wdb0 mks1 pts1 ths1 rgs1 rgc1 fnd1 rdb1 wdb1 = nI M) (h4 : F_TC_player p 4 mks0 pts0 ths0 rgs0 rgc0 fnd0 rdb0 wdb0 mks1 pts1 ths1 rgs1 rgc1 fnd1 rdb1 wdb1 = nI a) (h3 : F_TC_player p 3 mks0 pts0 ths0 rgs0 rgc0 fnd0 rdb0 wdb0 mks1 pts1 ths1 rgs1 rgc1 fnd1 rdb1 wdb1 = nI b) (hab : b ≤ a) (ha : a ≤ 48) (c : ¬ (2 : Int32) ≤ p) (n : Nat) : F_Law_holds_L434 x nx tn gn ac dn fs fm mks0 pts0 ths0 rgs0 rgc0 fnd0 rdb0 wdb0 fma0 mks1 pts1 ths1 rgs1 rgc1 fnd1 rdb1 wdb1 fma1 ln hk (n + 1) p 1 = F_Law_holds_L434 x nx tn gn ac dn fs fm mks0 pts0 ths0 rgs0 rgc0 fnd0 rdb0 wdb0 fma0 mks1 pts1 ths1 rgs1 rgc1 fnd1 rdb1 wdb1 fma1 ln hk n (p + 1) 1 := by
  have hM := hC.1
  rw [F_Law_holds_L434, if_neg c, if_neg d01]
  refine bnd_P (fun q => q.2 = 1) (by have r := l448_go (tn := tn) (nx := nx) (gn := gn) (ac := ac) (dn := dn) (fs := fs) (fm := fm) x ln hk p hC hp 9 0 (Nat.zero_le _); rw [nI_0] at r; exact r) ?_
  intro q hq
  refine bnd_tr (v := 1) ?_ rfl
  rw [hq, if_neg d01]
  refine bnd_tr hp (bnd_tr hC.2.1 ?_)
  rw [if_pos rfl]
  refine bnd_tr hp ?_
  rw [if_neg (show ¬ (8 : Int32) < nI M from nI_nlt (a := 8) hM (by omega))]
  refine bnd_tr h4 (bnd_tr h3 ?_)
  rw [if_neg (nI_nlt hab (by omega))]
set_option maxHeartbeats 4000000 in
theorem holds_ok {nx : Int32} {tn : Int32} {gn : Int64} {ac : Int64} {dn : Int64} {fs : Nat → Int32} {fm : Nat → Int32} {mks0 : Int32} {pts0 : Int32} {ths0 : Int32} {rgs0 : Int32} {rgc0 : Int32} {fnd0 : Int32} {rdb0 : Int32} {wdb0 : Int32} {fma0 : Nat → Int32} {mks1 : Int32} {pts1 : Int32} {ths1 : Int32} {rgs1 : Int32} {rgc1 : Int32} {fnd1 : Int32} {rdb1 : Int32} {wdb1 : Int32} {fma1 : Nat → Int32} {vs : Nat → Int32} (h : GRk 0 nx tn gn ac dn fs fm mks0 pts0 ths0 rgs0 rgc0 fnd0 rdb0 wdb0 fma0 mks1 pts1 ths1 rgs1 rgc1 fnd1 rdb1 wdb1 fma1 vs) (hE : EXk gn fs fm mks0 fma0 ths0 rgs0 rgc0 mks1 fma1 ths1 rgs1 rgc1 vs) (x ln hk : Int32) : F_Law_holds x nx tn gn ac dn fs fm mks0 pts0 ths0 rgs0 rgc0 fnd0 rdb0 wdb0 fma0 mks1 pts1 ths1 rgs1 rgc1 fnd1 rdb1 wdb1 fma1 ln hk = 1 := by
  obtain ⟨-, -, -, -, -, -, a0, a1, b0, b1, ea0, ea1, eb0, eb1, l0, l1, hsum⟩ := id hE
  obtain ⟨ep0, -, -, -, -, -, -, M0, hM0⟩ := h.2.2.2.2.1
  obtain ⟨ep1, -, -, -, -, -, -, M1, hM1⟩ := h.2.2.2.2.2.1
  have hle := cntB_le (b6 gn) 48
  have t1 : (1 : Int32).toNatClampNeg = 1 := by decide
  have t2 : (2 : Int32).toNatClampNeg = 2 := by decide
  have t3 : (3 : Int32).toNatClampNeg = 3 := by decide
  unfold F_Law_holds
  refine bnd_tr (v := 1) (bnd_tr (v := -1) ?_ ?_) ?_
  · unfold F_TC_of
    rw [bnd_eq, show F_Cloth_isJoint 82 = 0 by decide, if_pos rfl]
  · rw [if_pos rfl]
    refine bnd_tr (v := -1) ?_ (if_pos rfl)
    unfold F_TC_cell
    rw [bnd_eq, show F_Cloth_isCell 48 = 0 by decide, if_pos rfl]
  refine bnd_P (fun q => q.2.1 = 1 ∧ q.2.2 1 = F_Cloth_jointsThatAre 1 gn fs ∧ q.2.2 2 = F_Cloth_jointsThatAre 2 gn fs ∧ q.2.2 3 = F_Cloth_jointsThatAre 3 gn fs) ?_ ?_
  · have r := l47_go h hE x ln hk 83 0 (fun _ => 0) (by omega)
    rw [nI_0] at r
    exact ⟨r.1, r.2 1 (by omega), r.2 2 (by omega), r.2 3 (by omega)⟩
  intro q8 hq8
  obtain ⟨h8, m1, m2, m3⟩ := hq8
  rw [h8]
  refine bnd_P (fun q => q.2.1 = 1 ∧ q.2.2.1 = (F_Model_pieces vs (fun _ => 0)).1 ∧ q.2.2.2 = F_Model_left vs) ?_ ?_
  · have r := l105_go (fun _ => 0) h x ln hk 49 0 0 0 (by omega)
    rw [nI_0] at r
    have ep : (F_Model_pieces vs (fun _ => 0)).1 = (F_Model_pieces_L11 vs (fun _ => 0) 49 0 0 (F_Model_layPieces (-6) 0 vs (fun _ => 0))).2.1 := by
      unfold F_Model_pieces
      rw [bnd_eq, bnd_eq]
    have el : F_Model_left vs = (F_Model_left_L4 vs 49 0 0).2 := by
      unfold F_Model_left
      rw [bnd_eq]
    exact ⟨r.1, r.2.1.trans ep.symm, r.2.2.trans el.symm⟩
  intro q9 hq9
  obtain ⟨h9, hp, hl⟩ := hq9
  rw [h9, hp, hl]
  obtain ⟨a, ha, ea⟩ : ∃ a : Nat, a < 48 ∧ F_Law_low x 48 = nI a := ⟨_, Nat.mod_lt _ (by decide), low_f (n := 48) x (by decide)⟩
  obtain ⟨b, hb, eb⟩ : ∃ b : Nat, b < 48 ∧ F_Law_low (x >>> (6 &&& 31)) 48 = nI b := ⟨_, Nat.mod_lt _ (by decide), low_f (n := 48) _ (by decide)⟩
  refine bnd_tr ea (bnd_tr eb ?_)
  refine bnd_p ?_ ?_
  · rw [if_neg d01]
    refine bnd_tr1 (cell_0 h.1 ha) ?_
    by_cases ga : vs (164 + a) = 1
    · rw [if_pos ga, if_neg d01]
    · rw [if_neg ga, if_pos rfl]
      have g0 := GE_0 h.1
      have g1 := GE_1 (nI a) h.1
      rw [nI_0] at g1
      have e1 : F_Cloth_pieceIfBluffedHeld (nI a) gn ac dn fs = F_Cloth_spread (nI a) (F_Cloth_pieceIfBluffedHeld_L14 (nI a) gn ac dn fs 83 0 dn ac).2.2 (F_Cloth_pieceIfBluffedHeld_L14 (nI a) gn ac dn fs 83 0 dn ac).2.1 := rfl
      have fin : ∀ (p : Int64) (w : Nat → Int32), w b = (if b6 p b = true then (1 : Int32) else 0) → (bnd (if vs (164 + b) = 1 then (-5 : Int32) else if b6 p b = true then 1 else 0) fun r_18 => bnd (F_TC_cell (nI b) 0 gn ac dn) fun r_19 => if r_19 = 1 then (if r_18 = (-5) then (1 : Int32) else 0) else (if r_18 = w (nI b).toNatClampNeg then 1 else 0)) = 1 := by
        intro p w hw
        rw [bnd_eq]
        refine bnd_tr (cell_0 h.1 hb) ?_
        by_cases gb : vs (164 + b) = 1
        · rw [if_pos gb, if_pos gb, if_pos rfl, if_pos rfl]
        · rw [if_neg gb, if_neg gb, if_neg (by decide), nI_clamp (by omega), hw, if_pos rfl]
      refine bnd_tr1 (cell_1n h.1 ha ga) ?_
      refine bnd_P1 (fun q => q.1 = F_Long_bitCount (F_Cloth_spread (nI a) ac dn) ∧ ∀ c, c < 48 → q.2 c = if b6 (F_Cloth_spread (nI a) ac dn) c = true then 1 else 0) (piece_ok h.1 tn mks0 mks1 fma0 fma1 (fun _ => 0) ha ga (GE_m g0)) ?_
      intro q hq
      refine bnd_tr1 (v := 1) ?_ ?_
      · rw [hq.1, if_pos rfl]
        refine bnd_tr (tog_0 h.1 ha hb ga) ?_
        exact fin _ q.2 (hq.2 b hb)
      refine bnd_P1 (fun q => q.1 = F_Long_bitCount (F_Cloth_pieceIfBluffedHeld (nI a) gn ac dn fs) ∧ ∀ c, c < 48 → q.2 c = if b6 (F_Cloth_pieceIfBluffedHeld (nI a) gn ac dn fs) c = true then 1 else 0) (by rw [e1]; exact piece_ok h.1 tn mks0 mks1 fma0 fma1 q.2 ha ga (GE_m g1)) ?_
      intro q2 hq2
      refine bnd_tr1 (v := 1) ?_ rfl
      rw [if_neg d01]
      refine bnd_tr (cell_1n h.1 ha ga) ?_
      rw [hq2.1, if_neg (by rw [e1]; exact spr_le g0 g1 ha ga)]
      refine bnd_tr (tog_1 h.1 ha hb ga) ?_
      exact fin _ q2.2 (hq2.2 b hb)
  intro z
  refine bnd_P (fun q => q.2 = 1) ?_ ?_
  · have s0 := l434_st (mks1 := mks1) (fma1 := fma1) (tn := tn) (nx := nx) (gn := gn) (ac := ac) (dn := dn) (fs := fs) (fm := fm) (pts0 := pts0) (ths0 := ths0) (fnd0 := fnd0) (rdb0 := rdb0) (wdb0 := wdb0) (pts1 := pts1) (ths1 := ths1) (fnd1 := fnd1) (rdb1 := rdb1) (wdb1 := wdb1) (rgs1 := rgs1) (rgc1 := rgc1) x ln hk 0 (CQ_0 hM0) hM0.1 ea0 eb0 l0 (by omega) (by decide) 2
    have s1 := l434_st (mks0 := mks0) (fma0 := fma0) (tn := tn) (nx := nx) (gn := gn) (ac := ac) (dn := dn) (fs := fs) (fm := fm) (pts0 := pts0) (ths0 := ths0) (fnd0 := fnd0) (rdb0 := rdb0) (wdb0 := wdb0) (pts1 := pts1) (ths1 := ths1) (fnd1 := fnd1) (rdb1 := rdb1) (wdb1 := wdb1) (rgs0 := rgs0) (rgc0 := rgc0) x ln hk 1 (CQ_1 hM1) hM1.1 ea1 eb1 l1 (by omega) (by decide) 1
    show (F_Law_holds_L434 x nx tn gn ac dn fs fm mks0 pts0 ths0 rgs0 rgc0 fnd0 rdb0 wdb0 fma0 mks1 pts1 ths1 rgs1 rgc1 fnd1 rdb1 wdb1 fma1 ln hk (2 + 1) 0 1).2 = 1
    rw [s0]
    show (F_Law_holds_L434 x nx tn gn ac dn fs fm mks0 pts0 ths0 rgs0 rgc0 fnd0 rdb0 wdb0 fma0 mks1 pts1 ths1 rgs1 rgc1 fnd1 rdb1 wdb1 fma1 ln hk (1 + 1) 1 1).2 = 1
    rw [s1, F_Law_holds_L434, if_pos (by decide)]
  intro q49 h49
  have ob : F_Game_isOver tn gn = 0 ∨ F_Game_isOver tn gn = 1 := by
    have eo : F_Game_isOver tn gn = if (200 : Int32) ≤ tn then 1 else if (13 : Int32) ≤ F_Cloth_cellsLeft gn then 0 else 1 := rfl
    rw [eo]
    split
    · exact Or.inr rfl
    · split
      · exact Or.inl rfl
      · exact Or.inr rfl
  refine bnd_tr (v := F_Game_isOver tn gn) ?_ ?_
  · have eo : F_Game_isOver tn gn = if (200 : Int32) ≤ tn then 1 else if (13 : Int32) ≤ F_Cloth_cellsLeft gn then 0 else 1 := rfl
    rw [eo, cleft h.1]
    by_cases c : F_Model_left vs < 13
    · rw [if_pos c, if_neg (Int32.not_le.mpr c)]
      split <;> rfl
    · rw [if_neg c, if_pos (Int32.not_lt.mp c)]
      refine bnd_tr (v := tn) rfl ?_
      by_cases d : tn < 200
      · rw [if_pos d, if_neg (Int32.not_le.mpr d)]
      · rw [if_neg d, if_pos (Int32.not_lt.mp d)]
  refine bnd_tr (v := pts0 + 500) rfl (bnd_tr (v := pts1 + 500) rfl ?_)
  refine bnd_tr (v := 1) ?_ ?_
  · rw [h49, if_neg d01]
    refine bnd_tr (v := F_Model_left vs) (show F_Cloth_cellsLeft gn = _ from cleft h.1) ?_
    rw [if_pos rfl]
    refine bnd_tr (v := rgc0) rfl (bnd_tr (v := rgc1) rfl ?_)
    have el : F_Model_left vs = 48 - rgc0 - rgc1 := by
      have n1 := cnt_not (fun c => decide (vs (164 + c) = 1)) 48
      have n2 : cntB (b6 gn) 48 = cntB (fun c => decide (vs (164 + c) = 1)) 48 := cntB_eq (fun i hi => by
        rw [Bool.eq_iff_iff, h.1.1 i hi, decide_eq_true_iff])
      rw [left_n, ea0, ea1]
      have e48 : (48 : Int32) = nI (cntB (fun c => !decide (vs (164 + c) = 1)) 48) + nI a1 + nI a0 := by
        rw [nI_add, nI_add, show cntB (fun c => !decide (vs (164 + c) = 1)) 48 + a1 + a0 = 48 by omega]
        decide
      rw [e48, Int32.add_sub_cancel, Int32.add_sub_cancel]
    rw [if_pos el]
    refine bnd_tr (v := (F_Model_pieces vs (fun _ => 0)).1) (show F_Cloth_pieces gn ac dn = _ from cpieces _ h.1) ?_
    rw [if_pos rfl]
    refine bnd_tr (v := F_Cloth_jointsThatAre 1 gn fs) rfl ?_
    rw [t1, m1, if_pos rfl]
    refine bnd_tr (v := F_Cloth_jointsThatAre 2 gn fs) rfl ?_
    rw [t2, m2, if_pos rfl]
    refine bnd_tr (v := F_Cloth_jointsThatAre 3 gn fs) rfl ?_
    rw [t3, m3, if_pos rfl]
    refine bnd_tr (v := F_Game_isOver tn gn) (show F_TC_asNumber (F_Game_isOver tn gn) = _ from asN ob) (bnd_tr (v := F_Game_isOver tn gn) ?_ ?_)
    · rcases ob with o | o
      · rw [o, if_pos rfl]
      · rw [o, if_neg d01]
    rw [if_pos rfl]
    refine bnd_tr (v := F_Game_winner tn gn pts0 pts1) rfl (bnd_tr (v := F_Game_winner tn gn pts0 pts1) ?_ (if_pos rfl))
    have ew : F_Model_winner vs = if F_Model_isOver vs = 0 then (-6) else if vs 212 - vs 228 ≤ 0 then (if (0 : Int32) ≤ vs 212 - vs 228 then 2 else 1) else 0 := rfl
    have e0 : pts0 = vs 212 := ep0
    have e1 : pts1 = vs 228 := ep1
    have es : pts0 + 500 - (pts1 + 500) = vs 212 - vs 228 := by
      rw [e0, e1]
      apply (Int32.add_left_inj (vs 228 + 500)).mp
      rw [Int32.sub_add_cancel, ← Int32.add_assoc, Int32.sub_add_cancel]
    rw [q_winner (vlb := fun _ => 0) h, cover h.1 h.2.2.1, ew, es]
  rw [if_neg d01, bnd_eq, isBest_ok h x ln hk z, if_neg d01]
