-- pieces: the object's spreading, the reference's labels
theorem lgeq {x y : Int64} : lg_cmp x y = 0 ↔ x = y := by
  constructor
  · intro h
    by_cases h1 : y < x
    · simp [lg_cmp, h1] at h
    · by_cases h2 : x = y
      · exact h2
      · simp [lg_cmp, h1, h2] at h
  · intro h
    subst h
    simp [lg_cmp]
def stp (across down p : Int64) : Int64 := (p ||| (((p &&& across) <<< ((1 : Int32).toInt64 &&& 63)) ||| ((p.toUInt64 >>> ((1 : Int32).toInt64.toUInt64 &&& Int64.toUInt64 63)).toInt64 &&& across))) ||| (((p &&& down) <<< ((8 : Int32).toInt64 &&& 63)) ||| ((p.toUInt64 >>> ((8 : Int32).toInt64.toUInt64 &&& Int64.toUInt64 63)).toInt64 &&& down))
theorem sp_eq (cell : Int32) (across down : Int64) (n : Nat) (x7 : Int32) (x5 : Int64) : F_Cloth_spread_L8 cell across down (n + 1) x7 x5 = if (48 : Int32) ≤ x7 then x5 else if lg_cmp (stp across down x5) x5 = 0 then x5 else F_Cloth_spread_L8 cell across down n (x7 + 1) (stp across down x5) := by
  rw [F_Cloth_spread_L8]; rfl
theorem stp_b (across down p : Int64) (i : Nat) : b6 (stp across down p) i = ((b6 p i || ((decide (i < 64) && !decide (i < 1) && (b6 p (i - 1) && b6 across (i - 1))) || (b6 p (1 + i) && b6 across i))) || ((decide (i < 64) && !decide (i < 8) && (b6 p (i - 8) && b6 down (i - 8))) || (b6 p (8 + i) && b6 down i))) := by
  unfold stp
  rw [b6_or, b6_or, b6_or, b6_or, b6_shl1, b6_shl8, b6_and, b6_and, b6_and, b6_and, b6_shr1, b6_shr8]
/-- joints lie inside the cloth -/
def EB (across down : Int64) : Prop := (∀ c, b6 across c = true → c + 1 < 48) ∧ (∀ c, b6 down c = true → c + 8 < 48)
def Dm (p : Int64) : Prop := ∀ c, 48 ≤ c → b6 p c = false
theorem stp_Dm {across down p : Int64} (h : EB across down) (hp : Dm p) : Dm (stp across down p) := by
  intro i hi
  rw [not_true_false, stp_b]
  simp only [Bool.or_eq_true, Bool.and_eq_true, decide_eq_true_eq, Bool.not_eq_true', decide_eq_false_iff_not]
  rintro ((z | (⟨-, z1, z2⟩ | ⟨z1, z2⟩)) | (⟨-, z1, z2⟩ | ⟨z1, z2⟩))
  · rw [hp i hi] at z; exact Bool.false_ne_true z
  · have := h.1 _ z2; omega
  · have := h.1 _ z2; omega
  · have := h.2 _ z2; omega
  · have := h.2 _ z2; omega
theorem stp_sup (across down p : Int64) {i : Nat} (h : b6 p i = true) : b6 (stp across down p) i = true := by
  rw [stp_b, h]; simp
theorem b6_ext {x y : Int64} (h : ∀ i, b6 x i = b6 y i) : x = y := by
  apply Int64.toBitVec.inj
  apply BitVec.eq_of_getLsbD_eq
  intro i _
  exact h i
theorem cntB_lt {f g : Nat → Bool} (hfg : ∀ i, f i = true → g i = true) : ∀ {n i : Nat}, i < n → f i = false → g i = true → cntB f n < cntB g n
  | 0, i, hi, _, _ => absurd hi (Nat.not_lt_zero _)
  | n + 1, i, hi, h1, h2 => by
    have mono : ∀ m, cntB f m ≤ cntB g m := fun m => by
      induction m with
      | zero => exact Nat.le_refl _
      | succ m ih =>
        have : (f m).toNat ≤ (g m).toNat := by
          cases hf : f m
          · exact Nat.zero_le _
          · rw [hfg m hf]; exact Nat.le_refl _
        show cntB f m + (f m).toNat ≤ cntB g m + (g m).toNat
        omega
    show cntB f n + (f n).toNat < cntB g n + (g n).toNat
    by_cases e : i = n
    · subst e
      have := mono i
      rw [h1, h2]
      show cntB f i + 0 < cntB g i + 1
      omega
    · have h3 := cntB_lt hfg (n := n) (i := i) (by omega) h1 h2
      have : (f n).toNat ≤ (g n).toNat := by
        cases hf : f n
        · exact Nat.zero_le _
        · rw [hfg n hf]; exact Nat.le_refl _
      omega
theorem cntB_pos {f : Nat → Bool} : ∀ {n i : Nat}, i < n → f i = true → 1 ≤ cntB f n
  | 0, i, hi, _ => absurd hi (Nat.not_lt_zero _)
  | n + 1, i, hi, h => by
    show 1 ≤ cntB f n + (f n).toNat
    by_cases e : i = n
    · subst e; rw [h]; show 1 ≤ cntB f i + 1; omega
    · have := cntB_pos (f := f) (n := n) (i := i) (by omega) h; omega
theorem sp_fix {cell : Int32} {across down : Int64} (he : EB across down) : ∀ (n k : Nat) (p : Int64), k ≤ 48 → 48 - k < n → Dm p → k + 1 ≤ cntB (b6 p) 48 → Dm (F_Cloth_spread_L8 cell across down n (nI k) p) ∧ (∀ i, b6 p i = true → b6 (F_Cloth_spread_L8 cell across down n (nI k) p) i = true) ∧ stp across down (F_Cloth_spread_L8 cell across down n (nI k) p) = F_Cloth_spread_L8 cell across down n (nI k) p := by
  intro n
  induction n with
  | zero => intro k p hk hn; exact absurd hn (Nat.not_lt_zero _)
  | succ n ih =>
    intro k p hk hn hd hc
    rw [sp_eq]
    have hle := cntB_le (b6 p) 48
    by_cases c : (48 : Int32) ≤ nI k
    · have h9 : 48 ≤ k := (nI_leI (by decide) (by omega)).mp c
      omega
    · have hlt : k < 48 := lp_lt rfl rfl hk c
      rw [if_neg c]
      by_cases e : lg_cmp (stp across down p) p = 0
      · rw [if_pos e]
        exact ⟨hd, fun i h => h, lgeq.mp e⟩
      · rw [if_neg e, nI_1]
        have hne : ∃ i, i < 48 ∧ b6 p i = false ∧ b6 (stp across down p) i = true := by
          refine Decidable.byContradiction fun hno => e (lgeq.mpr (b6_ext fun i => ?_))
          by_cases hi : i < 48
          · cases hp : b6 p i
            · cases hs : b6 (stp across down p) i
              · rfl
              · exact absurd ⟨i, hi, hp, hs⟩ hno
            · rw [stp_sup across down p hp]
          · rw [hd i (by omega), stp_Dm he hd i (by omega)]
        obtain ⟨i, hi, h1, h2⟩ := hne
        have hlt2 := cntB_lt (f := b6 p) (g := b6 (stp across down p)) (fun i h => stp_sup across down p h) hi h1 h2
        obtain ⟨g1, g2, g3⟩ := ih (k + 1) (stp across down p) (by omega) (by omega) (stp_Dm he hd) (by omega)
        exact ⟨g1, fun i h => g2 i (stp_sup across down p h), g3⟩
/-- a piece: it has its cell, lies in the cloth, and no joint leads out of it -/
theorem sp_all {a : Nat} (ha : a < 48) {across down : Int64} (he : EB across down) : Dm (F_Cloth_spread (nI a) across down) ∧ b6 (F_Cloth_spread (nI a) across down) a = true ∧ (∀ c, b6 across c = true → b6 (F_Cloth_spread (nI a) across down) c = b6 (F_Cloth_spread (nI a) across down) (c + 1)) ∧ (∀ c, b6 down c = true → b6 (F_Cloth_spread (nI a) across down) c = b6 (F_Cloth_spread (nI a) across down) (c + 8)) := by
  have e0 : F_Cloth_spread (nI a) across down = F_Cloth_spread_L8 (nI a) across down 49 (nI 0) ((1 : Int64) <<< ((nI a).toInt64 &&& 63)) := by rw [nI_0]; rfl
  have hb : ∀ i, b6 ((1 : Int64) <<< ((nI a).toInt64 &&& 63)) i = decide (i = a) := b6_one (by omega)
  have hD : Dm ((1 : Int64) <<< ((nI a).toInt64 &&& 63)) := fun i hi => by rw [hb i]; exact decide_eq_false (by omega)
  obtain ⟨g1, g2, g3⟩ := sp_fix (cell := nI a) he 49 0 _ (by omega) (by omega) hD (cntB_pos ha (by rw [hb a]; exact decide_eq_true rfl))
  rw [e0]
  generalize F_Cloth_spread_L8 (nI a) across down 49 (nI 0) ((1 : Int64) <<< ((nI a).toInt64 &&& 63)) = r at g1 g2 g3
  refine ⟨g1, g2 a (by rw [hb a]; exact decide_eq_true rfl), fun c hc => ?_, fun c hc => ?_⟩
  · have hc48 := he.1 c hc
    have s1 := stp_b across down r c
    have s2 := stp_b across down r (c + 1)
    rw [g3] at s1 s2
    rw [show c + 1 - 1 = c by omega] at s2
    cases h1 : b6 r c
    · cases h2 : b6 r (c + 1)
      · rfl
      · rw [h1, show 1 + c = c + 1 by omega, h2, hc] at s1
        simp at s1
    · cases h2 : b6 r (c + 1)
      · have d1 : decide (c + 1 < 64) = true := decide_eq_true (by omega)
        have d2 : decide (c + 1 < 1) = false := decide_eq_false (by omega)
        rw [h1, h2, hc, d1, d2] at s2
        simp at s2
      · rfl
  · have hc48 := he.2 c hc
    have s1 := stp_b across down r c
    have s2 := stp_b across down r (c + 8)
    rw [g3] at s1 s2
    rw [show c + 8 - 8 = c by omega] at s2
    cases h1 : b6 r c
    · cases h2 : b6 r (c + 8)
      · rfl
      · rw [h1, show 8 + c = c + 8 by omega, h2, hc] at s1
        simp at s1
    · cases h2 : b6 r (c + 8)
      · have d1 : decide (c + 8 < 64) = true := decide_eq_true (by omega)
        have d2 : decide (c + 8 < 8) = false := decide_eq_false (by omega)
        rw [h1, h2, hc, d1, d2] at s2
        simp at s2
      · rfl
theorem sp_sound {a : Nat} (ha : a < 48) {across down : Int64} {w : Nat → Int32} (h1 : ∀ c, b6 across c = true → w c = w (c + 1)) (h2 : ∀ c, b6 down c = true → w c = w (c + 8)) : ∀ c, b6 (F_Cloth_spread (nI a) across down) c = true → w c = w a := by
  intro c hc
  refine spread_go (cell := nI a) (v := w a) h1 h2 49 0 ((1 : Int64) <<< ((nI a).toInt64 &&& 63)) (fun i hi => ?_) c hc
  rw [b6_one (by omega)] at hi
  rw [of_decide_eq_true hi]
-- labels
/-- what can be told along joints -/
def cpt (but ab : Int32) (vs f : Nat → Int32) : Prop := ∀ j, j < 82 → act but ab vs j → f (jF j) = f (jS j)
def LI (but ab : Int32) (vs w : Nat → Int32) : Prop := ∀ c, c < 48 → (vs (164 + c) = 1 → w c = -6) ∧ (¬ vs (164 + c) = 1 → ∃ m : Nat, m ≤ c ∧ w c = nI m ∧ ¬ vs (164 + m) = 1 ∧ ∀ f : Nat → Int32, cpt but ab vs f → f m = f c)
theorem act_nv {but ab : Int32} {vs : Nat → Int32} {j : Nat} (hj : j < 82) (h : act but ab vs j) : ¬ vd vs j := by
  obtain ⟨-, h | ⟨-, h, -⟩⟩ := h
  · have := fun z => h ((mholds hj).mpr z)
    have hh : hold vs j := Classical.byContradiction this
    exact hh.1
  · exact (mvoid hj).mp h
theorem LI_1 {but ab : Int32} {vs w : Nat → Int32} {j : Nat} (hj : j < 82) (ha : act but ab vs j) (h : LI but ab vs w) (le : w (jS j) ≤ w (jF j)) : LI but ab vs (upd (upd w (jF j) (w (jS j))) (jS j) (upd w (jF j) (w (jS j)) (jF j))) := by
  have t := j_tab ⟨j, hj⟩
  dsimp only at t
  have hF := t.2.2.2.2.2.1
  have hS := t.2.2.2.2.2.2.1
  have nv := act_nv hj ha
  have gF : ¬ vs (164 + jF j) = 1 := fun z => nv (Or.inl z)
  have gS : ¬ vs (164 + jS j) = 1 := fun z => nv (Or.inr z)
  obtain ⟨m1, l1, e1, n1, f1⟩ := (h _ hF).2 gF
  obtain ⟨m2, l2, e2, n2, f2⟩ := (h _ hS).2 gS
  have hm : m2 ≤ m1 := by
    rw [e1, e2] at le
    exact (nI_leI (by omega) (by omega)).mp le
  rw [pk_us]
  intro c hc
  by_cases a : c = jS j
  · subst a
    rw [pk_us]
    exact ⟨fun z => absurd z gS, fun _ => ⟨m2, l2, e2, n2, f2⟩⟩
  · rw [pk_un a]
    by_cases b : c = jF j
    · subst b
      rw [pk_us]
      exact ⟨fun z => absurd z gF, fun _ => ⟨m2, by omega, e2, n2, fun f hf => by rw [f2 f hf, hf j hj ha]⟩⟩
    · rw [pk_un b]
      exact h c hc
theorem LI_2 {but ab : Int32} {vs w : Nat → Int32} {j : Nat} (hj : j < 82) (ha : act but ab vs j) (h : LI but ab vs w) (le : ¬ w (jS j) ≤ w (jF j)) : LI but ab vs (upd (upd w (jF j) (w (jF j))) (jS j) (upd w (jF j) (w (jF j)) (jF j))) := by
  have t := j_tab ⟨j, hj⟩
  dsimp only at t
  have hF := t.2.2.2.2.2.1
  have hS := t.2.2.2.2.2.2.1
  have nv := act_nv hj ha
  have gF : ¬ vs (164 + jF j) = 1 := fun z => nv (Or.inl z)
  have gS : ¬ vs (164 + jS j) = 1 := fun z => nv (Or.inr z)
  obtain ⟨m1, l1, e1, n1, f1⟩ := (h _ hF).2 gF
  obtain ⟨m2, l2, e2, n2, f2⟩ := (h _ hS).2 gS
  have hm : m1 ≤ m2 := by
    rw [e1, e2] at le
    have : ¬ m2 ≤ m1 := fun z => le ((nI_leI (by omega) (by omega)).mpr z)
    omega
  rw [pk_us]
  intro c hc
  by_cases a : c = jS j
  · subst a
    rw [pk_us]
    exact ⟨fun z => absurd z gS, fun _ => ⟨m1, by omega, e1, n1, fun f hf => by rw [f1 f hf, hf j hj ha]⟩⟩
  · rw [pk_un a]
    by_cases b : c = jF j
    · subst b
      rw [pk_us]
      exact ⟨fun z => absurd z gF, fun _ => ⟨m1, l1, e1, n1, f1⟩⟩
    · rw [pk_un b]
      exact h c hc
theorem tF {j : Nat} (hj : j < 82) : (F_Model_first (nI j)).toNatClampNeg = jF j := by
  have t := j_tab ⟨j, hj⟩
  dsimp only at t
  rw [t.2.2.1, nI_clamp (by omega)]
theorem tS {j : Nat} (hj : j < 82) : (F_Model_second (nI j)).toNatClampNeg = jS j := by
  have t := j_tab ⟨j, hj⟩
  dsimp only at t
  rw [t.2.2.2.1, nI_clamp (by omega)]
/-- the labels behind: the same along joints, each the lowest that can be reached -/
theorem lay_lab (but ab : Int32) (vs vlb : Nat → Int32) : cpt but ab vs (F_Model_layPieces but ab vs vlb) ∧ LI but ab vs (F_Model_layPieces but ab vs vlb) := by
  have h0 : ∀ j, j < 48 → (F_Model_layPieces_L2 but ab vs vlb 49 0 vlb).2 j = if F_Model_isGone (nI j) vs = 0 then nI j else -6 := fun j hj => by
    rw [show (0 : Int32) = nI 0 from nI_0.symm]
    exact lay1_val but ab vs vlb 49 0 vlb (by omega) (by omega) (fun i hi => absurd hi (Nat.not_lt_zero _)) j hj
  have hLB : LB (F_Model_layPieces_L2 but ab vs vlb 49 0 vlb).2 := lay1_LB
  have hLI : LI but ab vs (F_Model_layPieces_L2 but ab vs vlb 49 0 vlb).2 := fun c hc => by
    rw [h0 c hc]
    by_cases g : F_Model_isGone (nI c) vs = 0
    · rw [if_pos g]
      have g2 := (mgone hc).mp g
      exact ⟨fun z => absurd z g2, fun _ => ⟨c, Nat.le_refl _, rfl, g2, fun _ _ => rfl⟩⟩
    · rw [if_neg g]
      exact ⟨fun _ => rfl, fun z => absurd ((mgone hc).mpr z) g⟩
  have e : F_Model_layPieces but ab vs vlb = (F_Model_layPieces_L36 but ab vs vlb 2700 1 (F_Model_layPieces_L2 but ab vs vlb 49 0 vlb).2).2.1 := rfl
  rw [e]
  generalize (F_Model_layPieces_L2 but ab vs vlb 49 0 vlb).2 = w0 at hLB hLI ⊢
  obtain ⟨-, h2⟩ := lay_go2 but ab vs vlb 2700 w0 hLB (by have := ms_le 48 w0 (by omega) hLB; omega)
  refine ⟨fun j hj ha => ?_, ?_⟩
  · have := h2 j hj ha
    rwa [tF hj, tS hj] at this
  · refine lay_inv2 but ab vs vlb (LI but ab vs) (fun w hw => ?_) 2700 1 w0 hLI
    rw [show (F_Model_layPieces_L45 but ab vs vlb 83 0 0 w) = F_Model_layPieces_L45 but ab vs vlb 83 (nI 0) 0 w by rw [nI_0]]
    refine lay_inv but ab vs vlb (LI but ab vs) (fun j w hj ha hw _ le => ?_) (fun j w hj ha hw _ le => ?_) 83 0 0 w (by omega) (by omega) hw
    · rw [tF hj, tS hj] at le ⊢
      exact LI_1 hj ha hw le
    · rw [tF hj, tS hj] at le ⊢
      exact LI_2 hj ha hw le
/-- the object's joints are those along which labels go -/
def GE (but ab : Int32) (vs : Nat → Int32) (across down : Int64) : Prop :=
  (∀ j, j < 82 → act but ab vs j → (j < 42 → b6 across (jF j) = true) ∧ (42 ≤ j → b6 down (jF j) = true)) ∧ (∀ c, b6 across c = true → ∃ j, j < 42 ∧ jF j = c ∧ act but ab vs j) ∧ (∀ c, b6 down c = true → ∃ j, 42 ≤ j ∧ j < 82 ∧ jF j = c ∧ act but ab vs j)
theorem GE_EB {but ab : Int32} {vs : Nat → Int32} {across down : Int64} (h : GE but ab vs across down) : EB across down := by
  refine ⟨fun c hc => ?_, fun c hc => ?_⟩
  · obtain ⟨j, hj, rfl, -⟩ := h.2.1 c hc
    have t := (j_tab ⟨j, by omega⟩).2.2.2.2.2.2.1
    dsimp only at t
    rwa [jS_of, if_pos hj] at t
  · obtain ⟨j, hj1, hj, rfl, -⟩ := h.2.2 c hc
    have t := (j_tab ⟨j, hj⟩).2.2.2.2.2.2.1
    dsimp only at t
    rwa [jS_of, if_neg (by omega)] at t
theorem GE_w {but ab : Int32} {vs w : Nat → Int32} {across down : Int64} (h : GE but ab vs across down) (hw : cpt but ab vs w) : (∀ c, b6 across c = true → w c = w (c + 1)) ∧ (∀ c, b6 down c = true → w c = w (c + 8)) := by
  refine ⟨fun c hc => ?_, fun c hc => ?_⟩
  · obtain ⟨j, hj, rfl, ha⟩ := h.2.1 c hc
    have := hw j (by omega) ha
    rwa [jS_of, if_pos hj] at this
  · obtain ⟨j, hj1, hj, rfl, ha⟩ := h.2.2 c hc
    have := hw j hj ha
    rwa [jS_of, if_neg (by omega)] at this
/-- a piece is what has one label -/
theorem conn {but ab : Int32} {vs vlb : Nat → Int32} {across down : Int64} (h : GE but ab vs across down) {a : Nat} (ha : a < 48) (hg : ¬ vs (164 + a) = 1) : Dm (F_Cloth_spread (nI a) across down) ∧ ∀ c, c < 48 → (b6 (F_Cloth_spread (nI a) across down) c = true ↔ F_Model_layPieces but ab vs vlb c = F_Model_layPieces but ab vs vlb a) := by
  obtain ⟨hc, hi⟩ := lay_lab but ab vs vlb
  obtain ⟨g1, g2, g3, g4⟩ := sp_all ha (GE_EB h)
  refine ⟨g1, fun c hc48 => ⟨fun hb => ?_, fun he => ?_⟩⟩
  · have hw := GE_w h hc
    exact sp_sound ha hw.1 hw.2 c hb
  · obtain ⟨m, l1, e1, n1, f1⟩ := (hi a ha).2 hg
    have hgc : ¬ vs (164 + c) = 1 := fun z => by
      rw [(hi c hc48).1 z, e1] at he
      have := congrArg Int32.toInt he
      rw [nI_toInt (by omega)] at this
      have e6 : (-6 : Int32).toInt = -6 := rfl
      omega
    obtain ⟨m2, l2, e2, n2, f2⟩ := (hi c hc48).2 hgc
    have hm : m2 = m := by
      rw [e1, e2] at he
      exact (nI_eq (by omega) (by omega)).mp he
    subst hm
    have hf : cpt but ab vs (fun i => if b6 (F_Cloth_spread (nI a) across down) i = true then 1 else 0) := fun j hj hact => by
      have := h.1 j hj hact
      dsimp only
      rw [jS_of]
      by_cases c42 : j < 42
      · rw [if_pos c42, g3 _ (this.1 c42)]
      · rw [if_neg c42, g4 _ (this.2 (by omega))]
    have q1 := f1 _ hf
    have q2 := f2 _ hf
    rw [if_pos g2] at q1
    rw [q1] at q2
    cases hb : b6 (F_Cloth_spread (nI a) across down) c
    · rw [hb] at q2; exact absurd q2 (by decide)
    · rfl
theorem cellsOf_go (piece : Int32) (w : Nat → Int32) : ∀ (n k q : Nat), k ≤ 48 → 48 - k < n → q = cntB (fun c => decide (w c = piece)) k → (F_Model_cellsOf_L4 piece w n (nI k) (nI q)).2 = nI (cntB (fun c => decide (w c = piece)) 48) := by
  intro n
  induction n with
  | zero => intro k q hk hn; exact absurd hn (Nat.not_lt_zero _)
  | succ n ih =>
    intro k q hk hn hq
    rw [F_Model_cellsOf_L4]
    by_cases c : (48 : Int32) ≤ nI k
    · rw [if_pos c]
      have h9 : 48 ≤ k := (nI_leI (by decide) (by omega)).mp c
      rw [hq, show k = 48 by omega]
    · rw [if_neg c]
      have hlt : k < 48 := lp_lt rfl rfl hk c
      have hs : cntB (fun c => decide (w c = piece)) (k + 1) = q + (decide (w k = piece)).toNat := by rw [hq]; rfl
      rw [nI_clamp (by omega)]
      by_cases g : w k = piece
      · rw [if_pos g, nI_1, nI_1]
        exact ih (k + 1) (q + 1) (by omega) (by omega) (by rw [hs]; simp [g])
      · rw [if_neg g, nI_1, Int32.add_zero]
        exact ih (k + 1) q (by omega) (by omega) (by rw [hs]; simp [g])
theorem cellsOf_n (piece : Int32) (w : Nat → Int32) : F_Model_cellsOf piece w = nI (cntB (fun c => decide (w c = piece)) 48) := cellsOf_go piece w 49 0 0 (by omega) (by omega) rfl
theorem bc_cells {p : Int64} {w : Nat → Int32} {v : Int32} (hd : Dm p) (h : ∀ c, c < 48 → (b6 p c = true ↔ w c = v)) : F_Long_bitCount p = F_Model_cellsOf v w := by
  rw [bitCount_48 hd, cellsOf_n]
  congr 1
  refine cntB_eq (fun i hi => ?_)
  have := h i hi
  by_cases z : w i = v
  · rw [this.mpr z]; simp [z]
  · have hz : b6 p i = false := not_true_false.mpr (fun q => z (this.mp q))
    rw [hz]; simp [z]
