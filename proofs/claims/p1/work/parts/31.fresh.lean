-- the labels of a whole cloth
def LC (w : Nat → Int32) : Prop := ∀ c, c < 48 → 0 ≤ (w c).toInt ∧ (w c).toInt ≤ c
theorem LC_s1 {w : Nat → Int32} {a b : Nat} (ha : a < 48) (hb : b < 48) (hw : LC w) (le : w b ≤ w a) : LC (upd (upd w a (w b)) b (upd w a (w b) a)) := by
  rw [Int32.le_iff_toInt_le] at le
  intro c hc
  rw [pk_us]
  by_cases e : c = b
  · subst e; rw [pk_us]; exact hw c hc
  · rw [pk_un e]
    by_cases f : c = a
    · subst f; rw [pk_us]
      have := hw b hb; have := hw c hc
      omega
    · rw [pk_un f]; exact hw c hc
theorem LC_s2 {w : Nat → Int32} {a b : Nat} (ha : a < 48) (hb : b < 48) (hw : LC w) (le : ¬ w b ≤ w a) : LC (upd (upd w a (w a)) b (upd w a (w a) a)) := by
  rw [Int32.le_iff_toInt_le] at le
  intro c hc
  rw [pk_us]
  by_cases e : c = b
  · subst e; rw [pk_us]
    have := hw a ha; have := hw c hc
    omega
  · rw [pk_un e]
    by_cases f : c = a
    · subst f; rw [pk_us]; exact hw c hc
    · rw [pk_un f]; exact hw c hc
/-- the joints that hold in a whole cloth without joint b -/
def acm (b : Nat) : Int64 := lN (140185576636287 - if b < 42 then 2 ^ (8 * (b / 7) + b % 7) else 0)
def dnm (b : Nat) : Int64 := lN (1099511627775 - if 42 ≤ b ∧ b < 82 then 2 ^ (b - 42) else 0)
theorem sp_all : ∀ b : Fin 83, F_Cloth_spread 0 (acm b.val) (dnm b.val) = 281474976710655 := by decide +kernel
theorem ac_ok : ∀ b : Fin 83, ∀ c : Fin 64, b6 (acm b.val) c.val = true → 7 * (c.val / 8) + c.val % 8 < 42 ∧ 7 * (c.val / 8) + c.val % 8 ≠ b.val ∧ (F_Model_first (nI (7 * (c.val / 8) + c.val % 8))).toNatClampNeg = c.val ∧ (F_Model_second (nI (7 * (c.val / 8) + c.val % 8))).toNatClampNeg = c.val + 1 := by decide +kernel
theorem dn_ok : ∀ b : Fin 83, ∀ c : Fin 64, b6 (dnm b.val) c.val = true → 42 + c.val < 82 ∧ 42 + c.val ≠ b.val ∧ (F_Model_first (nI (42 + c.val))).toNatClampNeg = c.val ∧ (F_Model_second (nI (42 + c.val))).toNatClampNeg = c.val + 8 := by decide +kernel
theorem all_bits : ∀ c : Fin 48, b6 281474976710655 c.val = true := by decide +kernel
theorem b6_lt {x : Int64} {c : Nat} (h : b6 x c = true) : c < 64 := by
  rcases Nat.lt_or_ge c 64 with g | g
  · exact g
  · exact absurd h (by unfold b6; rw [BitVec.getLsbD_of_ge _ _ g]; decide)
theorem one_bit {c : Nat} (h : b6 ((1 : Int64) <<< ((0 : Int32).toInt64 &&& 63)) c = true) : c = 0 := by
  have hc := b6_lt h
  have key : ∀ c : Fin 64, b6 ((1 : Int64) <<< ((0 : Int32).toInt64 &&& 63)) c.val = true → c.val = 0 := by decide +kernel
  exact key ⟨c, hc⟩ h
/-- labels that are the same along all joints but one are the same -/
theorem conn {w : Nat → Int32} {b : Nat} (hb : b < 83) (h : ∀ j, j < 82 → j ≠ b → w (F_Model_first (nI j)).toNatClampNeg = w (F_Model_second (nI j)).toNatClampNeg) : ∀ c, c < 48 → w c = w 0 := by
  intro c hc
  have key := spread_go (cell := 0) (across := acm b) (down := dnm b) (w := w) (v := w 0)
    (fun c hc => by
      obtain ⟨h1, h2, h3, h4⟩ := ac_ok ⟨b, hb⟩ ⟨c, b6_lt hc⟩ hc
      have := h _ (by omega) h2
      rw [h3, h4] at this
      exact this)
    (fun c hc => by
      obtain ⟨h1, h2, h3, h4⟩ := dn_ok ⟨b, hb⟩ ⟨c, b6_lt hc⟩ hc
      have := h _ (by omega) h2
      rw [h3, h4] at this
      exact this) 49 0 ((1 : Int64) <<< ((0 : Int32).toInt64 &&& 63)) (fun c hc => by rw [one_bit hc]) c
  have e : F_Cloth_spread_L8 0 (acm b) (dnm b) 49 0 ((1 : Int64) <<< ((0 : Int32).toInt64 &&& 63)) = 281474976710655 := sp_all ⟨b, hb⟩
  rw [e] at key
  exact key (all_bits ⟨c, hc⟩)
theorem lay_zero {but areBluffed : Int32} {vs vlb : Nat → Int32} {b : Nat} (hb : b < 83) (hbut : ∀ j, j < 82 → j ≠ b → nI j ≠ but) (hg : ∀ c, c < 48 → F_Model_isGone (nI c) vs = 0) (hh : ∀ j, j < 82 → j ≠ b → F_Model_holds (nI j) vs ≠ 0) : ∀ c, c < 48 → F_Model_layPieces but areBluffed vs vlb c = 0 := by
  have h0 : ∀ j, j < 48 → (F_Model_layPieces_L2 but areBluffed vs vlb 49 0 vlb).2 j = nI j := fun j hj => by
    rw [show (0 : Int32) = nI 0 from nI_0.symm, lay1_val but areBluffed vs vlb 49 0 vlb (by omega) (by omega) (fun i hi => absurd hi (Nat.not_lt_zero _)) j hj, if_pos (hg j hj)]
  have hLB : LB (F_Model_layPieces_L2 but areBluffed vs vlb 49 0 vlb).2 := lay1_LB
  have hLC : LC (F_Model_layPieces_L2 but areBluffed vs vlb 49 0 vlb).2 := fun c hc => by
    rw [h0 c hc, nI_toInt (by omega)]; omega
  have e : F_Model_layPieces but areBluffed vs vlb = (F_Model_layPieces_L36 but areBluffed vs vlb 2700 1 (F_Model_layPieces_L2 but areBluffed vs vlb 49 0 vlb).2).2.1 := rfl
  rw [e]
  generalize (F_Model_layPieces_L2 but areBluffed vs vlb 49 0 vlb).2 = w0 at hLB hLC ⊢
  obtain ⟨-, h2⟩ := lay_go2 but areBluffed vs vlb 2700 w0 hLB (by have := ms_le 48 w0 (by omega) hLB; omega)
  have h3 : LC (F_Model_layPieces_L36 but areBluffed vs vlb 2700 1 w0).2.1 := by
    refine lay_inv2 but areBluffed vs vlb LC (fun w hw => ?_) 2700 1 w0 hLC
    rw [show (F_Model_layPieces_L45 but areBluffed vs vlb 83 0 0 w) = F_Model_layPieces_L45 but areBluffed vs vlb 83 (nI 0) 0 w by rw [nI_0]]
    exact lay_inv but areBluffed vs vlb LC (fun j w hj _ hw _ le => LC_s1 (fst_lt (vp_in_nI hj (by decide))) (snd_lt (vp_in_nI hj (by decide))) hw le) (fun j w hj _ hw _ le => LC_s2 (fst_lt (vp_in_nI hj (by decide))) (snd_lt (vp_in_nI hj (by decide))) hw le) 83 0 0 w (by omega) (by omega) hw
  generalize (F_Model_layPieces_L36 but areBluffed vs vlb 2700 1 w0).2.1 = w at h2 h3 ⊢
  intro c hc
  rw [conn hb (fun j hj hjb => h2 j hj ⟨hbut j hj hjb, Or.inl (hh j hj hjb)⟩) c hc]
  have := h3 0 (by omega)
  exact Int32.toInt_inj.mp (by rw [show (0 : Int32).toInt = 0 from rfl]; omega)
theorem falls_zero {joint : Int32} {vs vlb : Nat → Int32} (hj : vp_in joint 82) (h : ∀ c, c < 48 → F_Model_layPieces joint 0 vs vlb c = 0) : (F_Model_fallsBy joint vs vlb).1 = -6 := by
  have ea : F_Model_layPieces joint 0 vs vlb (F_Model_first joint).toNatClampNeg = F_Model_layPieces joint 0 vs vlb (F_Model_second joint).toNatClampNeg := by rw [h _ (fst_lt hj), h _ (snd_lt hj)]
  unfold F_Model_fallsBy
  simp only [bnd]
  split <;> first | rfl | rw [if_pos ea]
theorem cells_zero {joint : Int32} {vs vlb : Nat → Int32} (hj : vp_in joint 82) (h : ∀ c, c < 48 → F_Model_layPieces joint 0 vs vlb c = 0) : (F_Model_cellsBy joint vs vlb).1 = 0 := by
  unfold F_Model_cellsBy
  simp only [bnd]
  rw [if_pos (falls_zero hj h)]
theorem cellsOf_go (vlb : Nat → Int32) (h : ∀ c, c < 48 → vlb c = 0) : ∀ (n k : Nat), k ≤ 48 → 48 - k < n → (F_Model_cellsOf_L4 0 vlb n (nI k) (nI k)).2 = nI 48 := by
  intro n
  induction n with
  | zero => intro k hk hn; exact absurd hn (Nat.not_lt_zero _)
  | succ n ih =>
    intro k hk hn
    rw [F_Model_cellsOf_L4]
    by_cases c : (48 : Int32) ≤ nI k
    · rw [if_pos c]
      have hk2 : 48 ≤ k := (nI_leI (by decide) (by omega)).mp c
      rw [show k = 48 by omega]
    · have hlt : k < 48 := lp_lt rfl rfl hk c
      rw [if_neg c, nI_clamp (by omega), if_pos (h k hlt), nI_1]
      exact ih (k + 1) (by omega) (by omega)
theorem cellsOf_all {vlb : Nat → Int32} (h : ∀ c, c < 48 → vlb c = 0) : F_Model_cellsOf 0 vlb = 48 := by
  have := cellsOf_go vlb h 49 0 (by omega) (by omega)
  rw [nI_0] at this
  exact this
-- the fresh state
theorem g0 : ∀ c : Fin 48, F_Model_isGone (nI c.val) ms_0 = 0 := by decide +kernel
theorem h0 : ∀ j : Fin 82, F_Model_holds (nI j.val) ms_0 ≠ 0 := by decide +kernel
theorem lay0 {but areBluffed : Int32} {vlb : Nat → Int32} : ∀ c, c < 48 → F_Model_layPieces but areBluffed ms_0 vlb c = 0 := by
  by_cases hb : vp_in but 82
  · obtain ⟨b, hb2, rfl⟩ := vp_in_of hb (by decide)
    exact lay_zero (b := b) (by omega) (fun j hj hjb e => hjb ((nI_eq (by omega) (by omega)).mp e)) (fun c hc => g0 ⟨c, hc⟩) (fun j hj _ => h0 ⟨j, hj⟩)
  · exact lay_zero (b := 82) (by omega) (fun j hj _ e => hb (by rw [← e]; exact vp_in_nI hj (by decide))) (fun c hc => g0 ⟨c, hc⟩) (fun j hj _ => h0 ⟨j, hj⟩)
theorem nj {y : Int32} (h : ¬ vp_in y 82) : F_Cloth_isJoint y = 0 ∧ F_Model_isJoint y = 0 := by
  refine ⟨Decidable.byContradiction fun q => h (jt_in q), Decidable.byContradiction fun q => h (mjt_in q)⟩
