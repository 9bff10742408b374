-- the reference's reading of a text: how the place goes on, and that it ends
abbrev BO (q : Nat) (z : Int32) : Prop := (∃ i : Nat, 1 ≤ i ∧ i ≤ 3 ∧ z = nI (q + i)) ∨ z = -1 - nI q ∨ z = -2 - nI q
theorem bo_cases {q : Nat} {vln : Int32} {vpd : Nat → Int32} : BO q (F_Model_behindOrder (nI q) vln vpd) := by
  have h1 : BO q (nI q + 1) := Or.inl ⟨1, by omega, by omega, nI_1 q⟩
  have h2 : BO q (nI q + 2) := Or.inl ⟨2, by omega, by omega, nI_add q 2⟩
  have h3 : BO q (nI q + 3) := Or.inl ⟨3, by omega, by omega, nI_add q 3⟩
  have h4 : BO q ((-1 : Int32) - nI q) := Or.inr (Or.inl rfl)
  have h5 : BO q ((-2 : Int32) - nI q) := Or.inr (Or.inr rfl)
  unfold F_Model_behindOrder
  repeat' first | with_reducible refine bnd_i (P := BO q) (fun r hr => ?_) | with_reducible refine ite_i (P := BO q) (fun _ => ?_) (fun _ => ?_)
  all_goals first | with_reducible exact h1 | with_reducible exact h2 | with_reducible exact h3 | with_reducible exact h4 | with_reducible exact h5
theorem bo_neg : ∀ q : Fin 85, ¬ ((0 : Int32) ≤ -1 - nI q.val) ∧ ¬ ((0 : Int32) ≤ -2 - nI q.val) ∧ (-1 : Int32) - (-1 - nI q.val) ≠ -99 ∧ (-1 : Int32) - (-2 - nI q.val) ≠ -99 ∧ (-1 : Int32) - (-1 - nI q.val) ≠ -6 ∧ (-1 : Int32) - (-2 - nI q.val) ≠ -6 ∧ (0 : Int32) ≤ nI q.val ∧ nI q.val ≠ -99 ∧ nI q.val ≠ -6 := by decide +kernel
theorem wr_fin {vln : Int32} {vpd : Nat → Int32} (hln : tm_ok 80 vln) : ∀ (n q : Nat), q ≤ 80 → 86 - q ≤ n → F_Model_wrong_L4 vln vpd n 1 (nI q) ≠ -99 := by
  intro n
  induction n with
  | zero => intro q hq hn; omega
  | succ n ih =>
    intro q hq hn
    rw [F_Model_wrong_L4, if_neg (by decide)]
    obtain ⟨r, hr⟩ : ∃ z, z = F_Model_behindOrder (nI q) vln vpd := ⟨_, rfl⟩
    rw [bnd_e hr]
    have hb : BO q r := by rw [hr]; exact bo_cases
    have hn0 := bo_neg ⟨q, by omega⟩
    rcases hb with ⟨i, hi1, hi3, rfl⟩ | rfl | rfl
    · have hi := bo_neg ⟨q + i, by omega⟩
      rw [if_pos hi.2.2.2.2.2.2.1]
      obtain ⟨m, rfl⟩ : ∃ m, n = m + 1 := ⟨n - 1, by omega⟩
      by_cases c : vln ≤ nI (q + i)
      · rw [if_pos c, F_Model_wrong_L4, if_pos rfl]; decide
      · rw [if_neg c]
        obtain ⟨L, hL, rfl⟩ := hln
        have hlt : q + i < L := by
          refine Nat.lt_of_not_le fun h => c ((nI_leI (by omega) (by omega)).mpr h)
        by_cases d : vpd (nI (q + i)).toNatClampNeg = 59
        · rw [if_pos d, nI_1]; exact ih (q + i + 1) (by omega) (by omega)
        · rw [if_neg d]; exact hi.2.2.2.2.2.2.2.1
    · rw [if_neg hn0.1]; exact hn0.2.2.1
    · rw [if_neg hn0.2.1]; exact hn0.2.2.2.1
theorem wrong_fin {vln : Int32} {vpd : Nat → Int32} (hln : tm_ok 80 vln) : ¬ F_Model_wrong vln vpd = -99 := wr_fin hln 90 0 (by omega) (by omega)
/-- the text is right from here on -/
def WR (vln : Int32) (vpd : Nat → Int32) (x : Int32) : Prop := ∃ n : Nat, F_Model_wrong_L4 vln vpd n 1 x = -6
def PL (vln : Int32) (vpd : Nat → Int32) (x : Int32) : Prop := (∃ q : Nat, q ≤ 84 ∧ x = nI q) ∧ (vln ≤ x ∨ WR vln vpd x)
theorem pl_0 {vln : Int32} {vpd : Nat → Int32} (h : F_Model_wrong vln vpd = -6) : PL vln vpd 0 := ⟨⟨0, by omega, rfl⟩, Or.inr ⟨90, h⟩⟩
theorem pl_sm9 {vln x : Int32} {vpd : Nat → Int32} (h : PL vln vpd x) : sm9 x := by
  obtain ⟨⟨q, hq, rfl⟩, -⟩ := h
  exact ⟨by rw [nI_toInt (by omega)]; omega, by rw [nI_toInt (by omega)]; omega⟩
/-- an order of a right text: where it ends -/
theorem pl_go {vln x : Int32} {vpd : Nat → Int32} (hln : tm_ok 80 vln) (h : PL vln vpd x) (c : ¬ vln ≤ x) : ∃ q i : Nat, q < 80 ∧ 1 ≤ i ∧ i ≤ 3 ∧ x = nI q ∧ F_Model_behindOrder x vln vpd = nI (q + i) ∧ (vln ≤ nI (q + i) ∨ vpd (q + i) = 59 ∧ WR vln vpd (nI (q + i + 1))) := by
  obtain ⟨⟨q, hq, rfl⟩, h⟩ := h
  obtain ⟨n, h⟩ := h.resolve_left c
  have hq80 : q < 80 := by
    obtain ⟨L, hL, rfl⟩ := hln
    have : ¬ L ≤ q := fun z => c ((nI_leI (by omega) (by omega)).mpr z)
    omega
  cases n with
  | zero => rw [F_Model_wrong_L4] at h; exact absurd h (by decide)
  | succ n =>
    rw [F_Model_wrong_L4, if_neg (by decide)] at h
    obtain ⟨r, hr⟩ : ∃ z, z = F_Model_behindOrder (nI q) vln vpd := ⟨_, rfl⟩
    rw [bnd_e hr] at h
    have hb : BO q r := by rw [hr]; exact bo_cases
    have hn0 := bo_neg ⟨q, by omega⟩
    rcases hb with ⟨i, hi1, hi3, rfl⟩ | rfl | rfl
    · refine ⟨q, i, hq80, hi1, hi3, rfl, hr.symm, ?_⟩
      have hi := bo_neg ⟨q + i, by omega⟩
      rw [if_pos hi.2.2.2.2.2.2.1] at h
      by_cases c : vln ≤ nI (q + i)
      · exact Or.inl c
      · rw [if_neg c] at h
        by_cases d : vpd (nI (q + i)).toNatClampNeg = 59
        · rw [if_pos d, nI_1] at h
          rw [nI_clamp (by omega)] at d
          exact Or.inr ⟨d, n, h⟩
        · rw [if_neg d] at h; exact absurd h hi.2.2.2.2.2.2.2.2
    · rw [if_neg hn0.1] at h; exact absurd h hn0.2.2.2.2.1
    · rw [if_neg hn0.2.1] at h; exact absurd h hn0.2.2.2.2.2.1
theorem pl_step {vln x r : Int32} {vpd : Nat → Int32} (hln : tm_ok 80 vln) (h : PL vln vpd x) (c : ¬ vln ≤ x) (hr : r = F_Model_behindOrder x vln vpd) : PL vln vpd (r + 1) := by
  obtain ⟨q, i, hq, hi1, hi3, rfl, e, hc⟩ := pl_go hln h c
  rw [hr, e, nI_1]
  refine ⟨⟨q + i + 1, by omega, rfl⟩, ?_⟩
  rcases hc with hc | hc
  · refine Or.inl ?_
    obtain ⟨L, hL, rfl⟩ := hln
    have := (nI_leI (by omega) (by omega)).mp hc
    exact (nI_leI (by omega) (by omega)).mpr (by omega)
  · exact Or.inr hc.2
