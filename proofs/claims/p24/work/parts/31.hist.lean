-- the reference's history and slots, as rows of 246 numbers
theorem rec_52 (vkp : Int32) (vah vhi : Nat → Int32) {k : Nat} (hk : k ≤ 5) : ∀ (n m : Nat) (w : Nat → Int32), m ≤ 246 → 246 - m < n → (F_Model_records_L52 vkp vah vhi n (nI m) (nI k) w).2.1 = nI k ∧ ∀ i, (F_Model_records_L52 vkp vah vhi n (nI m) (nI k) w).2.2 i = if 246 * k + m ≤ i ∧ i < 246 * k + 246 then vah (i - 246 * k) else w i := by
  intro n
  induction n with
  | zero => intro m w hm hn; exact absurd hn (Nat.not_lt_zero _)
  | succ n ih =>
    intro m w hm hn
    rw [F_Model_records_L52]
    by_cases c : (246 : Int32) ≤ nI m
    · rw [if_pos c]
      have h9 : 246 ≤ m := (nI_leI (by decide) (by omega)).mp c
      exact ⟨rfl, fun i => by rw [if_neg (by omega)]⟩
    · rw [if_neg c, nI_1]
      have hlt : m < 246 := lp_lt rfl rfl hm c
      obtain ⟨h1, h2⟩ := ih (m + 1) (upd w (((246 : Int32) * nI k) + nI m).toNatClampNeg (vah (nI m).toNatClampNeg)) (by omega) (by omega)
      refine ⟨h1, fun i => ?_⟩
      rw [h2 i, show (246 : Int32) = nI 246 from rfl, pk_mul, nI_add, nI_clamp (by omega), nI_clamp (by omega)]
      by_cases a : 246 * k + (m + 1) ≤ i ∧ i < 246 * k + 246
      · rw [if_pos a, if_pos (by omega)]
      · rw [if_neg a]
        by_cases b : i = 246 * k + m
        · subst b; rw [pk_us, if_pos (by omega), show 246 * k + m - 246 * k = m by omega]
        · rw [pk_un b, if_neg (by omega)]
theorem rec_11 (vkp : Int32) (vah vhi : Nat → Int32) : ∀ (n m : Nat) (w : Nat → Int32), m ≤ 1230 → 1230 - m < n → ∀ i, (F_Model_records_L11 vkp vah vhi n (nI m) w).2 i = if m ≤ i ∧ i < 1230 then w (i + 246) else w i := by
  intro n
  induction n with
  | zero => intro m w hm hn; exact absurd hn (Nat.not_lt_zero _)
  | succ n ih =>
    intro m w hm hn i
    rw [F_Model_records_L11]
    by_cases c : (1230 : Int32) ≤ nI m
    · rw [if_pos c]
      have h9 : 1230 ≤ m := (nI_leI (by decide) (by omega)).mp c
      rw [if_neg (by omega)]
    · rw [if_neg c, nI_1]
      have hlt : m < 1230 := lp_lt rfl rfl hm c
      rw [ih (m + 1) _ (by omega) (by omega) i, show nI m + 246 = nI (m + 246) from nI_add m 246, nI_clamp (by omega), nI_clamp (by omega)]
      by_cases a : m + 1 ≤ i ∧ i < 1230
      · rw [if_pos a, if_pos (by omega), pk_un (by omega)]
      · rw [if_neg a]
        by_cases b : i = m
        · subst b; rw [pk_us, if_pos (by omega)]
        · rw [pk_un b, if_neg (by omega)]
theorem rec_lt (vah vhi : Nat → Int32) {k : Nat} (hk : k < 6) : (F_Model_records (nI k) vah vhi).2 = nI (k + 1) ∧ ∀ k2 j, k2 < 6 → j < 246 → (F_Model_records (nI k) vah vhi).1 (246 * k2 + j) = if k2 = k then vah j else vhi (246 * k2 + j) := by
  have hne : ¬ nI k = 6 := fun e => by
    have := (nI_eq (a := k) (b := 6) (by omega) (by omega)).mp e
    omega
  unfold F_Model_records
  rw [if_neg hne]
  obtain ⟨h1, h2⟩ := rec_52 (nI k) vah vhi (k := k) (by omega) 247 0 vhi (by omega) (by omega)
  rw [nI_0] at h1 h2
  dsimp only [bnd]
  refine ⟨by rw [h1, nI_1], fun k2 j hk2 hj => ?_⟩
  rw [h2]
  by_cases e : k2 = k
  · subst e; rw [if_pos (by omega), if_pos rfl, show 246 * k2 + j - 246 * k2 = j by omega]
  · rw [if_neg (by omega), if_neg e]
theorem rec_6 (vah vhi : Nat → Int32) : (F_Model_records (nI 6) vah vhi).2 = nI 6 ∧ ∀ k2 j, k2 < 6 → j < 246 → (F_Model_records (nI 6) vah vhi).1 (246 * k2 + j) = if k2 = 5 then vah j else vhi (246 * (k2 + 1) + j) := by
  unfold F_Model_records
  rw [if_pos (show nI 6 = 6 from rfl)]
  dsimp only [bnd]
  have e5 : nI 6 - 1 = nI 5 := nI_pred 5
  rw [e5]
  obtain ⟨h1, h2⟩ := rec_52 (nI 6) vah vhi (k := 5) (by omega) 247 0 (F_Model_records_L11 (nI 6) vah vhi 1231 0 vhi).2 (by omega) (by omega)
  have h3 := rec_11 (nI 6) vah vhi 1231 0 vhi (by omega) (by omega)
  rw [nI_0] at h1 h2 h3
  refine ⟨by rw [h1, nI_1], fun k2 j hk2 hj => ?_⟩
  rw [h2]
  by_cases e : k2 = 5
  · subst e; rw [if_pos (by omega), if_pos rfl, show 246 * 5 + j - 246 * 5 = j by omega]
  · rw [if_neg (by omega), if_neg e, h3, if_pos (by omega), show 246 * k2 + j + 246 = 246 * (k2 + 1) + j by omega]
theorem undo_22 (vkp : Int32) (vs vhi : Nat → Int32) {k : Nat} (hk : k ≤ 5) : ∀ (n m : Nat) (w : Nat → Int32), m ≤ 246 → 246 - m < n → (F_Model_undo_kg_L22 vkp vs vhi n (nI m) (nI k) w).2.1 = nI k ∧ ∀ i, (F_Model_undo_kg_L22 vkp vs vhi n (nI m) (nI k) w).2.2 i = if m ≤ i ∧ i < 246 then vhi (246 * k + i) else w i := by
  intro n
  induction n with
  | zero => intro m w hm hn; exact absurd hn (Nat.not_lt_zero _)
  | succ n ih =>
    intro m w hm hn
    rw [F_Model_undo_kg_L22]
    by_cases c : (246 : Int32) ≤ nI m
    · rw [if_pos c]
      have h9 : 246 ≤ m := (nI_leI (by decide) (by omega)).mp c
      exact ⟨rfl, fun i => by rw [if_neg (by omega)]⟩
    · rw [if_neg c, nI_1]
      have hlt : m < 246 := lp_lt rfl rfl hm c
      obtain ⟨h1, h2⟩ := ih (m + 1) (upd w (nI m).toNatClampNeg (vhi (((246 : Int32) * nI k) + nI m).toNatClampNeg)) (by omega) (by omega)
      refine ⟨h1, fun i => ?_⟩
      rw [h2 i, show (246 : Int32) = nI 246 from rfl, pk_mul, nI_add, nI_clamp (by omega), nI_clamp (by omega)]
      by_cases a : m + 1 ≤ i ∧ i < 246
      · rw [if_pos a, if_pos (by omega)]
      · rw [if_neg a]
        by_cases b : i = m
        · subst b; rw [pk_us, if_pos (by omega)]
        · rw [pk_un b, if_neg (by omega)]
theorem undo_s (vs vhi : Nat → Int32) {k : Nat} (hk : k ≤ 5) : (F_Model_undo_kg (nI (k + 1)) vs vhi).1 = nI k ∧ (F_Model_undo_kg (nI (k + 1)) vs vhi).2.1 = nI k ∧ ∀ i, i < 246 → (F_Model_undo_kg (nI (k + 1)) vs vhi).2.2 i = vhi (246 * k + i) := by
  unfold F_Model_undo_kg
  rw [if_neg (nI_ne0 (by omega) (by omega)), nI_pred]
  obtain ⟨h1, h2⟩ := undo_22 (nI (k + 1)) vs vhi hk 247 0 vs (by omega) (by omega)
  rw [nI_0] at h1 h2
  dsimp only [bnd]
  exact ⟨h1, h1, fun i hi => by rw [h2 i, if_pos (by omega)]⟩
theorem undo_0 (vs vhi : Nat → Int32) : F_Model_undo_kg (nI 0) vs vhi = (-5, nI 0, vs) := by
  unfold F_Model_undo_kg
  rw [if_pos (show nI 0 = 0 from rfl)]
theorem rest_34 {s : Nat} (hs : s ≤ 1) (vkp : Int32) (vs vah vhi vsl vsv : Nat → Int32) (w03 : Int32) (w3f : Nat → Int32) : ∀ (n m : Nat) (w : Nat → Int32), m ≤ 246 → 246 - m < n → (F_Model_restore_kg_L34 (nI s) vkp vs vah vhi vsl vsv n (nI m) w03 w w3f).2.1 = w03 ∧ (F_Model_restore_kg_L34 (nI s) vkp vs vah vhi vsl vsv n (nI m) w03 w w3f).2.2.2 = w3f ∧ ∀ i, (F_Model_restore_kg_L34 (nI s) vkp vs vah vhi vsl vsv n (nI m) w03 w w3f).2.2.1 i = if m ≤ i ∧ i < 246 then vsl (246 * s + i) else w i := by
  intro n
  induction n with
  | zero => intro m w hm hn; exact absurd hn (Nat.not_lt_zero _)
  | succ n ih =>
    intro m w hm hn
    rw [F_Model_restore_kg_L34]
    by_cases c : (246 : Int32) ≤ nI m
    · rw [if_pos c]
      have h9 : 246 ≤ m := (nI_leI (by decide) (by omega)).mp c
      exact ⟨rfl, rfl, fun i => by rw [if_neg (by omega)]⟩
    · rw [if_neg c, nI_1]
      have hlt : m < 246 := lp_lt rfl rfl hm c
      obtain ⟨h1, h3, h2⟩ := ih (m + 1) (upd w (nI m).toNatClampNeg (vsl (((246 : Int32) * nI s) + nI m).toNatClampNeg)) (by omega) (by omega)
      refine ⟨h1, h3, fun i => ?_⟩
      rw [h2 i, show (246 : Int32) = nI 246 from rfl, pk_mul, nI_add, nI_clamp (by omega), nI_clamp (by omega)]
      by_cases a : m + 1 ≤ i ∧ i < 246
      · rw [if_pos a, if_pos (by omega)]
      · rw [if_neg a]
        by_cases b : i = m
        · subst b; rw [pk_us, if_pos (by omega)]
        · rw [pk_un b, if_neg (by omega)]
theorem save_14 {s : Nat} (hs : s ≤ 1) (vs vsl vsv : Nat → Int32) : ∀ (n m : Nat) (w : Nat → Int32), m ≤ 246 → 246 - m < n → ∀ i, (F_Model_save_L14 (nI s) vs vsl vsv n (nI m) w).2 i = if 246 * s + m ≤ i ∧ i < 246 * s + 246 then vs (i - 246 * s) else w i := by
  intro n
  induction n with
  | zero => intro m w hm hn; exact absurd hn (Nat.not_lt_zero _)
  | succ n ih =>
    intro m w hm hn i
    rw [F_Model_save_L14]
    by_cases c : (246 : Int32) ≤ nI m
    · rw [if_pos c]
      have h9 : 246 ≤ m := (nI_leI (by decide) (by omega)).mp c
      rw [if_neg (by omega)]
    · rw [if_neg c, nI_1]
      have hlt : m < 246 := lp_lt rfl rfl hm c
      rw [ih (m + 1) _ (by omega) (by omega) i, show (246 : Int32) = nI 246 from rfl, pk_mul, nI_add, nI_clamp (by omega), nI_clamp (by omega)]
      by_cases a : 246 * s + (m + 1) ≤ i ∧ i < 246 * s + 246
      · rw [if_pos a, if_pos (by omega)]
      · rw [if_neg a]
        by_cases b : i = 246 * s + m
        · subst b; rw [pk_us, if_pos (by omega), show 246 * s + m - 246 * s = m by omega]
        · rw [pk_un b, if_neg (by omega)]
theorem in01_ok {s : Nat} (hs : s ≤ 1) : ¬ F_Model_in (nI s) 0 1 = 0 := by
  have t : ∀ s : Fin 2, ¬ F_Model_in (nI s.val) 0 1 = 0 := by decide +kernel
  exact t ⟨s, by omega⟩
theorem p01_nat {x : Int32} (h : p01 x) : ∃ s : Nat, s ≤ 1 ∧ x = nI s := by
  rcases h with rfl | rfl
  · exact ⟨0, by omega, rfl⟩
  · exact ⟨1, by omega, rfl⟩
theorem save_s {s : Nat} (hs : s ≤ 1) (vs vsl vsv : Nat → Int32) : (F_Model_save (nI s) vs vsl vsv).1 = F_Model_left vs ∧ (F_Model_save (nI s) vs vsl vsv).2.2 = upd vsv s 1 ∧ ∀ k j, k ≤ 1 → j < 246 → (F_Model_save (nI s) vs vsl vsv).2.1 (246 * k + j) = if k = s then vs j else vsl (246 * k + j) := by
  unfold F_Model_save
  dsimp only [bnd]
  rw [if_neg (in01_ok hs)]
  have h := save_14 hs vs vsl vsv 247 0 vsl (by omega) (by omega)
  rw [nI_0] at h
  refine ⟨rfl, ?_, fun k j hk hj => ?_⟩
  · show upd vsv (nI s).toNatClampNeg (vp_nar .boolean 1) = upd vsv s 1
    rw [nI_clamp (by omega), show vp_nar .boolean 1 = 1 from rfl]
  · dsimp only
    rw [h]
    by_cases e : k = s
    · subst e; rw [if_pos (by omega), if_pos rfl, show 246 * k + j - 246 * k = j by omega]
    · rw [if_neg (by omega), if_neg e]
theorem save_n {slot : Int32} (hs : ¬ p01 slot) (vs vsl vsv : Nat → Int32) : F_Model_save slot vs vsl vsv = (-2, vsl, vsv) := by
  unfold F_Model_save
  dsimp only [bnd]
  by_cases c : F_Model_in slot 0 1 = 0
  · rw [if_pos c]
  · exact absurd (in01 c) hs
theorem rest_s {s : Nat} (hs : s ≤ 1) (vkp : Int32) (vs vah vhi vsl vsv : Nat → Int32) (hv : ¬ vsv s = 0) : (F_Model_restore_kg (nI s) vkp vs vah vhi vsl vsv).1 = F_Model_left (F_Model_restore_kg (nI s) vkp vs vah vhi vsl vsv).2.2.1 ∧ (F_Model_restore_kg (nI s) vkp vs vah vhi vsl vsv).2.1 = (F_Model_records vkp vs vhi).2 ∧ (F_Model_restore_kg (nI s) vkp vs vah vhi vsl vsv).2.2.2.2 = (F_Model_records vkp vs vhi).1 ∧ ∀ j, j < 246 → (F_Model_restore_kg (nI s) vkp vs vah vhi vsl vsv).2.2.1 j = vsl (246 * s + j) := by
  unfold F_Model_restore_kg
  dsimp only [bnd]
  rw [if_neg (in01_ok hs), nI_clamp (by omega), if_neg hv]
  obtain ⟨h1, h3, h2⟩ := rest_34 hs vkp vs vah vhi vsl vsv (F_Model_records vkp vs vhi).2 (F_Model_records vkp vs vhi).1 247 0 vs (by omega) (by omega)
  rw [nI_0] at h1 h2 h3
  dsimp only
  refine ⟨rfl, h1, h3, fun j hj => ?_⟩
  rw [h2 j, if_pos (by omega)]
theorem rest_0 {s : Nat} (hs : s ≤ 1) (vkp : Int32) (vs vah vhi vsl vsv : Nat → Int32) (hv : vsv s = 0) : F_Model_restore_kg (nI s) vkp vs vah vhi vsl vsv = (-5, vkp, vs, vah, vhi) := by
  unfold F_Model_restore_kg
  dsimp only [bnd]
  rw [if_neg (in01_ok hs), nI_clamp (by omega), if_pos hv]
theorem rest_n {slot : Int32} (hs : ¬ p01 slot) (vkp : Int32) (vs vah vhi vsl vsv : Nat → Int32) : F_Model_restore_kg slot vkp vs vah vhi vsl vsv = (-2, vkp, vs, vah, vhi) := by
  unfold F_Model_restore_kg
  dsimp only [bnd]
  by_cases c : F_Model_in slot 0 1 = 0
  · rw [if_pos c]
  · exact absurd (in01 c) hs
