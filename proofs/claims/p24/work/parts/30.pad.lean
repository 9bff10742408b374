-- pads: putting, and the fault of a text
-- put
def Rk (ch : Int64) : Nat → Int64
  | 0 => ch
  | k + 1 => ((Rk ch k).toUInt64 >>> ((8 : Int32).toInt64.toUInt64 &&& Int64.toUInt64 63)).toInt64
theorem Rk_bv (ch : Int64) : ∀ k, (Rk ch k).toBitVec = ch.toBitVec >>> (8 * k)
  | 0 => (BitVec.ushiftRight_zero ch.toBitVec).symm
  | k + 1 => by
    show ((Rk ch k).toBitVec >>> ((((8 : Int32).toInt64.toUInt64 &&& Int64.toUInt64 63).toBitVec) % 64)) = _
    rw [BitVec.ushiftRight_eq', Rk_bv ch k, show ((((8 : Int32).toInt64.toUInt64 &&& Int64.toUInt64 63).toBitVec) % 64).toNat = 8 by decide +kernel, ← BitVec.shiftRight_add, Nat.mul_succ]
theorem amt : ∀ k : Fin 8, ((((8 : Int32) * nI k.val).toInt64.toUInt64 &&& Int64.toUInt64 63).toBitVec % 64).toNat = 8 * k.val := by decide +kernel
theorem Sk_R (ch : Int64) {k : Nat} (hk : k < 8) : (ch.toUInt64 >>> (((8 : Int32) * nI k).toInt64.toUInt64 &&& Int64.toUInt64 63)).toInt64 = Rk ch k := by
  apply Int64.toBitVec.inj
  rw [Rk_bv]
  show (ch.toBitVec >>> ((((8 : Int32) * nI k).toInt64.toUInt64 &&& Int64.toUInt64 63).toBitVec % 64)) = _
  rw [BitVec.ushiftRight_eq', amt ⟨k, hk⟩]
theorem byte (v : Int64) : ∃ q : Nat, q < 256 ∧ v &&& 255 = lN q := by
  refine ⟨(v &&& 255).toBitVec.toNat, ?_, ?_⟩
  · show (v.toBitVec &&& (255 : Int64).toBitVec).toNat < 256
    rw [BitVec.toNat_and]
    exact Nat.lt_of_le_of_lt Nat.and_le_right (by decide)
  · apply Int64.toBitVec.inj
    show _ = BitVec.ofNat 64 (v &&& 255).toBitVec.toNat
    simp
theorem lg33 : ∀ q : Fin 256, lg_cmp (lN q.val) 33 < 0 ↔ q.val < 33 := by decide +kernel
theorem lg126 : ∀ q : Fin 256, lg_cmp (lN q.val) 126 ≤ 0 ↔ q.val ≤ 126 := by decide +kernel
theorem in33 : ∀ q : Fin 256, F_Model_in (lN q.val).toInt32 33 126 = 0 ↔ ¬ (33 ≤ q.val ∧ q.val ≤ 126) := by decide +kernel
theorem lgz {x : Int64} : lg_cmp x 0 = 0 ↔ x = 0 := by
  constructor
  · intro h
    by_cases h1 : (0 : Int64) < x
    · simp [lg_cmp, h1] at h
    · by_cases h2 : x = 0
      · exact h2
      · simp [lg_cmp, h1, h2] at h
  · intro h; subst h; decide +kernel
theorem Rk_0 {ch : Int64} {k : Nat} (h : Rk ch k = 0) : Rk ch (k + 1) = 0 := by
  show ((Rk ch k).toUInt64 >>> ((8 : Int32).toInt64.toUInt64 &&& Int64.toUInt64 63)).toInt64 = 0
  rw [h]; decide +kernel
theorem bad_go (ch : Int64) (vln : Int32) (vpd : Nat → Int32) : ∀ (n k : Nat) (x3 : Int32), k ≤ 8 → 8 - k < n → (F_Model_put_L8 ch vln vpd n (nI k) 1 x3).2.1 = 1 := by
  intro n
  induction n with
  | zero => intro k x3 hk hn; exact absurd hn (Nat.not_lt_zero _)
  | succ n ih =>
    intro k x3 hk hn
    rw [F_Model_put_L8]
    simp only [bnd]
    by_cases c : (8 : Int32) ≤ nI k
    · rw [if_pos c]
    · have hlt : k < 8 := lp_lt rfl rfl hk c
      rw [if_neg c, nI_1]
      have d : ¬ (1 : Int32) = 0 := by decide
      simp only [if_neg d]
      (repeat' split) <;> exact ih (k + 1) _ (by omega) (by omega)
theorem zero_go (ch : Int64) (vln : Int32) (vpd : Nat → Int32) : ∀ (n k : Nat) (x3 : Int32), 1 ≤ k → k ≤ 8 → 8 - k < n → Rk ch k = 0 → (F_Model_put_L8 ch vln vpd n (nI k) 0 x3).2.1 = 0 ∧ (F_Model_put_L8 ch vln vpd n (nI k) 0 x3).2.2 = x3 := by
  intro n
  induction n with
  | zero => intro k x3 h1 hk hn; exact absurd hn (Nat.not_lt_zero _)
  | succ n ih =>
    intro k x3 h1 hk hn hz
    rw [F_Model_put_L8]
    dsimp only [bnd]
    by_cases c : (8 : Int32) ≤ nI k
    · rw [if_pos c]; exact ⟨rfl, rfl⟩
    · have hlt : k < 8 := lp_lt rfl rfl hk c
      rw [if_neg c, if_neg (nI_nle (by omega) (by omega)), Sk_R ch hlt, if_pos (lgz.mpr hz), if_pos rfl, nI_1, Int32.add_zero]
      exact ih (k + 1) x3 (by omega) (by omega) (by omega) (Rk_0 hz)
theorem put_go (ch : Int64) (vln : Int32) (vpd : Nat → Int32) : ∀ (n n' k : Nat), k ≤ 8 → 8 - k < n → 8 - k < n' → (k = 0 → ch ≠ 0) →
    (F_Pad_charactersIn_L4 ch n' (Rk ch k) (nI k) = 0 ∧ (F_Model_put_L8 ch vln vpd n (nI k) 0 (nI k)).2.1 = 1) ∨
    ((F_Model_put_L8 ch vln vpd n (nI k) 0 (nI k)).2.1 = 0 ∧ ∃ m : Nat, 1 ≤ m ∧ m ≤ 8 ∧ F_Pad_charactersIn_L4 ch n' (Rk ch k) (nI k) = nI m ∧ (F_Model_put_L8 ch vln vpd n (nI k) 0 (nI k)).2.2 = nI m) := by
  intro n
  induction n with
  | zero => intro n' k hk hn; exact absurd hn (Nat.not_lt_zero _)
  | succ n ih =>
    intro n' k hk hn hn' hz
    obtain ⟨n2, rfl⟩ : ∃ n2, n' = n2 + 1 := ⟨n' - 1, by omega⟩
    by_cases c : (8 : Int32) ≤ nI k
    · have hk9 : 8 ≤ k := (nI_leI (by decide) (by omega)).mp c
      have hk8 : k = 8 := by omega
      subst hk8
      refine Or.inr ⟨?_, 8, by omega, by omega, ?_, ?_⟩
      · rw [F_Model_put_L8]; simp only [bnd]; rw [if_pos c]
      · rw [F_Pad_charactersIn_L4, if_pos c]; split <;> rfl
      · rw [F_Model_put_L8]; simp only [bnd]; rw [if_pos c]
    · have hlt : k < 8 := lp_lt rfl rfl hk c
      by_cases hr : Rk ch k = 0
      · have hk1 : 1 ≤ k := by
          rcases Nat.eq_zero_or_pos k with e | e
          · subst e; exact absurd hr (hz rfl)
          · exact e
        obtain ⟨h1, h2⟩ := zero_go ch vln vpd (n + 1) k (nI k) hk1 hk hn hr
        refine Or.inr ⟨h1, k, hk1, hk, ?_, h2⟩
        rw [F_Pad_charactersIn_L4, if_pos (lgz.mpr hr)]
      · obtain ⟨q, hq, eq⟩ := byte (Rk ch k)
        have hch : F_Pad_charactersIn_L4 ch (n2 + 1) (Rk ch k) (nI k) = if 33 ≤ q ∧ q ≤ 126 then F_Pad_charactersIn_L4 ch n2 (Rk ch (k + 1)) (nI (k + 1)) else 0 := by
          rw [F_Pad_charactersIn_L4, if_neg (fun h => hr (lgz.mp h)), if_neg c, eq, nI_1]
          by_cases a : q < 33
          · rw [if_pos ((lg33 ⟨q, hq⟩).mpr a), if_neg (by omega)]
          · rw [if_neg (fun h => a ((lg33 ⟨q, hq⟩).mp h))]
            by_cases b : q ≤ 126
            · rw [if_pos ((lg126 ⟨q, hq⟩).mpr b), if_pos (by omega)]; rfl
            · rw [if_neg (fun h => b ((lg126 ⟨q, hq⟩).mp h)), if_neg (by omega)]
        have hpt : ∀ x3, F_Model_put_L8 ch vln vpd (n + 1) (nI k) 0 x3 = if 33 ≤ q ∧ q ≤ 126 then F_Model_put_L8 ch vln vpd n (nI (k + 1)) 0 (x3 + 1) else F_Model_put_L8 ch vln vpd n (nI (k + 1)) 1 (x3 + 1) := by
          intro x3
          rw [F_Model_put_L8]
          simp only [bnd]
          rw [if_neg c, Sk_R ch hlt, eq, nI_1]
          simp only [if_pos trivial]
          by_cases a : 33 ≤ q ∧ q ≤ 126
          · rw [if_pos a, if_neg (fun h => (in33 ⟨q, hq⟩).mp h a)]
            split
            · rfl
            · rw [if_neg (fun h => hr (lgz.mp h))]
          · rw [if_neg a, if_pos ((in33 ⟨q, hq⟩).mpr a)]
            split
            · rfl
            · rw [if_neg (fun h => hr (lgz.mp h))]
        rw [hch, hpt]
        by_cases a : 33 ≤ q ∧ q ≤ 126
        · rw [if_pos a, if_pos a, nI_1]
          exact ih n2 (k + 1) (by omega) (by omega) (by omega) (fun h => absurd h (by omega))
        · rw [if_neg a, if_neg a]
          exact Or.inl ⟨rfl, bad_go ch vln vpd n (k + 1) _ (by omega) (by omega)⟩
/-- the k-th character of a number, the last one first -/
def chv (ch : Int64) (k : Nat) : Int32 := (Rk ch k &&& 255).toInt32
theorem nar_ch : ∀ q : Fin 256, vp_nar .char (((lN q.val).toInt32.toUInt32 % 65536).toInt32) = (lN q.val).toInt32 ∧ ch16 ((lN q.val).toInt32) := by
  intro q
  refine ⟨?_, ?_⟩
  · revert q; decide +kernel
  · revert q; unfold ch16; decide +kernel
theorem chv_nar (ch : Int64) (k : Nat) : vp_nar .char (((chv ch k).toUInt32 % 65536).toInt32) = chv ch k ∧ ch16 (chv ch k) := by
  obtain ⟨q, hq, e⟩ := byte (Rk ch k)
  unfold chv
  rw [e]
  exact nar_ch ⟨q, hq⟩
theorem app_full (ch : Int64) (ln : Int32) (fsg : Nat → Int32) {mm L : Nat} (hm : mm ≤ 8) (hL : L + mm ≤ 80) : ∀ (n k : Nat) (x4 x3 w01 : Int32) (f : Nat → Int32), k ≤ mm → mm - k < n → x4 = nI (mm - k) - 1 → w01 = nI (L + k) →
    (F_Pad_append_L31 ch ln fsg n x4 x3 w01 f).2.2.1 = nI (L + mm) ∧ ∀ j, (F_Pad_append_L31 ch ln fsg n x4 x3 w01 f).2.2.2 j = if L + k ≤ j ∧ j < L + mm then chv ch (L + mm - 1 - j) else f j := by
  intro n
  induction n with
  | zero => intro k x4 x3 w01 f hk hn; exact absurd hn (Nat.not_lt_zero _)
  | succ n ih =>
    intro k x4 x3 w01 f hk hn e1 e2
    rw [F_Pad_append_L31]
    by_cases c : x4 < 0
    · rw [if_pos c]
      have hkm : k = mm := by
        rcases Nat.lt_or_ge k mm with h | h
        · obtain ⟨m2, hm2⟩ : ∃ m2, mm - k = m2 + 1 := ⟨mm - k - 1, by omega⟩
          rw [e1, hm2, nI_pred] at c
          exact absurd c (nI_pos (by omega))
        · omega
      subst hkm
      exact ⟨e2, fun j => by rw [if_neg (by omega)]⟩
    · rw [if_neg c]
      have hlt : k < mm := dn_lt e1 hk (by omega) c
      obtain ⟨m2, hm2⟩ : ∃ m2, mm - k = m2 + 1 := ⟨mm - k - 1, by omega⟩
      have ex : x4 = nI m2 := by rw [e1, hm2, nI_pred]
      obtain ⟨h1, h2⟩ := ih (k + 1) (x4 + (-1)) x3 (w01 + 1) (upd f w01.toNatClampNeg (vp_nar .char (((((ch.toUInt64 >>> (((8 : Int32) * x4).toInt64.toUInt64 &&& Int64.toUInt64 63)).toInt64 &&& 255).toInt32).toUInt32 % 65536).toInt32))) (by omega) (by omega) (dn_step e1 hlt) (by rw [e2]; exact nI_1 (L + k))
      refine ⟨h1, fun j => ?_⟩
      rw [h2 j]
      have ev : vp_nar .char (((((ch.toUInt64 >>> (((8 : Int32) * x4).toInt64.toUInt64 &&& Int64.toUInt64 63)).toInt64 &&& 255).toInt32).toUInt32 % 65536).toInt32) = chv ch m2 := by
        rw [ex, Sk_R ch (by omega)]
        exact (chv_nar ch m2).1
      rw [ev, e2, nI_clamp (by omega)]
      by_cases a : L + (k + 1) ≤ j ∧ j < L + mm
      · rw [if_pos a, if_pos (by omega)]
      · rw [if_neg a]
        by_cases b : j = L + k
        · subst b
          rw [pk_us, if_pos (by omega), show L + mm - 1 - (L + k) = m2 by omega]
        · rw [pk_un b, if_neg (by omega)]
theorem mput_full (ch : Int64) (vln : Int32) (vpd : Nat → Int32) {mm L : Nat} (hm : mm ≤ 8) (hL : L + mm ≤ 80) (el : vln = nI L) : ∀ (n k : Nat) (x4 : Int32) (f : Nat → Int32), k ≤ mm → mm - k < n →
    ∀ j, (F_Model_put_L126 ch vln vpd n (nI k) x4 (nI mm) f).2.2.2 j = if L ≤ j ∧ j < L + mm - k then chv ch (L + mm - 1 - j) else f j := by
  intro n
  induction n with
  | zero => intro k x4 f hk hn; exact absurd hn (Nat.not_lt_zero _)
  | succ n ih =>
    intro k x4 f hk hn j
    rw [F_Model_put_L126]
    by_cases c : nI mm ≤ nI k
    · rw [if_pos c]
      have hkm : mm ≤ k := (nI_leI (by omega) (by omega)).mp c
      rw [if_neg (by omega)]
    · rw [if_neg c]
      have hlt : k < mm := lp_lt rfl rfl hk c
      rw [nI_1, ih (k + 1) _ _ (by omega) (by omega) j]
      have ei : ((vln + nI mm) - 1 - nI k).toNatClampNeg = L + mm - 1 - k := by
        obtain ⟨m2, rfl⟩ : ∃ m2, mm = m2 + 1 := ⟨mm - 1, by omega⟩
        rw [el, nI_add, show L + (m2 + 1) = (L + m2) + 1 by omega, nI_pred, pk_sub (by omega), nI_clamp (by omega)]
        omega
      have ev : (((ch.toUInt64 >>> (((8 : Int32) * nI k).toInt64.toUInt64 &&& Int64.toUInt64 63)).toInt64 &&& 255).toInt32) = chv ch k := by
        rw [Sk_R ch (by omega)]; rfl
      rw [ei, ev]
      by_cases a : L ≤ j ∧ j < L + mm - (k + 1)
      · rw [if_pos a, if_pos (by omega)]
      · rw [if_neg a]
        by_cases b : j = L + mm - 1 - k
        · rw [if_pos (by omega), b, pk_us, show L + mm - 1 - (L + mm - 1 - k) = k by omega]
        · rw [pk_un b, if_neg (by omega)]
theorem l126 (ch : Int64) (vln : Int32) (vpd : Nat → Int32) : ∀ (n : Nat) (x5 x4 x3 : Int32) (w : Nat → Int32), (F_Model_put_L126 ch vln vpd n x5 x4 x3 w).2.2.1 = x3 := by
  intro n
  induction n with
  | zero => intro x5 x4 x3 w; rfl
  | succ n ih =>
    intro x5 x4 x3 w
    rw [F_Model_put_L126]
    split
    · rfl
    · exact ih _ _ _ _
/-- two pads that hold the same text of L characters -/
def PE (ln vln : Int32) (fsg vpd : Nat → Int32) : Prop := ∃ L : Nat, L ≤ 80 ∧ ln = nI L ∧ vln = nI L ∧ ∀ j, j < L → fsg j = vpd j
theorem put_all (ch : Int64) {ln vln : Int32} {fsg vpd : Nat → Int32} (h : PE ln vln fsg vpd) (hc : ∀ j, ch16 (fsg j)) : (F_TC_put ch ln fsg).1 = (F_Model_put ch vln vpd).1 ∧ PE (F_TC_put ch ln fsg).2.1 (F_Model_put ch vln vpd).2.1 (F_TC_put ch ln fsg).2.2 (F_Model_put ch vln vpd).2.2 ∧ ∀ j, ch16 ((F_TC_put ch ln fsg).2.2 j) := by
  obtain ⟨L, hL, rfl, rfl, hj⟩ := h
  have hT : F_TC_put ch (nI L) fsg = if F_Pad_charactersIn ch = 0 then (-2, nI L, fsg) else if F_Pad_charactersIn ch ≤ 80 - nI L then ((F_Pad_append_L31 ch (nI L) fsg 9 (F_Pad_charactersIn ch - 1) (F_Pad_charactersIn ch) (nI L) fsg).2.2.1, (F_Pad_append_L31 ch (nI L) fsg 9 (F_Pad_charactersIn ch - 1) (F_Pad_charactersIn ch) (nI L) fsg).2.2.1, (F_Pad_append_L31 ch (nI L) fsg 9 (F_Pad_charactersIn ch - 1) (F_Pad_charactersIn ch) (nI L) fsg).2.2.2) else (-4, nI L, fsg) := by
    unfold F_TC_put F_Pad_append
    dsimp only [bnd]
  have hM : F_Model_put ch (nI L) vpd = if (F_Model_put_L8 ch (nI L) vpd 9 0 0 0).2.1 = 0 then (if nI L + (F_Model_put_L8 ch (nI L) vpd 9 0 0 0).2.2 ≤ 80 then (nI L + (F_Model_put_L8 ch (nI L) vpd 9 0 0 0).2.2, nI L + (F_Model_put_L8 ch (nI L) vpd 9 0 0 0).2.2, (F_Model_put_L126 ch (nI L) vpd 9 0 (F_Model_put_L8 ch (nI L) vpd 9 0 0 0).2.1 (F_Model_put_L8 ch (nI L) vpd 9 0 0 0).2.2 vpd).2.2.2) else (-4, nI L, vpd)) else (-2, nI L, vpd) := by
    unfold F_Model_put
    dsimp only [bnd]
    rw [l126]
  have same : PE (nI L) (nI L) fsg vpd := ⟨L, hL, rfl, rfl, hj⟩
  by_cases hz : ch = 0
  · subst hz
    have e1 : F_Pad_charactersIn 0 = 0 := by decide +kernel
    have e2 : ∀ (vln : Int32) (vpd : Nat → Int32), (F_Model_put_L8 0 vln vpd 9 0 0 0).2.1 = 1 := fun vln vpd => by
      rw [F_Model_put_L8, if_neg (by decide), if_pos (by decide), if_pos rfl]
      dsimp only [bnd]
      rw [if_pos (by decide +kernel), show (0 : Int32) + 1 = nI 1 from rfl]
      exact bad_go 0 vln vpd 8 1 _ (by omega) (by omega)
    rw [hT, hM, if_pos e1, e2, if_neg (by decide)]
    exact ⟨rfl, same, hc⟩
  · have h := put_go ch (nI L) vpd 9 9 0 (by omega) (by omega) (by omega) (fun _ => hz)
    rw [nI_0] at h
    have e : F_Pad_charactersIn_L4 ch 9 (Rk ch 0) 0 = F_Pad_charactersIn ch := rfl
    rw [e] at h
    rcases h with ⟨h1, h2⟩ | ⟨h1, m, hm1, hm8, h2, h3⟩
    · rw [hT, hM, if_pos h1, h2, if_neg (by decide)]
      exact ⟨rfl, same, hc⟩
    · rw [hT, hM, h1, h2, h3, if_neg (nI_ne0 (by omega) (by omega)), if_pos rfl, nI_add]
      rw [show (80 : Int32) - nI L = nI (80 - L) from pk_sub (a := 80) hL]
      have h80 : nI (L + m) ≤ 80 ↔ L + m ≤ 80 := nI_leI (b := 80) (by omega) (by omega)
      by_cases c : L + m ≤ 80
      · rw [if_pos ((nI_leI (by omega) (by omega)).mpr (by omega)), if_pos (h80.mpr c)]
        obtain ⟨g1, g2⟩ := app_full ch (nI L) fsg hm8 c 9 0 (nI m - 1) (nI m) (nI L) fsg (by omega) (by omega) rfl rfl
        have g3 := mput_full ch (nI L) vpd hm8 c rfl 9 0 0 vpd (by omega) (by omega)
        rw [nI_0] at g3
        rw [g1]
        refine ⟨rfl, ⟨L + m, c, rfl, rfl, fun j hj2 => ?_⟩, fun j => ?_⟩
        · show (F_Pad_append_L31 ch (nI L) fsg 9 (nI m - 1) (nI m) (nI L) fsg).2.2.2 j = (F_Model_put_L126 ch (nI L) vpd 9 0 0 (nI m) vpd).2.2.2 j
          rw [g2 j, g3 j]
          by_cases a : L ≤ j
          · rw [if_pos (by omega), if_pos (by omega)]
          · rw [if_neg (by omega), if_neg (by omega)]; exact hj j (by omega)
        · show ch16 ((F_Pad_append_L31 ch (nI L) fsg 9 (nI m - 1) (nI m) (nI L) fsg).2.2.2 j)
          rw [g2 j]
          split
          · exact (chv_nar ch _).2
          · exact hc j
      · rw [if_neg (fun z => c (by have := (nI_leI (by omega) (by omega)).mp z; omega)), if_neg (fun z => c (h80.mp z))]
        exact ⟨rfl, same, hc⟩
-- the fault
theorem dig_eq (x : Int32) : F_Model_in (x - 48) 0 9 = F_Pad_isDigit x := by
  by_cases h : 48 ≤ x.toInt ∧ x.toInt ≤ 57
  · have e : x = nI x.toInt.toNat := by
      apply Int32.toInt_inj.mp
      rw [nI_toInt (by omega)]; omega
    have hq : x.toInt.toNat < 58 := by omega
    have hq2 : 48 ≤ x.toInt.toNat := by omega
    generalize x.toInt.toNat = q at e hq hq2
    subst e
    have t : ∀ j : Fin 10, F_Model_in (nI (48 + j.val) - 48) 0 9 = F_Pad_isDigit (nI (48 + j.val)) := by decide +kernel
    have := t ⟨q - 48, by omega⟩
    rwa [show 48 + (q - 48) = q by omega] at this
  · have e1 : F_Pad_isDigit x = 0 := by
      unfold F_Pad_isDigit
      by_cases a : x < 48
      · rw [if_pos a]
      · rw [if_neg a]
        by_cases b : (57 : Int32) < x
        · rw [if_pos b]
        · exfalso
          rw [Int32.lt_iff_toInt_lt] at a b
          have e48 : (48 : Int32).toInt = 48 := rfl
          have e57 : (57 : Int32).toInt = 57 := rfl
          omega
    rw [e1]
    unfold F_Model_in
    by_cases a : x - 48 < 0
    · rw [if_pos a]
    · rw [if_neg a]
      by_cases b : (9 : Int32) < x - 48
      · rw [if_pos b]
      · exfalso
        rw [Int32.lt_iff_toInt_lt] at a b
        have e0 : (0 : Int32).toInt = 0 := rfl
        have e9 : (9 : Int32).toInt = 9 := rfl
        have hy : 0 ≤ (x - 48).toInt ∧ (x - 48).toInt ≤ 9 := by omega
        have e : x - 48 = nI (x - 48).toInt.toNat := by
          apply Int32.toInt_inj.mp
          rw [nI_toInt (by omega)]; omega
        have ex : x = nI ((x - 48).toInt.toNat + 48) := by
          rw [← nI_add, ← e, show nI 48 = 48 from rfl, Int32.sub_add_cancel]
        have hl : (x - 48).toInt.toNat ≤ 9 := by omega
        rw [ex, nI_toInt (by omega)] at h
        omega
theorem dig_pos {x : Int32} (h : ¬ F_Pad_isDigit x = 0) : (x - 48 ≤ 0 ↔ x = 48) := by
  have hx : 48 ≤ x.toInt ∧ x.toInt ≤ 57 := by
    unfold F_Pad_isDigit at h
    by_cases a : x < 48
    · rw [if_pos a] at h; exact absurd rfl h
    · rw [if_neg a] at h
      by_cases b : (57 : Int32) < x
      · rw [if_pos b] at h; exact absurd rfl h
      · rw [Int32.lt_iff_toInt_lt] at a b
        have e48 : (48 : Int32).toInt = 48 := rfl
        have e57 : (57 : Int32).toInt = 57 := rfl
        omega
  have e : x = nI x.toInt.toNat := by
    apply Int32.toInt_inj.mp
    rw [nI_toInt (by omega)]; omega
  have hq : x.toInt.toNat < 58 := by omega
  have hq2 : 48 ≤ x.toInt.toNat := by omega
  generalize x.toInt.toNat = q at e hq hq2
  subst e
  have t : ∀ j : Fin 10, (nI (48 + j.val) - 48 ≤ 0 ↔ nI (48 + j.val) = 48) := by decide +kernel
  have := t ⟨q - 48, by omega⟩
  rwa [show 48 + (q - 48) = q by omega] at this
/-- the character at a place of a text, 0 behind it -/
def cAt (L : Nat) (f : Nat → Int32) (i : Nat) : Int32 := if L ≤ i then 0 else f i
theorem charAt_c {L i : Nat} {f : Nat → Int32} (hL : L ≤ 80) (hi : i ≤ 90) : F_Model_charAt (nI i) (nI L) f = cAt L f i := by
  unfold F_Model_charAt cAt
  rw [nI_clamp (by omega)]
  by_cases c : L ≤ i
  · rw [if_pos c, if_pos ((nI_leI (by omega) (by omega)).mpr c)]
  · rw [if_neg c, if_neg (fun z => c ((nI_leI (by omega) (by omega)).mp z))]
theorem digitAt_c {L i : Nat} {f : Nat → Int32} (hL : L ≤ 80) (hi : i ≤ 90) : F_Model_digitAt (nI i) (nI L) f = cAt L f i - 48 := by
  unfold F_Model_digitAt
  dsimp only [bnd]
  rw [charAt_c hL hi]
def dt (place vln : Int32) (vpd : Nat → Int32) : Int32 := bnd (F_Model_digitAt (place + 1) vln vpd) (fun a => bnd (F_Model_in a 0 9) (fun b => if b = 0 then ((-2 : Int32) - place) else bnd (F_Model_digitAt (place + 1) vln vpd) (fun c => if c ≤ 0 then (place + 2) else bnd (F_Model_digitAt (place + 2) vln vpd) (fun d => bnd (F_Model_in d 0 9) (fun e => if e = 0 then (place + 2) else (place + 3))))))
theorem bo_def (place vln : Int32) (vpd : Nat → Int32) : F_Model_behindOrder place vln vpd = bnd (F_Model_charAt place vln vpd) (fun c => if c = 112 then place + 1 else if c = 99 then dt place vln vpd else if c = 115 then dt place vln vpd else if c = 119 then dt place vln vpd else if c = 98 then dt place vln vpd else if c = 100 then dt place vln vpd else (-1) - place) := rfl
theorem dt_eq {L q : Nat} {f : Nat → Int32} (hL : L ≤ 80) (hq : q ≤ 80) : dt (nI q) (nI L) f = if F_Pad_isDigit (cAt L f (q + 1)) = 0 then (-2 : Int32) - nI q else if cAt L f (q + 1) = 48 then nI (q + 2) else if F_Pad_isDigit (cAt L f (q + 2)) = 0 then nI (q + 2) else nI (q + 3) := by
  unfold dt
  dsimp only [bnd]
  rw [nI_1, show nI q + 2 = nI (q + 2) from nI_add q 2, show nI q + 3 = nI (q + 3) from nI_add q 3, digitAt_c hL (by omega), digitAt_c hL (by omega), dig_eq, dig_eq]
  by_cases a : F_Pad_isDigit (cAt L f (q + 1)) = 0
  · rw [if_pos a, if_pos a]
  · rw [if_neg a, if_neg a]
    by_cases b : cAt L f (q + 1) = 48
    · rw [if_pos b, if_pos ((dig_pos a).mpr b)]
    · rw [if_neg b, if_neg (fun z => b ((dig_pos a).mp z))]
theorem isDig_0 : F_Pad_isDigit 0 = 0 := by decide +kernel
theorem ff_end {L i : Nat} {fsg : Nat → Int32} (n : Nat) (x1 : Int32) (hi : i = L) (hL : L ≤ 80) : F_Pad_firstFault_L4 (nI L) fsg (n + 1) (nI i) x1 = if x1 = 2 then -6 else if x1 = 3 then -6 else nI L := by
  subst hi
  rw [F_Pad_firstFault_L4, if_pos (Int32.le_refl _)]
theorem ff_go {L i : Nat} {fsg : Nat → Int32} (n : Nat) (x1 : Int32) (hi : i < L) (hL : L ≤ 80) : F_Pad_firstFault_L4 (nI L) fsg (n + 1) (nI i) x1 = if F_Pad_placeBehind x1 (fsg i) = 4 then nI i else F_Pad_firstFault_L4 (nI L) fsg n (nI (i + 1)) (F_Pad_placeBehind x1 (fsg i)) := by
  rw [F_Pad_firstFault_L4, if_neg (fun z => by have := (nI_leI (by omega) (by omega)).mp z; omega)]
  dsimp only [bnd]
  rw [nI_clamp (by omega), nI_1]
theorem pb0 (s : Int32) : F_Pad_placeBehind 0 s = F_Pad_placeBehindOrder s := by
  unfold F_Pad_placeBehind
  rw [if_pos rfl]; rfl
theorem pb1 (s : Int32) : F_Pad_placeBehind 1 s = if F_Pad_isDigit s = 0 then 4 else if s = 48 then 3 else 2 := by
  unfold F_Pad_placeBehind
  rw [if_neg (by decide), if_pos rfl]
  dsimp only [bnd]
  rw [if_neg (show ¬ (1 : Int32) = 2 by decide), if_neg (show ¬ (1 : Int32) = 3 by decide)]
theorem pb2 (s : Int32) : F_Pad_placeBehind 2 s = if F_Pad_isDigit s = 0 then (if s = 59 then 0 else 4) else 3 := by
  unfold F_Pad_placeBehind
  rw [if_neg (by decide), if_neg (by decide), if_pos rfl]; rfl
theorem pb3 (s : Int32) : F_Pad_placeBehind 3 s = if s = 59 then 0 else 4 := by
  unfold F_Pad_placeBehind
  rw [if_neg (by decide), if_neg (by decide), if_neg (by decide), if_pos rfl]
/-- what the reference does behind an order that ends at r -/
def wAft (L : Nat) (f : Nat → Int32) (n r : Nat) : Int32 := if L ≤ r then -6 else if f r = 59 then F_Model_wrong_L4 (nI L) f n 1 (nI (r + 1)) else nI r
theorem wr_aft {L q r n : Nat} {f : Nat → Int32} (hL : L ≤ 80) (hr : r ≤ 90) (e : F_Model_behindOrder (nI q) (nI L) f = nI r) : F_Model_wrong_L4 (nI L) f (n + 2) 1 (nI q) = wAft L f (n + 1) r := by
  rw [F_Model_wrong_L4, if_neg (by decide), bnd_e e.symm, if_pos (show (0 : Int32) ≤ nI r from nI_pos' (by omega))]
  unfold wAft
  rw [nI_clamp (by omega), nI_1]
  by_cases c : L ≤ r
  · rw [if_pos c, if_pos ((nI_leI (by omega) (by omega)).mpr c), F_Model_wrong_L4, if_pos rfl]
  · rw [if_neg c, if_neg (fun z => c ((nI_leI (by omega) (by omega)).mp z))]
theorem wr_neg {L q n : Nat} {f : Nat → Int32} {r : Int32} (e : F_Model_behindOrder (nI q) (nI L) f = r) (h : ¬ (0 : Int32) ≤ r) : F_Model_wrong_L4 (nI L) f (n + 1) 1 (nI q) = -1 - r := by
  rw [F_Model_wrong_L4, if_neg (by decide), bnd_e e.symm, if_neg h]
theorem neg_tab : ∀ q : Fin 85, ¬ ((0 : Int32) ≤ -1 - nI q.val) ∧ ¬ ((0 : Int32) ≤ -2 - nI q.val) ∧ (-1 : Int32) - (-1 - nI q.val) = nI q.val ∧ (-1 : Int32) - (-2 - nI q.val) = nI (q.val + 1) := by decide +kernel
theorem fault_go {L : Nat} {fsg f : Nat → Int32} (hL : L ≤ 80) (hf : ∀ j, j < L → fsg j = f j) : ∀ (k q n n2 : Nat), q + k = L → k + 6 ≤ n → L + 1 - q ≤ n2 → F_Pad_firstFault_L4 (nI L) fsg n2 (nI q) 0 = F_Model_wrong_L4 (nI L) f n 1 (nI q) := by
  intro k
  induction k using Nat.strongRecOn with
  | _ k ih =>
    intro q n n2 hk hn hn2
    obtain ⟨n, rfl⟩ : ∃ m, n = m + 2 := ⟨n - 2, by omega⟩
    -- behind an order that ends at r, nothing or a semicolon may stand
    have aft : ∀ (r m2 : Nat) (st : Int32), q < r → r ≤ L → L + 1 - r ≤ m2 → (st = 3 ∨ (st = 2 ∧ F_Pad_isDigit (cAt L f r) = 0)) → F_Pad_firstFault_L4 (nI L) fsg m2 (nI r) st = wAft L f (n + 1) r := by
      intro r m2 st h1 h2 h3 h4
      obtain ⟨m2, rfl⟩ : ∃ m, m2 = m + 1 := ⟨m2 - 1, by omega⟩
      unfold wAft
      by_cases c : r = L
      · rw [if_pos (by omega), ff_end m2 st c hL]
        rcases h4 with rfl | ⟨rfl, -⟩ <;> rfl
      · rw [if_neg (by omega), ff_go m2 st (by omega) hL, hf r (by omega)]
        have ep : F_Pad_placeBehind st (f r) = if f r = 59 then 0 else 4 := by
          rcases h4 with rfl | ⟨rfl, hd⟩
          · exact pb3 _
          · unfold cAt at hd
            rw [if_neg (by omega)] at hd
            rw [pb2, if_pos hd]
        rw [ep]
        by_cases d : f r = 59
        · rw [if_pos d, if_pos d, if_neg (by decide)]
          exact ih (L - (r + 1)) (by omega) (r + 1) (n + 1) m2 (by omega) (by omega) (by omega)
        · rw [if_neg d, if_neg d, if_pos rfl]
    have tab := neg_tab ⟨q, by omega⟩
    obtain ⟨n2, rfl⟩ : ∃ m, n2 = m + 1 := ⟨n2 - 1, by omega⟩
    by_cases hq : q = L
    · have e : F_Model_behindOrder (nI q) (nI L) f = -1 - nI q := by
        rw [bo_def, charAt_c hL (by omega)]
        unfold cAt
        rw [if_pos (by omega)]; rfl
      rw [ff_end n2 0 hq hL, wr_neg e tab.1, tab.2.2.1]
      show nI L = nI q
      rw [hq]
    · have hlt : q < L := by omega
      rw [ff_go n2 0 hlt hL, pb0, hf q hlt]
      have hc : F_Model_charAt (nI q) (nI L) f = f q := by
        rw [charAt_c hL (by omega)]
        unfold cAt
        rw [if_neg (by omega)]
      have hb := bo_def (nI q) (nI L) f
      rw [hc] at hb
      dsimp only [bnd] at hb
      -- an order with a number
      have num : F_Pad_placeBehindOrder (f q) = 1 → F_Model_behindOrder (nI q) (nI L) f = dt (nI q) (nI L) f → (if F_Pad_placeBehindOrder (f q) = 4 then nI q else F_Pad_firstFault_L4 (nI L) fsg n2 (nI (q + 1)) (F_Pad_placeBehindOrder (f q))) = F_Model_wrong_L4 (nI L) f (n + 2) 1 (nI q) := by
        intro h1 h2
        rw [h1, if_neg (by decide)]
        rw [dt_eq hL (by omega)] at h2
        obtain ⟨n3, rfl⟩ : ∃ m, n2 = m + 1 := ⟨n2 - 1, by omega⟩
        by_cases c1 : q + 1 = L
        · have hd : F_Pad_isDigit (cAt L f (q + 1)) = 0 := by
            unfold cAt; rw [if_pos (by omega)]; exact isDig_0
          rw [if_pos hd] at h2
          rw [ff_end n3 1 c1 hL, wr_neg h2 tab.2.1, tab.2.2.2, c1]; rfl
        · have hlt1 : q + 1 < L := by omega
          have e1 : cAt L f (q + 1) = f (q + 1) := by unfold cAt; rw [if_neg (by omega)]
          rw [ff_go n3 1 hlt1 hL, pb1, hf (q + 1) hlt1]
          rw [e1] at h2
          by_cases d1 : F_Pad_isDigit (f (q + 1)) = 0
          · rw [if_pos d1] at h2
            rw [if_pos d1, if_pos rfl, wr_neg h2 tab.2.1, tab.2.2.2]
          · rw [if_neg d1] at h2
            rw [if_neg d1]
            by_cases z1 : f (q + 1) = 48
            · rw [if_pos z1] at h2
              rw [if_pos z1, if_neg (by decide), wr_aft hL (by omega) h2]
              exact aft (q + 2) n3 3 (by omega) (by omega) (by omega) (Or.inl rfl)
            · rw [if_neg z1] at h2
              rw [if_neg z1, if_neg (by decide)]
              by_cases d2 : F_Pad_isDigit (cAt L f (q + 2)) = 0
              · rw [if_pos d2] at h2
                rw [wr_aft hL (by omega) h2]
                exact aft (q + 2) n3 2 (by omega) (by omega) (by omega) (Or.inr ⟨rfl, d2⟩)
              · rw [if_neg d2] at h2
                have hlt2 : q + 2 < L := by
                  refine Nat.lt_of_not_le fun z => d2 ?_
                  unfold cAt; rw [if_pos z]; exact isDig_0
                have e2 : cAt L f (q + 2) = f (q + 2) := by unfold cAt; rw [if_neg (by omega)]
                rw [e2] at d2
                obtain ⟨n4, rfl⟩ : ∃ m, n3 = m + 1 := ⟨n3 - 1, by omega⟩
                rw [ff_go n4 2 hlt2 hL, pb2, hf (q + 2) hlt2, if_neg d2, if_neg (by decide), wr_aft hL (by omega) h2]
                exact aft (q + 3) n4 3 (by omega) (by omega) (by omega) (Or.inl rfl)
      by_cases c112 : f q = 112
      · rw [if_pos c112, nI_1] at hb
        have hp : F_Pad_placeBehindOrder (f q) = 3 := by rw [c112]; decide +kernel
        rw [hp, if_neg (by decide), wr_aft hL (by omega) hb]
        exact aft (q + 1) n2 3 (by omega) (by omega) (by omega) (Or.inl rfl)
      · rw [if_neg c112] at hb
        by_cases c99 : f q = 99
        · rw [if_pos c99] at hb; exact num (by rw [c99]; decide +kernel) hb
        · rw [if_neg c99] at hb
          by_cases c115 : f q = 115
          · rw [if_pos c115] at hb; exact num (by rw [c115]; decide +kernel) hb
          · rw [if_neg c115] at hb
            by_cases c119 : f q = 119
            · rw [if_pos c119] at hb; exact num (by rw [c119]; decide +kernel) hb
            · rw [if_neg c119] at hb
              by_cases c98 : f q = 98
              · rw [if_pos c98] at hb; exact num (by rw [c98]; decide +kernel) hb
              · rw [if_neg c98] at hb
                by_cases c100 : f q = 100
                · rw [if_pos c100] at hb; exact num (by rw [c100]; decide +kernel) hb
                · rw [if_neg c100] at hb
                  have hp : F_Pad_placeBehindOrder (f q) = 4 := by
                    unfold F_Pad_placeBehindOrder
                    rw [if_neg c98, if_neg c99, if_neg c100, if_neg c112, if_neg c115, if_neg c119]
                  rw [hp, if_pos rfl, wr_neg hb tab.1, tab.2.2.1]
theorem fault_eq {ln vln : Int32} {fsg vpd : Nat → Int32} (h : PE ln vln fsg vpd) : F_Pad_firstFault ln fsg = F_Model_wrong vln vpd := by
  obtain ⟨L, hL, rfl, rfl, hj⟩ := h
  have e1 := fault_go hL hj L 0 90 81 (by omega) (by omega) (by omega)
  rw [nI_0] at e1
  exact e1
