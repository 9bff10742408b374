-- a snip, both sides
theorem bnd_eq {α β : Type} (x : α) (f : α → β) : bnd x f = f x := rfl
def mpl (i : Nat) : Prop := (i = 214 ∨ (220 ≤ i ∧ i < 228)) ∨ (i = 230 ∨ (236 ≤ i ∧ i < 244))
theorem both {mks0 mks1 : Int32} {f0 f1 w : Nat → Int32} (joint : Int32) (h0 : ∃ M, MS 0 mks0 f0 w M) (h1 : ∃ M, MS 1 mks1 f1 w M) : (∃ M, MS 0 (F_Tailor_dropMark joint mks0 f0).1 (F_Tailor_dropMark joint mks0 f0).2 (F_Model_rubs 1 joint (F_Model_rubs 0 joint w)) M) ∧ (∃ M, MS 1 (F_Tailor_dropMark joint mks1 f1).1 (F_Tailor_dropMark joint mks1 f1).2 (F_Model_rubs 1 joint (F_Model_rubs 0 joint w)) M) ∧ ∀ i, ¬ mpl i → F_Model_rubs 1 joint (F_Model_rubs 0 joint w) i = w i := by
  obtain ⟨M0, h0⟩ := h0
  obtain ⟨M1, h1⟩ := h1
  obtain ⟨⟨A0, a0⟩, p0⟩ := drop_rub (q := 0) (by omega) (joint := joint) h0
  have p0' : ∀ i, (i = 214 ∨ (220 ≤ i ∧ i < 228)) ∨ F_Model_rubs 0 joint w i = w i := p0
  have h1' : MS 1 mks1 f1 (F_Model_rubs 0 joint w) M1 := MS_ext2 h1 ((p0' 230).resolve_left (by omega)) (fun i a b => (p0' i).resolve_left (by unfold tO at a b; omega))
  obtain ⟨⟨A1, a1⟩, p1⟩ := drop_rub (q := 1) (by omega) (joint := joint) h1'
  have p1' : ∀ i, (i = 230 ∨ (236 ≤ i ∧ i < 244)) ∨ F_Model_rubs 1 joint (F_Model_rubs 0 joint w) i = F_Model_rubs 0 joint w i := p1
  refine ⟨⟨A0, MS_ext2 a0 ((p1' 214).resolve_left (by omega)) (fun i a b => (p1' i).resolve_left (by unfold tO at a b; omega))⟩, ⟨A1, a1⟩, fun i hi => ?_⟩
  unfold mpl at hi
  rw [(p1' i).resolve_left (fun z => hi (Or.inr z)), (p0' i).resolve_left (fun z => hi (Or.inl z))]
theorem dms_f (j mks0 : Int32) (f0 : Nat → Int32) (mks1 : Int32) (f1 : Nat → Int32) : F_Game_dropMarks j mks0 f0 mks1 f1 = ((F_Tailor_dropMark j mks0 f0).1, (F_Tailor_dropMark j mks0 f0).2, (F_Tailor_dropMark j mks1 f1).1, (F_Tailor_dropMark j mks1 f1).2) := rfl
theorem rag_loop (a1 : Int64) (a2 : Int32) (a3 a4 a5 : Int64) (a6 a7 a8 a9 : Int32) (a10 : Nat → Int32) (a11 a12 a13 a14 : Int32) (a15 : Nat → Int32) (jj : Int32) (vs vlb lab : Nat → Int32) {g ac dn : Int64} {fs fm v5 : Nat → Int32} (p0 r0 c0 p1 r1 c1 x5 x4 x3 : Int32) (hC : CR g ac dn fs fm v5) (hx : ¬ x5 ≤ 0) : ∀ (n k : Nat) (mks0 : Int32) (f0 : Nat → Int32) (mks1 : Int32) (f1 w : Nat → Int32), k ≤ 82 → 82 - k < n → (∀ i, i < 212 → w i = v5 i) → (∃ M, MS 0 mks0 f0 w M) → (∃ M, MS 1 mks1 f1 w M) → ∃ X Y m0 g0 m1 g1 w', F_Game_loseRag_L25 a1 a2 a3 a4 a5 a6 a7 a8 a9 a10 a11 a12 a13 a14 a15 n (nI k) g ac dn mks0 p0 r0 c0 f0 mks1 p1 r1 c1 f1 = (X, g, ac, dn, m0, p0, r0, c0, g0, m1, p1, r1, c1, g1) ∧ F_Model_snips_L218 jj vs vlb n (nI k) x5 x4 x3 w lab = (Y, x5, x4, x3, w', lab) ∧ (∃ M, MS 0 m0 g0 w' M) ∧ (∃ M, MS 1 m1 g1 w' M) ∧ ∀ i, ¬ mpl i → w' i = w i := by
  intro n
  induction n with
  | zero => intro k mks0 f0 mks1 f1 w hk hn; exact absurd hn (Nat.not_lt_zero _)
  | succ n ih =>
    intro k mks0 f0 mks1 f1 w hk hn hw h0 h1
    rw [F_Game_loseRag_L25, F_Model_snips_L218]
    dsimp only [bnd]
    by_cases c : (82 : Int32) ≤ nI k
    · rw [if_pos c, if_pos c]
      exact ⟨_, _, _, _, _, _, _, rfl, rfl, h0, h1, fun _ _ => rfl⟩
    · have hlt : k < 82 := lp_lt rfl rfl hk c
      rw [if_neg c, if_neg c, if_neg hx, cvoid (CR_ext hC hw) hlt]
      by_cases v : F_Model_isVoid (nI k) w = 0
      · rw [if_pos v, if_pos v, nI_1]
        exact ih (k + 1) mks0 f0 mks1 f1 w (by omega) (by omega) hw h0 h1
      · rw [if_neg v, if_neg v, nI_1, dms_f]
        obtain ⟨b0, b1, b2⟩ := both (nI k) h0 h1
        obtain ⟨X, Y, m0, g0, m1, g1, w', e1, e2, e3, e4, e5⟩ := ih (k + 1) _ _ _ _ _ (by omega) (by omega) (fun i hi => (b2 i (by unfold mpl; omega)).trans (hw i hi)) b0 b1
        exact ⟨X, Y, m0, g0, m1, g1, w', e1, e2, e3, e4, fun i hi => (e5 i hi).trans (b2 i hi)⟩
theorem gone_loop (jj : Int32) (vs vlb lab : Nat → Int32) {x5 : Int32} (x4 x3 : Int32) (hx : ¬ x5 ≤ 0) : ∀ (n k : Nat) (w : Nat → Int32), k ≤ 48 → 48 - k < n → ∃ Y w', F_Model_snips_L159 jj vs vlb n (nI k) x5 x4 x3 w lab = (Y, x5, x4, x3, w', lab) ∧ ∀ i, w' i = if 164 + k ≤ i ∧ i < 212 ∧ lab (i - 164) = x4 then 1 else w i := by
  intro n
  induction n with
  | zero => intro k w hk hn; exact absurd hn (Nat.not_lt_zero _)
  | succ n ih =>
    intro k w hk hn
    rw [F_Model_snips_L159]
    by_cases c : (48 : Int32) ≤ nI k
    · have h9 : 48 ≤ k := (nI_leI (by decide) (by omega)).mp c
      rw [if_pos c]
      exact ⟨_, _, rfl, fun i => by rw [if_neg (by omega)]⟩
    · have hlt : k < 48 := lp_lt rfl rfl hk c
      rw [if_neg c, if_neg hx, nI_1, nI_clamp (n := k) (by omega), show ((164 : Int32) + nI k).toNatClampNeg = 164 + k by rw [show (164 : Int32) = nI 164 from rfl, nI_add, nI_clamp (by omega)]]
      by_cases d : lab k = x4
      · rw [if_pos d]
        obtain ⟨Y, w', e1, e2⟩ := ih (k + 1) (upd w (164 + k) 1) (by omega) (by omega)
        refine ⟨Y, w', e1, fun i => ?_⟩
        rw [e2 i]
        by_cases a : 164 + (k + 1) ≤ i ∧ i < 212 ∧ lab (i - 164) = x4
        · rw [if_pos a, if_pos ⟨by omega, a.2⟩]
        · rw [if_neg a]
          by_cases b : i = 164 + k
          · subst b
            rw [pk_us, if_pos ⟨Nat.le_refl _, by omega, by rw [show 164 + k - 164 = k by omega]; exact d⟩]
          · rw [pk_un b, if_neg (fun z => a ⟨by omega, z.2⟩)]
      · rw [if_neg d]
        obtain ⟨Y, w', e1, e2⟩ := ih (k + 1) (upd w (164 + k) (w (164 + k))) (by omega) (by omega)
        refine ⟨Y, w', e1, fun i => ?_⟩
        rw [e2 i]
        by_cases a : 164 + (k + 1) ≤ i ∧ i < 212 ∧ lab (i - 164) = x4
        · rw [if_pos a, if_pos ⟨by omega, a.2⟩]
        · rw [if_neg a]
          by_cases b : i = 164 + k
          · subst b
            rw [pk_us, if_neg (fun z => d (by have := z.2.2; rwa [show 164 + k - 164 = k by omega] at this))]
          · rw [pk_un b, if_neg (fun z => a ⟨by omega, z.2⟩)]
theorem l0_159 {fu : Nat} (hfu : 1 ≤ fu) (jj : Int32) (vs vlb lab : Nat → Int32) (x4 x3 : Int32) (w : Nat → Int32) : F_Model_snips_L159 jj vs vlb fu 0 0 x4 x3 w lab = (0, 0, x4, x3, w, lab) := by
  obtain ⟨n, rfl⟩ : ∃ n, fu = n + 1 := ⟨fu - 1, by omega⟩
  rw [F_Model_snips_L159, if_neg (by decide), if_pos (by decide)]
theorem l0_218 {fu : Nat} (hfu : 1 ≤ fu) (jj : Int32) (vs vlb lab : Nat → Int32) (x4 x3 : Int32) (w : Nat → Int32) : F_Model_snips_L218 jj vs vlb fu 0 0 x4 x3 w lab = (0, 0, x4, x3, w, lab) := by
  obtain ⟨n, rfl⟩ : ∃ n, fu = n + 1 := ⟨fu - 1, by omega⟩
  rw [F_Model_snips_L218, if_neg (by decide), if_pos (by decide)]
def HC (r5 r8 dp df : Int32) : Prop := (r5 = 0 ∧ r8 = 0 ∧ dp = (0 : Int32) + 0 ∧ df = 0) ∨ (r5 = 0 ∧ ¬ r8 = 0 ∧ dp = (0 : Int32) + 1 ∧ df = 0) ∨ (¬ r5 = 0 ∧ r8 = 0 ∧ dp = (-3 : Int32) + 0 ∧ df = 1) ∨ (¬ r5 = 0 ∧ ¬ r8 = 0 ∧ dp = (-3 : Int32) + 1 ∧ df = 1)
theorem HC_ex (r5 r8 : Int32) : ∃ dp df : Int32, HC r5 r8 dp df ∧ -3 ≤ dp.toInt ∧ dp.toInt ≤ 3 := by
  by_cases a : r5 = 0
  · by_cases b : r8 = 0
    · exact ⟨(0 : Int32) + 0, 0, Or.inl ⟨a, b, rfl, rfl⟩, by decide⟩
    · exact ⟨(0 : Int32) + 1, 0, Or.inr (Or.inl ⟨a, b, rfl, rfl⟩), by decide⟩
  · by_cases b : r8 = 0
    · exact ⟨(-3 : Int32) + 0, 1, Or.inr (Or.inr (Or.inl ⟨a, b, rfl, rfl⟩)), by decide⟩
    · exact ⟨(-3 : Int32) + 1, 1, Or.inr (Or.inr (Or.inr ⟨a, b, rfl, rfl⟩)), by decide⟩
/-- what the reference does behind the chalk -/
def snT (joint r5 : Int32) (v4 vs vlb : Nat → Int32) : Int32 × (Nat → Int32) × (Nat → Int32) := (bnd (F_Model_fallsBy joint v4 vlb) (fun r_14 => (if r_14.1 = (-6) then (bnd (F_Model_snips_L159 joint vs vlb 49 (0 : Int32) (0 : Int32) r_14.1 r5 v4 r_14.2) (fun q_34 => (bnd (F_Model_snips_L218 joint vs vlb 83 (0 : Int32) q_34.2.1 q_34.2.2.1 q_34.2.2.2.1 q_34.2.2.2.2.1 q_34.2.2.2.2.2) (fun q_35 => (bnd (F_Model_at (vs (245 : Int32).toNatClampNeg) (0 : Int32)) (fun r_36 => (bnd (F_Model_at (vs (245 : Int32).toNatClampNeg) (4 : Int32)) (fun r_37 => (bnd (F_Model_at (vs (245 : Int32).toNatClampNeg) (3 : Int32)) (fun r_38 => (if q_35.2.1 ≤ 0 then (bnd (F_Model_ends q_35.2.1 (upd (upd (upd q_35.2.2.2.2.1 r_36.toNatClampNeg ((q_35.2.2.2.2.1 r_36.toNatClampNeg) + q_35.2.1)) r_37.toNatClampNeg (((upd q_35.2.2.2.2.1 r_36.toNatClampNeg ((q_35.2.2.2.2.1 r_36.toNatClampNeg) + q_35.2.1)) r_37.toNatClampNeg) + q_35.2.1)) r_38.toNatClampNeg (((upd (upd q_35.2.2.2.2.1 r_36.toNatClampNeg ((q_35.2.2.2.2.1 r_36.toNatClampNeg) + q_35.2.1)) r_37.toNatClampNeg (((upd q_35.2.2.2.2.1 r_36.toNatClampNeg ((q_35.2.2.2.2.1 r_36.toNatClampNeg) + q_35.2.1)) r_37.toNatClampNeg) + q_35.2.1)) r_38.toNatClampNeg) + 0))) (fun r_40 => (r_40.1, r_40.2, q_35.2.2.2.2.2))) else (bnd (F_Model_ends q_35.2.1 (upd (upd (upd q_35.2.2.2.2.1 r_36.toNatClampNeg ((q_35.2.2.2.2.1 r_36.toNatClampNeg) + q_35.2.1)) r_37.toNatClampNeg (((upd q_35.2.2.2.2.1 r_36.toNatClampNeg ((q_35.2.2.2.2.1 r_36.toNatClampNeg) + q_35.2.1)) r_37.toNatClampNeg) + q_35.2.1)) r_38.toNatClampNeg (((upd (upd q_35.2.2.2.2.1 r_36.toNatClampNeg ((q_35.2.2.2.2.1 r_36.toNatClampNeg) + q_35.2.1)) r_37.toNatClampNeg (((upd q_35.2.2.2.2.1 r_36.toNatClampNeg ((q_35.2.2.2.2.1 r_36.toNatClampNeg) + q_35.2.1)) r_37.toNatClampNeg) + q_35.2.1)) r_38.toNatClampNeg) + 1))) (fun r_41 => (r_41.1, r_41.2, q_35.2.2.2.2.2)))))))))))))) else (bnd (F_Model_cellsOf r_14.1 r_14.2) (fun r_16 => (bnd (F_Model_snips_L159 joint vs vlb 49 (0 : Int32) r_16 r_14.1 r5 v4 r_14.2) (fun q_17 => (bnd (F_Model_snips_L218 joint vs vlb 83 (0 : Int32) q_17.2.1 q_17.2.2.1 q_17.2.2.2.1 q_17.2.2.2.2.1 q_17.2.2.2.2.2) (fun q_18 => (bnd (F_Model_at (vs (245 : Int32).toNatClampNeg) (0 : Int32)) (fun r_19 => (bnd (F_Model_at (vs (245 : Int32).toNatClampNeg) (4 : Int32)) (fun r_20 => (bnd (F_Model_at (vs (245 : Int32).toNatClampNeg) (3 : Int32)) (fun r_21 => (if q_18.2.1 ≤ 0 then (bnd (F_Model_ends q_18.2.1 (upd (upd (upd q_18.2.2.2.2.1 r_19.toNatClampNeg ((q_18.2.2.2.2.1 r_19.toNatClampNeg) + q_18.2.1)) r_20.toNatClampNeg (((upd q_18.2.2.2.2.1 r_19.toNatClampNeg ((q_18.2.2.2.2.1 r_19.toNatClampNeg) + q_18.2.1)) r_20.toNatClampNeg) + q_18.2.1)) r_21.toNatClampNeg (((upd (upd q_18.2.2.2.2.1 r_19.toNatClampNeg ((q_18.2.2.2.2.1 r_19.toNatClampNeg) + q_18.2.1)) r_20.toNatClampNeg (((upd q_18.2.2.2.2.1 r_19.toNatClampNeg ((q_18.2.2.2.2.1 r_19.toNatClampNeg) + q_18.2.1)) r_20.toNatClampNeg) + q_18.2.1)) r_21.toNatClampNeg) + 0))) (fun r_23 => (r_23.1, r_23.2, q_18.2.2.2.2.2))) else (bnd (F_Model_ends q_18.2.1 (upd (upd (upd q_18.2.2.2.2.1 r_19.toNatClampNeg ((q_18.2.2.2.2.1 r_19.toNatClampNeg) + q_18.2.1)) r_20.toNatClampNeg (((upd q_18.2.2.2.2.1 r_19.toNatClampNeg ((q_18.2.2.2.2.1 r_19.toNatClampNeg) + q_18.2.1)) r_20.toNatClampNeg) + q_18.2.1)) r_21.toNatClampNeg (((upd (upd q_18.2.2.2.2.1 r_19.toNatClampNeg ((q_18.2.2.2.2.1 r_19.toNatClampNeg) + q_18.2.1)) r_20.toNatClampNeg (((upd q_18.2.2.2.2.1 r_19.toNatClampNeg ((q_18.2.2.2.2.1 r_19.toNatClampNeg) + q_18.2.1)) r_20.toNatClampNeg) + q_18.2.1)) r_21.toNatClampNeg) + 1))) (fun r_24 => (r_24.1, r_24.2, q_18.2.2.2.2.2)))))))))))))))))))
def snV (joint dp df : Int32) (vs : Nat → Int32) : Nat → Int32 := (upd (upd (upd (upd vs ((0 : Int32) + joint).toNatClampNeg 1) ((82 : Int32) + joint).toNatClampNeg (-6)) (F_Model_at (vs (245 : Int32).toNatClampNeg) (0 : Int32)).toNatClampNeg (((upd (upd vs ((0 : Int32) + joint).toNatClampNeg 1) ((82 : Int32) + joint).toNatClampNeg (-6)) (F_Model_at (vs (245 : Int32).toNatClampNeg) (0 : Int32)).toNatClampNeg) + dp)) (F_Model_at (vs (245 : Int32).toNatClampNeg) (5 : Int32)).toNatClampNeg (((upd (upd (upd vs ((0 : Int32) + joint).toNatClampNeg 1) ((82 : Int32) + joint).toNatClampNeg (-6)) (F_Model_at (vs (245 : Int32).toNatClampNeg) (0 : Int32)).toNatClampNeg (((upd (upd vs ((0 : Int32) + joint).toNatClampNeg 1) ((82 : Int32) + joint).toNatClampNeg (-6)) (F_Model_at (vs (245 : Int32).toNatClampNeg) (0 : Int32)).toNatClampNeg) + dp)) (F_Model_at (vs (245 : Int32).toNatClampNeg) (5 : Int32)).toNatClampNeg) + df))
set_option maxHeartbeats 1000000 in
theorem sn_form {joint : Int32} {vs : Nat → Int32} (vlb : Nat → Int32) (hj : ¬ F_Model_isJoint joint = 0) (hr : F_Model_reason joint vs ≤ 0) {r5 r8 dp df : Int32} (e5 : F_Model_hasChalk ((1 : Int32) - (vs (245 : Int32).toNatClampNeg)) joint (upd (upd vs ((0 : Int32) + joint).toNatClampNeg 1) ((82 : Int32) + joint).toNatClampNeg (-6)) = r5) (e8 : F_Model_hasChalk (vs (245 : Int32).toNatClampNeg) joint (upd (upd vs ((0 : Int32) + joint).toNatClampNeg 1) ((82 : Int32) + joint).toNatClampNeg (-6)) = r8) (hc : HC r5 r8 dp df) : F_Model_snips joint vs vlb = snT joint r5 (F_Model_rubs (1 : Int32) joint (F_Model_rubs (0 : Int32) joint (snV joint dp df vs))) vs vlb := by
  unfold F_Model_snips snT snV
  rw [bnd_eq, if_neg hj, bnd_eq, if_pos hr, bnd_eq, bnd_eq, e5]
  rcases hc with ⟨c5, c8, rfl, rfl⟩ | ⟨c5, c8, rfl, rfl⟩ | ⟨c5, c8, rfl, rfl⟩ | ⟨c5, c8, rfl, rfl⟩
  · rw [if_pos c5, bnd_eq, e8, if_pos c8, bnd_eq, bnd_eq, bnd_eq]
  · rw [if_pos c5, bnd_eq, e8, if_neg c8, bnd_eq, bnd_eq, bnd_eq]
  · rw [if_neg c5, bnd_eq, e8, if_pos c8, bnd_eq, bnd_eq, bnd_eq]
  · rw [if_neg c5, bnd_eq, e8, if_neg c8, bnd_eq, bnd_eq, bnd_eq]
theorem atq0 {q : Nat} (hq : q ≤ 1) : F_Model_at (nI q) 0 = nI (tO q) := at_q hq 0
theorem atq3 {q : Nat} (hq : q ≤ 1) : F_Model_at (nI q) 3 = nI (tO q + 3) := at_q hq 3
theorem atq4 {q : Nat} (hq : q ≤ 1) : F_Model_at (nI q) 4 = nI (tO q + 4) := at_q hq 4
theorem atq5 {q : Nat} (hq : q ≤ 1) : F_Model_at (nI q) 5 = nI (tO q + 5) := at_q hq 5
set_option maxHeartbeats 4000000 in
theorem snT_none {q : Nat} (hq : q ≤ 1) {joint r5 : Int32} {v4 vs vlb lab : Nat → Int32} (e : vs 245 = nI q) (hf : F_Model_fallsBy joint v4 vlb = (-6, lab)) : snT joint r5 v4 vs vlb = ((F_Model_ends 0 v4).1, (F_Model_ends 0 v4).2, lab) := by
  unfold snT
  rw [bnd_eq, hf]
  dsimp only
  rw [if_pos rfl, bnd_eq, l0_159 (by omega)]
  dsimp only
  rw [bnd_eq, l0_218 (by omega)]
  dsimp only
  rw [n245, e, bnd_eq, atq0 hq, bnd_eq, atq4 hq, bnd_eq, atq3 hq, if_pos (show (0 : Int32) ≤ 0 by decide), bnd_eq, nI_clamp (by unfold tO; omega), nI_clamp (by unfold tO; omega), nI_clamp (by unfold tO; omega)]
  have ev : upd (upd (upd v4 (tO q) (v4 (tO q) + 0)) (tO q + 4) (upd v4 (tO q) (v4 (tO q) + 0) (tO q + 4) + 0)) (tO q + 3) (upd (upd v4 (tO q) (v4 (tO q) + 0)) (tO q + 4) (upd v4 (tO q) (v4 (tO q) + 0) (tO q + 4) + 0) (tO q + 3) + 0) = v4 := by
    funext i
    rw [Int32.add_zero, Int32.add_zero, Int32.add_zero]
    by_cases a : i = tO q + 3
    · subst a; rw [pk_us, pk_un (by omega), pk_un (by omega)]
    · rw [pk_un a]
      by_cases b : i = tO q + 4
      · subst b; rw [pk_us, pk_un (by omega)]
      · rw [pk_un b]
        by_cases c : i = tO q
        · subst c; rw [pk_us]
        · rw [pk_un c]
  rw [ev]
set_option maxHeartbeats 4000000 in
theorem snT_some {q : Nat} (hq : q ≤ 1) {joint r5 : Int32} {v4 vs vlb lab w1 w2 : Nat → Int32} {m : Nat} (hm : m < 48) {Y1 Y2 cells : Int32} (e : vs 245 = nI q) (hf : F_Model_fallsBy joint v4 vlb = (nI m, lab)) (hn : F_Model_cellsOf (nI m) lab = cells) (hx : ¬ cells ≤ 0) (e1 : F_Model_snips_L159 joint vs vlb 49 (0 : Int32) cells (nI m) r5 v4 lab = (Y1, cells, nI m, r5, w1, lab)) (e2 : F_Model_snips_L218 joint vs vlb 83 (0 : Int32) cells (nI m) r5 w1 lab = (Y2, cells, nI m, r5, w2, lab)) : snT joint r5 v4 vs vlb = ((F_Model_ends cells (upd (upd (upd w2 (tO q) (w2 (tO q) + cells)) (tO q + 4) (w2 (tO q + 4) + cells)) (tO q + 3) (w2 (tO q + 3) + 1))).1, (F_Model_ends cells (upd (upd (upd w2 (tO q) (w2 (tO q) + cells)) (tO q + 4) (w2 (tO q + 4) + cells)) (tO q + 3) (w2 (tO q + 3) + 1))).2, lab) := by
  unfold snT
  rw [bnd_eq, hf]
  dsimp only
  rw [if_neg (nI_n6 (by omega)), bnd_eq, hn, bnd_eq, e1]
  dsimp only
  rw [bnd_eq, e2]
  dsimp only
  rw [n245, e, bnd_eq, atq0 hq, bnd_eq, atq4 hq, bnd_eq, atq3 hq, if_neg hx, bnd_eq, nI_clamp (by unfold tO; omega), nI_clamp (by unfold tO; omega), nI_clamp (by unfold tO; omega)]
  have x1 : upd w2 (tO q) (w2 (tO q) + cells) (tO q + 4) = w2 (tO q + 4) := pk_un (by omega)
  have x2 : upd (upd w2 (tO q) (w2 (tO q) + cells)) (tO q + 4) (w2 (tO q + 4) + cells) (tO q + 3) = w2 (tO q + 3) := by rw [pk_un (by omega), pk_un (by omega)]
  rw [x1, x2]
theorem rag_mk {k : Nat} (hk : k < 82) (ac dn : Int64) : F_Cloth_ragOf (nI k) (if k < 42 then mkB 1 k ac else ac) (if k < 42 then dn else mkB 1 k dn) = F_Cloth_ragOf (nI k) ac dn := by
  have hb : ∀ x : Int64, (mkB 1 k x) &&& (own k ^^^ (-1)) = x &&& (own k ^^^ (-1)) := fun x => b6_ext fun i => by
    have d : ¬ ((1 : Int32) = 0 ∨ (1 : Int32) = 2) := by decide
    rw [Bool.eq_iff_iff, b6_off hk, b6_off hk, b6_mkB hk]
    constructor
    · rintro ⟨a, b⟩
      rw [if_neg b] at a
      exact ⟨a, b⟩
    · rintro ⟨a, b⟩
      rw [if_neg b]
      exact ⟨a, b⟩
  have ea : rgA k (if k < 42 then mkB 1 k ac else ac) = rgA k ac := by
    unfold rgA
    by_cases c : k < 42
    · rw [if_pos c, if_pos c, if_pos c, hb]
    · rw [if_neg c, if_neg c, if_neg c]
  have ed : rgD k (if k < 42 then dn else mkB 1 k dn) = rgD k dn := by
    unfold rgD
    by_cases c : k < 42
    · rw [if_pos c, if_pos c, if_pos c]
    · rw [if_neg c, if_neg c, if_neg c, hb]
  rw [rag_f hk, rag_f hk, ea, ed]
theorem p00 (x : Int32) : x = x + ((0 : Int32) + 0) := by rw [show ((0 : Int32) + 0) = 0 by decide, Int32.add_zero]
theorem p01' (x : Int32) : x + 1 = x + ((0 : Int32) + 1) := by rw [show ((0 : Int32) + 1) = 1 by decide]
theorem p30 (x : Int32) : x - 3 = x + ((-3 : Int32) + 0) := by rw [Int32.sub_eq_add_neg, show ((-3 : Int32) + 0) = -3 by decide]
theorem p31 (x : Int32) : x - 3 + 1 = x + ((-3 : Int32) + 1) := by rw [Int32.sub_eq_add_neg, Int32.add_assoc]
theorem find_0 (k : Nat) {mks0 pts0 fnd0 mks1 pts1 fnd1 r5 r8 dp df : Int32} {fma0 fma1 : Nat → Int32} (e5 : F_Tailor_hasMark (nI k) mks1 fma1 = r5) (e8 : F_Tailor_hasMark (nI k) mks0 fma0 = r8) (hc : HC r5 r8 dp df) : F_Game_findChalk (nI k) 0 mks0 pts0 fnd0 fma0 mks1 pts1 fnd1 fma1 = ((F_Tailor_dropMark (nI k) mks0 fma0).1, pts0 + dp, fnd0 + df, (F_Tailor_dropMark (nI k) mks0 fma0).2, (F_Tailor_dropMark (nI k) mks1 fma1).1, pts1, fnd1, (F_Tailor_dropMark (nI k) mks1 fma1).2) := by
  unfold F_Game_findChalk
  dsimp only [bnd]
  rw [if_pos rfl, if_neg (show ¬ (1 : Int32) - 0 = 0 by decide), e5, e8, dms_f]
  rcases hc with ⟨c5, c8, rfl, rfl⟩ | ⟨c5, c8, rfl, rfl⟩ | ⟨c5, c8, rfl, rfl⟩ | ⟨c5, c8, rfl, rfl⟩
  · rw [if_pos c5, if_pos c8, ← p00, Int32.add_zero]
  · rw [if_pos c5, if_neg c8, ← p01', Int32.add_zero]
  · rw [if_neg c5, if_pos c8, ← p30]
  · rw [if_neg c5, if_neg c8, ← p31]
theorem find_1 (k : Nat) {mks0 pts0 fnd0 mks1 pts1 fnd1 r5 r8 dp df : Int32} {fma0 fma1 : Nat → Int32} (e5 : F_Tailor_hasMark (nI k) mks0 fma0 = r5) (e8 : F_Tailor_hasMark (nI k) mks1 fma1 = r8) (hc : HC r5 r8 dp df) : F_Game_findChalk (nI k) 1 mks0 pts0 fnd0 fma0 mks1 pts1 fnd1 fma1 = ((F_Tailor_dropMark (nI k) mks0 fma0).1, pts0, fnd0, (F_Tailor_dropMark (nI k) mks0 fma0).2, (F_Tailor_dropMark (nI k) mks1 fma1).1, pts1 + dp, fnd1 + df, (F_Tailor_dropMark (nI k) mks1 fma1).2) := by
  unfold F_Game_findChalk
  dsimp only [bnd]
  rw [if_neg (show ¬ (1 : Int32) = 0 by decide), if_pos (show (1 : Int32) - 1 = 0 by decide), e5, e8, dms_f]
  rcases hc with ⟨c5, c8, rfl, rfl⟩ | ⟨c5, c8, rfl, rfl⟩ | ⟨c5, c8, rfl, rfl⟩ | ⟨c5, c8, rfl, rfl⟩
  · rw [if_pos c5, if_pos c8, ← p00, Int32.add_zero]
  · rw [if_pos c5, if_neg c8, ← p01', Int32.add_zero]
  · rw [if_neg c5, if_pos c8, ← p30]
  · rw [if_neg c5, if_neg c8, ← p31]
