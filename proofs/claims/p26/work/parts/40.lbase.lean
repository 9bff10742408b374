-- calls that make arrays
theorem wa_preS {s : State} {H : Heap} {D : va_G} {cl : List vw_C} {tys : List (ClassId × FieldType)} {ws : va_W} {av : List Value} {A : Nat → Prop} (hP : va_P D cl ws H) (hK : va_K D cl tys s) (hD : va_D A ws) : PreS s H (va_Pc av (fun U => U.heap.size = H.size ∧ va_P D cl ws U.heap ∧ va_K D cl tys U ∧ va_D (fun _ => True) ws)) av :=
  ⟨fun a U g mk q => by
    obtain ⟨q0, q1, qP, qK, qD⟩ := q
    exact ⟨q0, q1, qP, va_K.moved (u := U) (U := U.calling g mk a) (Vm.Alike.refl U.vm) qK, qD⟩, fun U hU hW => ⟨rfl, by rw [hU], by rw [hU]; exact hP, va_K.moved hW.alike hK, wr_top hD⟩⟩
section WAC
variable {p : Program} {l : Launch} {e : Env} {R : Room} {s : State} {m : MethodId} {args : Array Value} {below : List Frame} {meth : Method} {c : Code} {H : Heap} {locs : List Loc} {cells slots : Nat} {Q : State → Prop}
variable {pc : Nat} {ls : Array Slot} {rest st0 : List Value} {a : Array Value} {A0 : Nat → Prop} {H0 : Heap} {D : va_G} {cl : List vw_C} {ws w1 wsC : va_W}
theorem wa_calli {ws2 : va_W} {res : Int32} {is : List Nat} {mc ms : Nat} (hr : va_Run p l e R s m args below meth c H locs cells slots mc ms (F0 m pc ls st0) rest (va_Qi (fun r (_ : Unit) => r = res) (fun _ t => va_P D cl w1 t.heap) (va_A ws H.size) a) (va_A ws H.size)) (hP : va_P D cl wsC H) (hD : va_D A0 wsC) (hS : va_S A0 H0 H locs) (hA : ∀ q : Nat, H0.size ≤ q → A0 q)
    (hC : is.map (fun i => wsC[i]?) = ws.map some) (hl : is.length = w1.length) (he : pl_put wsC is w1 = ws2) (hf : ws2.map Prod.fst = wsC.map Prod.fst)
    (kk : ∀ (H1 : Heap) (locs1 : List Loc), va_P D cl ws2 H1 → va_D A0 ws2 → va_S A0 H0 H1 locs1 → W p l e R s m args below meth c H1 locs1 (cells + mc) (slots + ms) Q (F0 m (pc + 3) ls (.int res :: rest))) : W p l e R s m args below meth c H locs cells slots Q (F0 m pc ls st0) := by
  subst he
  have hFc := va_free (wc := ws) hD hS hA is hC
  refine va_calli hr hS (fun q _ h => hFc q h) hFc (fun r u t H1 locs1 ht hvm hw hB hz hk hS1 => ?_)
  subst hw
  exact kk H1 locs1 (wr_join hP hD hC hl (fun q h1 h2 => hk q h1 (fun z => z.elim (fun h => h2 h) (fun h => absurd h1 (Nat.not_lt.mpr h)))) (by rw [ht] at hB; exact hB)) (va_D_fst hD hf) hS1
end WAC
-- numbers in range
theorem cell_in {x : Int32} {gn ac dn : Int64} (h : F_TC_cell x 0 gn ac dn = 0) : vp_in x 48 := by
  rw [vp_in_iff]
  unfold F_TC_cell F_Cloth_isCell at h
  by_cases h1 : x < 0
  · rw [if_pos h1, bnd_eq, if_pos rfl] at h; exact absurd h (by decide)
  · by_cases h2 : (48 : Int32) ≤ x
    · rw [if_neg h1, if_pos h2, bnd_eq, if_pos rfl] at h; exact absurd h (by decide)
    · rw [Int32.lt_iff_toInt_lt] at h1
      rw [Int32.le_iff_toInt_le] at h2
      have e0 : (0 : Int32).toInt = 0 := rfl
      have e1 : (48 : Int32).toInt = 48 := rfl
      omega
theorem of_2 {k : Nat} (hk : k < 82) (tn : Int32) (gn ac dn : Int64) (fs fm : Nat → Int32) (mks0 : Int32) (fma0 : Nat → Int32) (mks1 : Int32) (fma1 : Nat → Int32) : F_TC_of (nI k) 2 tn gn ac dn fs fm mks0 fma0 mks1 fma1 = nI (jF k) := by
  have t := j_tab ⟨k, hk⟩
  dsimp only at t
  have e : F_TC_of (nI k) 2 tn gn ac dn fs fm mks0 fma0 mks1 fma1 = if F_Cloth_isJoint (nI k) = 0 then (-1) else F_Cloth_firstCell (nI k) := rfl
  rw [e, t.2.2.2.2.2.2.2.1, if_neg (by decide), t.1]
theorem of_3 {k : Nat} (hk : k < 82) (tn : Int32) (gn ac dn : Int64) (fs fm : Nat → Int32) (mks0 : Int32) (fma0 : Nat → Int32) (mks1 : Int32) (fma1 : Nat → Int32) : F_TC_of (nI k) 3 tn gn ac dn fs fm mks0 fma0 mks1 fma1 = nI (jS k) := by
  have t := j_tab ⟨k, hk⟩
  dsimp only at t
  have e : F_TC_of (nI k) 3 tn gn ac dn fs fm mks0 fma0 mks1 fma1 = if F_Cloth_isJoint (nI k) = 0 then (-1) else F_Cloth_secondCell (nI k) := rfl
  rw [e, t.2.2.2.2.2.2.2.1, if_neg (by decide), t.2.1]
theorem of_0 {k : Nat} (hk : k < 82) (tn : Int32) (gn ac dn : Int64) (fs fm : Nat → Int32) (mks0 : Int32) (fma0 : Nat → Int32) (mks1 : Int32) (fma1 : Nat → Int32) : F_TC_of (nI k) 0 tn gn ac dn fs fm mks0 fma0 mks1 fma1 = fs k := by
  have t := j_tab ⟨k, hk⟩
  dsimp only at t
  have e : F_TC_of (nI k) 0 tn gn ac dn fs fm mks0 fma0 mks1 fma1 = if F_Cloth_isJoint (nI k) = 0 then (-1) else if F_Cloth_isJoint (nI k) = 0 then 1 else fs (nI k).toNatClampNeg := rfl
  rw [e, t.2.2.2.2.2.2.2.1, if_neg (by decide), if_neg (by decide), nI_clamp (by omega)]
theorem of_in2 {j : Int32} (hj : vp_in j 82) (tn : Int32) (gn ac dn : Int64) (fs fm : Nat → Int32) (mks0 : Int32) (fma0 : Nat → Int32) (mks1 : Int32) (fma1 : Nat → Int32) : vp_in (F_TC_of j 2 tn gn ac dn fs fm mks0 fma0 mks1 fma1) 48 := by
  obtain ⟨k, hk, rfl⟩ := vp_in_of hj (by decide)
  rw [of_2 hk]
  exact vp_in_nI (j_tab ⟨k, hk⟩).2.2.2.2.2.1 (by decide)
theorem of_in3 {j : Int32} (hj : vp_in j 82) (tn : Int32) (gn ac dn : Int64) (fs fm : Nat → Int32) (mks0 : Int32) (fma0 : Nat → Int32) (mks1 : Int32) (fma1 : Nat → Int32) : vp_in (F_TC_of j 3 tn gn ac dn fs fm mks0 fma0 mks1 fma1) 48 := by
  obtain ⟨k, hk, rfl⟩ := vp_in_of hj (by decide)
  rw [of_3 hk]
  exact vp_in_nI (j_tab ⟨k, hk⟩).2.2.2.2.2.2.1 (by decide)
theorem of_in0 {fs : Nat → Int32} (hst : ∀ j, j < 82 → vp_in (fs j) 4) {j : Int32} (hj : vp_in j 82) (tn : Int32) (gn ac dn : Int64) (fm : Nat → Int32) (mks0 : Int32) (fma0 : Nat → Int32) (mks1 : Int32) (fma1 : Nat → Int32) : vp_in (F_TC_of j 0 tn gn ac dn fs fm mks0 fma0 mks1 fma1) 4 := by
  obtain ⟨k, hk, rfl⟩ := vp_in_of hj (by decide)
  rw [of_0 hk]
  exact hst k hk
theorem pl_2 (p mks0 pts0 ths0 rgs0 rgc0 fnd0 rdb0 wdb0 mks1 pts1 ths1 rgs1 rgc1 fnd1 rdb1 wdb1 : Int32) : F_TC_player p 2 mks0 pts0 ths0 rgs0 rgc0 fnd0 rdb0 wdb0 mks1 pts1 ths1 rgs1 rgc1 fnd1 rdb1 wdb1 = if F_Game_isPlayer p = 0 then (-1) else if p = 0 then mks0 else mks1 := rfl
theorem pl_lt {p mks0 pts0 ths0 rgs0 rgc0 fnd0 rdb0 wdb0 mks1 pts1 ths1 rgs1 rgc1 fnd1 rdb1 wdb1 : Int32} {k : Nat} (h0 : tm_ok 8 mks0) (h1 : tm_ok 8 mks1) (c : ¬ F_TC_player p 2 mks0 pts0 ths0 rgs0 rgc0 fnd0 rdb0 wdb0 mks1 pts1 ths1 rgs1 rgc1 fnd1 rdb1 wdb1 ≤ nI k) (hk : k ≤ 8) : k < 8 := by
  rw [pl_2] at c
  have go : ∀ {x : Int32}, tm_ok 8 x → ¬ x ≤ nI k → k < 8 := by
    rintro x ⟨q, hq, rfl⟩ h
    refine Nat.lt_of_not_le fun z => h ((nI_leI (by omega) (by omega)).mpr (by omega))
  by_cases a : F_Game_isPlayer p = 0
  · rw [if_pos a] at c
    refine absurd ?_ c
    rw [Int32.le_iff_toInt_le, nI_toInt (by omega)]
    have e : (-1 : Int32).toInt = -1 := rfl
    omega
  · rw [if_neg a] at c
    by_cases b : p = 0
    · rw [if_pos b] at c; exact go h0 c
    · rw [if_neg b] at c; exact go h1 c
-- what is marked: how many
def PIv (many : Int32) (mark : Nat → Int32) : Prop := ∃ M : Nat, many = nI M ∧ cntB (fun i => !decide (mark i = 0)) 48 = M
theorem cnt_up {f g : Nat → Bool} {q : Nat} : ∀ {n : Nat}, q < n → f q = false → g q = true → (∀ i, i ≠ q → g i = f i) → cntB g n = cntB f n + 1
  | 0, hq, _, _, _ => absurd hq (Nat.not_lt_zero _)
  | n + 1, hq, h1, h2, h3 => by
    show cntB g n + (g n).toNat = cntB f n + (f n).toNat + 1
    by_cases e : q = n
    · subst e
      rw [h1, h2, cntB_eq (f := g) (g := f) (fun i hi => h3 i (by omega))]
      rfl
    · rw [h3 n (Ne.symm e), cnt_up (n := n) (by omega) h1 h2 h3]
      omega
theorem cnt_lt {f : Nat → Bool} {n q : Nat} (hq : q < n) (h : f q = false) : cntB f n < n := by
  have h1 := cnt_up (f := f) (g := fun i => if i = q then true else f i) hq h (by simp) (fun i hi => by simp [hi])
  have h2 := cntB_le (fun i => if i = q then true else f i) n
  omega
theorem pi_in {many : Int32} {mark : Nat → Int32} {to : Int32} (h : PIv many mark) (ht : vp_in to 48) (hz : mark to.toNatClampNeg = 0) : vp_in many 48 := by
  obtain ⟨M, rfl, e⟩ := h
  obtain ⟨q, hq, rfl⟩ := vp_in_of ht (by decide)
  rw [nI_clamp (by omega)] at hz
  have := cnt_lt (f := fun i => !decide (mark i = 0)) hq (by simp [hz])
  exact vp_in_nI (by omega) (by decide)
theorem pi_up {many : Int32} {mark : Nat → Int32} {to : Int32} (h : PIv many mark) (ht : vp_in to 48) (hz : mark to.toNatClampNeg = 0) : PIv (many + 1) (upd mark to.toNatClampNeg 1) := by
  obtain ⟨M, rfl, e⟩ := h
  obtain ⟨q, hq, rfl⟩ := vp_in_of ht (by decide)
  rw [nI_clamp (by omega)] at hz ⊢
  refine ⟨M + 1, nI_1 M, ?_⟩
  rw [← e]
  refine cnt_up hq (by simp [hz]) (by rw [pk_us]; rfl) (fun i hi => by rw [pk_un hi])
theorem pi_lt {many x : Int32} {mark : Nat → Int32} {k : Nat} (h : PIv many mark) (ex : x = nI k) (hk : k ≤ 48) (c : ¬ many ≤ x) : k < 48 := by
  obtain ⟨M, rfl, e⟩ := h
  have := cntB_le (fun i => !decide (mark i = 0)) 48
  rw [ex] at c
  refine Nat.lt_of_not_le fun z => c ((nI_leI (by omega) (by omega)).mpr (by omega))
theorem pi_init {cell : Int32} {mark : Nat → Int32} (hc : vp_in cell 48) (h : ∀ i, i < 48 → mark i = if nI i = cell then 1 else 0) : PIv 1 mark := by
  obtain ⟨q, hq, rfl⟩ := vp_in_of hc (by decide)
  refine ⟨1, rfl, ?_⟩
  have h0 : cntB (fun _ => false) 48 = 0 := by decide
  have := cnt_up (f := fun _ => false) (g := fun i => decide (i = q)) hq rfl (by simp) (fun i hi => by simp [hi])
  refine (cntB_eq (g := fun i => decide (i = q)) (fun i hi => ?_)).trans (this.trans (by rw [h0]))
  rw [h i hi]
  by_cases e : i = q
  · subst e; rw [if_pos rfl]; simp
  · rw [if_neg (fun z => e ((nI_eq (by omega) (by omega)).mp z))]; simp [e]
