def F_Model_in (v : Int32) (least : Int32) (most : Int32) : Int32 := (if v < least then 0 else (if most < v then 0 else 1))
set_option maxHeartbeats 4000000 in
set_option maxRecDepth 100000 in
theorem c_Model_in (l : Launch) (dC : Nat → ClassId) (dI : Nat → Nat → Nat) (cI cC cG cZ : ClassId) (v : Int32) (least : Int32) (most : Int32) (res : Int32) (hres : res = F_Model_in v least most) : Met l yX7_in wsX7_in ({ frames := 0, cells := 0, slots := 0, locals := 0 }) (va_Pc [.int v, .int least, .int most] (ro_P (dC, dI) vwCl (tyL cI cC cG cZ) [])) (va_Qi (fun r (_ : Unit) => r = res) (fun _ _ => True) ro_F) 0 0 ro_F := by
  refine Met.ofW (cc := cX7_in) (maxL := 3) (ret := (some .boolean)) (by decide) rfl ?_
  intro p e s m args below meth c s₁ B hml hv
  obtain ⟨rfl, hP, hK⟩ := hv
  have hx := B.exec
  have hb := B.bytes
  have hr := B.returns
  have hts := atoms_spec (ws := wsX7_in) B.pre
  have hown : s.vm.findClass RX7 = some m.cls := findClass_of_methodNamed B.named
  have hlocks := B.notSynchronized
  have hS : va_S ro_F s.heap s.heap [] := va_S.rf
  have hl := lv_entry ([.int v, .int least, .int most]) (n := 3) (Nat.le_of_ble_eq_true rfl)
  rw [lg_entry_eq]
  generalize (lg_sl ([.int v, .int least, .int most]) ++ List.replicate (3 - (lg_sl ([.int v, .int least, .int most])).length) Slot.unset).toArray = ls at hl ⊢
  have hl : lv_has ls 3 [(0, .int v), (1, .int least), (2, .int most)] := hl
  rw [F_Model_in] at hres
  refine lv_iload_n hx hb dX7_in_0 rfl (lv_at hl 0 rfl) ?_
  refine lv_iload_n hx hb dX7_in_1 rfl (lv_at hl 1 rfl) ?_
  refine lv_icmp_lt (tgt := 14) hx hb dX7_in_2 (by decide) (fun c_1 => ?_) (fun c_1 => ?_)
  · rw [if_pos c_1] at hres
    refine lv_iconst (v := 0) hx hb dX7_in_14 (by decide) ?_
    exact W.zret (v := 0) hx hb hr rfl (fun t ht hW => ⟨⟨0, (), rfl, hres.symm, trivial⟩, hS.F ht⟩) hS.2.2 dX7_in_15
  · rw [if_neg c_1] at hres
    refine lv_iload_n hx hb dX7_in_5 rfl (lv_at hl 0 rfl) ?_
    refine lv_iload_n hx hb dX7_in_6 rfl (lv_at hl 2 rfl) ?_
    refine lv_icmp_gt (tgt := 14) hx hb dX7_in_7 (by decide) (fun c_2 => ?_) (fun c_2 => ?_)
    · rw [if_pos c_2] at hres
      refine lv_iconst (v := 0) hx hb dX7_in_14 (by decide) ?_
      exact W.zret (v := 0) hx hb hr rfl (fun t ht hW => ⟨⟨0, (), rfl, hres.symm, trivial⟩, hS.F ht⟩) hS.2.2 dX7_in_15
    · rw [if_neg c_2] at hres
      refine lv_iconst (v := 1) hx hb dX7_in_10 (by decide) ?_
      refine lv_goto (tgt := 15) hx hb dX7_in_11 (by decide) ?_
      exact W.zret (v := 1) hx hb hr rfl (fun t ht hW => ⟨⟨1, (), rfl, hres.symm, trivial⟩, hS.F ht⟩) hS.2.2 dX7_in_15
theorem F_Model_in_b (v : Int32) (least : Int32) (most : Int32) : F_Model_in v least most = 0 ∨ F_Model_in v least most = 1 := by
  unfold F_Model_in
  try simp only [bnd]
  (repeat' split) <;> first | exact Or.inl rfl | exact Or.inr rfl
def F_Model_isJoint (joint : Int32) : Int32 := (bnd (F_Model_in joint (0 : Int32) (81 : Int32)) (fun r_1 => r_1))
set_option maxHeartbeats 4000000 in
set_option maxRecDepth 100000 in
theorem c_Model_isJoint (l : Launch) (dC : Nat → ClassId) (dI : Nat → Nat → Nat) (cI cC cG cZ : ClassId) (joint : Int32) (res : Int32) (hres : res = F_Model_isJoint joint) : Met l yX7_isJoint wsX7_isJoint ({ frames := 1, cells := 0, slots := 0, locals := 22 }) (va_Pc [.int joint] (ro_P (dC, dI) vwCl (tyL cI cC cG cZ) [])) (va_Qi (fun r (_ : Unit) => r = res) (fun _ _ => True) ro_F) 0 0 ro_F := by
  refine Met.ofW (cc := cX7_isJoint) (maxL := 1) (ret := (some .boolean)) (by decide) rfl ?_
  intro p e s m args below meth c s₁ B hml hv
  obtain ⟨rfl, hP, hK⟩ := hv
  have hx := B.exec
  have hb := B.bytes
  have hr := B.returns
  have hts := atoms_spec (ws := wsX7_isJoint) B.pre
  have hown : s.vm.findClass RX7 = some m.cls := findClass_of_methodNamed B.named
  have hlocks := B.notSynchronized
  have hS : va_S ro_F s.heap s.heap [] := va_S.rf
  have hl := lv_entry ([.int joint]) (n := 1) (Nat.le_of_ble_eq_true rfl)
  rw [lg_entry_eq]
  generalize (lg_sl ([.int joint]) ++ List.replicate (1 - (lg_sl ([.int joint])).length) Slot.unset).toArray = ls at hl ⊢
  have hl : lv_has ls 1 [(0, .int joint)] := hl
  rw [F_Model_isJoint] at hres
  refine lv_iload_n hx hb dX7_isJoint_0 rfl (lv_at hl 0 rfl) ?_
  refine lv_iconst (v := 0) hx hb dX7_isJoint_1 (by decide) ?_
  refine lv_bipush (v := 81) hx hb dX7_isJoint_2 (by decide) ?_
  obtain ⟨r_1, hr_1⟩ : ∃ z, z = F_Model_in joint (0 : Int32) (81 : Int32) := ⟨_, rfl⟩
  rw [bnd_e hr_1] at hres
  refine ro_calli (va_runS (As := [.int joint, .int 0, .int 81]) (rest := []) ⟨hx, hb, hml, hown, hts⟩ (c_Model_in l dC dI cI cC cG cZ  joint (0 : Int32) (81 : Int32)  r_1 hr_1) (va_cwS 3 hts gX7_isJoint_X7_in rfl rfl rfl (by decide +kernel) ⟨Nat.le_of_ble_eq_true rfl, Nat.le_of_ble_eq_true rfl⟩) (ro_preS (hP.sub (ws' := []) [] rfl) hK) rfl rfl hl.1 rfl (lv_room (Nat.le_of_ble_eq_true rfl)) dX7_isJoint_4 ⟨Nat.zero_le _, Nat.zero_le _⟩) hP hS (fun H locs hP hS => ?_)
  exact W.zret (v := r_1) hx hb hr (zb_nar (by rw [hr_1]; exact F_Model_in_b ..)) (fun t ht hW => ⟨⟨r_1, (), rfl, hres.symm, trivial⟩, hS.F ht⟩) hS.2.2 dX7_isJoint_7
theorem mjt_in {x : Int32} (h : ¬ F_Model_isJoint x = 0) : vp_in x 82 := by
  have h : ¬ F_Model_in x 0 81 = 0 := h
  unfold F_Model_in at h
  by_cases h0 : x < 0
  · rw [if_pos h0] at h; exact absurd rfl h
  · rw [if_neg h0] at h
    by_cases h1 : (81 : Int32) < x
    · rw [if_pos h1] at h; exact absurd rfl h
    · rw [vp_in_iff]
      rw [Int32.lt_iff_toInt_lt] at h0 h1
      have e1 : (0 : Int32).toInt = 0 := rfl
      have e2 : (81 : Int32).toInt = 81 := rfl
      omega
theorem mcl_in0 {x : Int32} (h : ¬ F_Model_in x 0 47 = 0) : vp_in x 48 := by
  unfold F_Model_in at h
  by_cases h0 : x < 0
  · rw [if_pos h0] at h; exact absurd rfl h
  · rw [if_neg h0] at h
    by_cases h1 : (47 : Int32) < x
    · rw [if_pos h1] at h; exact absurd rfl h
    · rw [vp_in_iff]
      rw [Int32.lt_iff_toInt_lt] at h0 h1
      have e1 : (0 : Int32).toInt = 0 := rfl
      have e2 : (47 : Int32).toInt = 47 := rfl
      omega
theorem in01 {x : Int32} (h : ¬ F_Model_in x 0 1 = 0) : p01 x := by
  unfold F_Model_in at h
  by_cases h0 : x < 0
  · rw [if_pos h0] at h; exact absurd rfl h
  · rw [if_neg h0] at h
    by_cases h1 : (1 : Int32) < x
    · rw [if_pos h1] at h; exact absurd rfl h
    · rw [Int32.lt_iff_toInt_lt] at h0 h1
      have e1 : (0 : Int32).toInt = 0 := rfl
      have e2 : (1 : Int32).toInt = 1 := rfl
      rcases (show x.toInt = 0 ∨ x.toInt = 1 by omega) with e | e
      · exact Or.inl (Int32.toInt_inj.mp e)
      · exact Or.inr (Int32.toInt_inj.mp e)
theorem in17 {x : Int32} (h : ¬ F_Model_in x 1 7 = 0) : 0 ≤ x.toInt ∧ x.toInt < 16 := by
  unfold F_Model_in at h
  by_cases h0 : x < 1
  · rw [if_pos h0] at h; exact absurd rfl h
  · rw [if_neg h0] at h
    by_cases h1 : (7 : Int32) < x
    · rw [if_pos h1] at h; exact absurd rfl h
    · rw [Int32.lt_iff_toInt_lt] at h0 h1
      have e1 : (1 : Int32).toInt = 1 := rfl
      have e2 : (7 : Int32).toInt = 7 := rfl
      omega
theorem in_cnt {x c : Int32} (hc : tm_ok 8 c) (h : ¬ F_Model_in x 0 (c - 1) = 0) : vp_in x 8 := by
  obtain ⟨q, hq, rfl⟩ := hc
  unfold F_Model_in at h
  by_cases h0 : x < 0
  · rw [if_pos h0] at h; exact absurd rfl h
  · rw [if_neg h0] at h
    by_cases h1 : nI q - 1 < x
    · rw [if_pos h1] at h; exact absurd rfl h
    · rw [vp_in_iff]
      rw [Int32.lt_iff_toInt_lt] at h0 h1
      have e1 : (0 : Int32).toInt = 0 := rfl
      have e2 : (nI q - 1).toInt = (q : Int) - 1 := pk_sub_toInt (a := q) (b := 1) (by omega) (by decide)
      omega
theorem F_Model_isJoint_b (joint : Int32) : F_Model_isJoint joint = 0 ∨ F_Model_isJoint joint = 1 := by
  unfold F_Model_isJoint
  try simp only [bnd]
  (repeat' split) <;> first | exact Or.inl rfl | exact Or.inr rfl | exact F_Model_in_b ..
def F_Model_isCell (cell : Int32) : Int32 := (bnd (F_Model_in cell (0 : Int32) (47 : Int32)) (fun r_1 => r_1))
set_option maxHeartbeats 4000000 in
set_option maxRecDepth 100000 in
theorem c_Model_isCell (l : Launch) (dC : Nat → ClassId) (dI : Nat → Nat → Nat) (cI cC cG cZ : ClassId) (cell : Int32) (res : Int32) (hres : res = F_Model_isCell cell) : Met l yX7_isCell wsX7_isCell ({ frames := 1, cells := 0, slots := 0, locals := 22 }) (va_Pc [.int cell] (ro_P (dC, dI) vwCl (tyL cI cC cG cZ) [])) (va_Qi (fun r (_ : Unit) => r = res) (fun _ _ => True) ro_F) 0 0 ro_F := by
  refine Met.ofW (cc := cX7_isCell) (maxL := 1) (ret := (some .boolean)) (by decide) rfl ?_
  intro p e s m args below meth c s₁ B hml hv
  obtain ⟨rfl, hP, hK⟩ := hv
  have hx := B.exec
  have hb := B.bytes
  have hr := B.returns
  have hts := atoms_spec (ws := wsX7_isCell) B.pre
  have hown : s.vm.findClass RX7 = some m.cls := findClass_of_methodNamed B.named
  have hlocks := B.notSynchronized
  have hS : va_S ro_F s.heap s.heap [] := va_S.rf
  have hl := lv_entry ([.int cell]) (n := 1) (Nat.le_of_ble_eq_true rfl)
  rw [lg_entry_eq]
  generalize (lg_sl ([.int cell]) ++ List.replicate (1 - (lg_sl ([.int cell])).length) Slot.unset).toArray = ls at hl ⊢
  have hl : lv_has ls 1 [(0, .int cell)] := hl
  rw [F_Model_isCell] at hres
  refine lv_iload_n hx hb dX7_isCell_0 rfl (lv_at hl 0 rfl) ?_
  refine lv_iconst (v := 0) hx hb dX7_isCell_1 (by decide) ?_
  refine lv_bipush (v := 47) hx hb dX7_isCell_2 (by decide) ?_
  obtain ⟨r_1, hr_1⟩ : ∃ z, z = F_Model_in cell (0 : Int32) (47 : Int32) := ⟨_, rfl⟩
  rw [bnd_e hr_1] at hres
  refine ro_calli (va_runS (As := [.int cell, .int 0, .int 47]) (rest := []) ⟨hx, hb, hml, hown, hts⟩ (c_Model_in l dC dI cI cC cG cZ  cell (0 : Int32) (47 : Int32)  r_1 hr_1) (va_cwS 3 hts gX7_isCell_X7_in rfl rfl rfl (by decide +kernel) ⟨Nat.le_of_ble_eq_true rfl, Nat.le_of_ble_eq_true rfl⟩) (ro_preS (hP.sub (ws' := []) [] rfl) hK) rfl rfl hl.1 rfl (lv_room (Nat.le_of_ble_eq_true rfl)) dX7_isCell_4 ⟨Nat.zero_le _, Nat.zero_le _⟩) hP hS (fun H locs hP hS => ?_)
  exact W.zret (v := r_1) hx hb hr (zb_nar (by rw [hr_1]; exact F_Model_in_b ..)) (fun t ht hW => ⟨⟨r_1, (), rfl, hres.symm, trivial⟩, hS.F ht⟩) hS.2.2 dX7_isCell_7
theorem mcl_in {x : Int32} (h : ¬ F_Model_isCell x = 0) : vp_in x 48 := mcl_in0 h
theorem F_Model_isCell_b (cell : Int32) : F_Model_isCell cell = 0 ∨ F_Model_isCell cell = 1 := by
  unfold F_Model_isCell
  try simp only [bnd]
  (repeat' split) <;> first | exact Or.inl rfl | exact Or.inr rfl | exact F_Model_in_b ..
def F_Model_at (player : Int32) (what : Int32) : Int32 := (((212 : Int32) + ((16 : Int32) * player)) + what)
set_option maxHeartbeats 4000000 in
set_option maxRecDepth 100000 in
theorem c_Model_at (l : Launch) (dC : Nat → ClassId) (dI : Nat → Nat → Nat) (cI cC cG cZ : ClassId) (player : Int32) (what : Int32) (res : Int32) (hres : res = F_Model_at player what) : Met l yX7_at wsX7_at ({ frames := 0, cells := 0, slots := 0, locals := 0 }) (va_Pc [.int player, .int what] (ro_P (dC, dI) vwCl (tyL cI cC cG cZ) [])) (va_Qi (fun r (_ : Unit) => r = res) (fun _ _ => True) ro_F) 0 0 ro_F := by
  refine Met.ofW (cc := cX7_at) (maxL := 2) (ret := (some .int)) (by decide) rfl ?_
  intro p e s m args below meth c s₁ B hml hv
  obtain ⟨rfl, hP, hK⟩ := hv
  have hx := B.exec
  have hb := B.bytes
  have hr := B.returns
  have hts := atoms_spec (ws := wsX7_at) B.pre
  have hown : s.vm.findClass RX7 = some m.cls := findClass_of_methodNamed B.named
  have hlocks := B.notSynchronized
  have hS : va_S ro_F s.heap s.heap [] := va_S.rf
  have hl := lv_entry ([.int player, .int what]) (n := 2) (Nat.le_of_ble_eq_true rfl)
  rw [lg_entry_eq]
  generalize (lg_sl ([.int player, .int what]) ++ List.replicate (2 - (lg_sl ([.int player, .int what])).length) Slot.unset).toArray = ls at hl ⊢
  have hl : lv_has ls 2 [(0, .int player), (1, .int what)] := hl
  rw [F_Model_at] at hres
  refine lv_sipush (v := 212) hx hb dX7_at_0 (by decide) ?_
  refine lv_bipush (v := 16) hx hb dX7_at_3 (by decide) ?_
  refine lv_iload_n hx hb dX7_at_5 rfl (lv_at hl 0 rfl) ?_
  refine lv_imul hx hb dX7_at_6 ?_
  refine lv_iadd hx hb dX7_at_7 ?_
  refine lv_iload_n hx hb dX7_at_8 rfl (lv_at hl 1 rfl) ?_
  refine lv_iadd hx hb dX7_at_9 ?_
  exact W.iret (v := (((212 : Int32) + ((16 : Int32) * player)) + what)) hx hb hr (fun t ht hW => ⟨⟨(((212 : Int32) + ((16 : Int32) * player)) + what), (), rfl, hres.symm, trivial⟩, hS.F ht⟩) hS.2.2 dX7_at_10
theorem at_0 (j : Nat) : F_Model_at 0 (nI j) = nI (212 + j) := by
  unfold F_Model_at
  exact nI_add 212 j
theorem at_1 (j : Nat) : F_Model_at 1 (nI j) = nI (228 + j) := by
  unfold F_Model_at
  exact nI_add 228 j
theorem at_in {p w : Int32} {n : Nat} (hp : p01 p) (hw : 0 ≤ w.toInt ∧ w.toInt < 16) (hn : 244 ≤ n ∧ n < 2 ^ 31) : vp_in (F_Model_at p w) n := by
  obtain ⟨j, hj, rfl⟩ := vp_in_of (vp_in_iff.mpr hw : vp_in w 16) (by decide)
  rcases hp with rfl | rfl
  · rw [at_0]; exact vp_in_nI (by omega) hn.2
  · rw [at_1]; exact vp_in_nI (by omega) hn.2
theorem at_in8 {p r : Int32} (hp : p01 p) (hr : vp_in r 8) : vp_in (F_Model_at p 8 + r) 246 := by
  obtain ⟨j, hj, rfl⟩ := vp_in_of hr (by decide)
  rcases hp with rfl | rfl
  · rw [show F_Model_at 0 8 = nI 220 from at_0 8, nI_add]; exact vp_in_nI (by omega) (by decide)
  · rw [show F_Model_at 1 8 = nI 236 from at_1 8, nI_add]; exact vp_in_nI (by omega) (by decide)
theorem mi_cnt {vs : Nat → Int32} {p : Int32} (h : MI vs) (hp : p01 p) : tm_ok 8 (vs (F_Model_at p 2).toNatClampNeg) := by
  rcases hp with rfl | rfl
  · rw [show (F_Model_at 0 2).toNatClampNeg = 214 by decide +kernel]; exact h.2.1
  · rw [show (F_Model_at 1 2).toNatClampNeg = 230 by decide +kernel]; exact h.2.2
theorem at_ne {p x : Int32} (hp : p01 p) (hx : vp_in x 8) : (F_Model_at p 2).toNatClampNeg ≠ (F_Model_at p 8 + x).toNatClampNeg := by
  obtain ⟨j, hj, rfl⟩ := vp_in_of hx (by decide)
  rcases hp with rfl | rfl
  · rw [show F_Model_at 0 8 = nI 220 from at_0 8, show F_Model_at 0 2 = nI 214 from at_0 2, nI_add, nI_clamp (by omega), nI_clamp (by omega)]; omega
  · rw [show F_Model_at 1 8 = nI 236 from at_1 8, show F_Model_at 1 2 = nI 230 from at_1 2, nI_add, nI_clamp (by omega), nI_clamp (by omega)]; omega
theorem rub_dec {M : Nat} (h : 1 ≤ M) : nI M - 1 = nI (M - 1) := by
  obtain ⟨m, rfl⟩ : ∃ m, M = m + 1 := ⟨M - 1, by omega⟩
  exact nI_pred m
theorem vp_up1 {k : Nat} (h : k + 1 < 8) : vp_in (nI k + 1) 8 := by
  rw [nI_1]
  exact vp_in_nI h (by decide)
theorem hist_sh {k : Nat} (h : k < 1230) : vp_in (nI k + 246) 1476 := by
  rw [show (246 : Int32) = nI 246 from rfl, nI_add]
  exact vp_in_nI (by omega) (by decide)
theorem hist_in {kp x : Int32} {k : Nat} (h : tm_ok 5 kp) (ex : x = nI k) (hk : k < 246) : vp_in ((246 : Int32) * kp + x) 1476 := by
  obtain ⟨q, hq, rfl⟩ := h
  rw [ex, show (246 : Int32) = nI 246 from rfl, pk_mul, nI_add]
  exact vp_in_nI (by omega) (by decide)
theorem kp_not {x : Int32} (h : tm_ok 6 x) (c : ¬ x = 6) : tm_ok 5 x := by
  obtain ⟨q, hq, rfl⟩ := h
  have : q ≠ 6 := fun e => c (by rw [e]; rfl)
  exact ⟨q, by omega, rfl⟩
theorem MI_ix {vs : Nat → Int32} {i x : Int32} (hi : vp_in i 212) (h : MI vs) : MI (upd vs i.toNatClampNeg x) := by
  have hl : i.toNatClampNeg < 212 := Nat.lt_of_not_le fun q => hi (Or.inr q)
  refine ⟨?_, ?_, ?_⟩
  · rw [pk_un (by omega)]; exact h.1
  · rw [pk_un (by omega)]; exact h.2.1
  · rw [pk_un (by omega)]; exact h.2.2
theorem MI_at {vs : Nat → Int32} {p w x : Int32} (hp : p01 p) (hw : 0 ≤ w.toInt ∧ w.toInt < 16 ∧ w.toInt ≠ 2) (h : MI vs) : MI (upd vs (F_Model_at p w).toNatClampNeg x) := by
  obtain ⟨j, hj, rfl⟩ := vp_in_of (vp_in_iff.mpr ⟨hw.1, hw.2.1⟩ : vp_in w 16) (by decide)
  have hj2 : j ≠ 2 := fun e => hw.2.2 (by rw [nI_toInt (by omega), e]; rfl)
  rcases hp with rfl | rfl
  · rw [at_0, nI_clamp (by omega)]
    refine ⟨?_, ?_, ?_⟩
    · rw [pk_un (by omega)]; exact h.1
    · rw [pk_un (by omega)]; exact h.2.1
    · rw [pk_un (by omega)]; exact h.2.2
  · rw [at_1, nI_clamp (by omega)]
    refine ⟨?_, ?_, ?_⟩
    · rw [pk_un (by omega)]; exact h.1
    · rw [pk_un (by omega)]; exact h.2.1
    · rw [pk_un (by omega)]; exact h.2.2
theorem kp_dec {x : Int32} (c : x = 6) : tm_ok 5 (x - 1) := ⟨5, by omega, by rw [c]; rfl⟩
def F_Model_first (joint : Int32) : Int32 := (if (42 : Int32) ≤ joint then (joint - 42) else (((joint / 7) * 8) + (joint - joint / 7 * 7)))
set_option maxHeartbeats 4000000 in
set_option maxRecDepth 100000 in
theorem c_Model_first (l : Launch) (dC : Nat → ClassId) (dI : Nat → Nat → Nat) (cI cC cG cZ : ClassId) (joint : Int32) (res : Int32) (hres : res = F_Model_first joint) : Met l yX7_first wsX7_first ({ frames := 0, cells := 0, slots := 0, locals := 0 }) (va_Pc [.int joint] (ro_P (dC, dI) vwCl (tyL cI cC cG cZ) [])) (va_Qi (fun r (_ : Unit) => r = res) (fun _ _ => True) ro_F) 0 0 ro_F := by
  refine Met.ofW (cc := cX7_first) (maxL := 1) (ret := (some .int)) (by decide) rfl ?_
  intro p e s m args below meth c s₁ B hml hv
  obtain ⟨rfl, hP, hK⟩ := hv
  have hx := B.exec
  have hb := B.bytes
  have hr := B.returns
  have hts := atoms_spec (ws := wsX7_first) B.pre
  have hown : s.vm.findClass RX7 = some m.cls := findClass_of_methodNamed B.named
  have hlocks := B.notSynchronized
  have hS : va_S ro_F s.heap s.heap [] := va_S.rf
  have hl := lv_entry ([.int joint]) (n := 1) (Nat.le_of_ble_eq_true rfl)
  rw [lg_entry_eq]
  generalize (lg_sl ([.int joint]) ++ List.replicate (1 - (lg_sl ([.int joint])).length) Slot.unset).toArray = ls at hl ⊢
  have hl : lv_has ls 1 [(0, .int joint)] := hl
  rw [F_Model_first] at hres
  refine lv_iload_n hx hb dX7_first_0 rfl (lv_at hl 0 rfl) ?_
  refine lv_bipush (v := 42) hx hb dX7_first_1 (by decide) ?_
  refine lv_icmp_ge (tgt := 21) hx hb dX7_first_3 (by decide) (fun c_1 => ?_) (fun c_1 => ?_)
  · rw [if_pos c_1] at hres
    refine lv_iload_n hx hb dX7_first_21 rfl (lv_at hl 0 rfl) ?_
    refine lv_bipush (v := 42) hx hb dX7_first_22 (by decide) ?_
    refine lv_isub hx hb dX7_first_24 ?_
    exact W.iret (v := (joint - 42)) hx hb hr (fun t ht hW => ⟨⟨(joint - 42), (), rfl, hres.symm, trivial⟩, hS.F ht⟩) hS.2.2 dX7_first_25
  · rw [if_neg c_1] at hres
    refine lv_iload_n hx hb dX7_first_6 rfl (lv_at hl 0 rfl) ?_
    refine lv_bipush (v := 7) hx hb dX7_first_7 (by decide) ?_
    refine lv_idiv hx hb dX7_first_9 (by decide) ?_
    refine lv_bipush (v := 8) hx hb dX7_first_10 (by decide) ?_
    refine lv_imul hx hb dX7_first_12 ?_
    refine lv_iload_n hx hb dX7_first_13 rfl (lv_at hl 0 rfl) ?_
    refine lv_bipush (v := 7) hx hb dX7_first_14 (by decide) ?_
    refine lv_irem hx hb dX7_first_16 (by decide) ?_
    refine lv_iadd hx hb dX7_first_17 ?_
    refine lv_goto (tgt := 25) hx hb dX7_first_18 (by decide) ?_
    exact W.iret (v := (((joint / 7) * 8) + (joint - joint / 7 * 7))) hx hb hr (fun t ht hW => ⟨⟨(((joint / 7) * 8) + (joint - joint / 7 * 7)), (), rfl, hres.symm, trivial⟩, hS.F ht⟩) hS.2.2 dX7_first_25
theorem first_tab : ∀ j : Fin 82, 0 ≤ (F_Model_first (nI j.val)).toInt ∧ (F_Model_first (nI j.val)).toInt < 48 := by decide +kernel
theorem first_in {x : Int32} (h : vp_in x 82) : vp_in (F_Model_first x) 48 := by
  obtain ⟨j, hj, rfl⟩ := vp_in_of h (by decide)
  exact vp_in_iff.mpr (first_tab ⟨j, hj⟩)
def F_Model_second (joint : Int32) : Int32 := (if (42 : Int32) ≤ joint then (bnd (F_Model_first joint) (fun r_2 => (r_2 + 8))) else (bnd (F_Model_first joint) (fun r_3 => (r_3 + 1))))
set_option maxHeartbeats 4000000 in
set_option maxRecDepth 100000 in
theorem c_Model_second (l : Launch) (dC : Nat → ClassId) (dI : Nat → Nat → Nat) (cI cC cG cZ : ClassId) (joint : Int32) (res : Int32) (hres : res = F_Model_second joint) : Met l yX7_second wsX7_second ({ frames := 1, cells := 0, slots := 0, locals := 20 }) (va_Pc [.int joint] (ro_P (dC, dI) vwCl (tyL cI cC cG cZ) [])) (va_Qi (fun r (_ : Unit) => r = res) (fun _ _ => True) ro_F) 0 0 ro_F := by
  refine Met.ofW (cc := cX7_second) (maxL := 1) (ret := (some .int)) (by decide) rfl ?_
  intro p e s m args below meth c s₁ B hml hv
  obtain ⟨rfl, hP, hK⟩ := hv
  have hx := B.exec
  have hb := B.bytes
  have hr := B.returns
  have hts := atoms_spec (ws := wsX7_second) B.pre
  have hown : s.vm.findClass RX7 = some m.cls := findClass_of_methodNamed B.named
  have hlocks := B.notSynchronized
  have hS : va_S ro_F s.heap s.heap [] := va_S.rf
  have hl := lv_entry ([.int joint]) (n := 1) (Nat.le_of_ble_eq_true rfl)
  rw [lg_entry_eq]
  generalize (lg_sl ([.int joint]) ++ List.replicate (1 - (lg_sl ([.int joint])).length) Slot.unset).toArray = ls at hl ⊢
  have hl : lv_has ls 1 [(0, .int joint)] := hl
  rw [F_Model_second] at hres
  refine lv_iload_n hx hb dX7_second_0 rfl (lv_at hl 0 rfl) ?_
  refine lv_bipush (v := 42) hx hb dX7_second_1 (by decide) ?_
  refine lv_icmp_ge (tgt := 15) hx hb dX7_second_3 (by decide) (fun c_1 => ?_) (fun c_1 => ?_)
  · rw [if_pos c_1] at hres
    refine lv_iload_n hx hb dX7_second_15 rfl (lv_at hl 0 rfl) ?_
    obtain ⟨r_2, hr_2⟩ : ∃ z, z = F_Model_first joint := ⟨_, rfl⟩
    rw [bnd_e hr_2] at hres
    refine ro_calli (va_runS (As := [.int joint]) (rest := []) ⟨hx, hb, hml, hown, hts⟩ (c_Model_first l dC dI cI cC cG cZ  joint  r_2 hr_2) (va_cwS 1 hts gX7_second_X7_first rfl rfl rfl (by decide +kernel) ⟨Nat.le_of_ble_eq_true rfl, Nat.le_of_ble_eq_true rfl⟩) (ro_preS (hP.sub (ws' := []) [] rfl) hK) rfl rfl hl.1 rfl (lv_room (Nat.le_of_ble_eq_true rfl)) dX7_second_16 ⟨Nat.zero_le _, Nat.zero_le _⟩) hP hS (fun H locs hP hS => ?_)
    refine lv_bipush (v := 8) hx hb dX7_second_19 (by decide) ?_
    refine lv_iadd hx hb dX7_second_21 ?_
    exact W.iret (v := (r_2 + 8)) hx hb hr (fun t ht hW => ⟨⟨(r_2 + 8), (), rfl, hres.symm, trivial⟩, hS.F ht⟩) hS.2.2 dX7_second_22
  · rw [if_neg c_1] at hres
    refine lv_iload_n hx hb dX7_second_6 rfl (lv_at hl 0 rfl) ?_
    obtain ⟨r_3, hr_3⟩ : ∃ z, z = F_Model_first joint := ⟨_, rfl⟩
    rw [bnd_e hr_3] at hres
    refine ro_calli (va_runS (As := [.int joint]) (rest := []) ⟨hx, hb, hml, hown, hts⟩ (c_Model_first l dC dI cI cC cG cZ  joint  r_3 hr_3) (va_cwS 1 hts gX7_second_X7_first rfl rfl rfl (by decide +kernel) ⟨Nat.le_of_ble_eq_true rfl, Nat.le_of_ble_eq_true rfl⟩) (ro_preS (hP.sub (ws' := []) [] rfl) hK) rfl rfl hl.1 rfl (lv_room (Nat.le_of_ble_eq_true rfl)) dX7_second_7 ⟨Nat.zero_le _, Nat.zero_le _⟩) hP hS (fun H locs hP hS => ?_)
    refine lv_iconst (v := 1) hx hb dX7_second_10 (by decide) ?_
    refine lv_iadd hx hb dX7_second_11 ?_
    refine lv_goto (tgt := 22) hx hb dX7_second_12 (by decide) ?_
    exact W.iret (v := (r_3 + 1)) hx hb hr (fun t ht hW => ⟨⟨(r_3 + 1), (), rfl, hres.symm, trivial⟩, hS.F ht⟩) hS.2.2 dX7_second_22
theorem second_tab : ∀ j : Fin 82, 0 ≤ (F_Model_second (nI j.val)).toInt ∧ (F_Model_second (nI j.val)).toInt < 48 := by decide +kernel
theorem second_in {x : Int32} (h : vp_in x 82) : vp_in (F_Model_second x) 48 := by
  obtain ⟨j, hj, rfl⟩ := vp_in_of h (by decide)
  exact vp_in_iff.mpr (second_tab ⟨j, hj⟩)
theorem iX7_chalkAt_X7 : ∀ w ∈ u_ws RX7 TX7 9, w ∈ wsX7_chalkAt := by decide +kernel
theorem kX7_chalkAt_7 : Cond.fieldLink RX7 7 "TailorChalksModel" "s" "[I" ∈ wsX7_chalkAt := by decide +kernel
def F_Model_chalkAt (player : Int32) (rank : Int32) (vs : Nat → Int32) : Int32 := (bnd (F_Model_at player (8 : Int32)) (fun r_1 => (vs (r_1 + rank).toNatClampNeg)))
set_option maxHeartbeats 4000000 in
set_option maxRecDepth 100000 in
theorem c_Model_chalkAt (l : Launch) (dC : Nat → ClassId) (dI : Nat → Nat → Nat) (cI cC cG cZ : ClassId) (mo ms mah mhi msl msv mpd mlb : Nat) (player : Int32) (rank : Int32) (vkp : Int32) (vln : Int32) (vs : Nat → Int32) (hp : p01 player) (hk : vp_in rank 8) (res : Int32) (hres : res = F_Model_chalkAt player rank vs) : Met l yX7_chalkAt wsX7_chalkAt ({ frames := 1, cells := 0, slots := 0, locals := 21 }) (va_Pc [.ref mo, .int player, .int rank] (ro_P (dC, dI) vwCl (tyL cI cC cG cZ) [(mo, .inr (7, [.ref ms, .ref mah, .ref mhi, .int vkp, .ref msl, .ref msv, .ref mpd, .int vln, .ref mlb])), (ms, .inl (cI, 246, .inl vs))])) (va_Qi (fun r (_ : Unit) => r = res) (fun _ _ => True) ro_F) 0 0 ro_F := by
  refine Met.ofW (cc := cX7_chalkAt) (maxL := 3) (ret := (some .int)) (by decide) rfl ?_
  intro p e s m args below meth c s₁ B hml hv
  obtain ⟨rfl, hP, hK⟩ := hv
  have hx := B.exec
  have hb := B.bytes
  have hr := B.returns
  have hts := atoms_spec (ws := wsX7_chalkAt) B.pre
  have hown : s.vm.findClass RX7 = some m.cls := findClass_of_methodNamed B.named
  have hlocks := B.notSynchronized
  have hS : va_S ro_F s.heap s.heap [] := va_S.rf
  have hl := lv_entry ([.ref mo, .int player, .int rank]) (n := 3) (Nat.le_of_ble_eq_true rfl)
  rw [lg_entry_eq]
  generalize (lg_sl ([.ref mo, .int player, .int rank]) ++ List.replicate (3 - (lg_sl ([.ref mo, .int player, .int rank])).length) Slot.unset).toArray = ls at hl ⊢
  have hl : lv_has ls 3 [(0, .ref mo), (1, .int player), (2, .int rank)] := hl
  rw [F_Model_chalkAt] at hres
  refine lv_aload_n hx hb dX7_chalkAt_0 rfl (lv_at hl 0 rfl) ?_
  refine va_get (D := (dC, dI)) (ci := 7) (v := .ref ms) (C := RX7) (T := TX7) (N := 9) hx hb hts iX7_chalkAt_X7 hown hK hP 0 rfl rfl 0 (by decide) (hts (.fieldLink RX7 7 "TailorChalksModel" "s" "[I") kX7_chalkAt_7) (fun _ h9 => h9) rfl dX7_chalkAt_1 ?_
  refine lv_iload_n hx hb dX7_chalkAt_4 rfl (lv_at hl 1 rfl) ?_
  refine lv_bipush (v := 8) hx hb dX7_chalkAt_5 (by decide) ?_
  obtain ⟨r_1, hr_1⟩ : ∃ z, z = F_Model_at player (8 : Int32) := ⟨_, rfl⟩
  rw [bnd_e hr_1] at hres
  refine ro_calli (va_runS (As := [.int player, .int 8]) (rest := [.ref ms]) ⟨hx, hb, hml, hown, hts⟩ (c_Model_at l dC dI cI cC cG cZ  player (8 : Int32)  r_1 hr_1) (va_cwS 2 hts gX7_chalkAt_X7_at rfl rfl rfl (by decide +kernel) ⟨Nat.le_of_ble_eq_true rfl, Nat.le_of_ble_eq_true rfl⟩) (ro_preS (hP.sub (ws' := []) [] rfl) hK) rfl rfl hl.1 rfl (lv_room (Nat.le_of_ble_eq_true rfl)) dX7_chalkAt_7 ⟨Nat.zero_le _, Nat.zero_le _⟩) hP hS (fun H locs hP hS => ?_)
  refine lv_iload_n hx hb dX7_chalkAt_10 rfl (lv_at hl 2 rfl) ?_
  refine lv_iadd hx hb dX7_chalkAt_11 ?_
  refine va_iald hx hb hK hP 1 0 rfl rfl (by rw [hr_1]; exact at_in8 hp hk) dX7_chalkAt_12 ?_
  exact W.iret (v := (vs (r_1 + rank).toNatClampNeg)) hx hb hr (fun t ht hW => ⟨⟨(vs (r_1 + rank).toNatClampNeg), (), rfl, hres.symm, trivial⟩, hS.F ht⟩) hS.2.2 dX7_chalkAt_13
theorem iX7_isGone_X7 : ∀ w ∈ u_ws RX7 TX7 9, w ∈ wsX7_isGone := by decide +kernel
theorem kX7_isGone_7 : Cond.fieldLink RX7 7 "TailorChalksModel" "s" "[I" ∈ wsX7_isGone := by decide +kernel
def F_Model_isGone (cell : Int32) (vs : Nat → Int32) : Int32 := (if (vs ((164 : Int32) + cell).toNatClampNeg) = 1 then 1 else 0)
set_option maxHeartbeats 4000000 in
set_option maxRecDepth 100000 in
theorem c_Model_isGone (l : Launch) (dC : Nat → ClassId) (dI : Nat → Nat → Nat) (cI cC cG cZ : ClassId) (mo ms mah mhi msl msv mpd mlb : Nat) (cell : Int32) (vkp : Int32) (vln : Int32) (vs : Nat → Int32) (hc : vp_in cell 48) (res : Int32) (hres : res = F_Model_isGone cell vs) : Met l yX7_isGone wsX7_isGone ({ frames := 0, cells := 0, slots := 0, locals := 0 }) (va_Pc [.ref mo, .int cell] (ro_P (dC, dI) vwCl (tyL cI cC cG cZ) [(mo, .inr (7, [.ref ms, .ref mah, .ref mhi, .int vkp, .ref msl, .ref msv, .ref mpd, .int vln, .ref mlb])), (ms, .inl (cI, 246, .inl vs))])) (va_Qi (fun r (_ : Unit) => r = res) (fun _ _ => True) ro_F) 0 0 ro_F := by
  refine Met.ofW (cc := cX7_isGone) (maxL := 2) (ret := (some .boolean)) (by decide) rfl ?_
  intro p e s m args below meth c s₁ B hml hv
  obtain ⟨rfl, hP, hK⟩ := hv
  have hx := B.exec
  have hb := B.bytes
  have hr := B.returns
  have hts := atoms_spec (ws := wsX7_isGone) B.pre
  have hown : s.vm.findClass RX7 = some m.cls := findClass_of_methodNamed B.named
  have hlocks := B.notSynchronized
  have hS : va_S ro_F s.heap s.heap [] := va_S.rf
  have hl := lv_entry ([.ref mo, .int cell]) (n := 2) (Nat.le_of_ble_eq_true rfl)
  rw [lg_entry_eq]
  generalize (lg_sl ([.ref mo, .int cell]) ++ List.replicate (2 - (lg_sl ([.ref mo, .int cell])).length) Slot.unset).toArray = ls at hl ⊢
  have hl : lv_has ls 2 [(0, .ref mo), (1, .int cell)] := hl
  rw [F_Model_isGone] at hres
  refine lv_aload_n hx hb dX7_isGone_0 rfl (lv_at hl 0 rfl) ?_
  refine va_get (D := (dC, dI)) (ci := 7) (v := .ref ms) (C := RX7) (T := TX7) (N := 9) hx hb hts iX7_isGone_X7 hown hK hP 0 rfl rfl 0 (by decide) (hts (.fieldLink RX7 7 "TailorChalksModel" "s" "[I") kX7_isGone_7) (fun _ h9 => h9) rfl dX7_isGone_1 ?_
  refine lv_sipush (v := 164) hx hb dX7_isGone_4 (by decide) ?_
  refine lv_iload_n hx hb dX7_isGone_7 rfl (lv_at hl 1 rfl) ?_
  refine lv_iadd hx hb dX7_isGone_8 ?_
  refine va_iald hx hb hK hP 1 0 rfl rfl (vp_addc (q := 164) (n := 48) rfl hc (by decide) (by decide)) dX7_isGone_9 ?_
  refine lv_iconst (v := 1) hx hb dX7_isGone_10 (by decide) ?_
  refine lv_icmp_ne (tgt := 18) hx hb dX7_isGone_11 (by decide) (fun c_1 => ?_) (fun c_1 => ?_)
  · rw [if_neg c_1] at hres
    refine lv_iconst (v := 0) hx hb dX7_isGone_18 (by decide) ?_
    exact W.zret (v := 0) hx hb hr rfl (fun t ht hW => ⟨⟨0, (), rfl, hres.symm, trivial⟩, hS.F ht⟩) hS.2.2 dX7_isGone_19
  · rw [if_pos c_1] at hres
    refine lv_iconst (v := 1) hx hb dX7_isGone_14 (by decide) ?_
    refine lv_goto (tgt := 19) hx hb dX7_isGone_15 (by decide) ?_
    exact W.zret (v := 1) hx hb hr rfl (fun t ht hW => ⟨⟨1, (), rfl, hres.symm, trivial⟩, hS.F ht⟩) hS.2.2 dX7_isGone_19
theorem F_Model_isGone_b (cell : Int32) (vs : Nat → Int32) : F_Model_isGone cell vs = 0 ∨ F_Model_isGone cell vs = 1 := by
  unfold F_Model_isGone
  try simp only [bnd]
  (repeat' split) <;> first | exact Or.inl rfl | exact Or.inr rfl
def F_Model_isVoid (joint : Int32) (vs : Nat → Int32) : Int32 := (bnd (F_Model_first joint) (fun r_1 => (bnd (F_Model_isGone r_1 vs) (fun r_2 => (if r_2 = 0 then (bnd (F_Model_second joint) (fun r_4 => (bnd (F_Model_isGone r_4 vs) (fun r_5 => (if r_5 = 0 then 0 else 1))))) else 1)))))
set_option maxHeartbeats 4000000 in
set_option maxRecDepth 100000 in
theorem c_Model_isVoid (l : Launch) (dC : Nat → ClassId) (dI : Nat → Nat → Nat) (cI cC cG cZ : ClassId) (mo ms mah mhi msl msv mpd mlb : Nat) (joint : Int32) (vkp : Int32) (vln : Int32) (vs : Nat → Int32) (hj : vp_in joint 82) (res : Int32) (hres : res = F_Model_isVoid joint vs) : Met l yX7_isVoid wsX7_isVoid ({ frames := 2, cells := 0, slots := 0, locals := 40 }) (va_Pc [.ref mo, .int joint] (ro_P (dC, dI) vwCl (tyL cI cC cG cZ) [(mo, .inr (7, [.ref ms, .ref mah, .ref mhi, .int vkp, .ref msl, .ref msv, .ref mpd, .int vln, .ref mlb])), (ms, .inl (cI, 246, .inl vs))])) (va_Qi (fun r (_ : Unit) => r = res) (fun _ _ => True) ro_F) 0 0 ro_F := by
  refine Met.ofW (cc := cX7_isVoid) (maxL := 2) (ret := (some .boolean)) (by decide) rfl ?_
  intro p e s m args below meth c s₁ B hml hv
  obtain ⟨rfl, hP, hK⟩ := hv
  have hx := B.exec
  have hb := B.bytes
  have hr := B.returns
  have hts := atoms_spec (ws := wsX7_isVoid) B.pre
  have hown : s.vm.findClass RX7 = some m.cls := findClass_of_methodNamed B.named
  have hlocks := B.notSynchronized
  have hS : va_S ro_F s.heap s.heap [] := va_S.rf
  have hl := lv_entry ([.ref mo, .int joint]) (n := 2) (Nat.le_of_ble_eq_true rfl)
  rw [lg_entry_eq]
  generalize (lg_sl ([.ref mo, .int joint]) ++ List.replicate (2 - (lg_sl ([.ref mo, .int joint])).length) Slot.unset).toArray = ls at hl ⊢
  have hl : lv_has ls 2 [(0, .ref mo), (1, .int joint)] := hl
  rw [F_Model_isVoid] at hres
  refine lv_aload_n hx hb dX7_isVoid_0 rfl (lv_at hl 0 rfl) ?_
  refine lv_iload_n hx hb dX7_isVoid_1 rfl (lv_at hl 1 rfl) ?_
  obtain ⟨r_1, hr_1⟩ : ∃ z, z = F_Model_first joint := ⟨_, rfl⟩
  rw [bnd_e hr_1] at hres
  refine ro_calli (va_runS (As := [.int joint]) (rest := [.ref mo]) ⟨hx, hb, hml, hown, hts⟩ (c_Model_first l dC dI cI cC cG cZ  joint  r_1 hr_1) (va_cwS 1 hts gX7_isVoid_X7_first rfl rfl rfl (by decide +kernel) ⟨Nat.le_of_ble_eq_true rfl, Nat.le_of_ble_eq_true rfl⟩) (ro_preS (hP.sub (ws' := []) [] rfl) hK) rfl rfl hl.1 rfl (lv_room (Nat.le_of_ble_eq_true rfl)) dX7_isVoid_2 ⟨Nat.zero_le _, Nat.zero_le _⟩) hP hS (fun H locs hP hS => ?_)
  obtain ⟨r_2, hr_2⟩ : ∃ z, z = F_Model_isGone r_1 vs := ⟨_, rfl⟩
  rw [bnd_e hr_2] at hres
  refine ro_calli (va_runV (As := [.int r_1]) (rest := []) ⟨hx, hb, hml, hown, hts⟩ (c_Model_isGone l dC dI cI cC cG cZ mo ms mah mhi msl msv mpd mlb r_1 vkp vln vs (by rw [hr_1]; exact first_in hj) r_2 hr_2) (cwV 1 hts gX7_isVoid_X7_isGone rfl rfl rfl (by decide +kernel) ⟨Nat.le_of_ble_eq_true rfl, Nat.le_of_ble_eq_true rfl⟩) (ro_preV (hP.sub (ws' := [(mo, .inr (7, [.ref ms, .ref mah, .ref mhi, .int vkp, .ref msl, .ref msv, .ref mpd, .int vln, .ref mlb])), (ms, .inl (cI, 246, .inl vs))]) [0, 1] rfl) hK (ci := 7) (q0 := 0) rfl rfl) rfl rfl hl.1 rfl (lv_room (Nat.le_of_ble_eq_true rfl)) dX7_isVoid_5 ⟨Nat.zero_le _, Nat.zero_le _⟩) hP hS (fun H locs hP hS => ?_)
  refine lv_if_ne (tgt := 22) hx hb dX7_isVoid_8 (by decide) (fun c_3 => ?_) (fun c_3 => ?_)
  · rw [if_neg c_3] at hres
    refine lv_iconst (v := 1) hx hb dX7_isVoid_22 (by decide) ?_
    refine lv_goto (tgt := 27) hx hb dX7_isVoid_23 (by decide) ?_
    exact W.zret (v := 1) hx hb hr rfl (fun t ht hW => ⟨⟨1, (), rfl, hres.symm, trivial⟩, hS.F ht⟩) hS.2.2 dX7_isVoid_27
  · rw [if_pos c_3] at hres
    refine lv_aload_n hx hb dX7_isVoid_11 rfl (lv_at hl 0 rfl) ?_
    refine lv_iload_n hx hb dX7_isVoid_12 rfl (lv_at hl 1 rfl) ?_
    obtain ⟨r_4, hr_4⟩ : ∃ z, z = F_Model_second joint := ⟨_, rfl⟩
    rw [bnd_e hr_4] at hres
    refine ro_calli (va_runS (As := [.int joint]) (rest := [.ref mo]) ⟨hx, hb, hml, hown, hts⟩ (c_Model_second l dC dI cI cC cG cZ  joint  r_4 hr_4) (va_cwS 1 hts gX7_isVoid_X7_second rfl rfl rfl (by decide +kernel) ⟨Nat.le_of_ble_eq_true rfl, Nat.le_of_ble_eq_true rfl⟩) (ro_preS (hP.sub (ws' := []) [] rfl) hK) rfl rfl hl.1 rfl (lv_room (Nat.le_of_ble_eq_true rfl)) dX7_isVoid_13 ⟨Nat.zero_le _, Nat.zero_le _⟩) hP hS (fun H locs hP hS => ?_)
    obtain ⟨r_5, hr_5⟩ : ∃ z, z = F_Model_isGone r_4 vs := ⟨_, rfl⟩
    rw [bnd_e hr_5] at hres
    refine ro_calli (va_runV (As := [.int r_4]) (rest := []) ⟨hx, hb, hml, hown, hts⟩ (c_Model_isGone l dC dI cI cC cG cZ mo ms mah mhi msl msv mpd mlb r_4 vkp vln vs (by rw [hr_4]; exact second_in hj) r_5 hr_5) (cwV 1 hts gX7_isVoid_X7_isGone rfl rfl rfl (by decide +kernel) ⟨Nat.le_of_ble_eq_true rfl, Nat.le_of_ble_eq_true rfl⟩) (ro_preV (hP.sub (ws' := [(mo, .inr (7, [.ref ms, .ref mah, .ref mhi, .int vkp, .ref msl, .ref msv, .ref mpd, .int vln, .ref mlb])), (ms, .inl (cI, 246, .inl vs))]) [0, 1] rfl) hK (ci := 7) (q0 := 0) rfl rfl) rfl rfl hl.1 rfl (lv_room (Nat.le_of_ble_eq_true rfl)) dX7_isVoid_16 ⟨Nat.zero_le _, Nat.zero_le _⟩) hP hS (fun H locs hP hS => ?_)
    refine lv_if_eq (tgt := 26) hx hb dX7_isVoid_19 (by decide) (fun c_6 => ?_) (fun c_6 => ?_)
    · rw [if_pos c_6] at hres
      refine lv_iconst (v := 0) hx hb dX7_isVoid_26 (by decide) ?_
      exact W.zret (v := 0) hx hb hr rfl (fun t ht hW => ⟨⟨0, (), rfl, hres.symm, trivial⟩, hS.F ht⟩) hS.2.2 dX7_isVoid_27
    · rw [if_neg c_6] at hres
      refine lv_iconst (v := 1) hx hb dX7_isVoid_22 (by decide) ?_
      refine lv_goto (tgt := 27) hx hb dX7_isVoid_23 (by decide) ?_
      exact W.zret (v := 1) hx hb hr rfl (fun t ht hW => ⟨⟨1, (), rfl, hres.symm, trivial⟩, hS.F ht⟩) hS.2.2 dX7_isVoid_27
theorem F_Model_isVoid_b (joint : Int32) (vs : Nat → Int32) : F_Model_isVoid joint vs = 0 ∨ F_Model_isVoid joint vs = 1 := by
  unfold F_Model_isVoid
  try simp only [bnd]
  (repeat' split) <;> first | exact Or.inl rfl | exact Or.inr rfl | exact F_Model_isGone_b ..
theorem iX7_holds_X7 : ∀ w ∈ u_ws RX7 TX7 9, w ∈ wsX7_holds := by decide +kernel
theorem kX7_holds_7 : Cond.fieldLink RX7 7 "TailorChalksModel" "s" "[I" ∈ wsX7_holds := by decide +kernel
def F_Model_holds (joint : Int32) (vs : Nat → Int32) : Int32 := (bnd (F_Model_isVoid joint vs) (fun r_1 => (if r_1 = 0 then (if (vs ((0 : Int32) + joint).toNatClampNeg) = 0 then 1 else (if (vs ((0 : Int32) + joint).toNatClampNeg) = 2 then 1 else 0)) else 0)))
set_option maxHeartbeats 4000000 in
set_option maxRecDepth 100000 in
theorem c_Model_holds (l : Launch) (dC : Nat → ClassId) (dI : Nat → Nat → Nat) (cI cC cG cZ : ClassId) (mo ms mah mhi msl msv mpd mlb : Nat) (joint : Int32) (vkp : Int32) (vln : Int32) (vs : Nat → Int32) (hj : vp_in joint 82) (res : Int32) (hres : res = F_Model_holds joint vs) : Met l yX7_holds wsX7_holds ({ frames := 3, cells := 0, slots := 0, locals := 61 }) (va_Pc [.ref mo, .int joint] (ro_P (dC, dI) vwCl (tyL cI cC cG cZ) [(mo, .inr (7, [.ref ms, .ref mah, .ref mhi, .int vkp, .ref msl, .ref msv, .ref mpd, .int vln, .ref mlb])), (ms, .inl (cI, 246, .inl vs))])) (va_Qi (fun r (_ : Unit) => r = res) (fun _ _ => True) ro_F) 0 0 ro_F := by
  refine Met.ofW (cc := cX7_holds) (maxL := 2) (ret := (some .boolean)) (by decide) rfl ?_
  intro p e s m args below meth c s₁ B hml hv
  obtain ⟨rfl, hP, hK⟩ := hv
  have hx := B.exec
  have hb := B.bytes
  have hr := B.returns
  have hts := atoms_spec (ws := wsX7_holds) B.pre
  have hown : s.vm.findClass RX7 = some m.cls := findClass_of_methodNamed B.named
  have hlocks := B.notSynchronized
  have hS : va_S ro_F s.heap s.heap [] := va_S.rf
  have hl := lv_entry ([.ref mo, .int joint]) (n := 2) (Nat.le_of_ble_eq_true rfl)
  rw [lg_entry_eq]
  generalize (lg_sl ([.ref mo, .int joint]) ++ List.replicate (2 - (lg_sl ([.ref mo, .int joint])).length) Slot.unset).toArray = ls at hl ⊢
  have hl : lv_has ls 2 [(0, .ref mo), (1, .int joint)] := hl
  rw [F_Model_holds] at hres
  refine lv_aload_n hx hb dX7_holds_0 rfl (lv_at hl 0 rfl) ?_
  refine lv_iload_n hx hb dX7_holds_1 rfl (lv_at hl 1 rfl) ?_
  obtain ⟨r_1, hr_1⟩ : ∃ z, z = F_Model_isVoid joint vs := ⟨_, rfl⟩
  rw [bnd_e hr_1] at hres
  refine ro_calli (va_runV (As := [.int joint]) (rest := []) ⟨hx, hb, hml, hown, hts⟩ (c_Model_isVoid l dC dI cI cC cG cZ mo ms mah mhi msl msv mpd mlb joint vkp vln vs hj r_1 hr_1) (cwV 1 hts gX7_holds_X7_isVoid rfl rfl rfl (by decide +kernel) ⟨Nat.le_of_ble_eq_true rfl, Nat.le_of_ble_eq_true rfl⟩) (ro_preV (hP.sub (ws' := [(mo, .inr (7, [.ref ms, .ref mah, .ref mhi, .int vkp, .ref msl, .ref msv, .ref mpd, .int vln, .ref mlb])), (ms, .inl (cI, 246, .inl vs))]) [0, 1] rfl) hK (ci := 7) (q0 := 0) rfl rfl) rfl rfl hl.1 rfl (lv_room (Nat.le_of_ble_eq_true rfl)) dX7_holds_2 ⟨Nat.zero_le _, Nat.zero_le _⟩) hP hS (fun H locs hP hS => ?_)
  refine lv_if_ne (tgt := 35) hx hb dX7_holds_5 (by decide) (fun c_2 => ?_) (fun c_2 => ?_)
  · rw [if_neg c_2] at hres
    refine lv_iconst (v := 0) hx hb dX7_holds_35 (by decide) ?_
    exact W.zret (v := 0) hx hb hr rfl (fun t ht hW => ⟨⟨0, (), rfl, hres.symm, trivial⟩, hS.F ht⟩) hS.2.2 dX7_holds_36
  · rw [if_pos c_2] at hres
    refine lv_aload_n hx hb dX7_holds_8 rfl (lv_at hl 0 rfl) ?_
    refine va_get (D := (dC, dI)) (ci := 7) (v := .ref ms) (C := RX7) (T := TX7) (N := 9) hx hb hts iX7_holds_X7 hown hK hP 0 rfl rfl 0 (by decide) (hts (.fieldLink RX7 7 "TailorChalksModel" "s" "[I") kX7_holds_7) (fun _ h9 => h9) rfl dX7_holds_9 ?_
    refine lv_iconst (v := 0) hx hb dX7_holds_12 (by decide) ?_
    refine lv_iload_n hx hb dX7_holds_13 rfl (lv_at hl 1 rfl) ?_
    refine lv_iadd hx hb dX7_holds_14 ?_
    refine va_iald hx hb hK hP 1 0 rfl rfl (vp_addc (q := 0) (n := 82) rfl hj (by decide) (by decide)) dX7_holds_15 ?_
    refine lv_if_eq (tgt := 31) hx hb dX7_holds_16 (by decide) (fun c_3 => ?_) (fun c_3 => ?_)
    · rw [if_pos c_3] at hres
      refine lv_iconst (v := 1) hx hb dX7_holds_31 (by decide) ?_
      refine lv_goto (tgt := 36) hx hb dX7_holds_32 (by decide) ?_
      exact W.zret (v := 1) hx hb hr rfl (fun t ht hW => ⟨⟨1, (), rfl, hres.symm, trivial⟩, hS.F ht⟩) hS.2.2 dX7_holds_36
    · rw [if_neg c_3] at hres
      refine lv_aload_n hx hb dX7_holds_19 rfl (lv_at hl 0 rfl) ?_
      refine va_get (D := (dC, dI)) (ci := 7) (v := .ref ms) (C := RX7) (T := TX7) (N := 9) hx hb hts iX7_holds_X7 hown hK hP 0 rfl rfl 0 (by decide) (hts (.fieldLink RX7 7 "TailorChalksModel" "s" "[I") kX7_holds_7) (fun _ h9 => h9) rfl dX7_holds_20 ?_
      refine lv_iconst (v := 0) hx hb dX7_holds_23 (by decide) ?_
      refine lv_iload_n hx hb dX7_holds_24 rfl (lv_at hl 1 rfl) ?_
      refine lv_iadd hx hb dX7_holds_25 ?_
      refine va_iald hx hb hK hP 1 0 rfl rfl (vp_addc (q := 0) (n := 82) rfl hj (by decide) (by decide)) dX7_holds_26 ?_
      refine lv_iconst (v := 2) hx hb dX7_holds_27 (by decide) ?_
      refine lv_icmp_ne (tgt := 35) hx hb dX7_holds_28 (by decide) (fun c_4 => ?_) (fun c_4 => ?_)
      · rw [if_neg c_4] at hres
        refine lv_iconst (v := 0) hx hb dX7_holds_35 (by decide) ?_
        exact W.zret (v := 0) hx hb hr rfl (fun t ht hW => ⟨⟨0, (), rfl, hres.symm, trivial⟩, hS.F ht⟩) hS.2.2 dX7_holds_36
      · rw [if_pos c_4] at hres
        refine lv_iconst (v := 1) hx hb dX7_holds_31 (by decide) ?_
        refine lv_goto (tgt := 36) hx hb dX7_holds_32 (by decide) ?_
        exact W.zret (v := 1) hx hb hr rfl (fun t ht hW => ⟨⟨1, (), rfl, hres.symm, trivial⟩, hS.F ht⟩) hS.2.2 dX7_holds_36
theorem F_Model_holds_b (joint : Int32) (vs : Nat → Int32) : F_Model_holds joint vs = 0 ∨ F_Model_holds joint vs = 1 := by
  unfold F_Model_holds
  try simp only [bnd]
  (repeat' split) <;> first | exact Or.inl rfl | exact Or.inr rfl | exact F_Model_isVoid_b ..
theorem iX7_cellsOf_X7 : ∀ w ∈ u_ws RX7 TX7 9, w ∈ wsX7_cellsOf := by decide +kernel
theorem kX7_cellsOf_29 : Cond.fieldLink RX7 29 "TailorChalksModel" "label" "[I" ∈ wsX7_cellsOf := by decide +kernel
def F_Model_cellsOf_L4 (piece : Int32) (vlb : Nat → Int32) : Nat → Int32 → Int32 → Int32 × Int32
  | 0, x3, x2 => (x3, x2)
  | n + 1, x3, x2 => (if (48 : Int32) ≤ x3 then (x3, x2) else (if (vlb x3.toNatClampNeg) = piece then (F_Model_cellsOf_L4 piece vlb n (x3 + 1) (x2 + 1)) else (F_Model_cellsOf_L4 piece vlb n (x3 + 1) (x2 + 0))))
def F_Model_cellsOf (piece : Int32) (vlb : Nat → Int32) : Int32 := (bnd (F_Model_cellsOf_L4 piece vlb 49 (0 : Int32) (0 : Int32)) (fun q_1 => q_1.2))
set_option maxHeartbeats 4000000 in
set_option maxRecDepth 100000 in
theorem c_Model_cellsOf (l : Launch) (dC : Nat → ClassId) (dI : Nat → Nat → Nat) (cI cC cG cZ : ClassId) (mo ms mah mhi msl msv mpd mlb : Nat) (piece : Int32) (vkp : Int32) (vln : Int32) (vlb : Nat → Int32) (res : Int32) (hres : res = F_Model_cellsOf piece vlb) : Met l yX7_cellsOf wsX7_cellsOf ({ frames := 0, cells := 0, slots := 0, locals := 0 }) (va_Pc [.ref mo, .int piece] (ro_P (dC, dI) vwCl (tyL cI cC cG cZ) [(mo, .inr (7, [.ref ms, .ref mah, .ref mhi, .int vkp, .ref msl, .ref msv, .ref mpd, .int vln, .ref mlb])), (mlb, .inl (cI, 48, .inl vlb))])) (va_Qi (fun r (_ : Unit) => r = res) (fun _ _ => True) ro_F) 0 0 ro_F := by
  refine Met.ofW (cc := cX7_cellsOf) (maxL := 4) (ret := (some .int)) (by decide) rfl ?_
  intro p e s m args below meth c s₁ B hml hv
  obtain ⟨rfl, hP, hK⟩ := hv
  have hx := B.exec
  have hb := B.bytes
  have hr := B.returns
  have hts := atoms_spec (ws := wsX7_cellsOf) B.pre
  have hown : s.vm.findClass RX7 = some m.cls := findClass_of_methodNamed B.named
  have hlocks := B.notSynchronized
  have hS : va_S ro_F s.heap s.heap [] := va_S.rf
  have hl := lv_entry ([.ref mo, .int piece]) (n := 4) (Nat.le_of_ble_eq_true rfl)
  rw [lg_entry_eq]
  generalize (lg_sl ([.ref mo, .int piece]) ++ List.replicate (4 - (lg_sl ([.ref mo, .int piece])).length) Slot.unset).toArray = ls at hl ⊢
  have hl : lv_has ls 4 [(0, .ref mo), (1, .int piece)] := hl
  rw [F_Model_cellsOf] at hres
  refine lv_iconst (v := 0) hx hb dX7_cellsOf_0 (by decide) ?_
  refine lv_istore_n (lv' := [(2, .int 0), (0, .ref mo), (1, .int piece)]) hx hb dX7_cellsOf_1 rfl hl (by decide) rfl (fun ls hl => ?_)
  refine lv_iconst (v := 0) hx hb dX7_cellsOf_2 (by decide) ?_
  refine lv_istore_n (lv' := [(3, .int 0), (2, .int 0), (0, .ref mo), (1, .int piece)]) hx hb dX7_cellsOf_3 rfl hl (by decide) rfl (fun ls hl => ?_)
  obtain ⟨q_1, hq_1⟩ : ∃ z, z = F_Model_cellsOf_L4 piece vlb 49 (0 : Int32) (0 : Int32) := ⟨_, rfl⟩
  rw [bnd_e hq_1] at hres
  have hexit4 : ∀ (H : Heap) (locs : List Loc) (ls : Array Slot), va_P (dC, dI) vwCl [(mo, .inr (7, [.ref ms, .ref mah, .ref mhi, .int vkp, .ref msl, .ref msv, .ref mpd, .int vln, .ref mlb])), (mlb, .inl (cI, 48, .inl vlb))] H → va_S ro_F s.heap H locs → lv_has ls 4 [(3, .int q_1.1), (2, .int q_1.2), (0, .ref mo), (1, .int piece)] → W p l e (headSpec wsX7_cellsOf ({ frames := 0, cells := 0, slots := 0, locals := 0 })).room s m ([.ref mo, .int piece] : List Value).toArray below meth c H locs 0 0 (MQ below (va_Qi (fun r (_ : Unit) => r = res) (fun _ _ => True) ro_F) ([.ref mo, .int piece] : List Value).toArray s 0 0 ro_F) (F0 m 34 ls []) := by
    intro H locs ls  hP hS hl
    refine lv_iload_n hx hb dX7_cellsOf_34 rfl (lv_at hl 1 rfl) ?_
    exact W.iret (v := q_1.2) hx hb hr (fun t ht hW => ⟨⟨q_1.2, (), rfl, hres.symm, trivial⟩, hS.F ht⟩) hS.2.2 dX7_cellsOf_35
  have hloop4 : ∀ (n k4 : Nat) (x3 : Int32) (x2 : Int32) (H : Heap) (locs : List Loc) (ls : Array Slot), k4 ≤ 48 → 48 - k4 < n → x3 = nI k4 → q_1 = F_Model_cellsOf_L4 piece vlb n x3 x2 → va_P (dC, dI) vwCl [(mo, .inr (7, [.ref ms, .ref mah, .ref mhi, .int vkp, .ref msl, .ref msv, .ref mpd, .int vln, .ref mlb])), (mlb, .inl (cI, 48, .inl vlb))] H → va_S ro_F s.heap H locs → lv_has ls 4 [(3, .int x3), (2, .int x2), (0, .ref mo), (1, .int piece)] → W p l e (headSpec wsX7_cellsOf ({ frames := 0, cells := 0, slots := 0, locals := 0 })).room s m ([.ref mo, .int piece] : List Value).toArray below meth c H locs 0 0 (MQ below (va_Qi (fun r (_ : Unit) => r = res) (fun _ _ => True) ro_F) ([.ref mo, .int piece] : List Value).toArray s 0 0 ro_F) (F0 m 4 ls []) := by
    intro n
    induction n with
    | zero => intro k4 x3 x2 _ _ _ _ hm; exact absurd hm (Nat.not_lt_zero _)
    | succ n ih4 =>
      intro k4 x3 x2 H locs ls hk4 hm4 ex4  hq_1 hP hS hl
      rw [F_Model_cellsOf_L4] at hq_1
      refine lv_iload_n hx hb dX7_cellsOf_4 rfl (lv_at hl 0 rfl) ?_
      refine lv_bipush (v := 48) hx hb dX7_cellsOf_5 (by decide) ?_
      refine lv_icmp_ge (tgt := 34) hx hb dX7_cellsOf_7 (by decide) (fun c_2 => ?_) (fun c_2 => ?_)
      · rw [if_pos c_2] at hq_1
        subst hq_1
        exact hexit4 _ _ _  hP hS (lv_sub hl [0, 1, 2, 3] rfl)
      · rw [if_neg c_2] at hq_1
        have hlt_k4 : k4 < 48 := lp_lt rfl ex4 hk4 c_2
        refine lv_iload_n hx hb dX7_cellsOf_10 rfl (lv_at hl 1 rfl) ?_
        refine lv_aload_n hx hb dX7_cellsOf_11 rfl (lv_at hl 2 rfl) ?_
        refine va_get (D := (dC, dI)) (ci := 7) (v := .ref mlb) (C := RX7) (T := TX7) (N := 9) hx hb hts iX7_cellsOf_X7 hown hK hP 0 rfl rfl 8 (by decide) (hts (.fieldLink RX7 29 "TailorChalksModel" "label" "[I") kX7_cellsOf_29) (fun _ h9 => h9) rfl dX7_cellsOf_12 ?_
        refine lv_iload_n hx hb dX7_cellsOf_15 rfl (lv_at hl 0 rfl) ?_
        refine va_iald hx hb hK hP 1 0 rfl rfl (by rw [ex4]; exact vp_in_nI (by omega) (by decide)) dX7_cellsOf_16 ?_
        refine lv_iload_n hx hb dX7_cellsOf_17 rfl (lv_at hl 3 rfl) ?_
        refine lv_icmp_ne (tgt := 25) hx hb dX7_cellsOf_18 (by decide) (fun c_3 => ?_) (fun c_3 => ?_)
        · rw [if_neg c_3] at hq_1
          refine lv_iconst (v := 0) hx hb dX7_cellsOf_25 (by decide) ?_
          refine lv_iadd hx hb dX7_cellsOf_26 ?_
          refine lv_istore_n (lv' := [(2, .int (x2 + 0)), (3, .int x3), (0, .ref mo), (1, .int piece)]) hx hb dX7_cellsOf_27 rfl hl (by decide) rfl (fun ls hl => ?_)
          refine lv_iinc (v := (x3 + 1)) (lv' := [(3, .int (x3 + 1)), (2, .int (x2 + 0)), (0, .ref mo), (1, .int piece)]) hx hb dX7_cellsOf_28 hl (k := 1) rfl rfl (by decide) rfl (fun ls hl => ?_)
          refine lv_goto (tgt := 4) hx hb dX7_cellsOf_31 (by decide) ?_
          exact ih4 (k4 + 1) (x3 + 1) (x2 + 0) _ _ _ (by omega) (by omega) (by rw [ex4]; exact nI_1 _)  hq_1 hP hS (lv_sub hl [0, 1, 2, 3] rfl)
        · rw [if_pos c_3] at hq_1
          refine lv_iconst (v := 1) hx hb dX7_cellsOf_21 (by decide) ?_
          refine lv_goto (tgt := 26) hx hb dX7_cellsOf_22 (by decide) ?_
          refine lv_iadd hx hb dX7_cellsOf_26 ?_
          refine lv_istore_n (lv' := [(2, .int (x2 + 1)), (3, .int x3), (0, .ref mo), (1, .int piece)]) hx hb dX7_cellsOf_27 rfl hl (by decide) rfl (fun ls hl => ?_)
          refine lv_iinc (v := (x3 + 1)) (lv' := [(3, .int (x3 + 1)), (2, .int (x2 + 1)), (0, .ref mo), (1, .int piece)]) hx hb dX7_cellsOf_28 hl (k := 1) rfl rfl (by decide) rfl (fun ls hl => ?_)
          refine lv_goto (tgt := 4) hx hb dX7_cellsOf_31 (by decide) ?_
          exact ih4 (k4 + 1) (x3 + 1) (x2 + 1) _ _ _ (by omega) (by omega) (by rw [ex4]; exact nI_1 _)  hq_1 hP hS (lv_sub hl [0, 1, 2, 3] rfl)
  exact hloop4 49 0 (0 : Int32) (0 : Int32) _ _ _ (by omega) (by omega) nI_0.symm  hq_1 hP hS (lv_sub hl [0, 1, 2, 3] rfl)
def F_Model_left_L4 (vs : Nat → Int32) : Nat → Int32 → Int32 → Int32 × Int32
  | 0, x2, x1 => (x2, x1)
  | n + 1, x2, x1 => (if (48 : Int32) ≤ x2 then (x2, x1) else (bnd (F_Model_isGone x2 vs) (fun r_3 => (if r_3 = 0 then (F_Model_left_L4 vs n (x2 + 1) (x1 + 1)) else (F_Model_left_L4 vs n (x2 + 1) (x1 + 0))))))
def F_Model_left (vs : Nat → Int32) : Int32 := (bnd (F_Model_left_L4 vs 49 (0 : Int32) (0 : Int32)) (fun q_1 => q_1.2))
set_option maxHeartbeats 4000000 in
set_option maxRecDepth 100000 in
theorem c_Model_left (l : Launch) (dC : Nat → ClassId) (dI : Nat → Nat → Nat) (cI cC cG cZ : ClassId) (mo ms mah mhi msl msv mpd mlb : Nat) (vkp : Int32) (vln : Int32) (vs : Nat → Int32) (res : Int32) (hres : res = F_Model_left vs) : Met l yX7_left wsX7_left ({ frames := 1, cells := 0, slots := 0, locals := 21 }) (va_Pc [.ref mo] (ro_P (dC, dI) vwCl (tyL cI cC cG cZ) [(mo, .inr (7, [.ref ms, .ref mah, .ref mhi, .int vkp, .ref msl, .ref msv, .ref mpd, .int vln, .ref mlb])), (ms, .inl (cI, 246, .inl vs))])) (va_Qi (fun r (_ : Unit) => r = res) (fun _ _ => True) ro_F) 0 0 ro_F := by
  refine Met.ofW (cc := cX7_left) (maxL := 3) (ret := (some .int)) (by decide) rfl ?_
  intro p e s m args below meth c s₁ B hml hv
  obtain ⟨rfl, hP, hK⟩ := hv
  have hx := B.exec
  have hb := B.bytes
  have hr := B.returns
  have hts := atoms_spec (ws := wsX7_left) B.pre
  have hown : s.vm.findClass RX7 = some m.cls := findClass_of_methodNamed B.named
  have hlocks := B.notSynchronized
  have hS : va_S ro_F s.heap s.heap [] := va_S.rf
  have hl := lv_entry ([.ref mo]) (n := 3) (Nat.le_of_ble_eq_true rfl)
  rw [lg_entry_eq]
  generalize (lg_sl ([.ref mo]) ++ List.replicate (3 - (lg_sl ([.ref mo])).length) Slot.unset).toArray = ls at hl ⊢
  have hl : lv_has ls 3 [(0, .ref mo)] := hl
  rw [F_Model_left] at hres
  refine lv_iconst (v := 0) hx hb dX7_left_0 (by decide) ?_
  refine lv_istore_n (lv' := [(1, .int 0), (0, .ref mo)]) hx hb dX7_left_1 rfl hl (by decide) rfl (fun ls hl => ?_)
  refine lv_iconst (v := 0) hx hb dX7_left_2 (by decide) ?_
  refine lv_istore_n (lv' := [(2, .int 0), (1, .int 0), (0, .ref mo)]) hx hb dX7_left_3 rfl hl (by decide) rfl (fun ls hl => ?_)
  obtain ⟨q_1, hq_1⟩ : ∃ z, z = F_Model_left_L4 vs 49 (0 : Int32) (0 : Int32) := ⟨_, rfl⟩
  rw [bnd_e hq_1] at hres
  have hexit4 : ∀ (H : Heap) (locs : List Loc) (ls : Array Slot), va_P (dC, dI) vwCl [(mo, .inr (7, [.ref ms, .ref mah, .ref mhi, .int vkp, .ref msl, .ref msv, .ref mpd, .int vln, .ref mlb])), (ms, .inl (cI, 246, .inl vs))] H → va_S ro_F s.heap H locs → lv_has ls 3 [(2, .int q_1.1), (1, .int q_1.2), (0, .ref mo)] → W p l e (headSpec wsX7_left ({ frames := 1, cells := 0, slots := 0, locals := 21 })).room s m ([.ref mo] : List Value).toArray below meth c H locs 0 0 (MQ below (va_Qi (fun r (_ : Unit) => r = res) (fun _ _ => True) ro_F) ([.ref mo] : List Value).toArray s 0 0 ro_F) (F0 m 32 ls []) := by
    intro H locs ls  hP hS hl
    refine lv_iload_n hx hb dX7_left_32 rfl (lv_at hl 1 rfl) ?_
    exact W.iret (v := q_1.2) hx hb hr (fun t ht hW => ⟨⟨q_1.2, (), rfl, hres.symm, trivial⟩, hS.F ht⟩) hS.2.2 dX7_left_33
  have hloop4 : ∀ (n k4 : Nat) (x2 : Int32) (x1 : Int32) (H : Heap) (locs : List Loc) (ls : Array Slot), k4 ≤ 48 → 48 - k4 < n → x2 = nI k4 → q_1 = F_Model_left_L4 vs n x2 x1 → va_P (dC, dI) vwCl [(mo, .inr (7, [.ref ms, .ref mah, .ref mhi, .int vkp, .ref msl, .ref msv, .ref mpd, .int vln, .ref mlb])), (ms, .inl (cI, 246, .inl vs))] H → va_S ro_F s.heap H locs → lv_has ls 3 [(2, .int x2), (1, .int x1), (0, .ref mo)] → W p l e (headSpec wsX7_left ({ frames := 1, cells := 0, slots := 0, locals := 21 })).room s m ([.ref mo] : List Value).toArray below meth c H locs 0 0 (MQ below (va_Qi (fun r (_ : Unit) => r = res) (fun _ _ => True) ro_F) ([.ref mo] : List Value).toArray s 0 0 ro_F) (F0 m 4 ls []) := by
    intro n
    induction n with
    | zero => intro k4 x2 x1 _ _ _ _ hm; exact absurd hm (Nat.not_lt_zero _)
    | succ n ih4 =>
      intro k4 x2 x1 H locs ls hk4 hm4 ex4  hq_1 hP hS hl
      rw [F_Model_left_L4] at hq_1
      refine lv_iload_n hx hb dX7_left_4 rfl (lv_at hl 0 rfl) ?_
      refine lv_bipush (v := 48) hx hb dX7_left_5 (by decide) ?_
      refine lv_icmp_ge (tgt := 32) hx hb dX7_left_7 (by decide) (fun c_2 => ?_) (fun c_2 => ?_)
      · rw [if_pos c_2] at hq_1
        subst hq_1
        exact hexit4 _ _ _  hP hS (lv_sub hl [0, 1, 2] rfl)
      · rw [if_neg c_2] at hq_1
        have hlt_k4 : k4 < 48 := lp_lt rfl ex4 hk4 c_2
        refine lv_iload_n hx hb dX7_left_10 rfl (lv_at hl 1 rfl) ?_
        refine lv_aload_n hx hb dX7_left_11 rfl (lv_at hl 2 rfl) ?_
        refine lv_iload_n hx hb dX7_left_12 rfl (lv_at hl 0 rfl) ?_
        obtain ⟨r_3, hr_3⟩ : ∃ z, z = F_Model_isGone x2 vs := ⟨_, rfl⟩
        rw [bnd_e hr_3] at hq_1
        refine ro_calli (va_runV (As := [.int x2]) (rest := [.int x1]) ⟨hx, hb, hml, hown, hts⟩ (c_Model_isGone l dC dI cI cC cG cZ mo ms mah mhi msl msv mpd mlb x2 vkp vln vs (by rw [ex4]; exact vp_in_nI (by omega) (by decide)) r_3 hr_3) (cwV 1 hts gX7_left_X7_isGone rfl rfl rfl (by decide +kernel) ⟨Nat.le_of_ble_eq_true rfl, Nat.le_of_ble_eq_true rfl⟩) (ro_preV (hP.sub (ws' := [(mo, .inr (7, [.ref ms, .ref mah, .ref mhi, .int vkp, .ref msl, .ref msv, .ref mpd, .int vln, .ref mlb])), (ms, .inl (cI, 246, .inl vs))]) [0, 1] rfl) hK (ci := 7) (q0 := 0) rfl rfl) rfl rfl hl.1 rfl (lv_room (Nat.le_of_ble_eq_true rfl)) dX7_left_13 ⟨Nat.zero_le _, Nat.zero_le _⟩) hP hS (fun H locs hP hS => ?_)
        refine lv_if_eq (tgt := 23) hx hb dX7_left_16 (by decide) (fun c_4 => ?_) (fun c_4 => ?_)
        · rw [if_pos c_4] at hq_1
          refine lv_iconst (v := 1) hx hb dX7_left_23 (by decide) ?_
          refine lv_iadd hx hb dX7_left_24 ?_
          refine lv_istore_n (lv' := [(1, .int (x1 + 1)), (2, .int x2), (0, .ref mo)]) hx hb dX7_left_25 rfl hl (by decide) rfl (fun ls hl => ?_)
          refine lv_iinc (v := (x2 + 1)) (lv' := [(2, .int (x2 + 1)), (1, .int (x1 + 1)), (0, .ref mo)]) hx hb dX7_left_26 hl (k := 1) rfl rfl (by decide) rfl (fun ls hl => ?_)
          refine lv_goto (tgt := 4) hx hb dX7_left_29 (by decide) ?_
          exact ih4 (k4 + 1) (x2 + 1) (x1 + 1) _ _ _ (by omega) (by omega) (by rw [ex4]; exact nI_1 _)  hq_1 hP hS (lv_sub hl [0, 1, 2] rfl)
        · rw [if_neg c_4] at hq_1
          refine lv_iconst (v := 0) hx hb dX7_left_19 (by decide) ?_
          refine lv_goto (tgt := 24) hx hb dX7_left_20 (by decide) ?_
          refine lv_iadd hx hb dX7_left_24 ?_
          refine lv_istore_n (lv' := [(1, .int (x1 + 0)), (2, .int x2), (0, .ref mo)]) hx hb dX7_left_25 rfl hl (by decide) rfl (fun ls hl => ?_)
          refine lv_iinc (v := (x2 + 1)) (lv' := [(2, .int (x2 + 1)), (1, .int (x1 + 0)), (0, .ref mo)]) hx hb dX7_left_26 hl (k := 1) rfl rfl (by decide) rfl (fun ls hl => ?_)
          refine lv_goto (tgt := 4) hx hb dX7_left_29 (by decide) ?_
          exact ih4 (k4 + 1) (x2 + 1) (x1 + 0) _ _ _ (by omega) (by omega) (by rw [ex4]; exact nI_1 _)  hq_1 hP hS (lv_sub hl [0, 1, 2] rfl)
  exact hloop4 49 0 (0 : Int32) (0 : Int32) _ _ _ (by omega) (by omega) nI_0.symm  hq_1 hP hS (lv_sub hl [0, 1, 2] rfl)
theorem iX7_isOver_X7 : ∀ w ∈ u_ws RX7 TX7 9, w ∈ wsX7_isOver := by decide +kernel
theorem kX7_isOver_7 : Cond.fieldLink RX7 7 "TailorChalksModel" "s" "[I" ∈ wsX7_isOver := by decide +kernel
def F_Model_isOver (vs : Nat → Int32) : Int32 := (if (200 : Int32) ≤ (vs (244 : Int32).toNatClampNeg) then 1 else (bnd (F_Model_left vs) (fun r_2 => (if (13 : Int32) ≤ r_2 then 0 else 1))))
set_option maxHeartbeats 4000000 in
set_option maxRecDepth 100000 in
theorem c_Model_isOver (l : Launch) (dC : Nat → ClassId) (dI : Nat → Nat → Nat) (cI cC cG cZ : ClassId) (mo ms mah mhi msl msv mpd mlb : Nat) (vkp : Int32) (vln : Int32) (vs : Nat → Int32) (res : Int32) (hres : res = F_Model_isOver vs) : Met l yX7_isOver wsX7_isOver ({ frames := 2, cells := 0, slots := 0, locals := 43 }) (va_Pc [.ref mo] (ro_P (dC, dI) vwCl (tyL cI cC cG cZ) [(mo, .inr (7, [.ref ms, .ref mah, .ref mhi, .int vkp, .ref msl, .ref msv, .ref mpd, .int vln, .ref mlb])), (ms, .inl (cI, 246, .inl vs))])) (va_Qi (fun r (_ : Unit) => r = res) (fun _ _ => True) ro_F) 0 0 ro_F := by
  refine Met.ofW (cc := cX7_isOver) (maxL := 1) (ret := (some .boolean)) (by decide) rfl ?_
  intro p e s m args below meth c s₁ B hml hv
  obtain ⟨rfl, hP, hK⟩ := hv
  have hx := B.exec
  have hb := B.bytes
  have hr := B.returns
  have hts := atoms_spec (ws := wsX7_isOver) B.pre
  have hown : s.vm.findClass RX7 = some m.cls := findClass_of_methodNamed B.named
  have hlocks := B.notSynchronized
  have hS : va_S ro_F s.heap s.heap [] := va_S.rf
  have hl := lv_entry ([.ref mo]) (n := 1) (Nat.le_of_ble_eq_true rfl)
  rw [lg_entry_eq]
  generalize (lg_sl ([.ref mo]) ++ List.replicate (1 - (lg_sl ([.ref mo])).length) Slot.unset).toArray = ls at hl ⊢
  have hl : lv_has ls 1 [(0, .ref mo)] := hl
  rw [F_Model_isOver] at hres
  refine lv_aload_n hx hb dX7_isOver_0 rfl (lv_at hl 0 rfl) ?_
  refine va_get (D := (dC, dI)) (ci := 7) (v := .ref ms) (C := RX7) (T := TX7) (N := 9) hx hb hts iX7_isOver_X7 hown hK hP 0 rfl rfl 0 (by decide) (hts (.fieldLink RX7 7 "TailorChalksModel" "s" "[I") kX7_isOver_7) (fun _ h9 => h9) rfl dX7_isOver_1 ?_
  refine lv_sipush (v := 244) hx hb dX7_isOver_4 (by decide) ?_
  refine va_iald hx hb hK hP 1 0 rfl rfl (vp_in_iff.mpr (by decide +kernel)) dX7_isOver_7 ?_
  refine lv_sipush (v := 200) hx hb dX7_isOver_8 (by decide) ?_
  refine lv_icmp_ge (tgt := 23) hx hb dX7_isOver_11 (by decide) (fun c_1 => ?_) (fun c_1 => ?_)
  · rw [if_pos c_1] at hres
    refine lv_iconst (v := 1) hx hb dX7_isOver_23 (by decide) ?_
    refine lv_goto (tgt := 28) hx hb dX7_isOver_24 (by decide) ?_
    exact W.zret (v := 1) hx hb hr rfl (fun t ht hW => ⟨⟨1, (), rfl, hres.symm, trivial⟩, hS.F ht⟩) hS.2.2 dX7_isOver_28
  · rw [if_neg c_1] at hres
    refine lv_aload_n hx hb dX7_isOver_14 rfl (lv_at hl 0 rfl) ?_
    obtain ⟨r_2, hr_2⟩ : ∃ z, z = F_Model_left vs := ⟨_, rfl⟩
    rw [bnd_e hr_2] at hres
    refine ro_calli (va_runV (As := []) (rest := []) ⟨hx, hb, hml, hown, hts⟩ (c_Model_left l dC dI cI cC cG cZ mo ms mah mhi msl msv mpd mlb vkp vln vs  r_2 hr_2) (cwV 0 hts gX7_isOver_X7_left rfl rfl rfl (by decide +kernel) ⟨Nat.le_of_ble_eq_true rfl, Nat.le_of_ble_eq_true rfl⟩) (ro_preV (hP.sub (ws' := [(mo, .inr (7, [.ref ms, .ref mah, .ref mhi, .int vkp, .ref msl, .ref msv, .ref mpd, .int vln, .ref mlb])), (ms, .inl (cI, 246, .inl vs))]) [0, 1] rfl) hK (ci := 7) (q0 := 0) rfl rfl) rfl rfl hl.1 rfl (lv_room (Nat.le_of_ble_eq_true rfl)) dX7_isOver_15 ⟨Nat.zero_le _, Nat.zero_le _⟩) hP hS (fun H locs hP hS => ?_)
    refine lv_bipush (v := 13) hx hb dX7_isOver_18 (by decide) ?_
    refine lv_icmp_ge (tgt := 27) hx hb dX7_isOver_20 (by decide) (fun c_3 => ?_) (fun c_3 => ?_)
    · rw [if_pos c_3] at hres
      refine lv_iconst (v := 0) hx hb dX7_isOver_27 (by decide) ?_
      exact W.zret (v := 0) hx hb hr rfl (fun t ht hW => ⟨⟨0, (), rfl, hres.symm, trivial⟩, hS.F ht⟩) hS.2.2 dX7_isOver_28
    · rw [if_neg c_3] at hres
      refine lv_iconst (v := 1) hx hb dX7_isOver_23 (by decide) ?_
      refine lv_goto (tgt := 28) hx hb dX7_isOver_24 (by decide) ?_
      exact W.zret (v := 1) hx hb hr rfl (fun t ht hW => ⟨⟨1, (), rfl, hres.symm, trivial⟩, hS.F ht⟩) hS.2.2 dX7_isOver_28
theorem F_Model_isOver_b (vs : Nat → Int32) : F_Model_isOver vs = 0 ∨ F_Model_isOver vs = 1 := by
  unfold F_Model_isOver
  try simp only [bnd]
  (repeat' split) <;> first | exact Or.inl rfl | exact Or.inr rfl
theorem iX7_looks_X7 : ∀ w ∈ u_ws RX7 TX7 9, w ∈ wsX7_looks := by decide +kernel
theorem kX7_looks_13 : Cond.fieldLink RX7 13 "TailorChalksModel" "ahead" "[I" ∈ wsX7_looks := by decide +kernel
theorem kX7_looks_7 : Cond.fieldLink RX7 7 "TailorChalksModel" "s" "[I" ∈ wsX7_looks := by decide +kernel
def F_Model_looks_L2 (vs : Nat → Int32) (vah : Nat → Int32) : Nat → Int32 → (Nat → Int32) → Int32 × (Nat → Int32)
  | 0, x1, w2f => (x1, w2f)
  | n + 1, x1, w2f => (if (246 : Int32) ≤ x1 then (x1, w2f) else (F_Model_looks_L2 vs vah n (x1 + 1) (upd w2f x1.toNatClampNeg (vs x1.toNatClampNeg))))
theorem cp_looks (vs : Nat → Int32) (vah : Nat → Int32) : ∀ (n k : Nat) (w2f : Nat → Int32), k ≤ 246 → 246 - k < n → (∀ j, j < k → w2f j = vs j) → ∀ j, j < 246 → (F_Model_looks_L2 vs vah n (nI k) w2f).2 j = vs j := by
  intro n
  induction n with
  | zero => intro k w2f hk hn; exact absurd hn (Nat.not_lt_zero _)
  | succ n ih =>
    intro k w2f hk hn hw j hj
    rw [F_Model_looks_L2]
    by_cases c : (246 : Int32) ≤ nI k
    · rw [if_pos c]
      have hk2 : 246 ≤ k := (nI_leI (by decide) (by omega)).mp c
      exact hw j (by omega)
    · rw [if_neg c, nI_1]
      have hlt : k < 246 := lp_lt rfl rfl hk c
      refine ih (k + 1) _ (by omega) (by omega) ?_ j hj
      intro i hi
      rw [nI_clamp (by omega)]
      by_cases e : i = k
      · subst e; exact pk_us
      · rw [pk_un e]; exact hw i (by omega)
set_option maxHeartbeats 4000000 in
set_option maxRecDepth 100000 in
theorem c_Model_looks (l : Launch) (dC : Nat → ClassId) (dI : Nat → Nat → Nat) (cI cC cG cZ : ClassId) (mo ms mah mhi msl msv mpd mlb : Nat) (vkp : Int32) (vln : Int32) (vs : Nat → Int32) (vah : Nat → Int32) : Met l yX7_looks wsX7_looks ({ frames := 0, cells := 0, slots := 0, locals := 0 }) (va_Pc [.ref mo] (wr_P (dC, dI) vwCl (tyL cI cC cG cZ) [(mo, .inr (7, [.ref ms, .ref mah, .ref mhi, .int vkp, .ref msl, .ref msv, .ref mpd, .int vln, .ref mlb])), (ms, .inl (cI, 246, .inl vs)), (mah, .inl (cI, 246, .inl vah))])) (va_Qv (fun (_ : Unit) => True) (fun _ zt => va_P (dC, dI) vwCl [(mo, .inr (7, [.ref ms, .ref mah, .ref mhi, .int vkp, .ref msl, .ref msv, .ref mpd, .int vln, .ref mlb])), (ms, .inl (cI, 246, .inl vs)), (mah, .inl (cI, 246, .inl vs))] zt.heap) (wr_A [(mo, .inr (7, [.ref ms, .ref mah, .ref mhi, .int vkp, .ref msl, .ref msv, .ref mpd, .int vln, .ref mlb])), (ms, .inl (cI, 246, .inl vs)), (mah, .inl (cI, 246, .inl vah))])) 0 0 (wr_A [(mo, .inr (7, [.ref ms, .ref mah, .ref mhi, .int vkp, .ref msl, .ref msv, .ref mpd, .int vln, .ref mlb])), (ms, .inl (cI, 246, .inl vs)), (mah, .inl (cI, 246, .inl vah))]) := by
  refine Met.ofW (cc := cX7_looks) (maxL := 2) (ret := none) (by decide) rfl ?_
  intro p e s m args below meth c s₁ B hml hv
  obtain ⟨rfl, hP, hK, hD0⟩ := hv
  have hx := B.exec
  have hb := B.bytes
  have hr := B.returns
  have hts := atoms_spec (ws := wsX7_looks) B.pre
  have hown : s.vm.findClass RX7 = some m.cls := findClass_of_methodNamed B.named
  have hlocks := B.notSynchronized
  have hD := wr_self hD0
  generalize hAe : wr_A [(mo, .inr (7, [.ref ms, .ref mah, .ref mhi, .int vkp, .ref msl, .ref msv, .ref mpd, .int vln, .ref mlb])), (ms, .inl (cI, 246, .inl vs)), (mah, .inl (cI, 246, .inl vah))] = A at hD ⊢
  have hS : va_S A s.heap s.heap [] := va_S.rf
  have hP : va_P (dC, dI) vwCl [(mo, .inr (7, [.ref ms, .ref mah, .ref mhi, .int vkp, .ref msl, .ref msv, .ref mpd, .int vln, .ref mlb])), (ms, .inl (cI, 246, .inl vs)), (mah, .inl (cI, 246, .inl vah))] s.heap := hP
  have hl := lv_entry ([.ref mo]) (n := 2) (Nat.le_of_ble_eq_true rfl)
  rw [lg_entry_eq]
  generalize (lg_sl ([.ref mo]) ++ List.replicate (2 - (lg_sl ([.ref mo])).length) Slot.unset).toArray = ls at hl ⊢
  have hl : lv_has ls 2 [(0, .ref mo)] := hl
  refine lv_iconst (v := 0) hx hb dX7_looks_0 (by decide) ?_
  refine lv_istore_n (lv' := [(1, .int 0), (0, .ref mo)]) hx hb dX7_looks_1 rfl hl (by decide) rfl (fun ls hl => ?_)
  obtain ⟨q_1, hq_1⟩ : ∃ z, z = F_Model_looks_L2 vs vah 247 (0 : Int32) vah := ⟨_, rfl⟩
  have hexit2 : ∀ (H : Heap) (locs : List Loc) (ls : Array Slot), va_P (dC, dI) vwCl [(mo, .inr (7, [.ref ms, .ref mah, .ref mhi, .int vkp, .ref msl, .ref msv, .ref mpd, .int vln, .ref mlb])), (ms, .inl (cI, 246, .inl vs)), (mah, .inl (cI, 246, .inl q_1.2))] H → va_D A [(mo, .inr (7, [.ref ms, .ref mah, .ref mhi, .int vkp, .ref msl, .ref msv, .ref mpd, .int vln, .ref mlb])), (ms, .inl (cI, 246, .inl vs)), (mah, .inl (cI, 246, .inl q_1.2))] → va_S A s.heap H locs → lv_has ls 2 [(1, .int q_1.1), (0, .ref mo)] → W p l e (headSpec wsX7_looks ({ frames := 0, cells := 0, slots := 0, locals := 0 })).room s m ([.ref mo] : List Value).toArray below meth c H locs 0 0 (MQ below (va_Qv (fun (_ : Unit) => True) (fun _ zt => va_P (dC, dI) vwCl [(mo, .inr (7, [.ref ms, .ref mah, .ref mhi, .int vkp, .ref msl, .ref msv, .ref mpd, .int vln, .ref mlb])), (ms, .inl (cI, 246, .inl vs)), (mah, .inl (cI, 246, .inl vs))] zt.heap) A) ([.ref mo] : List Value).toArray s 0 0 A) (F0 m 27 ls []) := by
    intro H locs ls  hP hD hS hl
    have hP := rw_at hP (k := 2) (f := q_1.2) (g := vs) rfl (fun j hj => by rw [hq_1]; exact cp_looks vs vah 247 0 vah (by omega) (by omega) (fun i hi => absurd hi (Nat.not_lt_zero _)) j hj)
    have hP : va_P (dC, dI) vwCl [(mo, .inr (7, [.ref ms, .ref mah, .ref mhi, .int vkp, .ref msl, .ref msv, .ref mpd, .int vln, .ref mlb])), (ms, .inl (cI, 246, .inl vs)), (mah, .inl (cI, 246, .inl vs))] H := hP
    have hD : va_D A [(mo, .inr (7, [.ref ms, .ref mah, .ref mhi, .int vkp, .ref msl, .ref msv, .ref mpd, .int vln, .ref mlb])), (ms, .inl (cI, 246, .inl vs)), (mah, .inl (cI, 246, .inl vs))] := va_D_fst hD rfl
    exact W.vret hx hb hr (fun t ht hW => ⟨⟨(), rfl, trivial, (by show va_P _ _ _ t.heap; rw [ht]; exact hP)⟩, hS.F ht⟩) hS.2.2 dX7_looks_27
  have hloop2 : ∀ (n k2 : Nat) (x1 : Int32) (w2f : Nat → Int32) (H : Heap) (locs : List Loc) (ls : Array Slot), k2 ≤ 246 → 246 - k2 < n → x1 = nI k2 → q_1 = F_Model_looks_L2 vs vah n x1 w2f → va_P (dC, dI) vwCl [(mo, .inr (7, [.ref ms, .ref mah, .ref mhi, .int vkp, .ref msl, .ref msv, .ref mpd, .int vln, .ref mlb])), (ms, .inl (cI, 246, .inl vs)), (mah, .inl (cI, 246, .inl w2f))] H → va_D A [(mo, .inr (7, [.ref ms, .ref mah, .ref mhi, .int vkp, .ref msl, .ref msv, .ref mpd, .int vln, .ref mlb])), (ms, .inl (cI, 246, .inl vs)), (mah, .inl (cI, 246, .inl w2f))] → va_S A s.heap H locs → lv_has ls 2 [(1, .int x1), (0, .ref mo)] → W p l e (headSpec wsX7_looks ({ frames := 0, cells := 0, slots := 0, locals := 0 })).room s m ([.ref mo] : List Value).toArray below meth c H locs 0 0 (MQ below (va_Qv (fun (_ : Unit) => True) (fun _ zt => va_P (dC, dI) vwCl [(mo, .inr (7, [.ref ms, .ref mah, .ref mhi, .int vkp, .ref msl, .ref msv, .ref mpd, .int vln, .ref mlb])), (ms, .inl (cI, 246, .inl vs)), (mah, .inl (cI, 246, .inl vs))] zt.heap) A) ([.ref mo] : List Value).toArray s 0 0 A) (F0 m 2 ls []) := by
    intro n
    induction n with
    | zero => intro k2 x1 w2f _ _ _ _ hm; exact absurd hm (Nat.not_lt_zero _)
    | succ n ih2 =>
      intro k2 x1 w2f H locs ls hk2 hm2 ex2  hq_1 hP hD hS hl
      rw [F_Model_looks_L2] at hq_1
      refine lv_iload_n hx hb dX7_looks_2 rfl (lv_at hl 0 rfl) ?_
      refine lv_sipush (v := 246) hx hb dX7_looks_3 (by decide) ?_
      refine lv_icmp_ge (tgt := 27) hx hb dX7_looks_6 (by decide) (fun c_2 => ?_) (fun c_2 => ?_)
      · rw [if_pos c_2] at hq_1
        subst hq_1
        exact hexit2 _ _ _  hP hD hS (lv_sub hl [0, 1] rfl)
      · rw [if_neg c_2] at hq_1
        have hlt_k2 : k2 < 246 := lp_lt rfl ex2 hk2 c_2
        refine lv_aload_n hx hb dX7_looks_9 rfl (lv_at hl 1 rfl) ?_
        refine va_get (D := (dC, dI)) (ci := 7) (v := .ref mah) (C := RX7) (T := TX7) (N := 9) hx hb hts iX7_looks_X7 hown hK hP 0 rfl rfl 1 (by decide) (hts (.fieldLink RX7 13 "TailorChalksModel" "ahead" "[I") kX7_looks_13) (fun _ h9 => h9) rfl dX7_looks_10 ?_
        refine lv_iload_n hx hb dX7_looks_13 rfl (lv_at hl 0 rfl) ?_
        refine lv_aload_n hx hb dX7_looks_14 rfl (lv_at hl 1 rfl) ?_
        refine va_get (D := (dC, dI)) (ci := 7) (v := .ref ms) (C := RX7) (T := TX7) (N := 9) hx hb hts iX7_looks_X7 hown hK hP 0 rfl rfl 0 (by decide) (hts (.fieldLink RX7 7 "TailorChalksModel" "s" "[I") kX7_looks_7) (fun _ h9 => h9) rfl dX7_looks_15 ?_
        refine lv_iload_n hx hb dX7_looks_18 rfl (lv_at hl 0 rfl) ?_
        refine va_iald hx hb hK hP 1 0 rfl rfl (by rw [ex2]; exact vp_in_nI (by omega) (by decide)) dX7_looks_19 ?_
        refine va_iast hx hb hK hP hD hS 2 0 rfl rfl (by rw [ex2]; exact vp_in_nI (by omega) (by decide)) dX7_looks_20 (fun H locs hP hD hS => ?_)
        have hP : va_P (dC, dI) vwCl [(mo, .inr (7, [.ref ms, .ref mah, .ref mhi, .int vkp, .ref msl, .ref msv, .ref mpd, .int vln, .ref mlb])), (ms, .inl (cI, 246, .inl vs)), (mah, .inl (cI, 246, .inl (upd w2f x1.toNatClampNeg (vs x1.toNatClampNeg))))] H := hP
        have hD : va_D A [(mo, .inr (7, [.ref ms, .ref mah, .ref mhi, .int vkp, .ref msl, .ref msv, .ref mpd, .int vln, .ref mlb])), (ms, .inl (cI, 246, .inl vs)), (mah, .inl (cI, 246, .inl (upd w2f x1.toNatClampNeg (vs x1.toNatClampNeg))))] := hD
        refine lv_iinc (v := (x1 + 1)) (lv' := [(1, .int (x1 + 1)), (0, .ref mo)]) hx hb dX7_looks_21 hl (k := 0) rfl rfl (by decide) rfl (fun ls hl => ?_)
        refine lv_goto (tgt := 2) hx hb dX7_looks_24 (by decide) ?_
        exact ih2 (k2 + 1) (x1 + 1) (upd w2f x1.toNatClampNeg (vs x1.toNatClampNeg)) _ _ _ (by omega) (by omega) (by rw [ex2]; exact nI_1 _)  hq_1 hP hD hS (lv_sub hl [0, 1] rfl)
  exact hloop2 247 0 (0 : Int32) vah _ _ _ (by omega) (by omega) nI_0.symm  hq_1 hP hD hS (lv_sub hl [0, 1] rfl)
theorem iX7_records_X7 : ∀ w ∈ u_ws RX7 TX7 9, w ∈ wsX7_records := by decide +kernel
theorem kX7_records_13 : Cond.fieldLink RX7 13 "TailorChalksModel" "ahead" "[I" ∈ wsX7_records := by decide +kernel
theorem kX7_records_16 : Cond.fieldLink RX7 16 "TailorChalksModel" "history" "[I" ∈ wsX7_records := by decide +kernel
theorem kX7_records_54 : Cond.fieldLink RX7 54 "TailorChalksModel" "kept" "I" ∈ wsX7_records := by decide +kernel
def F_Model_records_L52 (vkp : Int32) (vah : Nat → Int32) (vhi : Nat → Int32) : Nat → Int32 → Int32 → (Nat → Int32) → Int32 × Int32 × (Nat → Int32)
  | 0, x1, w03, w2f => (x1, w03, w2f)
  | n + 1, x1, w03, w2f => (if (246 : Int32) ≤ x1 then (x1, w03, w2f) else (F_Model_records_L52 vkp vah vhi n (x1 + 1) w03 (upd w2f (((246 : Int32) * w03) + x1).toNatClampNeg (vah x1.toNatClampNeg))))
def F_Model_records_L11 (vkp : Int32) (vah : Nat → Int32) (vhi : Nat → Int32) : Nat → Int32 → (Nat → Int32) → Int32 × (Nat → Int32)
  | 0, x1, w2f => (x1, w2f)
  | n + 1, x1, w2f => (if (1230 : Int32) ≤ x1 then (x1, w2f) else (F_Model_records_L11 vkp vah vhi n (x1 + 1) (upd w2f x1.toNatClampNeg (w2f (x1 + 246).toNatClampNeg))))
def F_Model_records (vkp : Int32) (vah : Nat → Int32) (vhi : Nat → Int32) : (Nat → Int32) × Int32 := (if vkp = 6 then (bnd (F_Model_records_L11 vkp vah vhi 1231 (0 : Int32) vhi) (fun q_4 => (bnd (F_Model_records_L52 vkp vah vhi 247 (0 : Int32) (vkp - 1) q_4.2) (fun q_5 => (q_5.2.2, (q_5.2.1 + 1)))))) else (bnd (F_Model_records_L52 vkp vah vhi 247 (0 : Int32) vkp vhi) (fun q_2 => (q_2.2.2, (q_2.2.1 + 1)))))
set_option maxHeartbeats 4000000 in
set_option maxRecDepth 100000 in
theorem c_Model_records (l : Launch) (dC : Nat → ClassId) (dI : Nat → Nat → Nat) (cI cC cG cZ : ClassId) (mo ms mah mhi msl msv mpd mlb : Nat) (vkp : Int32) (vln : Int32) (vah : Nat → Int32) (vhi : Nat → Int32) (hkp : tm_ok 6 vkp) (res : (Nat → Int32) × Int32) (hres : res = F_Model_records vkp vah vhi) : Met l yX7_records wsX7_records ({ frames := 0, cells := 0, slots := 0, locals := 0 }) (va_Pc [.ref mo] (wr_P (dC, dI) vwCl (tyL cI cC cG cZ) [(mo, .inr (7, [.ref ms, .ref mah, .ref mhi, .int vkp, .ref msl, .ref msv, .ref mpd, .int vln, .ref mlb])), (mah, .inl (cI, 246, .inl vah)), (mhi, .inl (cI, 1476, .inl vhi))])) (va_Qv (fun (_ : Unit) => True) (fun _ zt => va_P (dC, dI) vwCl [(mo, .inr (7, [.ref ms, .ref mah, .ref mhi, .int res.2, .ref msl, .ref msv, .ref mpd, .int vln, .ref mlb])), (mah, .inl (cI, 246, .inl vah)), (mhi, .inl (cI, 1476, .inl res.1))] zt.heap) (wr_A [(mo, .inr (7, [.ref ms, .ref mah, .ref mhi, .int vkp, .ref msl, .ref msv, .ref mpd, .int vln, .ref mlb])), (mah, .inl (cI, 246, .inl vah)), (mhi, .inl (cI, 1476, .inl vhi))])) 0 0 (wr_A [(mo, .inr (7, [.ref ms, .ref mah, .ref mhi, .int vkp, .ref msl, .ref msv, .ref mpd, .int vln, .ref mlb])), (mah, .inl (cI, 246, .inl vah)), (mhi, .inl (cI, 1476, .inl vhi))]) := by
  refine Met.ofW (cc := cX7_records) (maxL := 2) (ret := none) (by decide) rfl ?_
  intro p e s m args below meth c s₁ B hml hv
  obtain ⟨rfl, hP, hK, hD0⟩ := hv
  have hx := B.exec
  have hb := B.bytes
  have hr := B.returns
  have hts := atoms_spec (ws := wsX7_records) B.pre
  have hown : s.vm.findClass RX7 = some m.cls := findClass_of_methodNamed B.named
  have hlocks := B.notSynchronized
  have hD := wr_self hD0
  generalize hAe : wr_A [(mo, .inr (7, [.ref ms, .ref mah, .ref mhi, .int vkp, .ref msl, .ref msv, .ref mpd, .int vln, .ref mlb])), (mah, .inl (cI, 246, .inl vah)), (mhi, .inl (cI, 1476, .inl vhi))] = A at hD ⊢
  have hS : va_S A s.heap s.heap [] := va_S.rf
  have hP : va_P (dC, dI) vwCl [(mo, .inr (7, [.ref ms, .ref mah, .ref mhi, .int vkp, .ref msl, .ref msv, .ref mpd, .int vln, .ref mlb])), (mah, .inl (cI, 246, .inl vah)), (mhi, .inl (cI, 1476, .inl vhi))] s.heap := hP
  have hl := lv_entry ([.ref mo]) (n := 2) (Nat.le_of_ble_eq_true rfl)
  rw [lg_entry_eq]
  generalize (lg_sl ([.ref mo]) ++ List.replicate (2 - (lg_sl ([.ref mo])).length) Slot.unset).toArray = ls at hl ⊢
  have hl : lv_has ls 2 [(0, .ref mo)] := hl
  rw [F_Model_records] at hres
  refine lv_aload_n hx hb dX7_records_0 rfl (lv_at hl 0 rfl) ?_
  refine va_get (D := (dC, dI)) (ci := 7) (v := .int vkp) (C := RX7) (T := TX7) (N := 9) hx hb hts iX7_records_X7 hown hK hP 0 rfl rfl 3 (by decide) (hts (.fieldLink RX7 54 "TailorChalksModel" "kept" "I") kX7_records_54) (fun _ h9 => h9) rfl dX7_records_1 ?_
  refine lv_bipush (v := 6) hx hb dX7_records_4 (by decide) ?_
  refine lv_icmp_ne (tgt := 50) hx hb dX7_records_6 (by decide) (fun c_1 => ?_) (fun c_1 => ?_)
  · rw [if_neg c_1] at hres
    refine lv_iconst (v := 0) hx hb dX7_records_50 (by decide) ?_
    refine lv_istore_n (lv' := [(1, .int 0), (0, .ref mo)]) hx hb dX7_records_51 rfl hl (by decide) rfl (fun ls hl => ?_)
    obtain ⟨q_2, hq_2⟩ : ∃ z, z = F_Model_records_L52 vkp vah vhi 247 (0 : Int32) vkp vhi := ⟨_, rfl⟩
    rw [bnd_e hq_2] at hres
    have hexit52 : ∀ (H : Heap) (locs : List Loc) (ls : Array Slot), va_P (dC, dI) vwCl [(mo, .inr (7, [.ref ms, .ref mah, .ref mhi, .int q_2.2.1, .ref msl, .ref msv, .ref mpd, .int vln, .ref mlb])), (mah, .inl (cI, 246, .inl vah)), (mhi, .inl (cI, 1476, .inl q_2.2.2))] H → va_D A [(mo, .inr (7, [.ref ms, .ref mah, .ref mhi, .int q_2.2.1, .ref msl, .ref msv, .ref mpd, .int vln, .ref mlb])), (mah, .inl (cI, 246, .inl vah)), (mhi, .inl (cI, 1476, .inl q_2.2.2))] → va_S A s.heap H locs → lv_has ls 2 [(1, .int q_2.1), (0, .ref mo)] → W p l e (headSpec wsX7_records ({ frames := 0, cells := 0, slots := 0, locals := 0 })).room s m ([.ref mo] : List Value).toArray below meth c H locs 0 0 (MQ below (va_Qv (fun (_ : Unit) => True) (fun _ zt => va_P (dC, dI) vwCl [(mo, .inr (7, [.ref ms, .ref mah, .ref mhi, .int res.2, .ref msl, .ref msv, .ref mpd, .int vln, .ref mlb])), (mah, .inl (cI, 246, .inl vah)), (mhi, .inl (cI, 1476, .inl res.1))] zt.heap) A) ([.ref mo] : List Value).toArray s 0 0 A) (F0 m 86 ls []) := by
      intro H locs ls  hP hD hS hl
      refine lv_aload_n hx hb dX7_records_86 rfl (lv_at hl 1 rfl) ?_
      refine lv_dup hx hb dX7_records_87 rfl ?_
      refine va_get (D := (dC, dI)) (ci := 7) (v := .int q_2.2.1) (C := RX7) (T := TX7) (N := 9) hx hb hts iX7_records_X7 hown hK hP 0 rfl rfl 3 (by decide) (hts (.fieldLink RX7 54 "TailorChalksModel" "kept" "I") kX7_records_54) (fun _ h9 => h9) rfl dX7_records_88 ?_
      refine lv_iconst (v := 1) hx hb dX7_records_91 (by decide) ?_
      refine lv_iadd hx hb dX7_records_92 ?_
      refine va_put (D := (dC, dI)) (ci := 7) (v := .int (q_2.2.1 + 1)) (ty := (.int)) (C := RX7) (T := TX7) (N := 9) hx hb hts iX7_records_X7 tyX7 tyX7_ok nmX7 hown hK hP hD hS 0 rfl rfl 3 (by decide) (hts (.fieldLink RX7 54 "TailorChalksModel" "kept" "I") kX7_records_54) (fun _ h9 => h9) rfl (by decide +kernel) rfl rfl (Nat.le_of_ble_eq_true rfl) dX7_records_93 (fun H locs hP hD hS => ?_)
      have hP : va_P (dC, dI) vwCl [(mo, .inr (7, [.ref ms, .ref mah, .ref mhi, .int (q_2.2.1 + 1), .ref msl, .ref msv, .ref mpd, .int vln, .ref mlb])), (mah, .inl (cI, 246, .inl vah)), (mhi, .inl (cI, 1476, .inl q_2.2.2))] H := hP
      have hD : va_D A [(mo, .inr (7, [.ref ms, .ref mah, .ref mhi, .int (q_2.2.1 + 1), .ref msl, .ref msv, .ref mpd, .int vln, .ref mlb])), (mah, .inl (cI, 246, .inl vah)), (mhi, .inl (cI, 1476, .inl q_2.2.2))] := hD
      subst hres
      exact W.vret hx hb hr (fun t ht hW => ⟨⟨(), rfl, trivial, (by show va_P _ _ _ t.heap; rw [ht]; exact hP)⟩, hS.F ht⟩) hS.2.2 dX7_records_96
    have hloop52 : ∀ (n k52 : Nat) (x1 : Int32) (w03 : Int32) (w2f : Nat → Int32) (H : Heap) (locs : List Loc) (ls : Array Slot), k52 ≤ 246 → 246 - k52 < n → x1 = nI k52 → tm_ok 5 w03 → q_2 = F_Model_records_L52 vkp vah vhi n x1 w03 w2f → va_P (dC, dI) vwCl [(mo, .inr (7, [.ref ms, .ref mah, .ref mhi, .int w03, .ref msl, .ref msv, .ref mpd, .int vln, .ref mlb])), (mah, .inl (cI, 246, .inl vah)), (mhi, .inl (cI, 1476, .inl w2f))] H → va_D A [(mo, .inr (7, [.ref ms, .ref mah, .ref mhi, .int w03, .ref msl, .ref msv, .ref mpd, .int vln, .ref mlb])), (mah, .inl (cI, 246, .inl vah)), (mhi, .inl (cI, 1476, .inl w2f))] → va_S A s.heap H locs → lv_has ls 2 [(1, .int x1), (0, .ref mo)] → W p l e (headSpec wsX7_records ({ frames := 0, cells := 0, slots := 0, locals := 0 })).room s m ([.ref mo] : List Value).toArray below meth c H locs 0 0 (MQ below (va_Qv (fun (_ : Unit) => True) (fun _ zt => va_P (dC, dI) vwCl [(mo, .inr (7, [.ref ms, .ref mah, .ref mhi, .int res.2, .ref msl, .ref msv, .ref mpd, .int vln, .ref mlb])), (mah, .inl (cI, 246, .inl vah)), (mhi, .inl (cI, 1476, .inl res.1))] zt.heap) A) ([.ref mo] : List Value).toArray s 0 0 A) (F0 m 52 ls []) := by
      intro n
      induction n with
      | zero => intro k52 x1 w03 w2f _ _ _ _ hm; exact absurd hm (Nat.not_lt_zero _)
      | succ n ih52 =>
        intro k52 x1 w03 w2f H locs ls hk52 hm52 ex52 hk5 hq_2 hP hD hS hl
        rw [F_Model_records_L52] at hq_2
        refine lv_iload_n hx hb dX7_records_52 rfl (lv_at hl 0 rfl) ?_
        refine lv_sipush (v := 246) hx hb dX7_records_53 (by decide) ?_
        refine lv_icmp_ge (tgt := 86) hx hb dX7_records_56 (by decide) (fun c_3 => ?_) (fun c_3 => ?_)
        · rw [if_pos c_3] at hq_2
          subst hq_2
          exact hexit52 _ _ _  hP hD hS (lv_sub hl [0, 1] rfl)
        · rw [if_neg c_3] at hq_2
          have hlt_k52 : k52 < 246 := lp_lt rfl ex52 hk52 c_3
          refine lv_aload_n hx hb dX7_records_59 rfl (lv_at hl 1 rfl) ?_
          refine va_get (D := (dC, dI)) (ci := 7) (v := .ref mhi) (C := RX7) (T := TX7) (N := 9) hx hb hts iX7_records_X7 hown hK hP 0 rfl rfl 2 (by decide) (hts (.fieldLink RX7 16 "TailorChalksModel" "history" "[I") kX7_records_16) (fun _ h9 => h9) rfl dX7_records_60 ?_
          refine lv_sipush (v := 246) hx hb dX7_records_63 (by decide) ?_
          refine lv_aload_n hx hb dX7_records_66 rfl (lv_at hl 1 rfl) ?_
          refine va_get (D := (dC, dI)) (ci := 7) (v := .int w03) (C := RX7) (T := TX7) (N := 9) hx hb hts iX7_records_X7 hown hK hP 0 rfl rfl 3 (by decide) (hts (.fieldLink RX7 54 "TailorChalksModel" "kept" "I") kX7_records_54) (fun _ h9 => h9) rfl dX7_records_67 ?_
          refine lv_imul hx hb dX7_records_70 ?_
          refine lv_iload_n hx hb dX7_records_71 rfl (lv_at hl 0 rfl) ?_
          refine lv_iadd hx hb dX7_records_72 ?_
          refine lv_aload_n hx hb dX7_records_73 rfl (lv_at hl 1 rfl) ?_
          refine va_get (D := (dC, dI)) (ci := 7) (v := .ref mah) (C := RX7) (T := TX7) (N := 9) hx hb hts iX7_records_X7 hown hK hP 0 rfl rfl 1 (by decide) (hts (.fieldLink RX7 13 "TailorChalksModel" "ahead" "[I") kX7_records_13) (fun _ h9 => h9) rfl dX7_records_74 ?_
          refine lv_iload_n hx hb dX7_records_77 rfl (lv_at hl 0 rfl) ?_
          refine va_iald hx hb hK hP 1 0 rfl rfl (by rw [ex52]; exact vp_in_nI (by omega) (by decide)) dX7_records_78 ?_
          refine va_iast hx hb hK hP hD hS 2 0 rfl rfl (hist_in hk5 ex52 (by omega)) dX7_records_79 (fun H locs hP hD hS => ?_)
          have hP : va_P (dC, dI) vwCl [(mo, .inr (7, [.ref ms, .ref mah, .ref mhi, .int w03, .ref msl, .ref msv, .ref mpd, .int vln, .ref mlb])), (mah, .inl (cI, 246, .inl vah)), (mhi, .inl (cI, 1476, .inl (upd w2f (((246 : Int32) * w03) + x1).toNatClampNeg (vah x1.toNatClampNeg))))] H := hP
          have hD : va_D A [(mo, .inr (7, [.ref ms, .ref mah, .ref mhi, .int w03, .ref msl, .ref msv, .ref mpd, .int vln, .ref mlb])), (mah, .inl (cI, 246, .inl vah)), (mhi, .inl (cI, 1476, .inl (upd w2f (((246 : Int32) * w03) + x1).toNatClampNeg (vah x1.toNatClampNeg))))] := hD
          refine lv_iinc (v := (x1 + 1)) (lv' := [(1, .int (x1 + 1)), (0, .ref mo)]) hx hb dX7_records_80 hl (k := 0) rfl rfl (by decide) rfl (fun ls hl => ?_)
          refine lv_goto (tgt := 52) hx hb dX7_records_83 (by decide) ?_
          exact ih52 (k52 + 1) (x1 + 1) w03 (upd w2f (((246 : Int32) * w03) + x1).toNatClampNeg (vah x1.toNatClampNeg)) _ _ _ (by omega) (by omega) (by rw [ex52]; exact nI_1 _) hk5 hq_2 hP hD hS (lv_sub hl [0, 1] rfl)
    exact hloop52 247 0 (0 : Int32) vkp vhi _ _ _ (by omega) (by omega) nI_0.symm (kp_not hkp c_1) hq_2 hP hD hS (lv_sub hl [0, 1] rfl)
  · rw [if_pos c_1] at hres
    refine lv_iconst (v := 0) hx hb dX7_records_9 (by decide) ?_
    refine lv_istore_n (lv' := [(1, .int 0), (0, .ref mo)]) hx hb dX7_records_10 rfl hl (by decide) rfl (fun ls hl => ?_)
    obtain ⟨q_4, hq_4⟩ : ∃ z, z = F_Model_records_L11 vkp vah vhi 1231 (0 : Int32) vhi := ⟨_, rfl⟩
    rw [bnd_e hq_4] at hres
    have hexit11 : ∀ (H : Heap) (locs : List Loc) (ls : Array Slot), va_P (dC, dI) vwCl [(mo, .inr (7, [.ref ms, .ref mah, .ref mhi, .int vkp, .ref msl, .ref msv, .ref mpd, .int vln, .ref mlb])), (mah, .inl (cI, 246, .inl vah)), (mhi, .inl (cI, 1476, .inl q_4.2))] H → va_D A [(mo, .inr (7, [.ref ms, .ref mah, .ref mhi, .int vkp, .ref msl, .ref msv, .ref mpd, .int vln, .ref mlb])), (mah, .inl (cI, 246, .inl vah)), (mhi, .inl (cI, 1476, .inl q_4.2))] → va_S A s.heap H locs → lv_has ls 2 [(1, .int q_4.1), (0, .ref mo)] → W p l e (headSpec wsX7_records ({ frames := 0, cells := 0, slots := 0, locals := 0 })).room s m ([.ref mo] : List Value).toArray below meth c H locs 0 0 (MQ below (va_Qv (fun (_ : Unit) => True) (fun _ zt => va_P (dC, dI) vwCl [(mo, .inr (7, [.ref ms, .ref mah, .ref mhi, .int res.2, .ref msl, .ref msv, .ref mpd, .int vln, .ref mlb])), (mah, .inl (cI, 246, .inl vah)), (mhi, .inl (cI, 1476, .inl res.1))] zt.heap) A) ([.ref mo] : List Value).toArray s 0 0 A) (F0 m 40 ls []) := by
      intro H locs ls  hP hD hS hl
      refine lv_aload_n hx hb dX7_records_40 rfl (lv_at hl 1 rfl) ?_
      refine lv_dup hx hb dX7_records_41 rfl ?_
      refine va_get (D := (dC, dI)) (ci := 7) (v := .int vkp) (C := RX7) (T := TX7) (N := 9) hx hb hts iX7_records_X7 hown hK hP 0 rfl rfl 3 (by decide) (hts (.fieldLink RX7 54 "TailorChalksModel" "kept" "I") kX7_records_54) (fun _ h9 => h9) rfl dX7_records_42 ?_
      refine lv_iconst (v := 1) hx hb dX7_records_45 (by decide) ?_
      refine lv_isub hx hb dX7_records_46 ?_
      refine va_put (D := (dC, dI)) (ci := 7) (v := .int (vkp - 1)) (ty := (.int)) (C := RX7) (T := TX7) (N := 9) hx hb hts iX7_records_X7 tyX7 tyX7_ok nmX7 hown hK hP hD hS 0 rfl rfl 3 (by decide) (hts (.fieldLink RX7 54 "TailorChalksModel" "kept" "I") kX7_records_54) (fun _ h9 => h9) rfl (by decide +kernel) rfl rfl (Nat.le_of_ble_eq_true rfl) dX7_records_47 (fun H locs hP hD hS => ?_)
      have hP : va_P (dC, dI) vwCl [(mo, .inr (7, [.ref ms, .ref mah, .ref mhi, .int (vkp - 1), .ref msl, .ref msv, .ref mpd, .int vln, .ref mlb])), (mah, .inl (cI, 246, .inl vah)), (mhi, .inl (cI, 1476, .inl q_4.2))] H := hP
      have hD : va_D A [(mo, .inr (7, [.ref ms, .ref mah, .ref mhi, .int (vkp - 1), .ref msl, .ref msv, .ref mpd, .int vln, .ref mlb])), (mah, .inl (cI, 246, .inl vah)), (mhi, .inl (cI, 1476, .inl q_4.2))] := hD
      refine lv_iconst (v := 0) hx hb dX7_records_50 (by decide) ?_
      refine lv_istore_n (lv' := [(1, .int 0), (0, .ref mo)]) hx hb dX7_records_51 rfl hl (by decide) rfl (fun ls hl => ?_)
      obtain ⟨q_5, hq_5⟩ : ∃ z, z = F_Model_records_L52 vkp vah vhi 247 (0 : Int32) (vkp - 1) q_4.2 := ⟨_, rfl⟩
      rw [bnd_e hq_5] at hres
      have hexit52 : ∀ (H : Heap) (locs : List Loc) (ls : Array Slot), va_P (dC, dI) vwCl [(mo, .inr (7, [.ref ms, .ref mah, .ref mhi, .int q_5.2.1, .ref msl, .ref msv, .ref mpd, .int vln, .ref mlb])), (mah, .inl (cI, 246, .inl vah)), (mhi, .inl (cI, 1476, .inl q_5.2.2))] H → va_D A [(mo, .inr (7, [.ref ms, .ref mah, .ref mhi, .int q_5.2.1, .ref msl, .ref msv, .ref mpd, .int vln, .ref mlb])), (mah, .inl (cI, 246, .inl vah)), (mhi, .inl (cI, 1476, .inl q_5.2.2))] → va_S A s.heap H locs → lv_has ls 2 [(1, .int q_5.1), (0, .ref mo)] → W p l e (headSpec wsX7_records ({ frames := 0, cells := 0, slots := 0, locals := 0 })).room s m ([.ref mo] : List Value).toArray below meth c H locs 0 0 (MQ below (va_Qv (fun (_ : Unit) => True) (fun _ zt => va_P (dC, dI) vwCl [(mo, .inr (7, [.ref ms, .ref mah, .ref mhi, .int res.2, .ref msl, .ref msv, .ref mpd, .int vln, .ref mlb])), (mah, .inl (cI, 246, .inl vah)), (mhi, .inl (cI, 1476, .inl res.1))] zt.heap) A) ([.ref mo] : List Value).toArray s 0 0 A) (F0 m 86 ls []) := by
        intro H locs ls  hP hD hS hl
        refine lv_aload_n hx hb dX7_records_86 rfl (lv_at hl 1 rfl) ?_
        refine lv_dup hx hb dX7_records_87 rfl ?_
        refine va_get (D := (dC, dI)) (ci := 7) (v := .int q_5.2.1) (C := RX7) (T := TX7) (N := 9) hx hb hts iX7_records_X7 hown hK hP 0 rfl rfl 3 (by decide) (hts (.fieldLink RX7 54 "TailorChalksModel" "kept" "I") kX7_records_54) (fun _ h9 => h9) rfl dX7_records_88 ?_
        refine lv_iconst (v := 1) hx hb dX7_records_91 (by decide) ?_
        refine lv_iadd hx hb dX7_records_92 ?_
        refine va_put (D := (dC, dI)) (ci := 7) (v := .int (q_5.2.1 + 1)) (ty := (.int)) (C := RX7) (T := TX7) (N := 9) hx hb hts iX7_records_X7 tyX7 tyX7_ok nmX7 hown hK hP hD hS 0 rfl rfl 3 (by decide) (hts (.fieldLink RX7 54 "TailorChalksModel" "kept" "I") kX7_records_54) (fun _ h9 => h9) rfl (by decide +kernel) rfl rfl (Nat.le_of_ble_eq_true rfl) dX7_records_93 (fun H locs hP hD hS => ?_)
        have hP : va_P (dC, dI) vwCl [(mo, .inr (7, [.ref ms, .ref mah, .ref mhi, .int (q_5.2.1 + 1), .ref msl, .ref msv, .ref mpd, .int vln, .ref mlb])), (mah, .inl (cI, 246, .inl vah)), (mhi, .inl (cI, 1476, .inl q_5.2.2))] H := hP
        have hD : va_D A [(mo, .inr (7, [.ref ms, .ref mah, .ref mhi, .int (q_5.2.1 + 1), .ref msl, .ref msv, .ref mpd, .int vln, .ref mlb])), (mah, .inl (cI, 246, .inl vah)), (mhi, .inl (cI, 1476, .inl q_5.2.2))] := hD
        subst hres
        exact W.vret hx hb hr (fun t ht hW => ⟨⟨(), rfl, trivial, (by show va_P _ _ _ t.heap; rw [ht]; exact hP)⟩, hS.F ht⟩) hS.2.2 dX7_records_96
      have hloop52 : ∀ (n k52 : Nat) (x1 : Int32) (w03 : Int32) (w2f : Nat → Int32) (H : Heap) (locs : List Loc) (ls : Array Slot), k52 ≤ 246 → 246 - k52 < n → x1 = nI k52 → tm_ok 5 w03 → q_5 = F_Model_records_L52 vkp vah vhi n x1 w03 w2f → va_P (dC, dI) vwCl [(mo, .inr (7, [.ref ms, .ref mah, .ref mhi, .int w03, .ref msl, .ref msv, .ref mpd, .int vln, .ref mlb])), (mah, .inl (cI, 246, .inl vah)), (mhi, .inl (cI, 1476, .inl w2f))] H → va_D A [(mo, .inr (7, [.ref ms, .ref mah, .ref mhi, .int w03, .ref msl, .ref msv, .ref mpd, .int vln, .ref mlb])), (mah, .inl (cI, 246, .inl vah)), (mhi, .inl (cI, 1476, .inl w2f))] → va_S A s.heap H locs → lv_has ls 2 [(1, .int x1), (0, .ref mo)] → W p l e (headSpec wsX7_records ({ frames := 0, cells := 0, slots := 0, locals := 0 })).room s m ([.ref mo] : List Value).toArray below meth c H locs 0 0 (MQ below (va_Qv (fun (_ : Unit) => True) (fun _ zt => va_P (dC, dI) vwCl [(mo, .inr (7, [.ref ms, .ref mah, .ref mhi, .int res.2, .ref msl, .ref msv, .ref mpd, .int vln, .ref mlb])), (mah, .inl (cI, 246, .inl vah)), (mhi, .inl (cI, 1476, .inl res.1))] zt.heap) A) ([.ref mo] : List Value).toArray s 0 0 A) (F0 m 52 ls []) := by
        intro n
        induction n with
        | zero => intro k52 x1 w03 w2f _ _ _ _ hm; exact absurd hm (Nat.not_lt_zero _)
        | succ n ih52 =>
          intro k52 x1 w03 w2f H locs ls hk52 hm52 ex52 hk5 hq_5 hP hD hS hl
          rw [F_Model_records_L52] at hq_5
          refine lv_iload_n hx hb dX7_records_52 rfl (lv_at hl 0 rfl) ?_
          refine lv_sipush (v := 246) hx hb dX7_records_53 (by decide) ?_
          refine lv_icmp_ge (tgt := 86) hx hb dX7_records_56 (by decide) (fun c_6 => ?_) (fun c_6 => ?_)
          · rw [if_pos c_6] at hq_5
            subst hq_5
            exact hexit52 _ _ _  hP hD hS (lv_sub hl [0, 1] rfl)
          · rw [if_neg c_6] at hq_5
            have hlt_k52 : k52 < 246 := lp_lt rfl ex52 hk52 c_6
            refine lv_aload_n hx hb dX7_records_59 rfl (lv_at hl 1 rfl) ?_
            refine va_get (D := (dC, dI)) (ci := 7) (v := .ref mhi) (C := RX7) (T := TX7) (N := 9) hx hb hts iX7_records_X7 hown hK hP 0 rfl rfl 2 (by decide) (hts (.fieldLink RX7 16 "TailorChalksModel" "history" "[I") kX7_records_16) (fun _ h9 => h9) rfl dX7_records_60 ?_
            refine lv_sipush (v := 246) hx hb dX7_records_63 (by decide) ?_
            refine lv_aload_n hx hb dX7_records_66 rfl (lv_at hl 1 rfl) ?_
            refine va_get (D := (dC, dI)) (ci := 7) (v := .int w03) (C := RX7) (T := TX7) (N := 9) hx hb hts iX7_records_X7 hown hK hP 0 rfl rfl 3 (by decide) (hts (.fieldLink RX7 54 "TailorChalksModel" "kept" "I") kX7_records_54) (fun _ h9 => h9) rfl dX7_records_67 ?_
            refine lv_imul hx hb dX7_records_70 ?_
            refine lv_iload_n hx hb dX7_records_71 rfl (lv_at hl 0 rfl) ?_
            refine lv_iadd hx hb dX7_records_72 ?_
            refine lv_aload_n hx hb dX7_records_73 rfl (lv_at hl 1 rfl) ?_
            refine va_get (D := (dC, dI)) (ci := 7) (v := .ref mah) (C := RX7) (T := TX7) (N := 9) hx hb hts iX7_records_X7 hown hK hP 0 rfl rfl 1 (by decide) (hts (.fieldLink RX7 13 "TailorChalksModel" "ahead" "[I") kX7_records_13) (fun _ h9 => h9) rfl dX7_records_74 ?_
            refine lv_iload_n hx hb dX7_records_77 rfl (lv_at hl 0 rfl) ?_
            refine va_iald hx hb hK hP 1 0 rfl rfl (by rw [ex52]; exact vp_in_nI (by omega) (by decide)) dX7_records_78 ?_
            refine va_iast hx hb hK hP hD hS 2 0 rfl rfl (hist_in hk5 ex52 (by omega)) dX7_records_79 (fun H locs hP hD hS => ?_)
            have hP : va_P (dC, dI) vwCl [(mo, .inr (7, [.ref ms, .ref mah, .ref mhi, .int w03, .ref msl, .ref msv, .ref mpd, .int vln, .ref mlb])), (mah, .inl (cI, 246, .inl vah)), (mhi, .inl (cI, 1476, .inl (upd w2f (((246 : Int32) * w03) + x1).toNatClampNeg (vah x1.toNatClampNeg))))] H := hP
            have hD : va_D A [(mo, .inr (7, [.ref ms, .ref mah, .ref mhi, .int w03, .ref msl, .ref msv, .ref mpd, .int vln, .ref mlb])), (mah, .inl (cI, 246, .inl vah)), (mhi, .inl (cI, 1476, .inl (upd w2f (((246 : Int32) * w03) + x1).toNatClampNeg (vah x1.toNatClampNeg))))] := hD
            refine lv_iinc (v := (x1 + 1)) (lv' := [(1, .int (x1 + 1)), (0, .ref mo)]) hx hb dX7_records_80 hl (k := 0) rfl rfl (by decide) rfl (fun ls hl => ?_)
            refine lv_goto (tgt := 52) hx hb dX7_records_83 (by decide) ?_
            exact ih52 (k52 + 1) (x1 + 1) w03 (upd w2f (((246 : Int32) * w03) + x1).toNatClampNeg (vah x1.toNatClampNeg)) _ _ _ (by omega) (by omega) (by rw [ex52]; exact nI_1 _) hk5 hq_5 hP hD hS (lv_sub hl [0, 1] rfl)
      exact hloop52 247 0 (0 : Int32) (vkp - 1) q_4.2 _ _ _ (by omega) (by omega) nI_0.symm (kp_dec c_1) hq_5 hP hD hS (lv_sub hl [0, 1] rfl)
    have hloop11 : ∀ (n k11 : Nat) (x1 : Int32) (w2f : Nat → Int32) (H : Heap) (locs : List Loc) (ls : Array Slot), k11 ≤ 1230 → 1230 - k11 < n → x1 = nI k11 → q_4 = F_Model_records_L11 vkp vah vhi n x1 w2f → va_P (dC, dI) vwCl [(mo, .inr (7, [.ref ms, .ref mah, .ref mhi, .int vkp, .ref msl, .ref msv, .ref mpd, .int vln, .ref mlb])), (mah, .inl (cI, 246, .inl vah)), (mhi, .inl (cI, 1476, .inl w2f))] H → va_D A [(mo, .inr (7, [.ref ms, .ref mah, .ref mhi, .int vkp, .ref msl, .ref msv, .ref mpd, .int vln, .ref mlb])), (mah, .inl (cI, 246, .inl vah)), (mhi, .inl (cI, 1476, .inl w2f))] → va_S A s.heap H locs → lv_has ls 2 [(1, .int x1), (0, .ref mo)] → W p l e (headSpec wsX7_records ({ frames := 0, cells := 0, slots := 0, locals := 0 })).room s m ([.ref mo] : List Value).toArray below meth c H locs 0 0 (MQ below (va_Qv (fun (_ : Unit) => True) (fun _ zt => va_P (dC, dI) vwCl [(mo, .inr (7, [.ref ms, .ref mah, .ref mhi, .int res.2, .ref msl, .ref msv, .ref mpd, .int vln, .ref mlb])), (mah, .inl (cI, 246, .inl vah)), (mhi, .inl (cI, 1476, .inl res.1))] zt.heap) A) ([.ref mo] : List Value).toArray s 0 0 A) (F0 m 11 ls []) := by
      intro n
      induction n with
      | zero => intro k11 x1 w2f _ _ _ _ hm; exact absurd hm (Nat.not_lt_zero _)
      | succ n ih11 =>
        intro k11 x1 w2f H locs ls hk11 hm11 ex11  hq_4 hP hD hS hl
        rw [F_Model_records_L11] at hq_4
        refine lv_iload_n hx hb dX7_records_11 rfl (lv_at hl 0 rfl) ?_
        refine lv_sipush (v := 1230) hx hb dX7_records_12 (by decide) ?_
        refine lv_icmp_ge (tgt := 40) hx hb dX7_records_15 (by decide) (fun c_7 => ?_) (fun c_7 => ?_)
        · rw [if_pos c_7] at hq_4
          subst hq_4
          exact hexit11 _ _ _  hP hD hS (lv_sub hl [0, 1] rfl)
        · rw [if_neg c_7] at hq_4
          have hlt_k11 : k11 < 1230 := lp_lt rfl ex11 hk11 c_7
          refine lv_aload_n hx hb dX7_records_18 rfl (lv_at hl 1 rfl) ?_
          refine va_get (D := (dC, dI)) (ci := 7) (v := .ref mhi) (C := RX7) (T := TX7) (N := 9) hx hb hts iX7_records_X7 hown hK hP 0 rfl rfl 2 (by decide) (hts (.fieldLink RX7 16 "TailorChalksModel" "history" "[I") kX7_records_16) (fun _ h9 => h9) rfl dX7_records_19 ?_
          refine lv_iload_n hx hb dX7_records_22 rfl (lv_at hl 0 rfl) ?_
          refine lv_aload_n hx hb dX7_records_23 rfl (lv_at hl 1 rfl) ?_
          refine va_get (D := (dC, dI)) (ci := 7) (v := .ref mhi) (C := RX7) (T := TX7) (N := 9) hx hb hts iX7_records_X7 hown hK hP 0 rfl rfl 2 (by decide) (hts (.fieldLink RX7 16 "TailorChalksModel" "history" "[I") kX7_records_16) (fun _ h9 => h9) rfl dX7_records_24 ?_
          refine lv_iload_n hx hb dX7_records_27 rfl (lv_at hl 0 rfl) ?_
          refine lv_sipush (v := 246) hx hb dX7_records_28 (by decide) ?_
          refine lv_iadd hx hb dX7_records_31 ?_
          refine va_iald hx hb hK hP 2 0 rfl rfl (by rw [ex11]; exact hist_sh (by omega)) dX7_records_32 ?_
          refine va_iast hx hb hK hP hD hS 2 0 rfl rfl (by rw [ex11]; exact vp_in_nI (by omega) (by decide)) dX7_records_33 (fun H locs hP hD hS => ?_)
          have hP : va_P (dC, dI) vwCl [(mo, .inr (7, [.ref ms, .ref mah, .ref mhi, .int vkp, .ref msl, .ref msv, .ref mpd, .int vln, .ref mlb])), (mah, .inl (cI, 246, .inl vah)), (mhi, .inl (cI, 1476, .inl (upd w2f x1.toNatClampNeg (w2f (x1 + 246).toNatClampNeg))))] H := hP
          have hD : va_D A [(mo, .inr (7, [.ref ms, .ref mah, .ref mhi, .int vkp, .ref msl, .ref msv, .ref mpd, .int vln, .ref mlb])), (mah, .inl (cI, 246, .inl vah)), (mhi, .inl (cI, 1476, .inl (upd w2f x1.toNatClampNeg (w2f (x1 + 246).toNatClampNeg))))] := hD
          refine lv_iinc (v := (x1 + 1)) (lv' := [(1, .int (x1 + 1)), (0, .ref mo)]) hx hb dX7_records_34 hl (k := 0) rfl rfl (by decide) rfl (fun ls hl => ?_)
          refine lv_goto (tgt := 11) hx hb dX7_records_37 (by decide) ?_
          exact ih11 (k11 + 1) (x1 + 1) (upd w2f x1.toNatClampNeg (w2f (x1 + 246).toNatClampNeg)) _ _ _ (by omega) (by omega) (by rw [ex11]; exact nI_1 _)  hq_4 hP hD hS (lv_sub hl [0, 1] rfl)
    exact hloop11 1231 0 (0 : Int32) vhi _ _ _ (by omega) (by omega) nI_0.symm  hq_4 hP hD hS (lv_sub hl [0, 1] rfl)
theorem iX7_layPieces_X7 : ∀ w ∈ u_ws RX7 TX7 9, w ∈ wsX7_layPieces := by decide +kernel
theorem kX7_layPieces_29 : Cond.fieldLink RX7 29 "TailorChalksModel" "label" "[I" ∈ wsX7_layPieces := by decide +kernel
theorem kX7_layPieces_7 : Cond.fieldLink RX7 7 "TailorChalksModel" "s" "[I" ∈ wsX7_layPieces := by decide +kernel
def F_Model_layPieces_L45 (but : Int32) (areBluffed : Int32) (vs : Nat → Int32) (vlb : Nat → Int32) : Nat → Int32 → Int32 → (Nat → Int32) → Int32 × Int32 × (Nat → Int32)
  | 0, x4, x3, w2f => (x4, x3, w2f)
  | n + 1, x4, x3, w2f => (if (82 : Int32) ≤ x4 then (x4, x3, w2f) else (if x4 = but then (bnd (F_Model_first x4) (fun r_7 => (bnd (F_Model_second x4) (fun r_8 => (F_Model_layPieces_L45 but areBluffed vs vlb n (x4 + 1) x3 w2f))))) else (bnd (F_Model_holds x4 vs) (fun r_10 => (if r_10 = 0 then (if areBluffed = 0 then (bnd (F_Model_first x4) (fun r_23 => (bnd (F_Model_second x4) (fun r_24 => (F_Model_layPieces_L45 but areBluffed vs vlb n (x4 + 1) x3 w2f))))) else (bnd (F_Model_isVoid x4 vs) (fun r_26 => (if r_26 = 0 then (if (vs ((0 : Int32) + x4).toNatClampNeg) = 3 then (bnd (F_Model_first x4) (fun r_35 => (bnd (F_Model_second x4) (fun r_36 => (if (w2f r_35.toNatClampNeg) = (w2f r_36.toNatClampNeg) then (F_Model_layPieces_L45 but areBluffed vs vlb n (x4 + 1) x3 w2f) else (bnd (F_Model_first x4) (fun r_39 => (if (w2f r_36.toNatClampNeg) ≤ (w2f r_35.toNatClampNeg) then (bnd (F_Model_second x4) (fun r_41 => (bnd (F_Model_first x4) (fun r_42 => (F_Model_layPieces_L45 but areBluffed vs vlb n (x4 + 1) (1 : Int32) (upd (upd w2f r_39.toNatClampNeg (w2f r_36.toNatClampNeg)) r_41.toNatClampNeg ((upd w2f r_39.toNatClampNeg (w2f r_36.toNatClampNeg)) r_42.toNatClampNeg))))))) else (bnd (F_Model_second x4) (fun r_43 => (bnd (F_Model_first x4) (fun r_44 => (F_Model_layPieces_L45 but areBluffed vs vlb n (x4 + 1) (1 : Int32) (upd (upd w2f r_39.toNatClampNeg (w2f r_35.toNatClampNeg)) r_43.toNatClampNeg ((upd w2f r_39.toNatClampNeg (w2f r_35.toNatClampNeg)) r_44.toNatClampNeg))))))))))))))) else (bnd (F_Model_first x4) (fun r_32 => (bnd (F_Model_second x4) (fun r_33 => (F_Model_layPieces_L45 but areBluffed vs vlb n (x4 + 1) x3 w2f)))))) else (bnd (F_Model_first x4) (fun r_28 => (bnd (F_Model_second x4) (fun r_29 => (F_Model_layPieces_L45 but areBluffed vs vlb n (x4 + 1) x3 w2f))))))))) else (bnd (F_Model_first x4) (fun r_12 => (bnd (F_Model_second x4) (fun r_13 => (if (w2f r_12.toNatClampNeg) = (w2f r_13.toNatClampNeg) then (F_Model_layPieces_L45 but areBluffed vs vlb n (x4 + 1) x3 w2f) else (bnd (F_Model_first x4) (fun r_16 => (if (w2f r_13.toNatClampNeg) ≤ (w2f r_12.toNatClampNeg) then (bnd (F_Model_second x4) (fun r_18 => (bnd (F_Model_first x4) (fun r_19 => (F_Model_layPieces_L45 but areBluffed vs vlb n (x4 + 1) (1 : Int32) (upd (upd w2f r_16.toNatClampNeg (w2f r_13.toNatClampNeg)) r_18.toNatClampNeg ((upd w2f r_16.toNatClampNeg (w2f r_13.toNatClampNeg)) r_19.toNatClampNeg))))))) else (bnd (F_Model_second x4) (fun r_20 => (bnd (F_Model_first x4) (fun r_21 => (F_Model_layPieces_L45 but areBluffed vs vlb n (x4 + 1) (1 : Int32) (upd (upd w2f r_16.toNatClampNeg (w2f r_12.toNatClampNeg)) r_20.toNatClampNeg ((upd w2f r_16.toNatClampNeg (w2f r_12.toNatClampNeg)) r_21.toNatClampNeg))))))))))))))))))))
def F_Model_layPieces_L36 (but : Int32) (areBluffed : Int32) (vs : Nat → Int32) (vlb : Nat → Int32) : Nat → Int32 → (Nat → Int32) → Int32 × (Nat → Int32) × Int32
  | 0, x3, w2f => (x3, w2f, 0)
  | n + 1, x3, w2f => (if x3 = 0 then (x3, w2f, 1) else (bnd (F_Model_layPieces_L45 but areBluffed vs vlb 83 (0 : Int32) (0 : Int32) w2f) (fun q_4 => (F_Model_layPieces_L36 but areBluffed vs vlb n q_4.2.1 q_4.2.2))))
def F_Model_layPieces_L2 (but : Int32) (areBluffed : Int32) (vs : Nat → Int32) (vlb : Nat → Int32) : Nat → Int32 → (Nat → Int32) → Int32 × (Nat → Int32)
  | 0, x3, w2f => (x3, w2f)
  | n + 1, x3, w2f => (if (48 : Int32) ≤ x3 then (x3, w2f) else (bnd (F_Model_isGone x3 vs) (fun r_46 => (if r_46 = 0 then (F_Model_layPieces_L2 but areBluffed vs vlb n (x3 + 1) (upd w2f x3.toNatClampNeg x3)) else (F_Model_layPieces_L2 but areBluffed vs vlb n (x3 + 1) (upd w2f x3.toNatClampNeg (-6)))))))
def F_Model_layPieces (but : Int32) (areBluffed : Int32) (vs : Nat → Int32) (vlb : Nat → Int32) : (Nat → Int32) := (bnd (F_Model_layPieces_L2 but areBluffed vs vlb 49 (0 : Int32) vlb) (fun q_1 => (bnd (F_Model_layPieces_L36 but areBluffed vs vlb 2700 (1 : Int32) q_1.2) (fun q_2 => q_2.2.1))))
/-- labels: -6 to 47 -/
def LB (w : Nat → Int32) : Prop := ∀ j, j < 48 → -6 ≤ (w j).toInt ∧ (w j).toInt < 48
def lv_l (x : Int32) : Nat := (x.toInt + 6).toNat
def ms : Nat → (Nat → Int32) → Nat
  | 0, _ => 0
  | n + 1, w => ms n w + lv_l (w n)
theorem ms_out : ∀ (n i : Nat) (x : Int32) (w : Nat → Int32), n ≤ i → ms n (upd w i x) = ms n w
  | 0, i, x, w, h => rfl
  | n + 1, i, x, w, h => by
    show ms n (upd w i x) + lv_l (upd w i x n) = ms n w + lv_l (w n)
    rw [ms_out n i x w (by omega), pk_un (by omega)]
theorem ms_upd : ∀ (n i : Nat) (x : Int32) (w : Nat → Int32), i < n → ms n (upd w i x) + lv_l (w i) = ms n w + lv_l x
  | 0, i, x, w, h => absurd h (Nat.not_lt_zero _)
  | n + 1, i, x, w, h => by
    show ms n (upd w i x) + lv_l (upd w i x n) + lv_l (w i) = ms n w + lv_l (w n) + lv_l x
    by_cases e : i = n
    · subst e
      rw [ms_out i i x w (Nat.le_refl _), pk_us]
      omega
    · have := ms_upd n i x w (by omega)
      rw [pk_un (j := n) (Ne.symm e)]
      omega
theorem LB_upd {w : Nat → Int32} {i : Nat} {x : Int32} (h : LB w) (hx : -6 ≤ x.toInt ∧ x.toInt < 48) : LB (upd w i x) := by
  intro j hj
  by_cases e : j = i
  · subst e; rw [pk_us]; exact hx
  · rw [pk_un e]; exact h j hj
theorem ms_le : ∀ (n : Nat) (w : Nat → Int32), n ≤ 48 → LB w → ms n w ≤ 54 * n
  | 0, w, _, h => Nat.le_refl _
  | n + 1, w, hn, h => by
    have h1 := ms_le n w (by omega) h
    have h2 := h n (by omega)
    have h3 : lv_l (w n) ≤ 54 := by unfold lv_l; omega
    show ms n w + lv_l (w n) ≤ 54 * (n + 1)
    omega
theorem lay_s1 {w : Nat → Int32} {a b : Nat} (ha : a < 48) (hb : b < 48) (hw : LB w) (ne : ¬ w a = w b) (le : w b ≤ w a) : LB (upd (upd w a (w b)) b (upd w a (w b) a)) ∧ ms 48 (upd (upd w a (w b)) b (upd w a (w b) a)) < ms 48 w := by
  have hab : b ≠ a := fun e => ne (by rw [e])
  rw [pk_us]
  refine ⟨LB_upd (LB_upd hw (hw b hb)) (hw b hb), ?_⟩
  have h1 := ms_upd 48 a (w b) w ha
  have h2 := ms_upd 48 b (w b) (upd w a (w b)) hb
  rw [pk_un hab] at h2
  have h3 : lv_l (w b) < lv_l (w a) := by
    have := hw a ha
    have := hw b hb
    have hlt : (w b).toInt ≠ (w a).toInt := fun e => ne (Int32.toInt_inj.mp e.symm)
    rw [Int32.le_iff_toInt_le] at le
    unfold lv_l
    omega
  omega
theorem lay_s2 {w : Nat → Int32} {a b : Nat} (ha : a < 48) (hb : b < 48) (hw : LB w) (ne : ¬ w a = w b) (le : ¬ w b ≤ w a) : LB (upd (upd w a (w a)) b (upd w a (w a) a)) ∧ ms 48 (upd (upd w a (w a)) b (upd w a (w a) a)) < ms 48 w := by
  have hab : b ≠ a := fun e => ne (by rw [e])
  rw [pk_us]
  refine ⟨LB_upd (LB_upd hw (hw a ha)) (hw a ha), ?_⟩
  have h1 := ms_upd 48 a (w a) w ha
  have h2 := ms_upd 48 b (w a) (upd w a (w a)) hb
  rw [pk_un hab] at h2
  have h3 : lv_l (w a) < lv_l (w b) := by
    have := hw a ha
    have := hw b hb
    rw [Int32.le_iff_toInt_le] at le
    unfold lv_l
    omega
  omega
/-- what a pass over the joints does to the labels -/
def lay_R (x3 : Int32) (w : Nat → Int32) (r : Int32 × Int32 × (Nat → Int32)) : Prop := LB r.2.2 ∧ ((r.2.1 = x3 ∧ r.2.2 = w) ∨ (r.2.1 = 1 ∧ ms 48 r.2.2 < ms 48 w))
theorem lay_tr {x3 : Int32} {w w1 : Nat → Int32} {r : Int32 × Int32 × (Nat → Int32)} (h : ms 48 w1 < ms 48 w) (hr : lay_R 1 w1 r) : lay_R x3 w r := by
  obtain ⟨h1, h2⟩ := hr
  refine ⟨h1, Or.inr ?_⟩
  rcases h2 with ⟨e1, e2⟩ | ⟨e1, e2⟩
  · exact ⟨e1, by rw [e2]; exact h⟩
  · exact ⟨e1, by omega⟩
theorem fst_lt {x : Int32} (h : vp_in x 82) : (F_Model_first x).toNatClampNeg < 48 := Nat.lt_of_not_le fun q => first_in h (Or.inr q)
theorem snd_lt {x : Int32} (h : vp_in x 82) : (F_Model_second x).toNatClampNeg < 48 := Nat.lt_of_not_le fun q => second_in h (Or.inr q)
theorem lay_pass (but : Int32) (areBluffed : Int32) (vs : Nat → Int32) (vlb : Nat → Int32) : ∀ (n k : Nat) (x3 : Int32) (w : Nat → Int32), k ≤ 82 → 82 - k < n → LB w → lay_R x3 w (F_Model_layPieces_L45 but areBluffed vs vlb n (nI k) x3 w) := by
  intro n
  induction n with
  | zero => intro k x3 w hk hn; exact absurd hn (Nat.not_lt_zero _)
  | succ n ih =>
    intro k x3 w hk hn hw
    rw [F_Model_layPieces_L45]
    simp only [bnd]
    by_cases c : (82 : Int32) ≤ nI k
    · rw [if_pos c]; exact ⟨hw, Or.inl ⟨rfl, rfl⟩⟩
    · rw [if_neg c, nI_1]
      have hlt : k < 82 := lp_lt rfl rfl hk c
      have ha : (F_Model_first (nI k)).toNatClampNeg < 48 := fst_lt (vp_in_nI hlt (by decide))
      have hb : (F_Model_second (nI k)).toNatClampNeg < 48 := snd_lt (vp_in_nI hlt (by decide))
      have go : lay_R x3 w (F_Model_layPieces_L45 but areBluffed vs vlb n (nI (k + 1)) x3 w) := ih (k + 1) _ _ (by omega) (by omega) hw
      have g1 : ¬ w (F_Model_first (nI k)).toNatClampNeg = w (F_Model_second (nI k)).toNatClampNeg → w (F_Model_second (nI k)).toNatClampNeg ≤ w (F_Model_first (nI k)).toNatClampNeg → lay_R x3 w (F_Model_layPieces_L45 but areBluffed vs vlb n (nI (k + 1)) 1 _) := fun ne le => lay_tr (lay_s1 ha hb hw ne le).2 (ih (k + 1) _ _ (by omega) (by omega) (lay_s1 ha hb hw ne le).1)
      have g2 : ¬ w (F_Model_first (nI k)).toNatClampNeg = w (F_Model_second (nI k)).toNatClampNeg → ¬ w (F_Model_second (nI k)).toNatClampNeg ≤ w (F_Model_first (nI k)).toNatClampNeg → lay_R x3 w (F_Model_layPieces_L45 but areBluffed vs vlb n (nI (k + 1)) 1 _) := fun ne le => lay_tr (lay_s2 ha hb hw ne le).2 (ih (k + 1) _ _ (by omega) (by omega) (lay_s2 ha hb hw ne le).1)
      (repeat' split) <;> first | exact go | exact g1 (by assumption) (by assumption) | exact g2 (by assumption) (by assumption)
theorem lay_go (but : Int32) (areBluffed : Int32) (vs : Nat → Int32) (vlb : Nat → Int32) : ∀ (n : Nat) (w : Nat → Int32), LB w → ms 48 w + 1 < n → (F_Model_layPieces_L36 but areBluffed vs vlb n 1 w).2.2 = 1 := by
  intro n
  induction n with
  | zero => intro w hw hn; exact absurd hn (Nat.not_lt_zero _)
  | succ n ih =>
    intro w hw hn
    rw [F_Model_layPieces_L36, if_neg (by decide)]
    simp only [bnd]
    obtain ⟨h1, h2⟩ := lay_pass but areBluffed vs vlb 83 0 0 w (by omega) (by omega) hw
    rw [show nI 0 = 0 from nI_0] at h1 h2
    rcases h2 with ⟨e1, e2⟩ | ⟨e1, e2⟩
    · rw [e1]
      obtain ⟨m, rfl⟩ : ∃ m, n = m + 1 := ⟨n - 1, by omega⟩
      rw [F_Model_layPieces_L36, if_pos rfl]
    · rw [e1]
      exact ih _ h1 (by omega)
theorem lay_fin {but areBluffed : Int32} {vs vlb w : Nat → Int32} (hw : LB w) : (F_Model_layPieces_L36 but areBluffed vs vlb 2700 1 w).2.2 = 1 := lay_go but areBluffed vs vlb 2700 w hw (by have := ms_le 48 w (by omega) hw; omega)
theorem lay1_go (but : Int32) (areBluffed : Int32) (vs : Nat → Int32) (vlb : Nat → Int32) : ∀ (n k : Nat) (w : Nat → Int32), k ≤ 48 → 48 - k < n → (∀ j, j < k → -6 ≤ (w j).toInt ∧ (w j).toInt < 48) → LB (F_Model_layPieces_L2 but areBluffed vs vlb n (nI k) w).2 := by
  intro n
  induction n with
  | zero => intro k w hk hn; exact absurd hn (Nat.not_lt_zero _)
  | succ n ih =>
    intro k w hk hn hw
    rw [F_Model_layPieces_L2]
    simp only [bnd]
    by_cases c : (48 : Int32) ≤ nI k
    · rw [if_pos c]
      have hk2 : 48 ≤ k := (nI_leI (by decide) (by omega)).mp c
      exact fun j hj => hw j (by omega)
    · rw [if_neg c, nI_1]
      have hlt : k < 48 := lp_lt rfl rfl hk c
      have st : ∀ x : Int32, (-6 ≤ x.toInt ∧ x.toInt < 48) → ∀ j, j < k + 1 → -6 ≤ (upd w (nI k).toNatClampNeg x j).toInt ∧ (upd w (nI k).toNatClampNeg x j).toInt < 48 := fun x hx j hj => by
        rw [nI_clamp (by omega)]
        by_cases e : j = k
        · subst e; rw [pk_us]; exact hx
        · rw [pk_un e]; exact hw j (by omega)
      split
      · exact ih (k + 1) _ (by omega) (by omega) (st _ (by rw [nI_toInt (by omega)]; omega))
      · exact ih (k + 1) _ (by omega) (by omega) (st _ (by decide))
theorem lay1_LB {but areBluffed : Int32} {vs vlb w : Nat → Int32} : LB (F_Model_layPieces_L2 but areBluffed vs vlb 49 0 w).2 := lay1_go but areBluffed vs vlb 49 0 w (by omega) (by omega) (fun j hj => absurd hj (Nat.not_lt_zero _))
set_option maxHeartbeats 4000000 in
set_option maxRecDepth 100000 in
theorem c_Model_layPieces (l : Launch) (dC : Nat → ClassId) (dI : Nat → Nat → Nat) (cI cC cG cZ : ClassId) (mo ms mah mhi msl msv mpd mlb : Nat) (but : Int32) (areBluffed : Int32) (vkp : Int32) (vln : Int32) (vs : Nat → Int32) (vlb : Nat → Int32) (res : (Nat → Int32)) (hres : res = F_Model_layPieces but areBluffed vs vlb) : Met l yX7_layPieces wsX7_layPieces ({ frames := 4, cells := 0, slots := 0, locals := 82 }) (va_Pc [.ref mo, .int but, .int areBluffed] (wr_P (dC, dI) vwCl (tyL cI cC cG cZ) [(mo, .inr (7, [.ref ms, .ref mah, .ref mhi, .int vkp, .ref msl, .ref msv, .ref mpd, .int vln, .ref mlb])), (ms, .inl (cI, 246, .inl vs)), (mlb, .inl (cI, 48, .inl vlb))])) (va_Qv (fun (_ : Unit) => True) (fun _ zt => va_P (dC, dI) vwCl [(mo, .inr (7, [.ref ms, .ref mah, .ref mhi, .int vkp, .ref msl, .ref msv, .ref mpd, .int vln, .ref mlb])), (ms, .inl (cI, 246, .inl vs)), (mlb, .inl (cI, 48, .inl res))] zt.heap) (wr_A [(mo, .inr (7, [.ref ms, .ref mah, .ref mhi, .int vkp, .ref msl, .ref msv, .ref mpd, .int vln, .ref mlb])), (ms, .inl (cI, 246, .inl vs)), (mlb, .inl (cI, 48, .inl vlb))])) 0 0 (wr_A [(mo, .inr (7, [.ref ms, .ref mah, .ref mhi, .int vkp, .ref msl, .ref msv, .ref mpd, .int vln, .ref mlb])), (ms, .inl (cI, 246, .inl vs)), (mlb, .inl (cI, 48, .inl vlb))]) := by
  refine Met.ofW (cc := cX7_layPieces) (maxL := 8) (ret := none) (by decide) rfl ?_
  intro p e s m args below meth c s₁ B hml hv
  obtain ⟨rfl, hP, hK, hD0⟩ := hv
  have hx := B.exec
  have hb := B.bytes
  have hr := B.returns
  have hts := atoms_spec (ws := wsX7_layPieces) B.pre
  have hown : s.vm.findClass RX7 = some m.cls := findClass_of_methodNamed B.named
  have hlocks := B.notSynchronized
  have hD := wr_self hD0
  generalize hAe : wr_A [(mo, .inr (7, [.ref ms, .ref mah, .ref mhi, .int vkp, .ref msl, .ref msv, .ref mpd, .int vln, .ref mlb])), (ms, .inl (cI, 246, .inl vs)), (mlb, .inl (cI, 48, .inl vlb))] = A at hD ⊢
  have hS : va_S A s.heap s.heap [] := va_S.rf
  have hP : va_P (dC, dI) vwCl [(mo, .inr (7, [.ref ms, .ref mah, .ref mhi, .int vkp, .ref msl, .ref msv, .ref mpd, .int vln, .ref mlb])), (ms, .inl (cI, 246, .inl vs)), (mlb, .inl (cI, 48, .inl vlb))] s.heap := hP
  have hl := lv_entry ([.ref mo, .int but, .int areBluffed]) (n := 8) (Nat.le_of_ble_eq_true rfl)
  rw [lg_entry_eq]
  generalize (lg_sl ([.ref mo, .int but, .int areBluffed]) ++ List.replicate (8 - (lg_sl ([.ref mo, .int but, .int areBluffed])).length) Slot.unset).toArray = ls at hl ⊢
  have hl : lv_has ls 8 [(0, .ref mo), (1, .int but), (2, .int areBluffed)] := hl
  rw [F_Model_layPieces] at hres
  refine lv_iconst (v := 0) hx hb dX7_layPieces_0 (by decide) ?_
  refine lv_istore_n (lv' := [(3, .int 0), (0, .ref mo), (1, .int but), (2, .int areBluffed)]) hx hb dX7_layPieces_1 rfl hl (by decide) rfl (fun ls hl => ?_)
  obtain ⟨q_1, hq_1⟩ : ∃ z, z = F_Model_layPieces_L2 but areBluffed vs vlb 49 (0 : Int32) vlb := ⟨_, rfl⟩
  rw [bnd_e hq_1] at hres
  have hexit2 : ∀ (H : Heap) (locs : List Loc) (ls : Array Slot), va_P (dC, dI) vwCl [(mo, .inr (7, [.ref ms, .ref mah, .ref mhi, .int vkp, .ref msl, .ref msv, .ref mpd, .int vln, .ref mlb])), (ms, .inl (cI, 246, .inl vs)), (mlb, .inl (cI, 48, .inl q_1.2))] H → va_D A [(mo, .inr (7, [.ref ms, .ref mah, .ref mhi, .int vkp, .ref msl, .ref msv, .ref mpd, .int vln, .ref mlb])), (ms, .inl (cI, 246, .inl vs)), (mlb, .inl (cI, 48, .inl q_1.2))] → va_S A s.heap H locs → lv_has ls 8 [(3, .int q_1.1), (0, .ref mo), (1, .int but), (2, .int areBluffed)] → W p l e (headSpec wsX7_layPieces ({ frames := 4, cells := 0, slots := 0, locals := 82 })).room s m ([.ref mo, .int but, .int areBluffed] : List Value).toArray below meth c H locs 0 0 (MQ below (va_Qv (fun (_ : Unit) => True) (fun _ zt => va_P (dC, dI) vwCl [(mo, .inr (7, [.ref ms, .ref mah, .ref mhi, .int vkp, .ref msl, .ref msv, .ref mpd, .int vln, .ref mlb])), (ms, .inl (cI, 246, .inl vs)), (mlb, .inl (cI, 48, .inl res))] zt.heap) A) ([.ref mo, .int but, .int areBluffed] : List Value).toArray s 0 0 A) (F0 m 34 ls []) := by
    intro H locs ls  hP hD hS hl
    refine lv_iconst (v := 1) hx hb dX7_layPieces_34 (by decide) ?_
    refine lv_istore_n (lv' := [(3, .int 1), (0, .ref mo), (1, .int but), (2, .int areBluffed)]) hx hb dX7_layPieces_35 rfl hl (by decide) rfl (fun ls hl => ?_)
    obtain ⟨q_2, hq_2⟩ : ∃ z, z = F_Model_layPieces_L36 but areBluffed vs vlb 2700 (1 : Int32) q_1.2 := ⟨_, rfl⟩
    rw [bnd_e hq_2] at hres
    have hok36 : q_2.2.2 = 1 := by rw [hq_2]; exact (lay_fin (by rw [hq_1]; exact lay1_LB))
    have hexit36 : ∀ (H : Heap) (locs : List Loc) (ls : Array Slot), va_P (dC, dI) vwCl [(mo, .inr (7, [.ref ms, .ref mah, .ref mhi, .int vkp, .ref msl, .ref msv, .ref mpd, .int vln, .ref mlb])), (ms, .inl (cI, 246, .inl vs)), (mlb, .inl (cI, 48, .inl q_2.2.1))] H → va_D A [(mo, .inr (7, [.ref ms, .ref mah, .ref mhi, .int vkp, .ref msl, .ref msv, .ref mpd, .int vln, .ref mlb])), (ms, .inl (cI, 246, .inl vs)), (mlb, .inl (cI, 48, .inl q_2.2.1))] → va_S A s.heap H locs → lv_has ls 8 [(3, .int q_2.1), (0, .ref mo), (1, .int but), (2, .int areBluffed)] → W p l e (headSpec wsX7_layPieces ({ frames := 4, cells := 0, slots := 0, locals := 82 })).room s m ([.ref mo, .int but, .int areBluffed] : List Value).toArray below meth c H locs 0 0 (MQ below (va_Qv (fun (_ : Unit) => True) (fun _ zt => va_P (dC, dI) vwCl [(mo, .inr (7, [.ref ms, .ref mah, .ref mhi, .int vkp, .ref msl, .ref msv, .ref mpd, .int vln, .ref mlb])), (ms, .inl (cI, 246, .inl vs)), (mlb, .inl (cI, 48, .inl res))] zt.heap) A) ([.ref mo, .int but, .int areBluffed] : List Value).toArray s 0 0 A) (F0 m 191 ls []) := by
      intro H locs ls  hP hD hS hl
      subst hres
      exact W.vret hx hb hr (fun t ht hW => ⟨⟨(), rfl, trivial, (by show va_P _ _ _ t.heap; rw [ht]; exact hP)⟩, hS.F ht⟩) hS.2.2 dX7_layPieces_191
    have hloop36 : ∀ (n : Nat) (x3 : Int32) (w2f : Nat → Int32) (H : Heap) (locs : List Loc) (ls : Array Slot), q_2.2.2 = 1 → q_2 = F_Model_layPieces_L36 but areBluffed vs vlb n x3 w2f → va_P (dC, dI) vwCl [(mo, .inr (7, [.ref ms, .ref mah, .ref mhi, .int vkp, .ref msl, .ref msv, .ref mpd, .int vln, .ref mlb])), (ms, .inl (cI, 246, .inl vs)), (mlb, .inl (cI, 48, .inl w2f))] H → va_D A [(mo, .inr (7, [.ref ms, .ref mah, .ref mhi, .int vkp, .ref msl, .ref msv, .ref mpd, .int vln, .ref mlb])), (ms, .inl (cI, 246, .inl vs)), (mlb, .inl (cI, 48, .inl w2f))] → va_S A s.heap H locs → lv_has ls 8 [(3, .int x3), (0, .ref mo), (1, .int but), (2, .int areBluffed)] → W p l e (headSpec wsX7_layPieces ({ frames := 4, cells := 0, slots := 0, locals := 82 })).room s m ([.ref mo, .int but, .int areBluffed] : List Value).toArray below meth c H locs 0 0 (MQ below (va_Qv (fun (_ : Unit) => True) (fun _ zt => va_P (dC, dI) vwCl [(mo, .inr (7, [.ref ms, .ref mah, .ref mhi, .int vkp, .ref msl, .ref msv, .ref mpd, .int vln, .ref mlb])), (ms, .inl (cI, 246, .inl vs)), (mlb, .inl (cI, 48, .inl res))] zt.heap) A) ([.ref mo, .int but, .int areBluffed] : List Value).toArray s 0 0 A) (F0 m 36 ls []) := by
      intro n
      induction n with
      | zero => intro x3 w2f _ _ _ hok  h0; rw [F_Model_layPieces_L36] at h0; exact absurd hok (by rw [h0]; first | (show ¬ (0 : Int32) = 1; decide) | exact fun h => h rfl)
      | succ n ih36 =>
        intro x3 w2f H locs ls hok36  hq_2 hP hD hS hl
        rw [F_Model_layPieces_L36] at hq_2
        refine lv_iload_n hx hb dX7_layPieces_36 rfl (lv_at hl 0 rfl) ?_
        refine lv_if_eq (tgt := 191) hx hb dX7_layPieces_37 (by decide) (fun c_3 => ?_) (fun c_3 => ?_)
        · rw [if_pos c_3] at hq_2
          subst hq_2
          exact hexit36 _ _ _  hP hD hS (lv_sub hl [0, 1, 2, 3] rfl)
        · rw [if_neg c_3] at hq_2
          refine lv_iconst (v := 0) hx hb dX7_layPieces_40 (by decide) ?_
          refine lv_istore_n (lv' := [(3, .int 0), (0, .ref mo), (1, .int but), (2, .int areBluffed)]) hx hb dX7_layPieces_41 rfl hl (by decide) rfl (fun ls hl => ?_)
          refine lv_iconst (v := 0) hx hb dX7_layPieces_42 (by decide) ?_
          refine lv_istore (lv' := [(4, .int 0), (3, .int 0), (0, .ref mo), (1, .int but), (2, .int areBluffed)]) hx hb dX7_layPieces_43 hl (by decide) rfl (fun ls hl => ?_)
          obtain ⟨q_4, hq_4⟩ : ∃ z, z = F_Model_layPieces_L45 but areBluffed vs vlb 83 (0 : Int32) (0 : Int32) w2f := ⟨_, rfl⟩
          rw [bnd_e hq_4] at hq_2
          have hexit45 : ∀ (H : Heap) (locs : List Loc) (ls : Array Slot), va_P (dC, dI) vwCl [(mo, .inr (7, [.ref ms, .ref mah, .ref mhi, .int vkp, .ref msl, .ref msv, .ref mpd, .int vln, .ref mlb])), (ms, .inl (cI, 246, .inl vs)), (mlb, .inl (cI, 48, .inl q_4.2.2))] H → va_D A [(mo, .inr (7, [.ref ms, .ref mah, .ref mhi, .int vkp, .ref msl, .ref msv, .ref mpd, .int vln, .ref mlb])), (ms, .inl (cI, 246, .inl vs)), (mlb, .inl (cI, 48, .inl q_4.2.2))] → va_S A s.heap H locs → lv_has ls 8 [(4, .int q_4.1), (3, .int q_4.2.1), (0, .ref mo), (1, .int but), (2, .int areBluffed)] → W p l e (headSpec wsX7_layPieces ({ frames := 4, cells := 0, slots := 0, locals := 82 })).room s m ([.ref mo, .int but, .int areBluffed] : List Value).toArray below meth c H locs 0 0 (MQ below (va_Qv (fun (_ : Unit) => True) (fun _ zt => va_P (dC, dI) vwCl [(mo, .inr (7, [.ref ms, .ref mah, .ref mhi, .int vkp, .ref msl, .ref msv, .ref mpd, .int vln, .ref mlb])), (ms, .inl (cI, 246, .inl vs)), (mlb, .inl (cI, 48, .inl res))] zt.heap) A) ([.ref mo, .int but, .int areBluffed] : List Value).toArray s 0 0 A) (F0 m 188 ls []) := by
            intro H locs ls  hP hD hS hl
            refine lv_goto (tgt := 36) hx hb dX7_layPieces_188 (by decide) ?_
            exact ih36 q_4.2.1 q_4.2.2 _ _ _ hok36  hq_2 hP hD hS (lv_sub hl [1, 2, 3, 4] rfl)
          have hloop45 : ∀ (n k45 : Nat) (x4 : Int32) (x3 : Int32) (w2f : Nat → Int32) (H : Heap) (locs : List Loc) (ls : Array Slot), k45 ≤ 82 → 82 - k45 < n → x4 = nI k45 → q_4 = F_Model_layPieces_L45 but areBluffed vs vlb n x4 x3 w2f → va_P (dC, dI) vwCl [(mo, .inr (7, [.ref ms, .ref mah, .ref mhi, .int vkp, .ref msl, .ref msv, .ref mpd, .int vln, .ref mlb])), (ms, .inl (cI, 246, .inl vs)), (mlb, .inl (cI, 48, .inl w2f))] H → va_D A [(mo, .inr (7, [.ref ms, .ref mah, .ref mhi, .int vkp, .ref msl, .ref msv, .ref mpd, .int vln, .ref mlb])), (ms, .inl (cI, 246, .inl vs)), (mlb, .inl (cI, 48, .inl w2f))] → va_S A s.heap H locs → lv_has ls 8 [(4, .int x4), (3, .int x3), (0, .ref mo), (1, .int but), (2, .int areBluffed)] → W p l e (headSpec wsX7_layPieces ({ frames := 4, cells := 0, slots := 0, locals := 82 })).room s m ([.ref mo, .int but, .int areBluffed] : List Value).toArray below meth c H locs 0 0 (MQ below (va_Qv (fun (_ : Unit) => True) (fun _ zt => va_P (dC, dI) vwCl [(mo, .inr (7, [.ref ms, .ref mah, .ref mhi, .int vkp, .ref msl, .ref msv, .ref mpd, .int vln, .ref mlb])), (ms, .inl (cI, 246, .inl vs)), (mlb, .inl (cI, 48, .inl res))] zt.heap) A) ([.ref mo, .int but, .int areBluffed] : List Value).toArray s 0 0 A) (F0 m 45 ls []) := by
            intro n
            induction n with
            | zero => intro k45 x4 x3 w2f _ _ _ _ hm; exact absurd hm (Nat.not_lt_zero _)
            | succ n ih45 =>
              intro k45 x4 x3 w2f H locs ls hk45 hm45 ex45  hq_4 hP hD hS hl
              rw [F_Model_layPieces_L45] at hq_4
              refine lv_iload hx hb dX7_layPieces_45 (lv_at hl 0 rfl) ?_
              refine lv_bipush (v := 82) hx hb dX7_layPieces_47 (by decide) ?_
              refine lv_icmp_ge (tgt := 188) hx hb dX7_layPieces_49 (by decide) (fun c_5 => ?_) (fun c_5 => ?_)
              · rw [if_pos c_5] at hq_4
                subst hq_4
                exact hexit45 _ _ _  hP hD hS (lv_sub hl [0, 1, 2, 3, 4] rfl)
              · rw [if_neg c_5] at hq_4
                have hlt_k45 : k45 < 82 := lp_lt rfl ex45 hk45 c_5
                refine lv_iload hx hb dX7_layPieces_52 (lv_at hl 0 rfl) ?_
                refine lv_iload_n hx hb dX7_layPieces_54 rfl (lv_at hl 3 rfl) ?_
                refine lv_icmp_eq (tgt := 97) hx hb dX7_layPieces_55 (by decide) (fun c_6 => ?_) (fun c_6 => ?_)
                · rw [if_pos c_6] at hq_4
                  refine lv_iconst (v := 0) hx hb dX7_layPieces_97 (by decide) ?_
                  refine lv_istore (lv' := [(5, .int 0), (4, .int x4), (3, .int x3), (0, .ref mo), (1, .int but), (2, .int areBluffed)]) hx hb dX7_layPieces_98 hl (by decide) rfl (fun ls hl => ?_)
                  refine lv_aload_n hx hb dX7_layPieces_100 rfl (lv_at hl 3 rfl) ?_
                  refine va_get (D := (dC, dI)) (ci := 7) (v := .ref mlb) (C := RX7) (T := TX7) (N := 9) hx hb hts iX7_layPieces_X7 hown hK hP 0 rfl rfl 8 (by decide) (hts (.fieldLink RX7 29 "TailorChalksModel" "label" "[I") kX7_layPieces_29) (fun _ h9 => h9) rfl dX7_layPieces_101 ?_
                  refine lv_iload hx hb dX7_layPieces_104 (lv_at hl 1 rfl) ?_
                  obtain ⟨r_7, hr_7⟩ : ∃ z, z = F_Model_first x4 := ⟨_, rfl⟩
                  rw [bnd_e hr_7] at hq_4
                  refine ro_calli (va_runS (As := [.int x4]) (rest := [.ref mlb]) ⟨hx, hb, hml, hown, hts⟩ (c_Model_first l dC dI cI cC cG cZ  x4  r_7 hr_7) (va_cwS 1 hts gX7_layPieces_X7_first rfl rfl rfl (by decide +kernel) ⟨Nat.le_of_ble_eq_true rfl, Nat.le_of_ble_eq_true rfl⟩) (ro_preS (hP.sub (ws' := []) [] rfl) hK) rfl rfl hl.1 rfl (lv_room (Nat.le_of_ble_eq_true rfl)) dX7_layPieces_106 ⟨Nat.zero_le _, Nat.zero_le _⟩) hP hS (fun H locs hP hS => ?_)
                  refine va_iald hx hb hK hP 2 0 rfl rfl (by rw [hr_7]; exact first_in (by rw [ex45]; exact vp_in_nI (by omega) (by decide))) dX7_layPieces_109 ?_
                  refine lv_istore (lv' := [(6, .int (w2f r_7.toNatClampNeg)), (5, .int 0), (4, .int x4), (3, .int x3), (0, .ref mo), (1, .int but), (2, .int areBluffed)]) hx hb dX7_layPieces_110 hl (by decide) rfl (fun ls hl => ?_)
                  refine lv_aload_n hx hb dX7_layPieces_112 rfl (lv_at hl 4 rfl) ?_
                  refine va_get (D := (dC, dI)) (ci := 7) (v := .ref mlb) (C := RX7) (T := TX7) (N := 9) hx hb hts iX7_layPieces_X7 hown hK hP 0 rfl rfl 8 (by decide) (hts (.fieldLink RX7 29 "TailorChalksModel" "label" "[I") kX7_layPieces_29) (fun _ h9 => h9) rfl dX7_layPieces_113 ?_
                  refine lv_iload hx hb dX7_layPieces_116 (lv_at hl 2 rfl) ?_
                  obtain ⟨r_8, hr_8⟩ : ∃ z, z = F_Model_second x4 := ⟨_, rfl⟩
                  rw [bnd_e hr_8] at hq_4
                  refine ro_calli (va_runS (As := [.int x4]) (rest := [.ref mlb]) ⟨hx, hb, hml, hown, hts⟩ (c_Model_second l dC dI cI cC cG cZ  x4  r_8 hr_8) (va_cwS 1 hts gX7_layPieces_X7_second rfl rfl rfl (by decide +kernel) ⟨Nat.le_of_ble_eq_true rfl, Nat.le_of_ble_eq_true rfl⟩) (ro_preS (hP.sub (ws' := []) [] rfl) hK) rfl rfl hl.1 rfl (lv_room (Nat.le_of_ble_eq_true rfl)) dX7_layPieces_118 ⟨Nat.zero_le _, Nat.zero_le _⟩) hP hS (fun H locs hP hS => ?_)
                  refine va_iald hx hb hK hP 2 0 rfl rfl (by rw [hr_8]; exact second_in (by rw [ex45]; exact vp_in_nI (by omega) (by decide))) dX7_layPieces_121 ?_
                  refine lv_istore (lv' := [(7, .int (w2f r_8.toNatClampNeg)), (6, .int (w2f r_7.toNatClampNeg)), (5, .int 0), (4, .int x4), (3, .int x3), (0, .ref mo), (1, .int but), (2, .int areBluffed)]) hx hb dX7_layPieces_122 hl (by decide) rfl (fun ls hl => ?_)
                  refine lv_iload hx hb dX7_layPieces_124 (lv_at hl 2 rfl) ?_
                  refine lv_if_eq (tgt := 182) hx hb dX7_layPieces_126 (by decide) (fun c_9 => ?_) (fun c_9 => ?_)
                  rotate_left
                  · exact absurd (by decide) c_9
                  refine lv_iinc (v := (x4 + 1)) (lv' := [(4, .int (x4 + 1)), (7, .int (w2f r_8.toNatClampNeg)), (6, .int (w2f r_7.toNatClampNeg)), (5, .int 0), (3, .int x3), (0, .ref mo), (1, .int but), (2, .int areBluffed)]) hx hb dX7_layPieces_182 hl (k := 3) rfl rfl (by decide) rfl (fun ls hl => ?_)
                  refine lv_goto (tgt := 45) hx hb dX7_layPieces_185 (by decide) ?_
                  exact ih45 (k45 + 1) (x4 + 1) x3 w2f _ _ _ (by omega) (by omega) (by rw [ex45]; exact nI_1 _)  hq_4 hP hD hS (lv_sub hl [0, 4, 5, 6, 7] rfl)
                · rw [if_neg c_6] at hq_4
                  refine lv_aload_n hx hb dX7_layPieces_58 rfl (lv_at hl 2 rfl) ?_
                  refine lv_iload hx hb dX7_layPieces_59 (lv_at hl 0 rfl) ?_
                  obtain ⟨r_10, hr_10⟩ : ∃ z, z = F_Model_holds x4 vs := ⟨_, rfl⟩
                  rw [bnd_e hr_10] at hq_4
                  refine ro_calli (va_runV (As := [.int x4]) (rest := []) ⟨hx, hb, hml, hown, hts⟩ (c_Model_holds l dC dI cI cC cG cZ mo ms mah mhi msl msv mpd mlb x4 vkp vln vs (by rw [ex45]; exact vp_in_nI (by omega) (by decide)) r_10 hr_10) (cwV 1 hts gX7_layPieces_X7_holds rfl rfl rfl (by decide +kernel) ⟨Nat.le_of_ble_eq_true rfl, Nat.le_of_ble_eq_true rfl⟩) (ro_preV (hP.sub (ws' := [(mo, .inr (7, [.ref ms, .ref mah, .ref mhi, .int vkp, .ref msl, .ref msv, .ref mpd, .int vln, .ref mlb])), (ms, .inl (cI, 246, .inl vs))]) [0, 1] rfl) hK (ci := 7) (q0 := 0) rfl rfl) rfl rfl hl.1 rfl (lv_room (Nat.le_of_ble_eq_true rfl)) dX7_layPieces_61 ⟨Nat.zero_le _, Nat.zero_le _⟩) hP hS (fun H locs hP hS => ?_)
                  refine lv_if_ne (tgt := 93) hx hb dX7_layPieces_64 (by decide) (fun c_11 => ?_) (fun c_11 => ?_)
                  · rw [if_neg c_11] at hq_4
                    refine lv_iconst (v := 1) hx hb dX7_layPieces_93 (by decide) ?_
                    refine lv_goto (tgt := 98) hx hb dX7_layPieces_94 (by decide) ?_
                    refine lv_istore (lv' := [(5, .int 1), (4, .int x4), (3, .int x3), (0, .ref mo), (1, .int but), (2, .int areBluffed)]) hx hb dX7_layPieces_98 hl (by decide) rfl (fun ls hl => ?_)
                    refine lv_aload_n hx hb dX7_layPieces_100 rfl (lv_at hl 3 rfl) ?_
                    refine va_get (D := (dC, dI)) (ci := 7) (v := .ref mlb) (C := RX7) (T := TX7) (N := 9) hx hb hts iX7_layPieces_X7 hown hK hP 0 rfl rfl 8 (by decide) (hts (.fieldLink RX7 29 "TailorChalksModel" "label" "[I") kX7_layPieces_29) (fun _ h9 => h9) rfl dX7_layPieces_101 ?_
                    refine lv_iload hx hb dX7_layPieces_104 (lv_at hl 1 rfl) ?_
                    obtain ⟨r_12, hr_12⟩ : ∃ z, z = F_Model_first x4 := ⟨_, rfl⟩
                    rw [bnd_e hr_12] at hq_4
                    refine ro_calli (va_runS (As := [.int x4]) (rest := [.ref mlb]) ⟨hx, hb, hml, hown, hts⟩ (c_Model_first l dC dI cI cC cG cZ  x4  r_12 hr_12) (va_cwS 1 hts gX7_layPieces_X7_first rfl rfl rfl (by decide +kernel) ⟨Nat.le_of_ble_eq_true rfl, Nat.le_of_ble_eq_true rfl⟩) (ro_preS (hP.sub (ws' := []) [] rfl) hK) rfl rfl hl.1 rfl (lv_room (Nat.le_of_ble_eq_true rfl)) dX7_layPieces_106 ⟨Nat.zero_le _, Nat.zero_le _⟩) hP hS (fun H locs hP hS => ?_)
                    refine va_iald hx hb hK hP 2 0 rfl rfl (by rw [hr_12]; exact first_in (by rw [ex45]; exact vp_in_nI (by omega) (by decide))) dX7_layPieces_109 ?_
                    refine lv_istore (lv' := [(6, .int (w2f r_12.toNatClampNeg)), (5, .int 1), (4, .int x4), (3, .int x3), (0, .ref mo), (1, .int but), (2, .int areBluffed)]) hx hb dX7_layPieces_110 hl (by decide) rfl (fun ls hl => ?_)
                    refine lv_aload_n hx hb dX7_layPieces_112 rfl (lv_at hl 4 rfl) ?_
                    refine va_get (D := (dC, dI)) (ci := 7) (v := .ref mlb) (C := RX7) (T := TX7) (N := 9) hx hb hts iX7_layPieces_X7 hown hK hP 0 rfl rfl 8 (by decide) (hts (.fieldLink RX7 29 "TailorChalksModel" "label" "[I") kX7_layPieces_29) (fun _ h9 => h9) rfl dX7_layPieces_113 ?_
                    refine lv_iload hx hb dX7_layPieces_116 (lv_at hl 2 rfl) ?_
                    obtain ⟨r_13, hr_13⟩ : ∃ z, z = F_Model_second x4 := ⟨_, rfl⟩
                    rw [bnd_e hr_13] at hq_4
                    refine ro_calli (va_runS (As := [.int x4]) (rest := [.ref mlb]) ⟨hx, hb, hml, hown, hts⟩ (c_Model_second l dC dI cI cC cG cZ  x4  r_13 hr_13) (va_cwS 1 hts gX7_layPieces_X7_second rfl rfl rfl (by decide +kernel) ⟨Nat.le_of_ble_eq_true rfl, Nat.le_of_ble_eq_true rfl⟩) (ro_preS (hP.sub (ws' := []) [] rfl) hK) rfl rfl hl.1 rfl (lv_room (Nat.le_of_ble_eq_true rfl)) dX7_layPieces_118 ⟨Nat.zero_le _, Nat.zero_le _⟩) hP hS (fun H locs hP hS => ?_)
                    refine va_iald hx hb hK hP 2 0 rfl rfl (by rw [hr_13]; exact second_in (by rw [ex45]; exact vp_in_nI (by omega) (by decide))) dX7_layPieces_121 ?_
                    refine lv_istore (lv' := [(7, .int (w2f r_13.toNatClampNeg)), (6, .int (w2f r_12.toNatClampNeg)), (5, .int 1), (4, .int x4), (3, .int x3), (0, .ref mo), (1, .int but), (2, .int areBluffed)]) hx hb dX7_layPieces_122 hl (by decide) rfl (fun ls hl => ?_)
                    refine lv_iload hx hb dX7_layPieces_124 (lv_at hl 2 rfl) ?_
                    refine lv_if_eq (tgt := 182) hx hb dX7_layPieces_126 (by decide) (fun c_14 => ?_) (fun c_14 => ?_)
                    · exact absurd c_14 (by decide)
                    refine lv_iload hx hb dX7_layPieces_129 (lv_at hl 1 rfl) ?_
                    refine lv_iload hx hb dX7_layPieces_131 (lv_at hl 0 rfl) ?_
                    refine lv_icmp_eq (tgt := 182) hx hb dX7_layPieces_133 (by decide) (fun c_15 => ?_) (fun c_15 => ?_)
                    · rw [if_pos c_15] at hq_4
                      refine lv_iinc (v := (x4 + 1)) (lv' := [(4, .int (x4 + 1)), (7, .int (w2f r_13.toNatClampNeg)), (6, .int (w2f r_12.toNatClampNeg)), (5, .int 1), (3, .int x3), (0, .ref mo), (1, .int but), (2, .int areBluffed)]) hx hb dX7_layPieces_182 hl (k := 3) rfl rfl (by decide) rfl (fun ls hl => ?_)
                      refine lv_goto (tgt := 45) hx hb dX7_layPieces_185 (by decide) ?_
                      exact ih45 (k45 + 1) (x4 + 1) x3 w2f _ _ _ (by omega) (by omega) (by rw [ex45]; exact nI_1 _)  hq_4 hP hD hS (lv_sub hl [0, 4, 5, 6, 7] rfl)
                    · rw [if_neg c_15] at hq_4
                      refine lv_aload_n hx hb dX7_layPieces_136 rfl (lv_at hl 5 rfl) ?_
                      refine va_get (D := (dC, dI)) (ci := 7) (v := .ref mlb) (C := RX7) (T := TX7) (N := 9) hx hb hts iX7_layPieces_X7 hown hK hP 0 rfl rfl 8 (by decide) (hts (.fieldLink RX7 29 "TailorChalksModel" "label" "[I") kX7_layPieces_29) (fun _ h9 => h9) rfl dX7_layPieces_137 ?_
                      refine lv_iload hx hb dX7_layPieces_140 (lv_at hl 3 rfl) ?_
                      obtain ⟨r_16, hr_16⟩ : ∃ z, z = F_Model_first x4 := ⟨_, rfl⟩
                      rw [bnd_e hr_16] at hq_4
                      refine ro_calli (va_runS (As := [.int x4]) (rest := [.ref mlb]) ⟨hx, hb, hml, hown, hts⟩ (c_Model_first l dC dI cI cC cG cZ  x4  r_16 hr_16) (va_cwS 1 hts gX7_layPieces_X7_first rfl rfl rfl (by decide +kernel) ⟨Nat.le_of_ble_eq_true rfl, Nat.le_of_ble_eq_true rfl⟩) (ro_preS (hP.sub (ws' := []) [] rfl) hK) rfl rfl hl.1 rfl (lv_room (Nat.le_of_ble_eq_true rfl)) dX7_layPieces_142 ⟨Nat.zero_le _, Nat.zero_le _⟩) hP hS (fun H locs hP hS => ?_)
                      refine lv_iload hx hb dX7_layPieces_145 (lv_at hl 1 rfl) ?_
                      refine lv_iload hx hb dX7_layPieces_147 (lv_at hl 0 rfl) ?_
                      refine lv_icmp_ge (tgt := 157) hx hb dX7_layPieces_149 (by decide) (fun c_17 => ?_) (fun c_17 => ?_)
                      · rw [if_pos c_17] at hq_4
                        refine lv_iload hx hb dX7_layPieces_157 (lv_at hl 0 rfl) ?_
                        refine va_iast hx hb hK hP hD hS 2 0 rfl rfl (by rw [hr_16]; exact first_in (by rw [ex45]; exact vp_in_nI (by omega) (by decide))) dX7_layPieces_159 (fun H locs hP hD hS => ?_)
                        have hP : va_P (dC, dI) vwCl [(mo, .inr (7, [.ref ms, .ref mah, .ref mhi, .int vkp, .ref msl, .ref msv, .ref mpd, .int vln, .ref mlb])), (ms, .inl (cI, 246, .inl vs)), (mlb, .inl (cI, 48, .inl (upd w2f r_16.toNatClampNeg (w2f r_13.toNatClampNeg))))] H := hP
                        have hD : va_D A [(mo, .inr (7, [.ref ms, .ref mah, .ref mhi, .int vkp, .ref msl, .ref msv, .ref mpd, .int vln, .ref mlb])), (ms, .inl (cI, 246, .inl vs)), (mlb, .inl (cI, 48, .inl (upd w2f r_16.toNatClampNeg (w2f r_13.toNatClampNeg))))] := hD
                        refine lv_aload_n hx hb dX7_layPieces_160 rfl (lv_at hl 5 rfl) ?_
                        refine va_get (D := (dC, dI)) (ci := 7) (v := .ref mlb) (C := RX7) (T := TX7) (N := 9) hx hb hts iX7_layPieces_X7 hown hK hP 0 rfl rfl 8 (by decide) (hts (.fieldLink RX7 29 "TailorChalksModel" "label" "[I") kX7_layPieces_29) (fun _ h9 => h9) rfl dX7_layPieces_161 ?_
                        refine lv_iload hx hb dX7_layPieces_164 (lv_at hl 3 rfl) ?_
                        obtain ⟨r_18, hr_18⟩ : ∃ z, z = F_Model_second x4 := ⟨_, rfl⟩
                        rw [bnd_e hr_18] at hq_4
                        refine ro_calli (va_runS (As := [.int x4]) (rest := [.ref mlb]) ⟨hx, hb, hml, hown, hts⟩ (c_Model_second l dC dI cI cC cG cZ  x4  r_18 hr_18) (va_cwS 1 hts gX7_layPieces_X7_second rfl rfl rfl (by decide +kernel) ⟨Nat.le_of_ble_eq_true rfl, Nat.le_of_ble_eq_true rfl⟩) (ro_preS (hP.sub (ws' := []) [] rfl) hK) rfl rfl hl.1 rfl (lv_room (Nat.le_of_ble_eq_true rfl)) dX7_layPieces_166 ⟨Nat.zero_le _, Nat.zero_le _⟩) hP hS (fun H locs hP hS => ?_)
                        refine lv_aload_n hx hb dX7_layPieces_169 rfl (lv_at hl 5 rfl) ?_
                        refine va_get (D := (dC, dI)) (ci := 7) (v := .ref mlb) (C := RX7) (T := TX7) (N := 9) hx hb hts iX7_layPieces_X7 hown hK hP 0 rfl rfl 8 (by decide) (hts (.fieldLink RX7 29 "TailorChalksModel" "label" "[I") kX7_layPieces_29) (fun _ h9 => h9) rfl dX7_layPieces_170 ?_
                        refine lv_iload hx hb dX7_layPieces_173 (lv_at hl 3 rfl) ?_
                        obtain ⟨r_19, hr_19⟩ : ∃ z, z = F_Model_first x4 := ⟨_, rfl⟩
                        rw [bnd_e hr_19] at hq_4
                        refine ro_calli (va_runS (As := [.int x4]) (rest := [.ref mlb, .int r_18, .ref mlb]) ⟨hx, hb, hml, hown, hts⟩ (c_Model_first l dC dI cI cC cG cZ  x4  r_19 hr_19) (va_cwS 1 hts gX7_layPieces_X7_first rfl rfl rfl (by decide +kernel) ⟨Nat.le_of_ble_eq_true rfl, Nat.le_of_ble_eq_true rfl⟩) (ro_preS (hP.sub (ws' := []) [] rfl) hK) rfl rfl hl.1 rfl (lv_room (Nat.le_of_ble_eq_true rfl)) dX7_layPieces_175 ⟨Nat.zero_le _, Nat.zero_le _⟩) hP hS (fun H locs hP hS => ?_)
                        refine va_iald hx hb hK hP 2 0 rfl rfl (by rw [hr_19]; exact first_in (by rw [ex45]; exact vp_in_nI (by omega) (by decide))) dX7_layPieces_178 ?_
                        refine va_iast hx hb hK hP hD hS 2 0 rfl rfl (by rw [hr_18]; exact second_in (by rw [ex45]; exact vp_in_nI (by omega) (by decide))) dX7_layPieces_179 (fun H locs hP hD hS => ?_)
                        have hP : va_P (dC, dI) vwCl [(mo, .inr (7, [.ref ms, .ref mah, .ref mhi, .int vkp, .ref msl, .ref msv, .ref mpd, .int vln, .ref mlb])), (ms, .inl (cI, 246, .inl vs)), (mlb, .inl (cI, 48, .inl (upd (upd w2f r_16.toNatClampNeg (w2f r_13.toNatClampNeg)) r_18.toNatClampNeg ((upd w2f r_16.toNatClampNeg (w2f r_13.toNatClampNeg)) r_19.toNatClampNeg))))] H := hP
                        have hD : va_D A [(mo, .inr (7, [.ref ms, .ref mah, .ref mhi, .int vkp, .ref msl, .ref msv, .ref mpd, .int vln, .ref mlb])), (ms, .inl (cI, 246, .inl vs)), (mlb, .inl (cI, 48, .inl (upd (upd w2f r_16.toNatClampNeg (w2f r_13.toNatClampNeg)) r_18.toNatClampNeg ((upd w2f r_16.toNatClampNeg (w2f r_13.toNatClampNeg)) r_19.toNatClampNeg))))] := hD
                        refine lv_iconst (v := 1) hx hb dX7_layPieces_180 (by decide) ?_
                        refine lv_istore_n (lv' := [(3, .int 1), (7, .int (w2f r_13.toNatClampNeg)), (6, .int (w2f r_12.toNatClampNeg)), (5, .int 1), (4, .int x4), (0, .ref mo), (1, .int but), (2, .int areBluffed)]) hx hb dX7_layPieces_181 rfl hl (by decide) rfl (fun ls hl => ?_)
                        refine lv_iinc (v := (x4 + 1)) (lv' := [(4, .int (x4 + 1)), (3, .int 1), (7, .int (w2f r_13.toNatClampNeg)), (6, .int (w2f r_12.toNatClampNeg)), (5, .int 1), (0, .ref mo), (1, .int but), (2, .int areBluffed)]) hx hb dX7_layPieces_182 hl (k := 4) rfl rfl (by decide) rfl (fun ls hl => ?_)
                        refine lv_goto (tgt := 45) hx hb dX7_layPieces_185 (by decide) ?_
                        exact ih45 (k45 + 1) (x4 + 1) (1 : Int32) (upd (upd w2f r_16.toNatClampNeg (w2f r_13.toNatClampNeg)) r_18.toNatClampNeg ((upd w2f r_16.toNatClampNeg (w2f r_13.toNatClampNeg)) r_19.toNatClampNeg)) _ _ _ (by omega) (by omega) (by rw [ex45]; exact nI_1 _)  hq_4 hP hD hS (lv_sub hl [0, 1, 5, 6, 7] rfl)
                      · rw [if_neg c_17] at hq_4
                        refine lv_iload hx hb dX7_layPieces_152 (lv_at hl 1 rfl) ?_
                        refine lv_goto (tgt := 159) hx hb dX7_layPieces_154 (by decide) ?_
                        refine va_iast hx hb hK hP hD hS 2 0 rfl rfl (by rw [hr_16]; exact first_in (by rw [ex45]; exact vp_in_nI (by omega) (by decide))) dX7_layPieces_159 (fun H locs hP hD hS => ?_)
                        have hP : va_P (dC, dI) vwCl [(mo, .inr (7, [.ref ms, .ref mah, .ref mhi, .int vkp, .ref msl, .ref msv, .ref mpd, .int vln, .ref mlb])), (ms, .inl (cI, 246, .inl vs)), (mlb, .inl (cI, 48, .inl (upd w2f r_16.toNatClampNeg (w2f r_12.toNatClampNeg))))] H := hP
                        have hD : va_D A [(mo, .inr (7, [.ref ms, .ref mah, .ref mhi, .int vkp, .ref msl, .ref msv, .ref mpd, .int vln, .ref mlb])), (ms, .inl (cI, 246, .inl vs)), (mlb, .inl (cI, 48, .inl (upd w2f r_16.toNatClampNeg (w2f r_12.toNatClampNeg))))] := hD
                        refine lv_aload_n hx hb dX7_layPieces_160 rfl (lv_at hl 5 rfl) ?_
                        refine va_get (D := (dC, dI)) (ci := 7) (v := .ref mlb) (C := RX7) (T := TX7) (N := 9) hx hb hts iX7_layPieces_X7 hown hK hP 0 rfl rfl 8 (by decide) (hts (.fieldLink RX7 29 "TailorChalksModel" "label" "[I") kX7_layPieces_29) (fun _ h9 => h9) rfl dX7_layPieces_161 ?_
                        refine lv_iload hx hb dX7_layPieces_164 (lv_at hl 3 rfl) ?_
                        obtain ⟨r_20, hr_20⟩ : ∃ z, z = F_Model_second x4 := ⟨_, rfl⟩
                        rw [bnd_e hr_20] at hq_4
                        refine ro_calli (va_runS (As := [.int x4]) (rest := [.ref mlb]) ⟨hx, hb, hml, hown, hts⟩ (c_Model_second l dC dI cI cC cG cZ  x4  r_20 hr_20) (va_cwS 1 hts gX7_layPieces_X7_second rfl rfl rfl (by decide +kernel) ⟨Nat.le_of_ble_eq_true rfl, Nat.le_of_ble_eq_true rfl⟩) (ro_preS (hP.sub (ws' := []) [] rfl) hK) rfl rfl hl.1 rfl (lv_room (Nat.le_of_ble_eq_true rfl)) dX7_layPieces_166 ⟨Nat.zero_le _, Nat.zero_le _⟩) hP hS (fun H locs hP hS => ?_)
                        refine lv_aload_n hx hb dX7_layPieces_169 rfl (lv_at hl 5 rfl) ?_
                        refine va_get (D := (dC, dI)) (ci := 7) (v := .ref mlb) (C := RX7) (T := TX7) (N := 9) hx hb hts iX7_layPieces_X7 hown hK hP 0 rfl rfl 8 (by decide) (hts (.fieldLink RX7 29 "TailorChalksModel" "label" "[I") kX7_layPieces_29) (fun _ h9 => h9) rfl dX7_layPieces_170 ?_
                        refine lv_iload hx hb dX7_layPieces_173 (lv_at hl 3 rfl) ?_
                        obtain ⟨r_21, hr_21⟩ : ∃ z, z = F_Model_first x4 := ⟨_, rfl⟩
                        rw [bnd_e hr_21] at hq_4
                        refine ro_calli (va_runS (As := [.int x4]) (rest := [.ref mlb, .int r_20, .ref mlb]) ⟨hx, hb, hml, hown, hts⟩ (c_Model_first l dC dI cI cC cG cZ  x4  r_21 hr_21) (va_cwS 1 hts gX7_layPieces_X7_first rfl rfl rfl (by decide +kernel) ⟨Nat.le_of_ble_eq_true rfl, Nat.le_of_ble_eq_true rfl⟩) (ro_preS (hP.sub (ws' := []) [] rfl) hK) rfl rfl hl.1 rfl (lv_room (Nat.le_of_ble_eq_true rfl)) dX7_layPieces_175 ⟨Nat.zero_le _, Nat.zero_le _⟩) hP hS (fun H locs hP hS => ?_)
                        refine va_iald hx hb hK hP 2 0 rfl rfl (by rw [hr_21]; exact first_in (by rw [ex45]; exact vp_in_nI (by omega) (by decide))) dX7_layPieces_178 ?_
                        refine va_iast hx hb hK hP hD hS 2 0 rfl rfl (by rw [hr_20]; exact second_in (by rw [ex45]; exact vp_in_nI (by omega) (by decide))) dX7_layPieces_179 (fun H locs hP hD hS => ?_)
                        have hP : va_P (dC, dI) vwCl [(mo, .inr (7, [.ref ms, .ref mah, .ref mhi, .int vkp, .ref msl, .ref msv, .ref mpd, .int vln, .ref mlb])), (ms, .inl (cI, 246, .inl vs)), (mlb, .inl (cI, 48, .inl (upd (upd w2f r_16.toNatClampNeg (w2f r_12.toNatClampNeg)) r_20.toNatClampNeg ((upd w2f r_16.toNatClampNeg (w2f r_12.toNatClampNeg)) r_21.toNatClampNeg))))] H := hP
                        have hD : va_D A [(mo, .inr (7, [.ref ms, .ref mah, .ref mhi, .int vkp, .ref msl, .ref msv, .ref mpd, .int vln, .ref mlb])), (ms, .inl (cI, 246, .inl vs)), (mlb, .inl (cI, 48, .inl (upd (upd w2f r_16.toNatClampNeg (w2f r_12.toNatClampNeg)) r_20.toNatClampNeg ((upd w2f r_16.toNatClampNeg (w2f r_12.toNatClampNeg)) r_21.toNatClampNeg))))] := hD
                        refine lv_iconst (v := 1) hx hb dX7_layPieces_180 (by decide) ?_
                        refine lv_istore_n (lv' := [(3, .int 1), (7, .int (w2f r_13.toNatClampNeg)), (6, .int (w2f r_12.toNatClampNeg)), (5, .int 1), (4, .int x4), (0, .ref mo), (1, .int but), (2, .int areBluffed)]) hx hb dX7_layPieces_181 rfl hl (by decide) rfl (fun ls hl => ?_)
                        refine lv_iinc (v := (x4 + 1)) (lv' := [(4, .int (x4 + 1)), (3, .int 1), (7, .int (w2f r_13.toNatClampNeg)), (6, .int (w2f r_12.toNatClampNeg)), (5, .int 1), (0, .ref mo), (1, .int but), (2, .int areBluffed)]) hx hb dX7_layPieces_182 hl (k := 4) rfl rfl (by decide) rfl (fun ls hl => ?_)
                        refine lv_goto (tgt := 45) hx hb dX7_layPieces_185 (by decide) ?_
                        exact ih45 (k45 + 1) (x4 + 1) (1 : Int32) (upd (upd w2f r_16.toNatClampNeg (w2f r_12.toNatClampNeg)) r_20.toNatClampNeg ((upd w2f r_16.toNatClampNeg (w2f r_12.toNatClampNeg)) r_21.toNatClampNeg)) _ _ _ (by omega) (by omega) (by rw [ex45]; exact nI_1 _)  hq_4 hP hD hS (lv_sub hl [0, 1, 5, 6, 7] rfl)
                  · rw [if_pos c_11] at hq_4
                    refine lv_iload_n hx hb dX7_layPieces_67 rfl (lv_at hl 4 rfl) ?_
                    refine lv_if_eq (tgt := 97) hx hb dX7_layPieces_68 (by decide) (fun c_22 => ?_) (fun c_22 => ?_)
                    · rw [if_pos c_22] at hq_4
                      refine lv_iconst (v := 0) hx hb dX7_layPieces_97 (by decide) ?_
                      refine lv_istore (lv' := [(5, .int 0), (4, .int x4), (3, .int x3), (0, .ref mo), (1, .int but), (2, .int areBluffed)]) hx hb dX7_layPieces_98 hl (by decide) rfl (fun ls hl => ?_)
                      refine lv_aload_n hx hb dX7_layPieces_100 rfl (lv_at hl 3 rfl) ?_
                      refine va_get (D := (dC, dI)) (ci := 7) (v := .ref mlb) (C := RX7) (T := TX7) (N := 9) hx hb hts iX7_layPieces_X7 hown hK hP 0 rfl rfl 8 (by decide) (hts (.fieldLink RX7 29 "TailorChalksModel" "label" "[I") kX7_layPieces_29) (fun _ h9 => h9) rfl dX7_layPieces_101 ?_
                      refine lv_iload hx hb dX7_layPieces_104 (lv_at hl 1 rfl) ?_
                      obtain ⟨r_23, hr_23⟩ : ∃ z, z = F_Model_first x4 := ⟨_, rfl⟩
                      rw [bnd_e hr_23] at hq_4
                      refine ro_calli (va_runS (As := [.int x4]) (rest := [.ref mlb]) ⟨hx, hb, hml, hown, hts⟩ (c_Model_first l dC dI cI cC cG cZ  x4  r_23 hr_23) (va_cwS 1 hts gX7_layPieces_X7_first rfl rfl rfl (by decide +kernel) ⟨Nat.le_of_ble_eq_true rfl, Nat.le_of_ble_eq_true rfl⟩) (ro_preS (hP.sub (ws' := []) [] rfl) hK) rfl rfl hl.1 rfl (lv_room (Nat.le_of_ble_eq_true rfl)) dX7_layPieces_106 ⟨Nat.zero_le _, Nat.zero_le _⟩) hP hS (fun H locs hP hS => ?_)
                      refine va_iald hx hb hK hP 2 0 rfl rfl (by rw [hr_23]; exact first_in (by rw [ex45]; exact vp_in_nI (by omega) (by decide))) dX7_layPieces_109 ?_
                      refine lv_istore (lv' := [(6, .int (w2f r_23.toNatClampNeg)), (5, .int 0), (4, .int x4), (3, .int x3), (0, .ref mo), (1, .int but), (2, .int areBluffed)]) hx hb dX7_layPieces_110 hl (by decide) rfl (fun ls hl => ?_)
                      refine lv_aload_n hx hb dX7_layPieces_112 rfl (lv_at hl 4 rfl) ?_
                      refine va_get (D := (dC, dI)) (ci := 7) (v := .ref mlb) (C := RX7) (T := TX7) (N := 9) hx hb hts iX7_layPieces_X7 hown hK hP 0 rfl rfl 8 (by decide) (hts (.fieldLink RX7 29 "TailorChalksModel" "label" "[I") kX7_layPieces_29) (fun _ h9 => h9) rfl dX7_layPieces_113 ?_
                      refine lv_iload hx hb dX7_layPieces_116 (lv_at hl 2 rfl) ?_
                      obtain ⟨r_24, hr_24⟩ : ∃ z, z = F_Model_second x4 := ⟨_, rfl⟩
                      rw [bnd_e hr_24] at hq_4
                      refine ro_calli (va_runS (As := [.int x4]) (rest := [.ref mlb]) ⟨hx, hb, hml, hown, hts⟩ (c_Model_second l dC dI cI cC cG cZ  x4  r_24 hr_24) (va_cwS 1 hts gX7_layPieces_X7_second rfl rfl rfl (by decide +kernel) ⟨Nat.le_of_ble_eq_true rfl, Nat.le_of_ble_eq_true rfl⟩) (ro_preS (hP.sub (ws' := []) [] rfl) hK) rfl rfl hl.1 rfl (lv_room (Nat.le_of_ble_eq_true rfl)) dX7_layPieces_118 ⟨Nat.zero_le _, Nat.zero_le _⟩) hP hS (fun H locs hP hS => ?_)
                      refine va_iald hx hb hK hP 2 0 rfl rfl (by rw [hr_24]; exact second_in (by rw [ex45]; exact vp_in_nI (by omega) (by decide))) dX7_layPieces_121 ?_
                      refine lv_istore (lv' := [(7, .int (w2f r_24.toNatClampNeg)), (6, .int (w2f r_23.toNatClampNeg)), (5, .int 0), (4, .int x4), (3, .int x3), (0, .ref mo), (1, .int but), (2, .int areBluffed)]) hx hb dX7_layPieces_122 hl (by decide) rfl (fun ls hl => ?_)
                      refine lv_iload hx hb dX7_layPieces_124 (lv_at hl 2 rfl) ?_
                      refine lv_if_eq (tgt := 182) hx hb dX7_layPieces_126 (by decide) (fun c_25 => ?_) (fun c_25 => ?_)
                      rotate_left
                      · exact absurd (by decide) c_25
                      refine lv_iinc (v := (x4 + 1)) (lv' := [(4, .int (x4 + 1)), (7, .int (w2f r_24.toNatClampNeg)), (6, .int (w2f r_23.toNatClampNeg)), (5, .int 0), (3, .int x3), (0, .ref mo), (1, .int but), (2, .int areBluffed)]) hx hb dX7_layPieces_182 hl (k := 3) rfl rfl (by decide) rfl (fun ls hl => ?_)
                      refine lv_goto (tgt := 45) hx hb dX7_layPieces_185 (by decide) ?_
                      exact ih45 (k45 + 1) (x4 + 1) x3 w2f _ _ _ (by omega) (by omega) (by rw [ex45]; exact nI_1 _)  hq_4 hP hD hS (lv_sub hl [0, 4, 5, 6, 7] rfl)
                    · rw [if_neg c_22] at hq_4
                      refine lv_aload_n hx hb dX7_layPieces_71 rfl (lv_at hl 2 rfl) ?_
                      refine lv_iload hx hb dX7_layPieces_72 (lv_at hl 0 rfl) ?_
                      obtain ⟨r_26, hr_26⟩ : ∃ z, z = F_Model_isVoid x4 vs := ⟨_, rfl⟩
                      rw [bnd_e hr_26] at hq_4
                      refine ro_calli (va_runV (As := [.int x4]) (rest := []) ⟨hx, hb, hml, hown, hts⟩ (c_Model_isVoid l dC dI cI cC cG cZ mo ms mah mhi msl msv mpd mlb x4 vkp vln vs (by rw [ex45]; exact vp_in_nI (by omega) (by decide)) r_26 hr_26) (cwV 1 hts gX7_layPieces_X7_isVoid rfl rfl rfl (by decide +kernel) ⟨Nat.le_of_ble_eq_true rfl, Nat.le_of_ble_eq_true rfl⟩) (ro_preV (hP.sub (ws' := [(mo, .inr (7, [.ref ms, .ref mah, .ref mhi, .int vkp, .ref msl, .ref msv, .ref mpd, .int vln, .ref mlb])), (ms, .inl (cI, 246, .inl vs))]) [0, 1] rfl) hK (ci := 7) (q0 := 0) rfl rfl) rfl rfl hl.1 rfl (lv_room (Nat.le_of_ble_eq_true rfl)) dX7_layPieces_74 ⟨Nat.zero_le _, Nat.zero_le _⟩) hP hS (fun H locs hP hS => ?_)
                      refine lv_if_ne (tgt := 97) hx hb dX7_layPieces_77 (by decide) (fun c_27 => ?_) (fun c_27 => ?_)
                      · rw [if_neg c_27] at hq_4
                        refine lv_iconst (v := 0) hx hb dX7_layPieces_97 (by decide) ?_
                        refine lv_istore (lv' := [(5, .int 0), (4, .int x4), (3, .int x3), (0, .ref mo), (1, .int but), (2, .int areBluffed)]) hx hb dX7_layPieces_98 hl (by decide) rfl (fun ls hl => ?_)
                        refine lv_aload_n hx hb dX7_layPieces_100 rfl (lv_at hl 3 rfl) ?_
                        refine va_get (D := (dC, dI)) (ci := 7) (v := .ref mlb) (C := RX7) (T := TX7) (N := 9) hx hb hts iX7_layPieces_X7 hown hK hP 0 rfl rfl 8 (by decide) (hts (.fieldLink RX7 29 "TailorChalksModel" "label" "[I") kX7_layPieces_29) (fun _ h9 => h9) rfl dX7_layPieces_101 ?_
                        refine lv_iload hx hb dX7_layPieces_104 (lv_at hl 1 rfl) ?_
                        obtain ⟨r_28, hr_28⟩ : ∃ z, z = F_Model_first x4 := ⟨_, rfl⟩
                        rw [bnd_e hr_28] at hq_4
                        refine ro_calli (va_runS (As := [.int x4]) (rest := [.ref mlb]) ⟨hx, hb, hml, hown, hts⟩ (c_Model_first l dC dI cI cC cG cZ  x4  r_28 hr_28) (va_cwS 1 hts gX7_layPieces_X7_first rfl rfl rfl (by decide +kernel) ⟨Nat.le_of_ble_eq_true rfl, Nat.le_of_ble_eq_true rfl⟩) (ro_preS (hP.sub (ws' := []) [] rfl) hK) rfl rfl hl.1 rfl (lv_room (Nat.le_of_ble_eq_true rfl)) dX7_layPieces_106 ⟨Nat.zero_le _, Nat.zero_le _⟩) hP hS (fun H locs hP hS => ?_)
                        refine va_iald hx hb hK hP 2 0 rfl rfl (by rw [hr_28]; exact first_in (by rw [ex45]; exact vp_in_nI (by omega) (by decide))) dX7_layPieces_109 ?_
                        refine lv_istore (lv' := [(6, .int (w2f r_28.toNatClampNeg)), (5, .int 0), (4, .int x4), (3, .int x3), (0, .ref mo), (1, .int but), (2, .int areBluffed)]) hx hb dX7_layPieces_110 hl (by decide) rfl (fun ls hl => ?_)
                        refine lv_aload_n hx hb dX7_layPieces_112 rfl (lv_at hl 4 rfl) ?_
                        refine va_get (D := (dC, dI)) (ci := 7) (v := .ref mlb) (C := RX7) (T := TX7) (N := 9) hx hb hts iX7_layPieces_X7 hown hK hP 0 rfl rfl 8 (by decide) (hts (.fieldLink RX7 29 "TailorChalksModel" "label" "[I") kX7_layPieces_29) (fun _ h9 => h9) rfl dX7_layPieces_113 ?_
                        refine lv_iload hx hb dX7_layPieces_116 (lv_at hl 2 rfl) ?_
                        obtain ⟨r_29, hr_29⟩ : ∃ z, z = F_Model_second x4 := ⟨_, rfl⟩
                        rw [bnd_e hr_29] at hq_4
                        refine ro_calli (va_runS (As := [.int x4]) (rest := [.ref mlb]) ⟨hx, hb, hml, hown, hts⟩ (c_Model_second l dC dI cI cC cG cZ  x4  r_29 hr_29) (va_cwS 1 hts gX7_layPieces_X7_second rfl rfl rfl (by decide +kernel) ⟨Nat.le_of_ble_eq_true rfl, Nat.le_of_ble_eq_true rfl⟩) (ro_preS (hP.sub (ws' := []) [] rfl) hK) rfl rfl hl.1 rfl (lv_room (Nat.le_of_ble_eq_true rfl)) dX7_layPieces_118 ⟨Nat.zero_le _, Nat.zero_le _⟩) hP hS (fun H locs hP hS => ?_)
                        refine va_iald hx hb hK hP 2 0 rfl rfl (by rw [hr_29]; exact second_in (by rw [ex45]; exact vp_in_nI (by omega) (by decide))) dX7_layPieces_121 ?_
                        refine lv_istore (lv' := [(7, .int (w2f r_29.toNatClampNeg)), (6, .int (w2f r_28.toNatClampNeg)), (5, .int 0), (4, .int x4), (3, .int x3), (0, .ref mo), (1, .int but), (2, .int areBluffed)]) hx hb dX7_layPieces_122 hl (by decide) rfl (fun ls hl => ?_)
                        refine lv_iload hx hb dX7_layPieces_124 (lv_at hl 2 rfl) ?_
                        refine lv_if_eq (tgt := 182) hx hb dX7_layPieces_126 (by decide) (fun c_30 => ?_) (fun c_30 => ?_)
                        rotate_left
                        · exact absurd (by decide) c_30
                        refine lv_iinc (v := (x4 + 1)) (lv' := [(4, .int (x4 + 1)), (7, .int (w2f r_29.toNatClampNeg)), (6, .int (w2f r_28.toNatClampNeg)), (5, .int 0), (3, .int x3), (0, .ref mo), (1, .int but), (2, .int areBluffed)]) hx hb dX7_layPieces_182 hl (k := 3) rfl rfl (by decide) rfl (fun ls hl => ?_)
                        refine lv_goto (tgt := 45) hx hb dX7_layPieces_185 (by decide) ?_
                        exact ih45 (k45 + 1) (x4 + 1) x3 w2f _ _ _ (by omega) (by omega) (by rw [ex45]; exact nI_1 _)  hq_4 hP hD hS (lv_sub hl [0, 4, 5, 6, 7] rfl)
                      · rw [if_pos c_27] at hq_4
                        refine lv_aload_n hx hb dX7_layPieces_80 rfl (lv_at hl 2 rfl) ?_
                        refine va_get (D := (dC, dI)) (ci := 7) (v := .ref ms) (C := RX7) (T := TX7) (N := 9) hx hb hts iX7_layPieces_X7 hown hK hP 0 rfl rfl 0 (by decide) (hts (.fieldLink RX7 7 "TailorChalksModel" "s" "[I") kX7_layPieces_7) (fun _ h9 => h9) rfl dX7_layPieces_81 ?_
                        refine lv_iconst (v := 0) hx hb dX7_layPieces_84 (by decide) ?_
                        refine lv_iload hx hb dX7_layPieces_85 (lv_at hl 0 rfl) ?_
                        refine lv_iadd hx hb dX7_layPieces_87 ?_
                        refine va_iald hx hb hK hP 1 0 rfl rfl (vp_addc (q := 0) (n := 82) rfl (by rw [ex45]; exact vp_in_nI (by omega) (by decide)) (by decide) (by decide)) dX7_layPieces_88 ?_
                        refine lv_iconst (v := 3) hx hb dX7_layPieces_89 (by decide) ?_
                        refine lv_icmp_ne (tgt := 97) hx hb dX7_layPieces_90 (by decide) (fun c_31 => ?_) (fun c_31 => ?_)
                        · rw [if_neg c_31] at hq_4
                          refine lv_iconst (v := 0) hx hb dX7_layPieces_97 (by decide) ?_
                          refine lv_istore (lv' := [(5, .int 0), (4, .int x4), (3, .int x3), (0, .ref mo), (1, .int but), (2, .int areBluffed)]) hx hb dX7_layPieces_98 hl (by decide) rfl (fun ls hl => ?_)
                          refine lv_aload_n hx hb dX7_layPieces_100 rfl (lv_at hl 3 rfl) ?_
                          refine va_get (D := (dC, dI)) (ci := 7) (v := .ref mlb) (C := RX7) (T := TX7) (N := 9) hx hb hts iX7_layPieces_X7 hown hK hP 0 rfl rfl 8 (by decide) (hts (.fieldLink RX7 29 "TailorChalksModel" "label" "[I") kX7_layPieces_29) (fun _ h9 => h9) rfl dX7_layPieces_101 ?_
                          refine lv_iload hx hb dX7_layPieces_104 (lv_at hl 1 rfl) ?_
                          obtain ⟨r_32, hr_32⟩ : ∃ z, z = F_Model_first x4 := ⟨_, rfl⟩
                          rw [bnd_e hr_32] at hq_4
                          refine ro_calli (va_runS (As := [.int x4]) (rest := [.ref mlb]) ⟨hx, hb, hml, hown, hts⟩ (c_Model_first l dC dI cI cC cG cZ  x4  r_32 hr_32) (va_cwS 1 hts gX7_layPieces_X7_first rfl rfl rfl (by decide +kernel) ⟨Nat.le_of_ble_eq_true rfl, Nat.le_of_ble_eq_true rfl⟩) (ro_preS (hP.sub (ws' := []) [] rfl) hK) rfl rfl hl.1 rfl (lv_room (Nat.le_of_ble_eq_true rfl)) dX7_layPieces_106 ⟨Nat.zero_le _, Nat.zero_le _⟩) hP hS (fun H locs hP hS => ?_)
                          refine va_iald hx hb hK hP 2 0 rfl rfl (by rw [hr_32]; exact first_in (by rw [ex45]; exact vp_in_nI (by omega) (by decide))) dX7_layPieces_109 ?_
                          refine lv_istore (lv' := [(6, .int (w2f r_32.toNatClampNeg)), (5, .int 0), (4, .int x4), (3, .int x3), (0, .ref mo), (1, .int but), (2, .int areBluffed)]) hx hb dX7_layPieces_110 hl (by decide) rfl (fun ls hl => ?_)
                          refine lv_aload_n hx hb dX7_layPieces_112 rfl (lv_at hl 4 rfl) ?_
                          refine va_get (D := (dC, dI)) (ci := 7) (v := .ref mlb) (C := RX7) (T := TX7) (N := 9) hx hb hts iX7_layPieces_X7 hown hK hP 0 rfl rfl 8 (by decide) (hts (.fieldLink RX7 29 "TailorChalksModel" "label" "[I") kX7_layPieces_29) (fun _ h9 => h9) rfl dX7_layPieces_113 ?_
                          refine lv_iload hx hb dX7_layPieces_116 (lv_at hl 2 rfl) ?_
                          obtain ⟨r_33, hr_33⟩ : ∃ z, z = F_Model_second x4 := ⟨_, rfl⟩
                          rw [bnd_e hr_33] at hq_4
                          refine ro_calli (va_runS (As := [.int x4]) (rest := [.ref mlb]) ⟨hx, hb, hml, hown, hts⟩ (c_Model_second l dC dI cI cC cG cZ  x4  r_33 hr_33) (va_cwS 1 hts gX7_layPieces_X7_second rfl rfl rfl (by decide +kernel) ⟨Nat.le_of_ble_eq_true rfl, Nat.le_of_ble_eq_true rfl⟩) (ro_preS (hP.sub (ws' := []) [] rfl) hK) rfl rfl hl.1 rfl (lv_room (Nat.le_of_ble_eq_true rfl)) dX7_layPieces_118 ⟨Nat.zero_le _, Nat.zero_le _⟩) hP hS (fun H locs hP hS => ?_)
                          refine va_iald hx hb hK hP 2 0 rfl rfl (by rw [hr_33]; exact second_in (by rw [ex45]; exact vp_in_nI (by omega) (by decide))) dX7_layPieces_121 ?_
                          refine lv_istore (lv' := [(7, .int (w2f r_33.toNatClampNeg)), (6, .int (w2f r_32.toNatClampNeg)), (5, .int 0), (4, .int x4), (3, .int x3), (0, .ref mo), (1, .int but), (2, .int areBluffed)]) hx hb dX7_layPieces_122 hl (by decide) rfl (fun ls hl => ?_)
                          refine lv_iload hx hb dX7_layPieces_124 (lv_at hl 2 rfl) ?_
                          refine lv_if_eq (tgt := 182) hx hb dX7_layPieces_126 (by decide) (fun c_34 => ?_) (fun c_34 => ?_)
                          rotate_left
                          · exact absurd (by decide) c_34
                          refine lv_iinc (v := (x4 + 1)) (lv' := [(4, .int (x4 + 1)), (7, .int (w2f r_33.toNatClampNeg)), (6, .int (w2f r_32.toNatClampNeg)), (5, .int 0), (3, .int x3), (0, .ref mo), (1, .int but), (2, .int areBluffed)]) hx hb dX7_layPieces_182 hl (k := 3) rfl rfl (by decide) rfl (fun ls hl => ?_)
                          refine lv_goto (tgt := 45) hx hb dX7_layPieces_185 (by decide) ?_
                          exact ih45 (k45 + 1) (x4 + 1) x3 w2f _ _ _ (by omega) (by omega) (by rw [ex45]; exact nI_1 _)  hq_4 hP hD hS (lv_sub hl [0, 4, 5, 6, 7] rfl)
                        · rw [if_pos c_31] at hq_4
                          refine lv_iconst (v := 1) hx hb dX7_layPieces_93 (by decide) ?_
                          refine lv_goto (tgt := 98) hx hb dX7_layPieces_94 (by decide) ?_
                          refine lv_istore (lv' := [(5, .int 1), (4, .int x4), (3, .int x3), (0, .ref mo), (1, .int but), (2, .int areBluffed)]) hx hb dX7_layPieces_98 hl (by decide) rfl (fun ls hl => ?_)
                          refine lv_aload_n hx hb dX7_layPieces_100 rfl (lv_at hl 3 rfl) ?_
                          refine va_get (D := (dC, dI)) (ci := 7) (v := .ref mlb) (C := RX7) (T := TX7) (N := 9) hx hb hts iX7_layPieces_X7 hown hK hP 0 rfl rfl 8 (by decide) (hts (.fieldLink RX7 29 "TailorChalksModel" "label" "[I") kX7_layPieces_29) (fun _ h9 => h9) rfl dX7_layPieces_101 ?_
                          refine lv_iload hx hb dX7_layPieces_104 (lv_at hl 1 rfl) ?_
                          obtain ⟨r_35, hr_35⟩ : ∃ z, z = F_Model_first x4 := ⟨_, rfl⟩
                          rw [bnd_e hr_35] at hq_4
                          refine ro_calli (va_runS (As := [.int x4]) (rest := [.ref mlb]) ⟨hx, hb, hml, hown, hts⟩ (c_Model_first l dC dI cI cC cG cZ  x4  r_35 hr_35) (va_cwS 1 hts gX7_layPieces_X7_first rfl rfl rfl (by decide +kernel) ⟨Nat.le_of_ble_eq_true rfl, Nat.le_of_ble_eq_true rfl⟩) (ro_preS (hP.sub (ws' := []) [] rfl) hK) rfl rfl hl.1 rfl (lv_room (Nat.le_of_ble_eq_true rfl)) dX7_layPieces_106 ⟨Nat.zero_le _, Nat.zero_le _⟩) hP hS (fun H locs hP hS => ?_)
                          refine va_iald hx hb hK hP 2 0 rfl rfl (by rw [hr_35]; exact first_in (by rw [ex45]; exact vp_in_nI (by omega) (by decide))) dX7_layPieces_109 ?_
                          refine lv_istore (lv' := [(6, .int (w2f r_35.toNatClampNeg)), (5, .int 1), (4, .int x4), (3, .int x3), (0, .ref mo), (1, .int but), (2, .int areBluffed)]) hx hb dX7_layPieces_110 hl (by decide) rfl (fun ls hl => ?_)
                          refine lv_aload_n hx hb dX7_layPieces_112 rfl (lv_at hl 4 rfl) ?_
                          refine va_get (D := (dC, dI)) (ci := 7) (v := .ref mlb) (C := RX7) (T := TX7) (N := 9) hx hb hts iX7_layPieces_X7 hown hK hP 0 rfl rfl 8 (by decide) (hts (.fieldLink RX7 29 "TailorChalksModel" "label" "[I") kX7_layPieces_29) (fun _ h9 => h9) rfl dX7_layPieces_113 ?_
                          refine lv_iload hx hb dX7_layPieces_116 (lv_at hl 2 rfl) ?_
                          obtain ⟨r_36, hr_36⟩ : ∃ z, z = F_Model_second x4 := ⟨_, rfl⟩
                          rw [bnd_e hr_36] at hq_4
                          refine ro_calli (va_runS (As := [.int x4]) (rest := [.ref mlb]) ⟨hx, hb, hml, hown, hts⟩ (c_Model_second l dC dI cI cC cG cZ  x4  r_36 hr_36) (va_cwS 1 hts gX7_layPieces_X7_second rfl rfl rfl (by decide +kernel) ⟨Nat.le_of_ble_eq_true rfl, Nat.le_of_ble_eq_true rfl⟩) (ro_preS (hP.sub (ws' := []) [] rfl) hK) rfl rfl hl.1 rfl (lv_room (Nat.le_of_ble_eq_true rfl)) dX7_layPieces_118 ⟨Nat.zero_le _, Nat.zero_le _⟩) hP hS (fun H locs hP hS => ?_)
                          refine va_iald hx hb hK hP 2 0 rfl rfl (by rw [hr_36]; exact second_in (by rw [ex45]; exact vp_in_nI (by omega) (by decide))) dX7_layPieces_121 ?_
                          refine lv_istore (lv' := [(7, .int (w2f r_36.toNatClampNeg)), (6, .int (w2f r_35.toNatClampNeg)), (5, .int 1), (4, .int x4), (3, .int x3), (0, .ref mo), (1, .int but), (2, .int areBluffed)]) hx hb dX7_layPieces_122 hl (by decide) rfl (fun ls hl => ?_)
                          refine lv_iload hx hb dX7_layPieces_124 (lv_at hl 2 rfl) ?_
                          refine lv_if_eq (tgt := 182) hx hb dX7_layPieces_126 (by decide) (fun c_37 => ?_) (fun c_37 => ?_)
                          · exact absurd c_37 (by decide)
                          refine lv_iload hx hb dX7_layPieces_129 (lv_at hl 1 rfl) ?_
                          refine lv_iload hx hb dX7_layPieces_131 (lv_at hl 0 rfl) ?_
                          refine lv_icmp_eq (tgt := 182) hx hb dX7_layPieces_133 (by decide) (fun c_38 => ?_) (fun c_38 => ?_)
                          · rw [if_pos c_38] at hq_4
                            refine lv_iinc (v := (x4 + 1)) (lv' := [(4, .int (x4 + 1)), (7, .int (w2f r_36.toNatClampNeg)), (6, .int (w2f r_35.toNatClampNeg)), (5, .int 1), (3, .int x3), (0, .ref mo), (1, .int but), (2, .int areBluffed)]) hx hb dX7_layPieces_182 hl (k := 3) rfl rfl (by decide) rfl (fun ls hl => ?_)
                            refine lv_goto (tgt := 45) hx hb dX7_layPieces_185 (by decide) ?_
                            exact ih45 (k45 + 1) (x4 + 1) x3 w2f _ _ _ (by omega) (by omega) (by rw [ex45]; exact nI_1 _)  hq_4 hP hD hS (lv_sub hl [0, 4, 5, 6, 7] rfl)
                          · rw [if_neg c_38] at hq_4
                            refine lv_aload_n hx hb dX7_layPieces_136 rfl (lv_at hl 5 rfl) ?_
                            refine va_get (D := (dC, dI)) (ci := 7) (v := .ref mlb) (C := RX7) (T := TX7) (N := 9) hx hb hts iX7_layPieces_X7 hown hK hP 0 rfl rfl 8 (by decide) (hts (.fieldLink RX7 29 "TailorChalksModel" "label" "[I") kX7_layPieces_29) (fun _ h9 => h9) rfl dX7_layPieces_137 ?_
                            refine lv_iload hx hb dX7_layPieces_140 (lv_at hl 3 rfl) ?_
                            obtain ⟨r_39, hr_39⟩ : ∃ z, z = F_Model_first x4 := ⟨_, rfl⟩
                            rw [bnd_e hr_39] at hq_4
                            refine ro_calli (va_runS (As := [.int x4]) (rest := [.ref mlb]) ⟨hx, hb, hml, hown, hts⟩ (c_Model_first l dC dI cI cC cG cZ  x4  r_39 hr_39) (va_cwS 1 hts gX7_layPieces_X7_first rfl rfl rfl (by decide +kernel) ⟨Nat.le_of_ble_eq_true rfl, Nat.le_of_ble_eq_true rfl⟩) (ro_preS (hP.sub (ws' := []) [] rfl) hK) rfl rfl hl.1 rfl (lv_room (Nat.le_of_ble_eq_true rfl)) dX7_layPieces_142 ⟨Nat.zero_le _, Nat.zero_le _⟩) hP hS (fun H locs hP hS => ?_)
                            refine lv_iload hx hb dX7_layPieces_145 (lv_at hl 1 rfl) ?_
                            refine lv_iload hx hb dX7_layPieces_147 (lv_at hl 0 rfl) ?_
                            refine lv_icmp_ge (tgt := 157) hx hb dX7_layPieces_149 (by decide) (fun c_40 => ?_) (fun c_40 => ?_)
                            · rw [if_pos c_40] at hq_4
                              refine lv_iload hx hb dX7_layPieces_157 (lv_at hl 0 rfl) ?_
                              refine va_iast hx hb hK hP hD hS 2 0 rfl rfl (by rw [hr_39]; exact first_in (by rw [ex45]; exact vp_in_nI (by omega) (by decide))) dX7_layPieces_159 (fun H locs hP hD hS => ?_)
                              have hP : va_P (dC, dI) vwCl [(mo, .inr (7, [.ref ms, .ref mah, .ref mhi, .int vkp, .ref msl, .ref msv, .ref mpd, .int vln, .ref mlb])), (ms, .inl (cI, 246, .inl vs)), (mlb, .inl (cI, 48, .inl (upd w2f r_39.toNatClampNeg (w2f r_36.toNatClampNeg))))] H := hP
                              have hD : va_D A [(mo, .inr (7, [.ref ms, .ref mah, .ref mhi, .int vkp, .ref msl, .ref msv, .ref mpd, .int vln, .ref mlb])), (ms, .inl (cI, 246, .inl vs)), (mlb, .inl (cI, 48, .inl (upd w2f r_39.toNatClampNeg (w2f r_36.toNatClampNeg))))] := hD
                              refine lv_aload_n hx hb dX7_layPieces_160 rfl (lv_at hl 5 rfl) ?_
                              refine va_get (D := (dC, dI)) (ci := 7) (v := .ref mlb) (C := RX7) (T := TX7) (N := 9) hx hb hts iX7_layPieces_X7 hown hK hP 0 rfl rfl 8 (by decide) (hts (.fieldLink RX7 29 "TailorChalksModel" "label" "[I") kX7_layPieces_29) (fun _ h9 => h9) rfl dX7_layPieces_161 ?_
                              refine lv_iload hx hb dX7_layPieces_164 (lv_at hl 3 rfl) ?_
                              obtain ⟨r_41, hr_41⟩ : ∃ z, z = F_Model_second x4 := ⟨_, rfl⟩
                              rw [bnd_e hr_41] at hq_4
                              refine ro_calli (va_runS (As := [.int x4]) (rest := [.ref mlb]) ⟨hx, hb, hml, hown, hts⟩ (c_Model_second l dC dI cI cC cG cZ  x4  r_41 hr_41) (va_cwS 1 hts gX7_layPieces_X7_second rfl rfl rfl (by decide +kernel) ⟨Nat.le_of_ble_eq_true rfl, Nat.le_of_ble_eq_true rfl⟩) (ro_preS (hP.sub (ws' := []) [] rfl) hK) rfl rfl hl.1 rfl (lv_room (Nat.le_of_ble_eq_true rfl)) dX7_layPieces_166 ⟨Nat.zero_le _, Nat.zero_le _⟩) hP hS (fun H locs hP hS => ?_)
                              refine lv_aload_n hx hb dX7_layPieces_169 rfl (lv_at hl 5 rfl) ?_
                              refine va_get (D := (dC, dI)) (ci := 7) (v := .ref mlb) (C := RX7) (T := TX7) (N := 9) hx hb hts iX7_layPieces_X7 hown hK hP 0 rfl rfl 8 (by decide) (hts (.fieldLink RX7 29 "TailorChalksModel" "label" "[I") kX7_layPieces_29) (fun _ h9 => h9) rfl dX7_layPieces_170 ?_
                              refine lv_iload hx hb dX7_layPieces_173 (lv_at hl 3 rfl) ?_
                              obtain ⟨r_42, hr_42⟩ : ∃ z, z = F_Model_first x4 := ⟨_, rfl⟩
                              rw [bnd_e hr_42] at hq_4
                              refine ro_calli (va_runS (As := [.int x4]) (rest := [.ref mlb, .int r_41, .ref mlb]) ⟨hx, hb, hml, hown, hts⟩ (c_Model_first l dC dI cI cC cG cZ  x4  r_42 hr_42) (va_cwS 1 hts gX7_layPieces_X7_first rfl rfl rfl (by decide +kernel) ⟨Nat.le_of_ble_eq_true rfl, Nat.le_of_ble_eq_true rfl⟩) (ro_preS (hP.sub (ws' := []) [] rfl) hK) rfl rfl hl.1 rfl (lv_room (Nat.le_of_ble_eq_true rfl)) dX7_layPieces_175 ⟨Nat.zero_le _, Nat.zero_le _⟩) hP hS (fun H locs hP hS => ?_)
                              refine va_iald hx hb hK hP 2 0 rfl rfl (by rw [hr_42]; exact first_in (by rw [ex45]; exact vp_in_nI (by omega) (by decide))) dX7_layPieces_178 ?_
                              refine va_iast hx hb hK hP hD hS 2 0 rfl rfl (by rw [hr_41]; exact second_in (by rw [ex45]; exact vp_in_nI (by omega) (by decide))) dX7_layPieces_179 (fun H locs hP hD hS => ?_)
                              have hP : va_P (dC, dI) vwCl [(mo, .inr (7, [.ref ms, .ref mah, .ref mhi, .int vkp, .ref msl, .ref msv, .ref mpd, .int vln, .ref mlb])), (ms, .inl (cI, 246, .inl vs)), (mlb, .inl (cI, 48, .inl (upd (upd w2f r_39.toNatClampNeg (w2f r_36.toNatClampNeg)) r_41.toNatClampNeg ((upd w2f r_39.toNatClampNeg (w2f r_36.toNatClampNeg)) r_42.toNatClampNeg))))] H := hP
                              have hD : va_D A [(mo, .inr (7, [.ref ms, .ref mah, .ref mhi, .int vkp, .ref msl, .ref msv, .ref mpd, .int vln, .ref mlb])), (ms, .inl (cI, 246, .inl vs)), (mlb, .inl (cI, 48, .inl (upd (upd w2f r_39.toNatClampNeg (w2f r_36.toNatClampNeg)) r_41.toNatClampNeg ((upd w2f r_39.toNatClampNeg (w2f r_36.toNatClampNeg)) r_42.toNatClampNeg))))] := hD
                              refine lv_iconst (v := 1) hx hb dX7_layPieces_180 (by decide) ?_
                              refine lv_istore_n (lv' := [(3, .int 1), (7, .int (w2f r_36.toNatClampNeg)), (6, .int (w2f r_35.toNatClampNeg)), (5, .int 1), (4, .int x4), (0, .ref mo), (1, .int but), (2, .int areBluffed)]) hx hb dX7_layPieces_181 rfl hl (by decide) rfl (fun ls hl => ?_)
                              refine lv_iinc (v := (x4 + 1)) (lv' := [(4, .int (x4 + 1)), (3, .int 1), (7, .int (w2f r_36.toNatClampNeg)), (6, .int (w2f r_35.toNatClampNeg)), (5, .int 1), (0, .ref mo), (1, .int but), (2, .int areBluffed)]) hx hb dX7_layPieces_182 hl (k := 4) rfl rfl (by decide) rfl (fun ls hl => ?_)
                              refine lv_goto (tgt := 45) hx hb dX7_layPieces_185 (by decide) ?_
                              exact ih45 (k45 + 1) (x4 + 1) (1 : Int32) (upd (upd w2f r_39.toNatClampNeg (w2f r_36.toNatClampNeg)) r_41.toNatClampNeg ((upd w2f r_39.toNatClampNeg (w2f r_36.toNatClampNeg)) r_42.toNatClampNeg)) _ _ _ (by omega) (by omega) (by rw [ex45]; exact nI_1 _)  hq_4 hP hD hS (lv_sub hl [0, 1, 5, 6, 7] rfl)
                            · rw [if_neg c_40] at hq_4
                              refine lv_iload hx hb dX7_layPieces_152 (lv_at hl 1 rfl) ?_
                              refine lv_goto (tgt := 159) hx hb dX7_layPieces_154 (by decide) ?_
                              refine va_iast hx hb hK hP hD hS 2 0 rfl rfl (by rw [hr_39]; exact first_in (by rw [ex45]; exact vp_in_nI (by omega) (by decide))) dX7_layPieces_159 (fun H locs hP hD hS => ?_)
                              have hP : va_P (dC, dI) vwCl [(mo, .inr (7, [.ref ms, .ref mah, .ref mhi, .int vkp, .ref msl, .ref msv, .ref mpd, .int vln, .ref mlb])), (ms, .inl (cI, 246, .inl vs)), (mlb, .inl (cI, 48, .inl (upd w2f r_39.toNatClampNeg (w2f r_35.toNatClampNeg))))] H := hP
                              have hD : va_D A [(mo, .inr (7, [.ref ms, .ref mah, .ref mhi, .int vkp, .ref msl, .ref msv, .ref mpd, .int vln, .ref mlb])), (ms, .inl (cI, 246, .inl vs)), (mlb, .inl (cI, 48, .inl (upd w2f r_39.toNatClampNeg (w2f r_35.toNatClampNeg))))] := hD
                              refine lv_aload_n hx hb dX7_layPieces_160 rfl (lv_at hl 5 rfl) ?_
                              refine va_get (D := (dC, dI)) (ci := 7) (v := .ref mlb) (C := RX7) (T := TX7) (N := 9) hx hb hts iX7_layPieces_X7 hown hK hP 0 rfl rfl 8 (by decide) (hts (.fieldLink RX7 29 "TailorChalksModel" "label" "[I") kX7_layPieces_29) (fun _ h9 => h9) rfl dX7_layPieces_161 ?_
                              refine lv_iload hx hb dX7_layPieces_164 (lv_at hl 3 rfl) ?_
                              obtain ⟨r_43, hr_43⟩ : ∃ z, z = F_Model_second x4 := ⟨_, rfl⟩
                              rw [bnd_e hr_43] at hq_4
                              refine ro_calli (va_runS (As := [.int x4]) (rest := [.ref mlb]) ⟨hx, hb, hml, hown, hts⟩ (c_Model_second l dC dI cI cC cG cZ  x4  r_43 hr_43) (va_cwS 1 hts gX7_layPieces_X7_second rfl rfl rfl (by decide +kernel) ⟨Nat.le_of_ble_eq_true rfl, Nat.le_of_ble_eq_true rfl⟩) (ro_preS (hP.sub (ws' := []) [] rfl) hK) rfl rfl hl.1 rfl (lv_room (Nat.le_of_ble_eq_true rfl)) dX7_layPieces_166 ⟨Nat.zero_le _, Nat.zero_le _⟩) hP hS (fun H locs hP hS => ?_)
                              refine lv_aload_n hx hb dX7_layPieces_169 rfl (lv_at hl 5 rfl) ?_
                              refine va_get (D := (dC, dI)) (ci := 7) (v := .ref mlb) (C := RX7) (T := TX7) (N := 9) hx hb hts iX7_layPieces_X7 hown hK hP 0 rfl rfl 8 (by decide) (hts (.fieldLink RX7 29 "TailorChalksModel" "label" "[I") kX7_layPieces_29) (fun _ h9 => h9) rfl dX7_layPieces_170 ?_
                              refine lv_iload hx hb dX7_layPieces_173 (lv_at hl 3 rfl) ?_
                              obtain ⟨r_44, hr_44⟩ : ∃ z, z = F_Model_first x4 := ⟨_, rfl⟩
                              rw [bnd_e hr_44] at hq_4
                              refine ro_calli (va_runS (As := [.int x4]) (rest := [.ref mlb, .int r_43, .ref mlb]) ⟨hx, hb, hml, hown, hts⟩ (c_Model_first l dC dI cI cC cG cZ  x4  r_44 hr_44) (va_cwS 1 hts gX7_layPieces_X7_first rfl rfl rfl (by decide +kernel) ⟨Nat.le_of_ble_eq_true rfl, Nat.le_of_ble_eq_true rfl⟩) (ro_preS (hP.sub (ws' := []) [] rfl) hK) rfl rfl hl.1 rfl (lv_room (Nat.le_of_ble_eq_true rfl)) dX7_layPieces_175 ⟨Nat.zero_le _, Nat.zero_le _⟩) hP hS (fun H locs hP hS => ?_)
                              refine va_iald hx hb hK hP 2 0 rfl rfl (by rw [hr_44]; exact first_in (by rw [ex45]; exact vp_in_nI (by omega) (by decide))) dX7_layPieces_178 ?_
                              refine va_iast hx hb hK hP hD hS 2 0 rfl rfl (by rw [hr_43]; exact second_in (by rw [ex45]; exact vp_in_nI (by omega) (by decide))) dX7_layPieces_179 (fun H locs hP hD hS => ?_)
                              have hP : va_P (dC, dI) vwCl [(mo, .inr (7, [.ref ms, .ref mah, .ref mhi, .int vkp, .ref msl, .ref msv, .ref mpd, .int vln, .ref mlb])), (ms, .inl (cI, 246, .inl vs)), (mlb, .inl (cI, 48, .inl (upd (upd w2f r_39.toNatClampNeg (w2f r_35.toNatClampNeg)) r_43.toNatClampNeg ((upd w2f r_39.toNatClampNeg (w2f r_35.toNatClampNeg)) r_44.toNatClampNeg))))] H := hP
                              have hD : va_D A [(mo, .inr (7, [.ref ms, .ref mah, .ref mhi, .int vkp, .ref msl, .ref msv, .ref mpd, .int vln, .ref mlb])), (ms, .inl (cI, 246, .inl vs)), (mlb, .inl (cI, 48, .inl (upd (upd w2f r_39.toNatClampNeg (w2f r_35.toNatClampNeg)) r_43.toNatClampNeg ((upd w2f r_39.toNatClampNeg (w2f r_35.toNatClampNeg)) r_44.toNatClampNeg))))] := hD
                              refine lv_iconst (v := 1) hx hb dX7_layPieces_180 (by decide) ?_
                              refine lv_istore_n (lv' := [(3, .int 1), (7, .int (w2f r_36.toNatClampNeg)), (6, .int (w2f r_35.toNatClampNeg)), (5, .int 1), (4, .int x4), (0, .ref mo), (1, .int but), (2, .int areBluffed)]) hx hb dX7_layPieces_181 rfl hl (by decide) rfl (fun ls hl => ?_)
                              refine lv_iinc (v := (x4 + 1)) (lv' := [(4, .int (x4 + 1)), (3, .int 1), (7, .int (w2f r_36.toNatClampNeg)), (6, .int (w2f r_35.toNatClampNeg)), (5, .int 1), (0, .ref mo), (1, .int but), (2, .int areBluffed)]) hx hb dX7_layPieces_182 hl (k := 4) rfl rfl (by decide) rfl (fun ls hl => ?_)
                              refine lv_goto (tgt := 45) hx hb dX7_layPieces_185 (by decide) ?_
                              exact ih45 (k45 + 1) (x4 + 1) (1 : Int32) (upd (upd w2f r_39.toNatClampNeg (w2f r_35.toNatClampNeg)) r_43.toNatClampNeg ((upd w2f r_39.toNatClampNeg (w2f r_35.toNatClampNeg)) r_44.toNatClampNeg)) _ _ _ (by omega) (by omega) (by rw [ex45]; exact nI_1 _)  hq_4 hP hD hS (lv_sub hl [0, 1, 5, 6, 7] rfl)
          exact hloop45 83 0 (0 : Int32) (0 : Int32) w2f _ _ _ (by omega) (by omega) nI_0.symm  hq_4 hP hD hS (lv_sub hl [0, 1, 2, 3, 4] rfl)
    exact hloop36 2700 (1 : Int32) q_1.2 _ _ _ hok36  hq_2 hP hD hS (lv_sub hl [0, 1, 2, 3] rfl)
  have hloop2 : ∀ (n k2 : Nat) (x3 : Int32) (w2f : Nat → Int32) (H : Heap) (locs : List Loc) (ls : Array Slot), k2 ≤ 48 → 48 - k2 < n → x3 = nI k2 → q_1 = F_Model_layPieces_L2 but areBluffed vs vlb n x3 w2f → va_P (dC, dI) vwCl [(mo, .inr (7, [.ref ms, .ref mah, .ref mhi, .int vkp, .ref msl, .ref msv, .ref mpd, .int vln, .ref mlb])), (ms, .inl (cI, 246, .inl vs)), (mlb, .inl (cI, 48, .inl w2f))] H → va_D A [(mo, .inr (7, [.ref ms, .ref mah, .ref mhi, .int vkp, .ref msl, .ref msv, .ref mpd, .int vln, .ref mlb])), (ms, .inl (cI, 246, .inl vs)), (mlb, .inl (cI, 48, .inl w2f))] → va_S A s.heap H locs → lv_has ls 8 [(3, .int x3), (0, .ref mo), (1, .int but), (2, .int areBluffed)] → W p l e (headSpec wsX7_layPieces ({ frames := 4, cells := 0, slots := 0, locals := 82 })).room s m ([.ref mo, .int but, .int areBluffed] : List Value).toArray below meth c H locs 0 0 (MQ below (va_Qv (fun (_ : Unit) => True) (fun _ zt => va_P (dC, dI) vwCl [(mo, .inr (7, [.ref ms, .ref mah, .ref mhi, .int vkp, .ref msl, .ref msv, .ref mpd, .int vln, .ref mlb])), (ms, .inl (cI, 246, .inl vs)), (mlb, .inl (cI, 48, .inl res))] zt.heap) A) ([.ref mo, .int but, .int areBluffed] : List Value).toArray s 0 0 A) (F0 m 2 ls []) := by
    intro n
    induction n with
    | zero => intro k2 x3 w2f _ _ _ _ hm; exact absurd hm (Nat.not_lt_zero _)
    | succ n ih2 =>
      intro k2 x3 w2f H locs ls hk2 hm2 ex2  hq_1 hP hD hS hl
      rw [F_Model_layPieces_L2] at hq_1
      refine lv_iload_n hx hb dX7_layPieces_2 rfl (lv_at hl 0 rfl) ?_
      refine lv_bipush (v := 48) hx hb dX7_layPieces_3 (by decide) ?_
      refine lv_icmp_ge (tgt := 34) hx hb dX7_layPieces_5 (by decide) (fun c_45 => ?_) (fun c_45 => ?_)
      · rw [if_pos c_45] at hq_1
        subst hq_1
        exact hexit2 _ _ _  hP hD hS (lv_sub hl [0, 1, 2, 3] rfl)
      · rw [if_neg c_45] at hq_1
        have hlt_k2 : k2 < 48 := lp_lt rfl ex2 hk2 c_45
        refine lv_aload_n hx hb dX7_layPieces_8 rfl (lv_at hl 1 rfl) ?_
        refine va_get (D := (dC, dI)) (ci := 7) (v := .ref mlb) (C := RX7) (T := TX7) (N := 9) hx hb hts iX7_layPieces_X7 hown hK hP 0 rfl rfl 8 (by decide) (hts (.fieldLink RX7 29 "TailorChalksModel" "label" "[I") kX7_layPieces_29) (fun _ h9 => h9) rfl dX7_layPieces_9 ?_
        refine lv_iload_n hx hb dX7_layPieces_12 rfl (lv_at hl 0 rfl) ?_
        refine lv_aload_n hx hb dX7_layPieces_13 rfl (lv_at hl 1 rfl) ?_
        refine lv_iload_n hx hb dX7_layPieces_14 rfl (lv_at hl 0 rfl) ?_
        obtain ⟨r_46, hr_46⟩ : ∃ z, z = F_Model_isGone x3 vs := ⟨_, rfl⟩
        rw [bnd_e hr_46] at hq_1
        refine ro_calli (va_runV (As := [.int x3]) (rest := [.int x3, .ref mlb]) ⟨hx, hb, hml, hown, hts⟩ (c_Model_isGone l dC dI cI cC cG cZ mo ms mah mhi msl msv mpd mlb x3 vkp vln vs (by rw [ex2]; exact vp_in_nI (by omega) (by decide)) r_46 hr_46) (cwV 1 hts gX7_layPieces_X7_isGone rfl rfl rfl (by decide +kernel) ⟨Nat.le_of_ble_eq_true rfl, Nat.le_of_ble_eq_true rfl⟩) (ro_preV (hP.sub (ws' := [(mo, .inr (7, [.ref ms, .ref mah, .ref mhi, .int vkp, .ref msl, .ref msv, .ref mpd, .int vln, .ref mlb])), (ms, .inl (cI, 246, .inl vs))]) [0, 1] rfl) hK (ci := 7) (q0 := 0) rfl rfl) rfl rfl hl.1 rfl (lv_room (Nat.le_of_ble_eq_true rfl)) dX7_layPieces_15 ⟨Nat.zero_le _, Nat.zero_le _⟩) hP hS (fun H locs hP hS => ?_)
        refine lv_if_eq (tgt := 26) hx hb dX7_layPieces_18 (by decide) (fun c_47 => ?_) (fun c_47 => ?_)
        · rw [if_pos c_47] at hq_1
          refine lv_iload_n hx hb dX7_layPieces_26 rfl (lv_at hl 0 rfl) ?_
          refine va_iast hx hb hK hP hD hS 2 0 rfl rfl (by rw [ex2]; exact vp_in_nI (by omega) (by decide)) dX7_layPieces_27 (fun H locs hP hD hS => ?_)
          have hP : va_P (dC, dI) vwCl [(mo, .inr (7, [.ref ms, .ref mah, .ref mhi, .int vkp, .ref msl, .ref msv, .ref mpd, .int vln, .ref mlb])), (ms, .inl (cI, 246, .inl vs)), (mlb, .inl (cI, 48, .inl (upd w2f x3.toNatClampNeg x3)))] H := hP
          have hD : va_D A [(mo, .inr (7, [.ref ms, .ref mah, .ref mhi, .int vkp, .ref msl, .ref msv, .ref mpd, .int vln, .ref mlb])), (ms, .inl (cI, 246, .inl vs)), (mlb, .inl (cI, 48, .inl (upd w2f x3.toNatClampNeg x3)))] := hD
          refine lv_iinc (v := (x3 + 1)) (lv' := [(3, .int (x3 + 1)), (0, .ref mo), (1, .int but), (2, .int areBluffed)]) hx hb dX7_layPieces_28 hl (k := 0) rfl rfl (by decide) rfl (fun ls hl => ?_)
          refine lv_goto (tgt := 2) hx hb dX7_layPieces_31 (by decide) ?_
          exact ih2 (k2 + 1) (x3 + 1) (upd w2f x3.toNatClampNeg x3) _ _ _ (by omega) (by omega) (by rw [ex2]; exact nI_1 _)  hq_1 hP hD hS (lv_sub hl [0, 1, 2, 3] rfl)
        · rw [if_neg c_47] at hq_1
          refine lv_bipush (v := (-6)) hx hb dX7_layPieces_21 (by decide) ?_
          refine lv_goto (tgt := 27) hx hb dX7_layPieces_23 (by decide) ?_
          refine va_iast hx hb hK hP hD hS 2 0 rfl rfl (by rw [ex2]; exact vp_in_nI (by omega) (by decide)) dX7_layPieces_27 (fun H locs hP hD hS => ?_)
          have hP : va_P (dC, dI) vwCl [(mo, .inr (7, [.ref ms, .ref mah, .ref mhi, .int vkp, .ref msl, .ref msv, .ref mpd, .int vln, .ref mlb])), (ms, .inl (cI, 246, .inl vs)), (mlb, .inl (cI, 48, .inl (upd w2f x3.toNatClampNeg (-6))))] H := hP
          have hD : va_D A [(mo, .inr (7, [.ref ms, .ref mah, .ref mhi, .int vkp, .ref msl, .ref msv, .ref mpd, .int vln, .ref mlb])), (ms, .inl (cI, 246, .inl vs)), (mlb, .inl (cI, 48, .inl (upd w2f x3.toNatClampNeg (-6))))] := hD
          refine lv_iinc (v := (x3 + 1)) (lv' := [(3, .int (x3 + 1)), (0, .ref mo), (1, .int but), (2, .int areBluffed)]) hx hb dX7_layPieces_28 hl (k := 0) rfl rfl (by decide) rfl (fun ls hl => ?_)
          refine lv_goto (tgt := 2) hx hb dX7_layPieces_31 (by decide) ?_
          exact ih2 (k2 + 1) (x3 + 1) (upd w2f x3.toNatClampNeg (-6)) _ _ _ (by omega) (by omega) (by rw [ex2]; exact nI_1 _)  hq_1 hP hD hS (lv_sub hl [0, 1, 2, 3] rfl)
  exact hloop2 49 0 (0 : Int32) vlb _ _ _ (by omega) (by omega) nI_0.symm  hq_1 hP hD hS (lv_sub hl [0, 1, 2, 3] rfl)
theorem iX7_fallsBy_X7 : ∀ w ∈ u_ws RX7 TX7 9, w ∈ wsX7_fallsBy := by decide +kernel
theorem kX7_fallsBy_29 : Cond.fieldLink RX7 29 "TailorChalksModel" "label" "[I" ∈ wsX7_fallsBy := by decide +kernel
def F_Model_fallsBy (joint : Int32) (vs : Nat → Int32) (vlb : Nat → Int32) : Int32 × (Nat → Int32) := (bnd (F_Model_layPieces joint (0 : Int32) vs vlb) (fun r_1 => (bnd (F_Model_first joint) (fun r_2 => (bnd (F_Model_second joint) (fun r_3 => (bnd (F_Model_cellsOf (r_1 r_2.toNatClampNeg) r_1) (fun r_4 => (bnd (F_Model_cellsOf (r_1 r_3.toNatClampNeg) r_1) (fun r_5 => (if r_5 ≤ r_4 then (if (r_1 r_2.toNatClampNeg) = (r_1 r_3.toNatClampNeg) then ((-6), r_1) else (bnd (F_Model_cellsOf (r_1 r_3.toNatClampNeg) r_1) (fun r_8 => (if r_8 ≤ 12 then ((r_1 r_3.toNatClampNeg), r_1) else ((-6), r_1))))) else (if (r_1 r_2.toNatClampNeg) = (r_1 r_3.toNatClampNeg) then ((-6), r_1) else (bnd (F_Model_cellsOf (r_1 r_2.toNatClampNeg) r_1) (fun r_11 => (if r_11 ≤ 12 then ((r_1 r_2.toNatClampNeg), r_1) else ((-6), r_1))))))))))))))))
set_option maxHeartbeats 4000000 in
set_option maxRecDepth 100000 in
theorem c_Model_fallsBy (l : Launch) (dC : Nat → ClassId) (dI : Nat → Nat → Nat) (cI cC cG cZ : ClassId) (mo ms mah mhi msl msv mpd mlb : Nat) (joint : Int32) (vkp : Int32) (vln : Int32) (vs : Nat → Int32) (vlb : Nat → Int32) (hj : vp_in joint 82) (res : Int32 × (Nat → Int32)) (hres : res = F_Model_fallsBy joint vs vlb) : Met l yX7_fallsBy wsX7_fallsBy ({ frames := 5, cells := 0, slots := 0, locals := 109 }) (va_Pc [.ref mo, .int joint] (wr_P (dC, dI) vwCl (tyL cI cC cG cZ) [(mo, .inr (7, [.ref ms, .ref mah, .ref mhi, .int vkp, .ref msl, .ref msv, .ref mpd, .int vln, .ref mlb])), (ms, .inl (cI, 246, .inl vs)), (mlb, .inl (cI, 48, .inl vlb))])) (va_Qi (fun r (_ : Unit) => r = res.1) (fun _ zt => va_P (dC, dI) vwCl [(mo, .inr (7, [.ref ms, .ref mah, .ref mhi, .int vkp, .ref msl, .ref msv, .ref mpd, .int vln, .ref mlb])), (ms, .inl (cI, 246, .inl vs)), (mlb, .inl (cI, 48, .inl res.2))] zt.heap) (wr_A [(mo, .inr (7, [.ref ms, .ref mah, .ref mhi, .int vkp, .ref msl, .ref msv, .ref mpd, .int vln, .ref mlb])), (ms, .inl (cI, 246, .inl vs)), (mlb, .inl (cI, 48, .inl vlb))])) 0 0 (wr_A [(mo, .inr (7, [.ref ms, .ref mah, .ref mhi, .int vkp, .ref msl, .ref msv, .ref mpd, .int vln, .ref mlb])), (ms, .inl (cI, 246, .inl vs)), (mlb, .inl (cI, 48, .inl vlb))]) := by
  refine Met.ofW (cc := cX7_fallsBy) (maxL := 5) (ret := (some .int)) (by decide) rfl ?_
  intro p e s m args below meth c s₁ B hml hv
  obtain ⟨rfl, hP, hK, hD0⟩ := hv
  have hx := B.exec
  have hb := B.bytes
  have hr := B.returns
  have hts := atoms_spec (ws := wsX7_fallsBy) B.pre
  have hown : s.vm.findClass RX7 = some m.cls := findClass_of_methodNamed B.named
  have hlocks := B.notSynchronized
  have hD := wr_self hD0
  generalize hAe : wr_A [(mo, .inr (7, [.ref ms, .ref mah, .ref mhi, .int vkp, .ref msl, .ref msv, .ref mpd, .int vln, .ref mlb])), (ms, .inl (cI, 246, .inl vs)), (mlb, .inl (cI, 48, .inl vlb))] = A at hD ⊢
  have hS : va_S A s.heap s.heap [] := va_S.rf
  have hP : va_P (dC, dI) vwCl [(mo, .inr (7, [.ref ms, .ref mah, .ref mhi, .int vkp, .ref msl, .ref msv, .ref mpd, .int vln, .ref mlb])), (ms, .inl (cI, 246, .inl vs)), (mlb, .inl (cI, 48, .inl vlb))] s.heap := hP
  have hl := lv_entry ([.ref mo, .int joint]) (n := 5) (Nat.le_of_ble_eq_true rfl)
  rw [lg_entry_eq]
  generalize (lg_sl ([.ref mo, .int joint]) ++ List.replicate (5 - (lg_sl ([.ref mo, .int joint])).length) Slot.unset).toArray = ls at hl ⊢
  have hl : lv_has ls 5 [(0, .ref mo), (1, .int joint)] := hl
  rw [F_Model_fallsBy] at hres
  refine lv_aload_n hx hb dX7_fallsBy_0 rfl (lv_at hl 0 rfl) ?_
  refine lv_iload_n hx hb dX7_fallsBy_1 rfl (lv_at hl 1 rfl) ?_
  refine lv_iconst (v := 0) hx hb dX7_fallsBy_2 (by decide) ?_
  obtain ⟨r_1, hr_1⟩ : ∃ z, z = F_Model_layPieces joint (0 : Int32) vs vlb := ⟨_, rfl⟩
  rw [bnd_e hr_1] at hres
  refine wr_callv (w1 := [(mo, .inr (7, [.ref ms, .ref mah, .ref mhi, .int vkp, .ref msl, .ref msv, .ref mpd, .int vln, .ref mlb])), (ms, .inl (cI, 246, .inl vs)), (mlb, .inl (cI, 48, .inl r_1))]) (is := [0, 1, 2]) (va_runV (As := [.int joint, .int 0]) (rest := []) ⟨hx, hb, hml, hown, hts⟩ (c_Model_layPieces l dC dI cI cC cG cZ mo ms mah mhi msl msv mpd mlb joint (0 : Int32) vkp vln vs vlb  r_1 hr_1) (cwV 2 hts gX7_fallsBy_X7_layPieces rfl rfl rfl (by decide +kernel) ⟨Nat.le_of_ble_eq_true rfl, Nat.le_of_ble_eq_true rfl⟩) (wr_preV (hP.sub (ws' := [(mo, .inr (7, [.ref ms, .ref mah, .ref mhi, .int vkp, .ref msl, .ref msv, .ref mpd, .int vln, .ref mlb])), (ms, .inl (cI, 246, .inl vs)), (mlb, .inl (cI, 48, .inl vlb))]) [0, 1, 2] rfl) hK (hD.sub (ws' := [(mo, .inr (7, [.ref ms, .ref mah, .ref mhi, .int vkp, .ref msl, .ref msv, .ref mpd, .int vln, .ref mlb])), (ms, .inl (cI, 246, .inl vs)), (mlb, .inl (cI, 48, .inl vlb))]) [0, 1, 2] (by decide) rfl) (ci := 7) (q0 := 0) rfl rfl) rfl rfl hl.1 rfl (lv_room (Nat.le_of_ble_eq_true rfl)) dX7_fallsBy_3 ⟨Nat.zero_le _, Nat.zero_le _⟩) hP hD hS rfl rfl rfl (fun H locs hP hD hS => ?_)
  have hP : va_P (dC, dI) vwCl [(mo, .inr (7, [.ref ms, .ref mah, .ref mhi, .int vkp, .ref msl, .ref msv, .ref mpd, .int vln, .ref mlb])), (ms, .inl (cI, 246, .inl vs)), (mlb, .inl (cI, 48, .inl r_1))] H := hP
  have hD : va_D A [(mo, .inr (7, [.ref ms, .ref mah, .ref mhi, .int vkp, .ref msl, .ref msv, .ref mpd, .int vln, .ref mlb])), (ms, .inl (cI, 246, .inl vs)), (mlb, .inl (cI, 48, .inl r_1))] := hD
  refine lv_aload_n hx hb dX7_fallsBy_6 rfl (lv_at hl 0 rfl) ?_
  refine va_get (D := (dC, dI)) (ci := 7) (v := .ref mlb) (C := RX7) (T := TX7) (N := 9) hx hb hts iX7_fallsBy_X7 hown hK hP 0 rfl rfl 8 (by decide) (hts (.fieldLink RX7 29 "TailorChalksModel" "label" "[I") kX7_fallsBy_29) (fun _ h9 => h9) rfl dX7_fallsBy_7 ?_
  refine lv_iload_n hx hb dX7_fallsBy_10 rfl (lv_at hl 1 rfl) ?_
  obtain ⟨r_2, hr_2⟩ : ∃ z, z = F_Model_first joint := ⟨_, rfl⟩
  rw [bnd_e hr_2] at hres
  refine ro_calli (va_runS (As := [.int joint]) (rest := [.ref mlb]) ⟨hx, hb, hml, hown, hts⟩ (c_Model_first l dC dI cI cC cG cZ  joint  r_2 hr_2) (va_cwS 1 hts gX7_fallsBy_X7_first rfl rfl rfl (by decide +kernel) ⟨Nat.le_of_ble_eq_true rfl, Nat.le_of_ble_eq_true rfl⟩) (ro_preS (hP.sub (ws' := []) [] rfl) hK) rfl rfl hl.1 rfl (lv_room (Nat.le_of_ble_eq_true rfl)) dX7_fallsBy_11 ⟨Nat.zero_le _, Nat.zero_le _⟩) hP hS (fun H locs hP hS => ?_)
  refine va_iald hx hb hK hP 2 0 rfl rfl (by rw [hr_2]; exact first_in hj) dX7_fallsBy_14 ?_
  refine lv_istore_n (lv' := [(2, .int (r_1 r_2.toNatClampNeg)), (0, .ref mo), (1, .int joint)]) hx hb dX7_fallsBy_15 rfl hl (by decide) rfl (fun ls hl => ?_)
  refine lv_aload_n hx hb dX7_fallsBy_16 rfl (lv_at hl 1 rfl) ?_
  refine va_get (D := (dC, dI)) (ci := 7) (v := .ref mlb) (C := RX7) (T := TX7) (N := 9) hx hb hts iX7_fallsBy_X7 hown hK hP 0 rfl rfl 8 (by decide) (hts (.fieldLink RX7 29 "TailorChalksModel" "label" "[I") kX7_fallsBy_29) (fun _ h9 => h9) rfl dX7_fallsBy_17 ?_
  refine lv_iload_n hx hb dX7_fallsBy_20 rfl (lv_at hl 2 rfl) ?_
  obtain ⟨r_3, hr_3⟩ : ∃ z, z = F_Model_second joint := ⟨_, rfl⟩
  rw [bnd_e hr_3] at hres
  refine ro_calli (va_runS (As := [.int joint]) (rest := [.ref mlb]) ⟨hx, hb, hml, hown, hts⟩ (c_Model_second l dC dI cI cC cG cZ  joint  r_3 hr_3) (va_cwS 1 hts gX7_fallsBy_X7_second rfl rfl rfl (by decide +kernel) ⟨Nat.le_of_ble_eq_true rfl, Nat.le_of_ble_eq_true rfl⟩) (ro_preS (hP.sub (ws' := []) [] rfl) hK) rfl rfl hl.1 rfl (lv_room (Nat.le_of_ble_eq_true rfl)) dX7_fallsBy_21 ⟨Nat.zero_le _, Nat.zero_le _⟩) hP hS (fun H locs hP hS => ?_)
  refine va_iald hx hb hK hP 2 0 rfl rfl (by rw [hr_3]; exact second_in hj) dX7_fallsBy_24 ?_
  refine lv_istore_n (lv' := [(3, .int (r_1 r_3.toNatClampNeg)), (2, .int (r_1 r_2.toNatClampNeg)), (0, .ref mo), (1, .int joint)]) hx hb dX7_fallsBy_25 rfl hl (by decide) rfl (fun ls hl => ?_)
  refine lv_aload_n hx hb dX7_fallsBy_26 rfl (lv_at hl 2 rfl) ?_
  refine lv_iload_n hx hb dX7_fallsBy_27 rfl (lv_at hl 1 rfl) ?_
  obtain ⟨r_4, hr_4⟩ : ∃ z, z = F_Model_cellsOf (r_1 r_2.toNatClampNeg) r_1 := ⟨_, rfl⟩
  rw [bnd_e hr_4] at hres
  refine ro_calli (va_runV (As := [.int (r_1 r_2.toNatClampNeg)]) (rest := []) ⟨hx, hb, hml, hown, hts⟩ (c_Model_cellsOf l dC dI cI cC cG cZ mo ms mah mhi msl msv mpd mlb (r_1 r_2.toNatClampNeg) vkp vln r_1  r_4 hr_4) (cwV 1 hts gX7_fallsBy_X7_cellsOf rfl rfl rfl (by decide +kernel) ⟨Nat.le_of_ble_eq_true rfl, Nat.le_of_ble_eq_true rfl⟩) (ro_preV (hP.sub (ws' := [(mo, .inr (7, [.ref ms, .ref mah, .ref mhi, .int vkp, .ref msl, .ref msv, .ref mpd, .int vln, .ref mlb])), (mlb, .inl (cI, 48, .inl r_1))]) [0, 2] rfl) hK (ci := 7) (q0 := 0) rfl rfl) rfl rfl hl.1 rfl (lv_room (Nat.le_of_ble_eq_true rfl)) dX7_fallsBy_28 ⟨Nat.zero_le _, Nat.zero_le _⟩) hP hS (fun H locs hP hS => ?_)
  refine lv_aload_n hx hb dX7_fallsBy_31 rfl (lv_at hl 2 rfl) ?_
  refine lv_iload_n hx hb dX7_fallsBy_32 rfl (lv_at hl 0 rfl) ?_
  obtain ⟨r_5, hr_5⟩ : ∃ z, z = F_Model_cellsOf (r_1 r_3.toNatClampNeg) r_1 := ⟨_, rfl⟩
  rw [bnd_e hr_5] at hres
  refine ro_calli (va_runV (As := [.int (r_1 r_3.toNatClampNeg)]) (rest := [.int r_4]) ⟨hx, hb, hml, hown, hts⟩ (c_Model_cellsOf l dC dI cI cC cG cZ mo ms mah mhi msl msv mpd mlb (r_1 r_3.toNatClampNeg) vkp vln r_1  r_5 hr_5) (cwV 1 hts gX7_fallsBy_X7_cellsOf rfl rfl rfl (by decide +kernel) ⟨Nat.le_of_ble_eq_true rfl, Nat.le_of_ble_eq_true rfl⟩) (ro_preV (hP.sub (ws' := [(mo, .inr (7, [.ref ms, .ref mah, .ref mhi, .int vkp, .ref msl, .ref msv, .ref mpd, .int vln, .ref mlb])), (mlb, .inl (cI, 48, .inl r_1))]) [0, 2] rfl) hK (ci := 7) (q0 := 0) rfl rfl) rfl rfl hl.1 rfl (lv_room (Nat.le_of_ble_eq_true rfl)) dX7_fallsBy_33 ⟨Nat.zero_le _, Nat.zero_le _⟩) hP hS (fun H locs hP hS => ?_)
  refine lv_icmp_ge (tgt := 43) hx hb dX7_fallsBy_36 (by decide) (fun c_6 => ?_) (fun c_6 => ?_)
  · rw [if_pos c_6] at hres
    refine lv_iload_n hx hb dX7_fallsBy_43 rfl (lv_at hl 0 rfl) ?_
    refine lv_istore (lv' := [(4, .int (r_1 r_3.toNatClampNeg)), (3, .int (r_1 r_3.toNatClampNeg)), (2, .int (r_1 r_2.toNatClampNeg)), (0, .ref mo), (1, .int joint)]) hx hb dX7_fallsBy_44 hl (by decide) rfl (fun ls hl => ?_)
    refine lv_iload_n hx hb dX7_fallsBy_46 rfl (lv_at hl 2 rfl) ?_
    refine lv_iload_n hx hb dX7_fallsBy_47 rfl (lv_at hl 1 rfl) ?_
    refine lv_icmp_eq (tgt := 62) hx hb dX7_fallsBy_48 (by decide) (fun c_7 => ?_) (fun c_7 => ?_)
    · rw [if_pos c_7] at hres
      refine lv_bipush (v := (-6)) hx hb dX7_fallsBy_62 (by decide) ?_
      refine lv_goto (tgt := 69) hx hb dX7_fallsBy_64 (by decide) ?_
      subst hres
      exact W.iret (v := (-6)) hx hb hr (fun t ht hW => ⟨⟨(-6), (), rfl, rfl, (by show va_P _ _ _ t.heap; rw [ht]; exact hP)⟩, hS.F ht⟩) hS.2.2 dX7_fallsBy_69
    · rw [if_neg c_7] at hres
      refine lv_aload_n hx hb dX7_fallsBy_51 rfl (lv_at hl 3 rfl) ?_
      refine lv_iload hx hb dX7_fallsBy_52 (lv_at hl 0 rfl) ?_
      obtain ⟨r_8, hr_8⟩ : ∃ z, z = F_Model_cellsOf (r_1 r_3.toNatClampNeg) r_1 := ⟨_, rfl⟩
      rw [bnd_e hr_8] at hres
      refine ro_calli (va_runV (As := [.int (r_1 r_3.toNatClampNeg)]) (rest := []) ⟨hx, hb, hml, hown, hts⟩ (c_Model_cellsOf l dC dI cI cC cG cZ mo ms mah mhi msl msv mpd mlb (r_1 r_3.toNatClampNeg) vkp vln r_1  r_8 hr_8) (cwV 1 hts gX7_fallsBy_X7_cellsOf rfl rfl rfl (by decide +kernel) ⟨Nat.le_of_ble_eq_true rfl, Nat.le_of_ble_eq_true rfl⟩) (ro_preV (hP.sub (ws' := [(mo, .inr (7, [.ref ms, .ref mah, .ref mhi, .int vkp, .ref msl, .ref msv, .ref mpd, .int vln, .ref mlb])), (mlb, .inl (cI, 48, .inl r_1))]) [0, 2] rfl) hK (ci := 7) (q0 := 0) rfl rfl) rfl rfl hl.1 rfl (lv_room (Nat.le_of_ble_eq_true rfl)) dX7_fallsBy_54 ⟨Nat.zero_le _, Nat.zero_le _⟩) hP hS (fun H locs hP hS => ?_)
      refine lv_bipush (v := 12) hx hb dX7_fallsBy_57 (by decide) ?_
      refine lv_icmp_le (tgt := 67) hx hb dX7_fallsBy_59 (by decide) (fun c_9 => ?_) (fun c_9 => ?_)
      · rw [if_pos c_9] at hres
        refine lv_iload hx hb dX7_fallsBy_67 (lv_at hl 0 rfl) ?_
        subst hres
        exact W.iret (v := (r_1 r_3.toNatClampNeg)) hx hb hr (fun t ht hW => ⟨⟨(r_1 r_3.toNatClampNeg), (), rfl, rfl, (by show va_P _ _ _ t.heap; rw [ht]; exact hP)⟩, hS.F ht⟩) hS.2.2 dX7_fallsBy_69
      · rw [if_neg c_9] at hres
        refine lv_bipush (v := (-6)) hx hb dX7_fallsBy_62 (by decide) ?_
        refine lv_goto (tgt := 69) hx hb dX7_fallsBy_64 (by decide) ?_
        subst hres
        exact W.iret (v := (-6)) hx hb hr (fun t ht hW => ⟨⟨(-6), (), rfl, rfl, (by show va_P _ _ _ t.heap; rw [ht]; exact hP)⟩, hS.F ht⟩) hS.2.2 dX7_fallsBy_69
  · rw [if_neg c_6] at hres
    refine lv_iload_n hx hb dX7_fallsBy_39 rfl (lv_at hl 1 rfl) ?_
    refine lv_goto (tgt := 44) hx hb dX7_fallsBy_40 (by decide) ?_
    refine lv_istore (lv' := [(4, .int (r_1 r_2.toNatClampNeg)), (3, .int (r_1 r_3.toNatClampNeg)), (2, .int (r_1 r_2.toNatClampNeg)), (0, .ref mo), (1, .int joint)]) hx hb dX7_fallsBy_44 hl (by decide) rfl (fun ls hl => ?_)
    refine lv_iload_n hx hb dX7_fallsBy_46 rfl (lv_at hl 2 rfl) ?_
    refine lv_iload_n hx hb dX7_fallsBy_47 rfl (lv_at hl 1 rfl) ?_
    refine lv_icmp_eq (tgt := 62) hx hb dX7_fallsBy_48 (by decide) (fun c_10 => ?_) (fun c_10 => ?_)
    · rw [if_pos c_10] at hres
      refine lv_bipush (v := (-6)) hx hb dX7_fallsBy_62 (by decide) ?_
      refine lv_goto (tgt := 69) hx hb dX7_fallsBy_64 (by decide) ?_
      subst hres
      exact W.iret (v := (-6)) hx hb hr (fun t ht hW => ⟨⟨(-6), (), rfl, rfl, (by show va_P _ _ _ t.heap; rw [ht]; exact hP)⟩, hS.F ht⟩) hS.2.2 dX7_fallsBy_69
    · rw [if_neg c_10] at hres
      refine lv_aload_n hx hb dX7_fallsBy_51 rfl (lv_at hl 3 rfl) ?_
      refine lv_iload hx hb dX7_fallsBy_52 (lv_at hl 0 rfl) ?_
      obtain ⟨r_11, hr_11⟩ : ∃ z, z = F_Model_cellsOf (r_1 r_2.toNatClampNeg) r_1 := ⟨_, rfl⟩
      rw [bnd_e hr_11] at hres
      refine ro_calli (va_runV (As := [.int (r_1 r_2.toNatClampNeg)]) (rest := []) ⟨hx, hb, hml, hown, hts⟩ (c_Model_cellsOf l dC dI cI cC cG cZ mo ms mah mhi msl msv mpd mlb (r_1 r_2.toNatClampNeg) vkp vln r_1  r_11 hr_11) (cwV 1 hts gX7_fallsBy_X7_cellsOf rfl rfl rfl (by decide +kernel) ⟨Nat.le_of_ble_eq_true rfl, Nat.le_of_ble_eq_true rfl⟩) (ro_preV (hP.sub (ws' := [(mo, .inr (7, [.ref ms, .ref mah, .ref mhi, .int vkp, .ref msl, .ref msv, .ref mpd, .int vln, .ref mlb])), (mlb, .inl (cI, 48, .inl r_1))]) [0, 2] rfl) hK (ci := 7) (q0 := 0) rfl rfl) rfl rfl hl.1 rfl (lv_room (Nat.le_of_ble_eq_true rfl)) dX7_fallsBy_54 ⟨Nat.zero_le _, Nat.zero_le _⟩) hP hS (fun H locs hP hS => ?_)
      refine lv_bipush (v := 12) hx hb dX7_fallsBy_57 (by decide) ?_
      refine lv_icmp_le (tgt := 67) hx hb dX7_fallsBy_59 (by decide) (fun c_12 => ?_) (fun c_12 => ?_)
      · rw [if_pos c_12] at hres
        refine lv_iload hx hb dX7_fallsBy_67 (lv_at hl 0 rfl) ?_
        subst hres
        exact W.iret (v := (r_1 r_2.toNatClampNeg)) hx hb hr (fun t ht hW => ⟨⟨(r_1 r_2.toNatClampNeg), (), rfl, rfl, (by show va_P _ _ _ t.heap; rw [ht]; exact hP)⟩, hS.F ht⟩) hS.2.2 dX7_fallsBy_69
      · rw [if_neg c_12] at hres
        refine lv_bipush (v := (-6)) hx hb dX7_fallsBy_62 (by decide) ?_
        refine lv_goto (tgt := 69) hx hb dX7_fallsBy_64 (by decide) ?_
        subst hres
        exact W.iret (v := (-6)) hx hb hr (fun t ht hW => ⟨⟨(-6), (), rfl, rfl, (by show va_P _ _ _ t.heap; rw [ht]; exact hP)⟩, hS.F ht⟩) hS.2.2 dX7_fallsBy_69
def F_Model_cellsBy (joint : Int32) (vs : Nat → Int32) (vlb : Nat → Int32) : Int32 × (Nat → Int32) := (bnd (F_Model_fallsBy joint vs vlb) (fun r_1 => (if r_1.1 = (-6) then (0, r_1.2) else (bnd (F_Model_cellsOf r_1.1 r_1.2) (fun r_3 => (r_3, r_1.2))))))
set_option maxHeartbeats 4000000 in
set_option maxRecDepth 100000 in
theorem c_Model_cellsBy (l : Launch) (dC : Nat → ClassId) (dI : Nat → Nat → Nat) (cI cC cG cZ : ClassId) (mo ms mah mhi msl msv mpd mlb : Nat) (joint : Int32) (vkp : Int32) (vln : Int32) (vs : Nat → Int32) (vlb : Nat → Int32) (hj : vp_in joint 82) (res : Int32 × (Nat → Int32)) (hres : res = F_Model_cellsBy joint vs vlb) : Met l yX7_cellsBy wsX7_cellsBy ({ frames := 6, cells := 0, slots := 0, locals := 133 }) (va_Pc [.ref mo, .int joint] (wr_P (dC, dI) vwCl (tyL cI cC cG cZ) [(mo, .inr (7, [.ref ms, .ref mah, .ref mhi, .int vkp, .ref msl, .ref msv, .ref mpd, .int vln, .ref mlb])), (ms, .inl (cI, 246, .inl vs)), (mlb, .inl (cI, 48, .inl vlb))])) (va_Qi (fun r (_ : Unit) => r = res.1) (fun _ zt => va_P (dC, dI) vwCl [(mo, .inr (7, [.ref ms, .ref mah, .ref mhi, .int vkp, .ref msl, .ref msv, .ref mpd, .int vln, .ref mlb])), (ms, .inl (cI, 246, .inl vs)), (mlb, .inl (cI, 48, .inl res.2))] zt.heap) (wr_A [(mo, .inr (7, [.ref ms, .ref mah, .ref mhi, .int vkp, .ref msl, .ref msv, .ref mpd, .int vln, .ref mlb])), (ms, .inl (cI, 246, .inl vs)), (mlb, .inl (cI, 48, .inl vlb))])) 0 0 (wr_A [(mo, .inr (7, [.ref ms, .ref mah, .ref mhi, .int vkp, .ref msl, .ref msv, .ref mpd, .int vln, .ref mlb])), (ms, .inl (cI, 246, .inl vs)), (mlb, .inl (cI, 48, .inl vlb))]) := by
  refine Met.ofW (cc := cX7_cellsBy) (maxL := 3) (ret := (some .int)) (by decide) rfl ?_
  intro p e s m args below meth c s₁ B hml hv
  obtain ⟨rfl, hP, hK, hD0⟩ := hv
  have hx := B.exec
  have hb := B.bytes
  have hr := B.returns
  have hts := atoms_spec (ws := wsX7_cellsBy) B.pre
  have hown : s.vm.findClass RX7 = some m.cls := findClass_of_methodNamed B.named
  have hlocks := B.notSynchronized
  have hD := wr_self hD0
  generalize hAe : wr_A [(mo, .inr (7, [.ref ms, .ref mah, .ref mhi, .int vkp, .ref msl, .ref msv, .ref mpd, .int vln, .ref mlb])), (ms, .inl (cI, 246, .inl vs)), (mlb, .inl (cI, 48, .inl vlb))] = A at hD ⊢
  have hS : va_S A s.heap s.heap [] := va_S.rf
  have hP : va_P (dC, dI) vwCl [(mo, .inr (7, [.ref ms, .ref mah, .ref mhi, .int vkp, .ref msl, .ref msv, .ref mpd, .int vln, .ref mlb])), (ms, .inl (cI, 246, .inl vs)), (mlb, .inl (cI, 48, .inl vlb))] s.heap := hP
  have hl := lv_entry ([.ref mo, .int joint]) (n := 3) (Nat.le_of_ble_eq_true rfl)
  rw [lg_entry_eq]
  generalize (lg_sl ([.ref mo, .int joint]) ++ List.replicate (3 - (lg_sl ([.ref mo, .int joint])).length) Slot.unset).toArray = ls at hl ⊢
  have hl : lv_has ls 3 [(0, .ref mo), (1, .int joint)] := hl
  rw [F_Model_cellsBy] at hres
  refine lv_aload_n hx hb dX7_cellsBy_0 rfl (lv_at hl 0 rfl) ?_
  refine lv_iload_n hx hb dX7_cellsBy_1 rfl (lv_at hl 1 rfl) ?_
  obtain ⟨r_1, hr_1⟩ : ∃ z, z = F_Model_fallsBy joint vs vlb := ⟨_, rfl⟩
  rw [bnd_e hr_1] at hres
  refine wr_calli (w1 := [(mo, .inr (7, [.ref ms, .ref mah, .ref mhi, .int vkp, .ref msl, .ref msv, .ref mpd, .int vln, .ref mlb])), (ms, .inl (cI, 246, .inl vs)), (mlb, .inl (cI, 48, .inl r_1.2))]) (is := [0, 1, 2]) (va_runV (As := [.int joint]) (rest := []) ⟨hx, hb, hml, hown, hts⟩ (c_Model_fallsBy l dC dI cI cC cG cZ mo ms mah mhi msl msv mpd mlb joint vkp vln vs vlb hj r_1 hr_1) (cwV 1 hts gX7_cellsBy_X7_fallsBy rfl rfl rfl (by decide +kernel) ⟨Nat.le_of_ble_eq_true rfl, Nat.le_of_ble_eq_true rfl⟩) (wr_preV (hP.sub (ws' := [(mo, .inr (7, [.ref ms, .ref mah, .ref mhi, .int vkp, .ref msl, .ref msv, .ref mpd, .int vln, .ref mlb])), (ms, .inl (cI, 246, .inl vs)), (mlb, .inl (cI, 48, .inl vlb))]) [0, 1, 2] rfl) hK (hD.sub (ws' := [(mo, .inr (7, [.ref ms, .ref mah, .ref mhi, .int vkp, .ref msl, .ref msv, .ref mpd, .int vln, .ref mlb])), (ms, .inl (cI, 246, .inl vs)), (mlb, .inl (cI, 48, .inl vlb))]) [0, 1, 2] (by decide) rfl) (ci := 7) (q0 := 0) rfl rfl) rfl rfl hl.1 rfl (lv_room (Nat.le_of_ble_eq_true rfl)) dX7_cellsBy_2 ⟨Nat.zero_le _, Nat.zero_le _⟩) hP hD hS rfl rfl rfl (fun H locs hP hD hS => ?_)
  have hP : va_P (dC, dI) vwCl [(mo, .inr (7, [.ref ms, .ref mah, .ref mhi, .int vkp, .ref msl, .ref msv, .ref mpd, .int vln, .ref mlb])), (ms, .inl (cI, 246, .inl vs)), (mlb, .inl (cI, 48, .inl r_1.2))] H := hP
  have hD : va_D A [(mo, .inr (7, [.ref ms, .ref mah, .ref mhi, .int vkp, .ref msl, .ref msv, .ref mpd, .int vln, .ref mlb])), (ms, .inl (cI, 246, .inl vs)), (mlb, .inl (cI, 48, .inl r_1.2))] := hD
  refine lv_istore_n (lv' := [(2, .int r_1.1), (0, .ref mo), (1, .int joint)]) hx hb dX7_cellsBy_5 rfl hl (by decide) rfl (fun ls hl => ?_)
  refine lv_iload_n hx hb dX7_cellsBy_6 rfl (lv_at hl 0 rfl) ?_
  refine lv_bipush (v := (-6)) hx hb dX7_cellsBy_7 (by decide) ?_
  refine lv_icmp_ne (tgt := 16) hx hb dX7_cellsBy_9 (by decide) (fun c_2 => ?_) (fun c_2 => ?_)
  · rw [if_neg c_2] at hres
    refine lv_aload_n hx hb dX7_cellsBy_16 rfl (lv_at hl 1 rfl) ?_
    refine lv_iload_n hx hb dX7_cellsBy_17 rfl (lv_at hl 0 rfl) ?_
    obtain ⟨r_3, hr_3⟩ : ∃ z, z = F_Model_cellsOf r_1.1 r_1.2 := ⟨_, rfl⟩
    rw [bnd_e hr_3] at hres
    refine ro_calli (va_runV (As := [.int r_1.1]) (rest := []) ⟨hx, hb, hml, hown, hts⟩ (c_Model_cellsOf l dC dI cI cC cG cZ mo ms mah mhi msl msv mpd mlb r_1.1 vkp vln r_1.2  r_3 hr_3) (cwV 1 hts gX7_cellsBy_X7_cellsOf rfl rfl rfl (by decide +kernel) ⟨Nat.le_of_ble_eq_true rfl, Nat.le_of_ble_eq_true rfl⟩) (ro_preV (hP.sub (ws' := [(mo, .inr (7, [.ref ms, .ref mah, .ref mhi, .int vkp, .ref msl, .ref msv, .ref mpd, .int vln, .ref mlb])), (mlb, .inl (cI, 48, .inl r_1.2))]) [0, 2] rfl) hK (ci := 7) (q0 := 0) rfl rfl) rfl rfl hl.1 rfl (lv_room (Nat.le_of_ble_eq_true rfl)) dX7_cellsBy_18 ⟨Nat.zero_le _, Nat.zero_le _⟩) hP hS (fun H locs hP hS => ?_)
    subst hres
    exact W.iret (v := r_3) hx hb hr (fun t ht hW => ⟨⟨r_3, (), rfl, rfl, (by show va_P _ _ _ t.heap; rw [ht]; exact hP)⟩, hS.F ht⟩) hS.2.2 dX7_cellsBy_21
  · rw [if_pos c_2] at hres
    refine lv_iconst (v := 0) hx hb dX7_cellsBy_12 (by decide) ?_
    refine lv_goto (tgt := 21) hx hb dX7_cellsBy_13 (by decide) ?_
    subst hres
    exact W.iret (v := 0) hx hb hr (fun t ht hW => ⟨⟨0, (), rfl, rfl, (by show va_P _ _ _ t.heap; rw [ht]; exact hP)⟩, hS.F ht⟩) hS.2.2 dX7_cellsBy_21
