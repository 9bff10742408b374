theorem iX7_isCut_X7 : ∀ w ∈ u_ws RX7 TX7 9, w ∈ wsX7_isCut := by decide +kernel
theorem kX7_isCut_7 : Cond.fieldLink RX7 7 "TailorChalksModel" "s" "[I" ∈ wsX7_isCut := by decide +kernel
def F_Model_isCut (joint : Int32) (vs : Nat → Int32) : Int32 := (bnd (F_Model_isOver vs) (fun r_1 => (if r_1 = 0 then (bnd (F_Model_isVoid joint vs) (fun r_3 => (if r_3 = 0 then (if (vs ((0 : Int32) + joint).toNatClampNeg) = 1 then 1 else 0) else 0))) else 0)))
set_option maxHeartbeats 4000000 in
set_option maxRecDepth 100000 in
theorem c_Model_isCut (l : Launch) (dC : Nat → ClassId) (dI : Nat → Nat → Nat) (cI cC cG cZ : ClassId) (mo ms mah mhi msl msv mpd mlb : Nat) (joint : Int32) (vkp : Int32) (vln : Int32) (vs : Nat → Int32) (hj : vp_in joint 82) (res : Int32) (hres : res = F_Model_isCut joint vs) : Met l yX7_isCut wsX7_isCut ({ frames := 3, cells := 0, slots := 0, locals := 63 }) (va_Pc [.ref mo, .int joint] (ro_P (dC, dI) vwCl (tyL cI cC cG cZ) [(mo, .inr (7, [.ref ms, .ref mah, .ref mhi, .int vkp, .ref msl, .ref msv, .ref mpd, .int vln, .ref mlb])), (ms, .inl (cI, 246, .inl vs))])) (va_Qi (fun r (_ : Unit) => r = res) (fun _ _ => True) ro_F) 0 0 ro_F := by
  refine Met.ofW (cc := cX7_isCut) (maxL := 2) (ret := (some .boolean)) (by decide) rfl ?_
  intro p e s m args below meth c s₁ B hml hv
  obtain ⟨rfl, hP, hK⟩ := hv
  have hx := B.exec
  have hb := B.bytes
  have hr := B.returns
  have hts := atoms_spec (ws := wsX7_isCut) B.pre
  have hown : s.vm.findClass RX7 = some m.cls := findClass_of_methodNamed B.named
  have hlocks := B.notSynchronized
  have hS : va_S ro_F s.heap s.heap [] := va_S.rf
  have hl := lv_entry ([.ref mo, .int joint]) (n := 2) (Nat.le_of_ble_eq_true rfl)
  rw [lg_entry_eq]
  generalize (lg_sl ([.ref mo, .int joint]) ++ List.replicate (2 - (lg_sl ([.ref mo, .int joint])).length) Slot.unset).toArray = ls at hl ⊢
  have hl : lv_has ls 2 [(0, .ref mo), (1, .int joint)] := hl
  rw [F_Model_isCut] at hres
  refine lv_aload_n hx hb dX7_isCut_0 rfl (lv_at hl 0 rfl) ?_
  obtain ⟨r_1, hr_1⟩ : ∃ z, z = F_Model_isOver vs := ⟨_, rfl⟩
  rw [bnd_e hr_1] at hres
  refine ro_calli (va_runV (As := []) (rest := []) ⟨hx, hb, hml, hown, hts⟩ (c_Model_isOver l dC dI cI cC cG cZ mo ms mah mhi msl msv mpd mlb vkp vln vs  r_1 hr_1) (cwV 0 hts gX7_isCut_X7_isOver rfl rfl rfl (by decide +kernel) ⟨Nat.le_of_ble_eq_true rfl, Nat.le_of_ble_eq_true rfl⟩) (ro_preV (hP.sub (ws' := [(mo, .inr (7, [.ref ms, .ref mah, .ref mhi, .int vkp, .ref msl, .ref msv, .ref mpd, .int vln, .ref mlb])), (ms, .inl (cI, 246, .inl vs))]) [0, 1] rfl) hK (ci := 7) (q0 := 0) rfl rfl) rfl rfl hl.1 rfl (lv_room (Nat.le_of_ble_eq_true rfl)) dX7_isCut_1 ⟨Nat.zero_le _, Nat.zero_le _⟩) hP hS (fun H locs hP hS => ?_)
  refine lv_if_ne (tgt := 31) hx hb dX7_isCut_4 (by decide) (fun c_2 => ?_) (fun c_2 => ?_)
  · rw [if_neg c_2] at hres
    refine lv_iconst (v := 0) hx hb dX7_isCut_31 (by decide) ?_
    exact W.zret (v := 0) hx hb hr rfl (fun t ht hW => ⟨⟨0, (), rfl, hres.symm, trivial⟩, hS.F ht⟩) hS.2.2 dX7_isCut_32
  · rw [if_pos c_2] at hres
    refine lv_aload_n hx hb dX7_isCut_7 rfl (lv_at hl 0 rfl) ?_
    refine lv_iload_n hx hb dX7_isCut_8 rfl (lv_at hl 1 rfl) ?_
    obtain ⟨r_3, hr_3⟩ : ∃ z, z = F_Model_isVoid joint vs := ⟨_, rfl⟩
    rw [bnd_e hr_3] at hres
    refine ro_calli (va_runV (As := [.int joint]) (rest := []) ⟨hx, hb, hml, hown, hts⟩ (c_Model_isVoid l dC dI cI cC cG cZ mo ms mah mhi msl msv mpd mlb joint vkp vln vs hj r_3 hr_3) (cwV 1 hts gX7_isCut_X7_isVoid rfl rfl rfl (by decide +kernel) ⟨Nat.le_of_ble_eq_true rfl, Nat.le_of_ble_eq_true rfl⟩) (ro_preV (hP.sub (ws' := [(mo, .inr (7, [.ref ms, .ref mah, .ref mhi, .int vkp, .ref msl, .ref msv, .ref mpd, .int vln, .ref mlb])), (ms, .inl (cI, 246, .inl vs))]) [0, 1] rfl) hK (ci := 7) (q0 := 0) rfl rfl) rfl rfl hl.1 rfl (lv_room (Nat.le_of_ble_eq_true rfl)) dX7_isCut_9 ⟨Nat.zero_le _, Nat.zero_le _⟩) hP hS (fun H locs hP hS => ?_)
    refine lv_if_ne (tgt := 31) hx hb dX7_isCut_12 (by decide) (fun c_4 => ?_) (fun c_4 => ?_)
    · rw [if_neg c_4] at hres
      refine lv_iconst (v := 0) hx hb dX7_isCut_31 (by decide) ?_
      exact W.zret (v := 0) hx hb hr rfl (fun t ht hW => ⟨⟨0, (), rfl, hres.symm, trivial⟩, hS.F ht⟩) hS.2.2 dX7_isCut_32
    · rw [if_pos c_4] at hres
      refine lv_aload_n hx hb dX7_isCut_15 rfl (lv_at hl 0 rfl) ?_
      refine va_get (D := (dC, dI)) (ci := 7) (v := .ref ms) (C := RX7) (T := TX7) (N := 9) hx hb hts iX7_isCut_X7 hown hK hP 0 rfl rfl 0 (by decide) (hts (.fieldLink RX7 7 "TailorChalksModel" "s" "[I") kX7_isCut_7) (fun _ h9 => h9) rfl dX7_isCut_16 ?_
      refine lv_iconst (v := 0) hx hb dX7_isCut_19 (by decide) ?_
      refine lv_iload_n hx hb dX7_isCut_20 rfl (lv_at hl 1 rfl) ?_
      refine lv_iadd hx hb dX7_isCut_21 ?_
      refine va_iald hx hb hK hP 1 0 rfl rfl (vp_addc (q := 0) (n := 82) rfl hj (by decide) (by decide)) dX7_isCut_22 ?_
      refine lv_iconst (v := 1) hx hb dX7_isCut_23 (by decide) ?_
      refine lv_icmp_ne (tgt := 31) hx hb dX7_isCut_24 (by decide) (fun c_5 => ?_) (fun c_5 => ?_)
      · rw [if_neg c_5] at hres
        refine lv_iconst (v := 0) hx hb dX7_isCut_31 (by decide) ?_
        exact W.zret (v := 0) hx hb hr rfl (fun t ht hW => ⟨⟨0, (), rfl, hres.symm, trivial⟩, hS.F ht⟩) hS.2.2 dX7_isCut_32
      · rw [if_pos c_5] at hres
        refine lv_iconst (v := 1) hx hb dX7_isCut_27 (by decide) ?_
        refine lv_goto (tgt := 32) hx hb dX7_isCut_28 (by decide) ?_
        exact W.zret (v := 1) hx hb hr rfl (fun t ht hW => ⟨⟨1, (), rfl, hres.symm, trivial⟩, hS.F ht⟩) hS.2.2 dX7_isCut_32
theorem F_Model_isCut_b (joint : Int32) (vs : Nat → Int32) : F_Model_isCut joint vs = 0 ∨ F_Model_isCut joint vs = 1 := by
  unfold F_Model_isCut
  try simp only [bnd]
  (repeat' split) <;> first | exact Or.inl rfl | exact Or.inr rfl | exact F_Model_isOver_b .. | exact F_Model_isVoid_b ..
theorem iX7_sews_X7 : ∀ w ∈ u_ws RX7 TX7 9, w ∈ wsX7_sews := by decide +kernel
theorem kX7_sews_7 : Cond.fieldLink RX7 7 "TailorChalksModel" "s" "[I" ∈ wsX7_sews := by decide +kernel
def F_Model_sews (joint : Int32) (vs : Nat → Int32) : Int32 × (Nat → Int32) := (bnd (F_Model_isJoint joint) (fun r_1 => (if r_1 = 0 then ((-1), vs) else (bnd (F_Model_isCut joint vs) (fun r_3 => (if r_3 = 0 then ((-5), vs) else (bnd (F_Model_at (vs (245 : Int32).toNatClampNeg) (1 : Int32)) (fun r_5 => (if (vs r_5.toNatClampNeg) = 0 then ((-5), vs) else (bnd (F_Model_at (vs (245 : Int32).toNatClampNeg) (1 : Int32)) (fun r_7 => (bnd (F_Model_at (vs (245 : Int32).toNatClampNeg) (1 : Int32)) (fun r_8 => (bnd (F_Model_ends ((upd (upd (upd vs ((0 : Int32) + joint).toNatClampNeg 2) ((82 : Int32) + joint).toNatClampNeg (vs (245 : Int32).toNatClampNeg)) r_7.toNatClampNeg (((upd (upd vs ((0 : Int32) + joint).toNatClampNeg 2) ((82 : Int32) + joint).toNatClampNeg (vs (245 : Int32).toNatClampNeg)) r_7.toNatClampNeg) - 1)) r_8.toNatClampNeg) (upd (upd (upd vs ((0 : Int32) + joint).toNatClampNeg 2) ((82 : Int32) + joint).toNatClampNeg (vs (245 : Int32).toNatClampNeg)) r_7.toNatClampNeg (((upd (upd vs ((0 : Int32) + joint).toNatClampNeg 2) ((82 : Int32) + joint).toNatClampNeg (vs (245 : Int32).toNatClampNeg)) r_7.toNatClampNeg) - 1))) (fun r_9 => (r_9.1, r_9.2))))))))))))))))
set_option maxHeartbeats 4000000 in
set_option maxRecDepth 100000 in
theorem c_Model_sews (l : Launch) (dC : Nat → ClassId) (dI : Nat → Nat → Nat) (cI cC cG cZ : ClassId) (mo ms mah mhi msl msv mpd mlb : Nat) (joint : Int32) (vkp : Int32) (vln : Int32) (vs : Nat → Int32) (hMI : MI vs) (res : Int32 × (Nat → Int32)) (hres : res = F_Model_sews joint vs) : Met l yX7_sews wsX7_sews ({ frames := 4, cells := 0, slots := 0, locals := 84 }) (va_Pc [.ref mo, .int joint] (wr_P (dC, dI) vwCl (tyL cI cC cG cZ) [(mo, .inr (7, [.ref ms, .ref mah, .ref mhi, .int vkp, .ref msl, .ref msv, .ref mpd, .int vln, .ref mlb])), (ms, .inl (cI, 246, .inl vs))])) (va_Qi (fun r (_ : Unit) => r = res.1) (fun _ zt => va_P (dC, dI) vwCl [(mo, .inr (7, [.ref ms, .ref mah, .ref mhi, .int vkp, .ref msl, .ref msv, .ref mpd, .int vln, .ref mlb])), (ms, .inl (cI, 246, .inl res.2))] zt.heap) (wr_A [(mo, .inr (7, [.ref ms, .ref mah, .ref mhi, .int vkp, .ref msl, .ref msv, .ref mpd, .int vln, .ref mlb])), (ms, .inl (cI, 246, .inl vs))])) 0 0 (wr_A [(mo, .inr (7, [.ref ms, .ref mah, .ref mhi, .int vkp, .ref msl, .ref msv, .ref mpd, .int vln, .ref mlb])), (ms, .inl (cI, 246, .inl vs))]) := by
  refine Met.ofW (cc := cX7_sews) (maxL := 3) (ret := (some .int)) (by decide) rfl ?_
  intro p e s m args below meth c s₁ B hml hv
  obtain ⟨rfl, hP, hK, hD0⟩ := hv
  have hx := B.exec
  have hb := B.bytes
  have hr := B.returns
  have hts := atoms_spec (ws := wsX7_sews) B.pre
  have hown : s.vm.findClass RX7 = some m.cls := findClass_of_methodNamed B.named
  have hlocks := B.notSynchronized
  have hD := wr_self hD0
  generalize hAe : wr_A [(mo, .inr (7, [.ref ms, .ref mah, .ref mhi, .int vkp, .ref msl, .ref msv, .ref mpd, .int vln, .ref mlb])), (ms, .inl (cI, 246, .inl vs))] = A at hD ⊢
  have hS : va_S A s.heap s.heap [] := va_S.rf
  have hP : va_P (dC, dI) vwCl [(mo, .inr (7, [.ref ms, .ref mah, .ref mhi, .int vkp, .ref msl, .ref msv, .ref mpd, .int vln, .ref mlb])), (ms, .inl (cI, 246, .inl vs))] s.heap := hP
  have hl := lv_entry ([.ref mo, .int joint]) (n := 3) (Nat.le_of_ble_eq_true rfl)
  rw [lg_entry_eq]
  generalize (lg_sl ([.ref mo, .int joint]) ++ List.replicate (3 - (lg_sl ([.ref mo, .int joint])).length) Slot.unset).toArray = ls at hl ⊢
  have hl : lv_has ls 3 [(0, .ref mo), (1, .int joint)] := hl
  rw [F_Model_sews] at hres
  refine lv_aload_n hx hb dX7_sews_0 rfl (lv_at hl 0 rfl) ?_
  refine va_get (D := (dC, dI)) (ci := 7) (v := .ref ms) (C := RX7) (T := TX7) (N := 9) hx hb hts iX7_sews_X7 hown hK hP 0 rfl rfl 0 (by decide) (hts (.fieldLink RX7 7 "TailorChalksModel" "s" "[I") kX7_sews_7) (fun _ h9 => h9) rfl dX7_sews_1 ?_
  refine lv_sipush (v := 245) hx hb dX7_sews_4 (by decide) ?_
  refine va_iald hx hb hK hP 1 0 rfl rfl (vp_in_iff.mpr (by decide +kernel)) dX7_sews_7 ?_
  refine lv_istore_n (lv' := [(2, .int (vs (245 : Int32).toNatClampNeg)), (0, .ref mo), (1, .int joint)]) hx hb dX7_sews_8 rfl hl (by decide) rfl (fun ls hl => ?_)
  refine lv_iload_n hx hb dX7_sews_9 rfl (lv_at hl 2 rfl) ?_
  obtain ⟨r_1, hr_1⟩ : ∃ z, z = F_Model_isJoint joint := ⟨_, rfl⟩
  rw [bnd_e hr_1] at hres
  refine ro_calli (va_runS (As := [.int joint]) (rest := []) ⟨hx, hb, hml, hown, hts⟩ (c_Model_isJoint l dC dI cI cC cG cZ  joint  r_1 hr_1) (va_cwS 1 hts gX7_sews_X7_isJoint rfl rfl rfl (by decide +kernel) ⟨Nat.le_of_ble_eq_true rfl, Nat.le_of_ble_eq_true rfl⟩) (ro_preS (hP.sub (ws' := []) [] rfl) hK) rfl rfl hl.1 rfl (lv_room (Nat.le_of_ble_eq_true rfl)) dX7_sews_10 ⟨Nat.zero_le _, Nat.zero_le _⟩) hP hS (fun H locs hP hS => ?_)
  refine lv_if_ne (tgt := 18) hx hb dX7_sews_13 (by decide) (fun c_2 => ?_) (fun c_2 => ?_)
  · rw [if_neg c_2] at hres
    refine lv_aload_n hx hb dX7_sews_18 rfl (lv_at hl 1 rfl) ?_
    refine lv_iload_n hx hb dX7_sews_19 rfl (lv_at hl 2 rfl) ?_
    obtain ⟨r_3, hr_3⟩ : ∃ z, z = F_Model_isCut joint vs := ⟨_, rfl⟩
    rw [bnd_e hr_3] at hres
    refine ro_calli (va_runV (As := [.int joint]) (rest := []) ⟨hx, hb, hml, hown, hts⟩ (c_Model_isCut l dC dI cI cC cG cZ mo ms mah mhi msl msv mpd mlb joint vkp vln vs (mjt_in (by rw [← hr_1]; exact c_2)) r_3 hr_3) (cwV 1 hts gX7_sews_X7_isCut rfl rfl rfl (by decide +kernel) ⟨Nat.le_of_ble_eq_true rfl, Nat.le_of_ble_eq_true rfl⟩) (ro_preV (hP.sub (ws' := [(mo, .inr (7, [.ref ms, .ref mah, .ref mhi, .int vkp, .ref msl, .ref msv, .ref mpd, .int vln, .ref mlb])), (ms, .inl (cI, 246, .inl vs))]) [0, 1] rfl) hK (ci := 7) (q0 := 0) rfl rfl) rfl rfl hl.1 rfl (lv_room (Nat.le_of_ble_eq_true rfl)) dX7_sews_20 ⟨Nat.zero_le _, Nat.zero_le _⟩) hP hS (fun H locs hP hS => ?_)
    refine lv_if_eq (tgt := 39) hx hb dX7_sews_23 (by decide) (fun c_4 => ?_) (fun c_4 => ?_)
    · rw [if_pos c_4] at hres
      refine lv_bipush (v := (-5)) hx hb dX7_sews_39 (by decide) ?_
      subst hres
      exact W.iret (v := (-5)) hx hb hr (fun t ht hW => ⟨⟨(-5), (), rfl, rfl, (by show va_P _ _ _ t.heap; rw [ht]; exact hP)⟩, hS.F ht⟩) hS.2.2 dX7_sews_41
    · rw [if_neg c_4] at hres
      refine lv_aload_n hx hb dX7_sews_26 rfl (lv_at hl 1 rfl) ?_
      refine va_get (D := (dC, dI)) (ci := 7) (v := .ref ms) (C := RX7) (T := TX7) (N := 9) hx hb hts iX7_sews_X7 hown hK hP 0 rfl rfl 0 (by decide) (hts (.fieldLink RX7 7 "TailorChalksModel" "s" "[I") kX7_sews_7) (fun _ h9 => h9) rfl dX7_sews_27 ?_
      refine lv_iload_n hx hb dX7_sews_30 rfl (lv_at hl 0 rfl) ?_
      refine lv_iconst (v := 1) hx hb dX7_sews_31 (by decide) ?_
      obtain ⟨r_5, hr_5⟩ : ∃ z, z = F_Model_at (vs (245 : Int32).toNatClampNeg) (1 : Int32) := ⟨_, rfl⟩
      rw [bnd_e hr_5] at hres
      refine ro_calli (va_runS (As := [.int (vs (245 : Int32).toNatClampNeg), .int 1]) (rest := [.ref ms]) ⟨hx, hb, hml, hown, hts⟩ (c_Model_at l dC dI cI cC cG cZ  (vs (245 : Int32).toNatClampNeg) (1 : Int32)  r_5 hr_5) (va_cwS 2 hts gX7_sews_X7_at rfl rfl rfl (by decide +kernel) ⟨Nat.le_of_ble_eq_true rfl, Nat.le_of_ble_eq_true rfl⟩) (ro_preS (hP.sub (ws' := []) [] rfl) hK) rfl rfl hl.1 rfl (lv_room (Nat.le_of_ble_eq_true rfl)) dX7_sews_32 ⟨Nat.zero_le _, Nat.zero_le _⟩) hP hS (fun H locs hP hS => ?_)
      refine va_iald hx hb hK hP 1 0 rfl rfl (by rw [hr_5]; exact at_in (mi_next hMI) (by decide) (by decide)) dX7_sews_35 ?_
      refine lv_if_ne (tgt := 42) hx hb dX7_sews_36 (by decide) (fun c_6 => ?_) (fun c_6 => ?_)
      · rw [if_neg c_6] at hres
        refine lv_aload_n hx hb dX7_sews_42 rfl (lv_at hl 1 rfl) ?_
        refine va_get (D := (dC, dI)) (ci := 7) (v := .ref ms) (C := RX7) (T := TX7) (N := 9) hx hb hts iX7_sews_X7 hown hK hP 0 rfl rfl 0 (by decide) (hts (.fieldLink RX7 7 "TailorChalksModel" "s" "[I") kX7_sews_7) (fun _ h9 => h9) rfl dX7_sews_43 ?_
        refine lv_iconst (v := 0) hx hb dX7_sews_46 (by decide) ?_
        refine lv_iload_n hx hb dX7_sews_47 rfl (lv_at hl 2 rfl) ?_
        refine lv_iadd hx hb dX7_sews_48 ?_
        refine lv_iconst (v := 2) hx hb dX7_sews_49 (by decide) ?_
        refine va_iast hx hb hK hP hD hS 1 0 rfl rfl (vp_addc (q := 0) (n := 82) rfl (mjt_in (by rw [← hr_1]; exact c_2)) (by decide) (by decide)) dX7_sews_50 (fun H locs hP hD hS => ?_)
        have hP : va_P (dC, dI) vwCl [(mo, .inr (7, [.ref ms, .ref mah, .ref mhi, .int vkp, .ref msl, .ref msv, .ref mpd, .int vln, .ref mlb])), (ms, .inl (cI, 246, .inl (upd vs ((0 : Int32) + joint).toNatClampNeg 2)))] H := hP
        have hD : va_D A [(mo, .inr (7, [.ref ms, .ref mah, .ref mhi, .int vkp, .ref msl, .ref msv, .ref mpd, .int vln, .ref mlb])), (ms, .inl (cI, 246, .inl (upd vs ((0 : Int32) + joint).toNatClampNeg 2)))] := hD
        refine lv_aload_n hx hb dX7_sews_51 rfl (lv_at hl 1 rfl) ?_
        refine va_get (D := (dC, dI)) (ci := 7) (v := .ref ms) (C := RX7) (T := TX7) (N := 9) hx hb hts iX7_sews_X7 hown hK hP 0 rfl rfl 0 (by decide) (hts (.fieldLink RX7 7 "TailorChalksModel" "s" "[I") kX7_sews_7) (fun _ h9 => h9) rfl dX7_sews_52 ?_
        refine lv_bipush (v := 82) hx hb dX7_sews_55 (by decide) ?_
        refine lv_iload_n hx hb dX7_sews_57 rfl (lv_at hl 2 rfl) ?_
        refine lv_iadd hx hb dX7_sews_58 ?_
        refine lv_iload_n hx hb dX7_sews_59 rfl (lv_at hl 0 rfl) ?_
        refine va_iast hx hb hK hP hD hS 1 0 rfl rfl (vp_addc (q := 82) (n := 82) rfl (mjt_in (by rw [← hr_1]; exact c_2)) (by decide) (by decide)) dX7_sews_60 (fun H locs hP hD hS => ?_)
        have hP : va_P (dC, dI) vwCl [(mo, .inr (7, [.ref ms, .ref mah, .ref mhi, .int vkp, .ref msl, .ref msv, .ref mpd, .int vln, .ref mlb])), (ms, .inl (cI, 246, .inl (upd (upd vs ((0 : Int32) + joint).toNatClampNeg 2) ((82 : Int32) + joint).toNatClampNeg (vs (245 : Int32).toNatClampNeg))))] H := hP
        have hD : va_D A [(mo, .inr (7, [.ref ms, .ref mah, .ref mhi, .int vkp, .ref msl, .ref msv, .ref mpd, .int vln, .ref mlb])), (ms, .inl (cI, 246, .inl (upd (upd vs ((0 : Int32) + joint).toNatClampNeg 2) ((82 : Int32) + joint).toNatClampNeg (vs (245 : Int32).toNatClampNeg))))] := hD
        refine lv_aload_n hx hb dX7_sews_61 rfl (lv_at hl 1 rfl) ?_
        refine va_get (D := (dC, dI)) (ci := 7) (v := .ref ms) (C := RX7) (T := TX7) (N := 9) hx hb hts iX7_sews_X7 hown hK hP 0 rfl rfl 0 (by decide) (hts (.fieldLink RX7 7 "TailorChalksModel" "s" "[I") kX7_sews_7) (fun _ h9 => h9) rfl dX7_sews_62 ?_
        refine lv_iload_n hx hb dX7_sews_65 rfl (lv_at hl 0 rfl) ?_
        refine lv_iconst (v := 1) hx hb dX7_sews_66 (by decide) ?_
        obtain ⟨r_7, hr_7⟩ : ∃ z, z = F_Model_at (vs (245 : Int32).toNatClampNeg) (1 : Int32) := ⟨_, rfl⟩
        rw [bnd_e hr_7] at hres
        refine ro_calli (va_runS (As := [.int (vs (245 : Int32).toNatClampNeg), .int 1]) (rest := [.ref ms]) ⟨hx, hb, hml, hown, hts⟩ (c_Model_at l dC dI cI cC cG cZ  (vs (245 : Int32).toNatClampNeg) (1 : Int32)  r_7 hr_7) (va_cwS 2 hts gX7_sews_X7_at rfl rfl rfl (by decide +kernel) ⟨Nat.le_of_ble_eq_true rfl, Nat.le_of_ble_eq_true rfl⟩) (ro_preS (hP.sub (ws' := []) [] rfl) hK) rfl rfl hl.1 rfl (lv_room (Nat.le_of_ble_eq_true rfl)) dX7_sews_67 ⟨Nat.zero_le _, Nat.zero_le _⟩) hP hS (fun H locs hP hS => ?_)
        refine lv_dup2_11 hx hb dX7_sews_70 rfl rfl ?_
        refine va_iald hx hb hK hP 1 0 rfl rfl (by rw [hr_7]; exact at_in (mi_next hMI) (by decide) (by decide)) dX7_sews_71 ?_
        refine lv_iconst (v := 1) hx hb dX7_sews_72 (by decide) ?_
        refine lv_isub hx hb dX7_sews_73 ?_
        refine va_iast hx hb hK hP hD hS 1 0 rfl rfl (by rw [hr_7]; exact at_in (mi_next hMI) (by decide) (by decide)) dX7_sews_74 (fun H locs hP hD hS => ?_)
        have hP : va_P (dC, dI) vwCl [(mo, .inr (7, [.ref ms, .ref mah, .ref mhi, .int vkp, .ref msl, .ref msv, .ref mpd, .int vln, .ref mlb])), (ms, .inl (cI, 246, .inl (upd (upd (upd vs ((0 : Int32) + joint).toNatClampNeg 2) ((82 : Int32) + joint).toNatClampNeg (vs (245 : Int32).toNatClampNeg)) r_7.toNatClampNeg (((upd (upd vs ((0 : Int32) + joint).toNatClampNeg 2) ((82 : Int32) + joint).toNatClampNeg (vs (245 : Int32).toNatClampNeg)) r_7.toNatClampNeg) - 1))))] H := hP
        have hD : va_D A [(mo, .inr (7, [.ref ms, .ref mah, .ref mhi, .int vkp, .ref msl, .ref msv, .ref mpd, .int vln, .ref mlb])), (ms, .inl (cI, 246, .inl (upd (upd (upd vs ((0 : Int32) + joint).toNatClampNeg 2) ((82 : Int32) + joint).toNatClampNeg (vs (245 : Int32).toNatClampNeg)) r_7.toNatClampNeg (((upd (upd vs ((0 : Int32) + joint).toNatClampNeg 2) ((82 : Int32) + joint).toNatClampNeg (vs (245 : Int32).toNatClampNeg)) r_7.toNatClampNeg) - 1))))] := hD
        refine lv_aload_n hx hb dX7_sews_75 rfl (lv_at hl 1 rfl) ?_
        refine lv_aload_n hx hb dX7_sews_76 rfl (lv_at hl 1 rfl) ?_
        refine va_get (D := (dC, dI)) (ci := 7) (v := .ref ms) (C := RX7) (T := TX7) (N := 9) hx hb hts iX7_sews_X7 hown hK hP 0 rfl rfl 0 (by decide) (hts (.fieldLink RX7 7 "TailorChalksModel" "s" "[I") kX7_sews_7) (fun _ h9 => h9) rfl dX7_sews_77 ?_
        refine lv_iload_n hx hb dX7_sews_80 rfl (lv_at hl 0 rfl) ?_
        refine lv_iconst (v := 1) hx hb dX7_sews_81 (by decide) ?_
        obtain ⟨r_8, hr_8⟩ : ∃ z, z = F_Model_at (vs (245 : Int32).toNatClampNeg) (1 : Int32) := ⟨_, rfl⟩
        rw [bnd_e hr_8] at hres
        refine ro_calli (va_runS (As := [.int (vs (245 : Int32).toNatClampNeg), .int 1]) (rest := [.ref ms, .ref mo]) ⟨hx, hb, hml, hown, hts⟩ (c_Model_at l dC dI cI cC cG cZ  (vs (245 : Int32).toNatClampNeg) (1 : Int32)  r_8 hr_8) (va_cwS 2 hts gX7_sews_X7_at rfl rfl rfl (by decide +kernel) ⟨Nat.le_of_ble_eq_true rfl, Nat.le_of_ble_eq_true rfl⟩) (ro_preS (hP.sub (ws' := []) [] rfl) hK) rfl rfl hl.1 rfl (lv_room (Nat.le_of_ble_eq_true rfl)) dX7_sews_82 ⟨Nat.zero_le _, Nat.zero_le _⟩) hP hS (fun H locs hP hS => ?_)
        refine va_iald hx hb hK hP 1 0 rfl rfl (by rw [hr_8]; exact at_in (mi_next hMI) (by decide) (by decide)) dX7_sews_85 ?_
        obtain ⟨r_9, hr_9⟩ : ∃ z, z = F_Model_ends ((upd (upd (upd vs ((0 : Int32) + joint).toNatClampNeg 2) ((82 : Int32) + joint).toNatClampNeg (vs (245 : Int32).toNatClampNeg)) r_7.toNatClampNeg (((upd (upd vs ((0 : Int32) + joint).toNatClampNeg 2) ((82 : Int32) + joint).toNatClampNeg (vs (245 : Int32).toNatClampNeg)) r_7.toNatClampNeg) - 1)) r_8.toNatClampNeg) (upd (upd (upd vs ((0 : Int32) + joint).toNatClampNeg 2) ((82 : Int32) + joint).toNatClampNeg (vs (245 : Int32).toNatClampNeg)) r_7.toNatClampNeg (((upd (upd vs ((0 : Int32) + joint).toNatClampNeg 2) ((82 : Int32) + joint).toNatClampNeg (vs (245 : Int32).toNatClampNeg)) r_7.toNatClampNeg) - 1)) := ⟨_, rfl⟩
        rw [bnd_e hr_9] at hres
        refine wr_calli (w1 := [(mo, .inr (7, [.ref ms, .ref mah, .ref mhi, .int vkp, .ref msl, .ref msv, .ref mpd, .int vln, .ref mlb])), (ms, .inl (cI, 246, .inl r_9.2))]) (is := [0, 1]) (va_runV (As := [.int ((upd (upd (upd vs ((0 : Int32) + joint).toNatClampNeg 2) ((82 : Int32) + joint).toNatClampNeg (vs (245 : Int32).toNatClampNeg)) r_7.toNatClampNeg (((upd (upd vs ((0 : Int32) + joint).toNatClampNeg 2) ((82 : Int32) + joint).toNatClampNeg (vs (245 : Int32).toNatClampNeg)) r_7.toNatClampNeg) - 1)) r_8.toNatClampNeg)]) (rest := []) ⟨hx, hb, hml, hown, hts⟩ (c_Model_ends l dC dI cI cC cG cZ mo ms mah mhi msl msv mpd mlb ((upd (upd (upd vs ((0 : Int32) + joint).toNatClampNeg 2) ((82 : Int32) + joint).toNatClampNeg (vs (245 : Int32).toNatClampNeg)) r_7.toNatClampNeg (((upd (upd vs ((0 : Int32) + joint).toNatClampNeg 2) ((82 : Int32) + joint).toNatClampNeg (vs (245 : Int32).toNatClampNeg)) r_7.toNatClampNeg) - 1)) r_8.toNatClampNeg) vkp vln (upd (upd (upd vs ((0 : Int32) + joint).toNatClampNeg 2) ((82 : Int32) + joint).toNatClampNeg (vs (245 : Int32).toNatClampNeg)) r_7.toNatClampNeg (((upd (upd vs ((0 : Int32) + joint).toNatClampNeg 2) ((82 : Int32) + joint).toNatClampNeg (vs (245 : Int32).toNatClampNeg)) r_7.toNatClampNeg) - 1))  r_9 hr_9) (cwV 1 hts gX7_sews_X7_ends rfl rfl rfl (by decide +kernel) ⟨Nat.le_of_ble_eq_true rfl, Nat.le_of_ble_eq_true rfl⟩) (wr_preV (hP.sub (ws' := [(mo, .inr (7, [.ref ms, .ref mah, .ref mhi, .int vkp, .ref msl, .ref msv, .ref mpd, .int vln, .ref mlb])), (ms, .inl (cI, 246, .inl (upd (upd (upd vs ((0 : Int32) + joint).toNatClampNeg 2) ((82 : Int32) + joint).toNatClampNeg (vs (245 : Int32).toNatClampNeg)) r_7.toNatClampNeg (((upd (upd vs ((0 : Int32) + joint).toNatClampNeg 2) ((82 : Int32) + joint).toNatClampNeg (vs (245 : Int32).toNatClampNeg)) r_7.toNatClampNeg) - 1))))]) [0, 1] rfl) hK (hD.sub (ws' := [(mo, .inr (7, [.ref ms, .ref mah, .ref mhi, .int vkp, .ref msl, .ref msv, .ref mpd, .int vln, .ref mlb])), (ms, .inl (cI, 246, .inl (upd (upd (upd vs ((0 : Int32) + joint).toNatClampNeg 2) ((82 : Int32) + joint).toNatClampNeg (vs (245 : Int32).toNatClampNeg)) r_7.toNatClampNeg (((upd (upd vs ((0 : Int32) + joint).toNatClampNeg 2) ((82 : Int32) + joint).toNatClampNeg (vs (245 : Int32).toNatClampNeg)) r_7.toNatClampNeg) - 1))))]) [0, 1] (by decide) rfl) (ci := 7) (q0 := 0) rfl rfl) rfl rfl hl.1 rfl (lv_room (Nat.le_of_ble_eq_true rfl)) dX7_sews_86 ⟨Nat.zero_le _, Nat.zero_le _⟩) hP hD hS rfl rfl rfl (fun H locs hP hD hS => ?_)
        have hP : va_P (dC, dI) vwCl [(mo, .inr (7, [.ref ms, .ref mah, .ref mhi, .int vkp, .ref msl, .ref msv, .ref mpd, .int vln, .ref mlb])), (ms, .inl (cI, 246, .inl r_9.2))] H := hP
        have hD : va_D A [(mo, .inr (7, [.ref ms, .ref mah, .ref mhi, .int vkp, .ref msl, .ref msv, .ref mpd, .int vln, .ref mlb])), (ms, .inl (cI, 246, .inl r_9.2))] := hD
        subst hres
        exact W.iret (v := r_9.1) hx hb hr (fun t ht hW => ⟨⟨r_9.1, (), rfl, rfl, (by show va_P _ _ _ t.heap; rw [ht]; exact hP)⟩, hS.F ht⟩) hS.2.2 dX7_sews_89
      · rw [if_pos c_6] at hres
        refine lv_bipush (v := (-5)) hx hb dX7_sews_39 (by decide) ?_
        subst hres
        exact W.iret (v := (-5)) hx hb hr (fun t ht hW => ⟨⟨(-5), (), rfl, rfl, (by show va_P _ _ _ t.heap; rw [ht]; exact hP)⟩, hS.F ht⟩) hS.2.2 dX7_sews_41
  · rw [if_pos c_2] at hres
    refine lv_iconst (v := (-1)) hx hb dX7_sews_16 (by decide) ?_
    subst hres
    exact W.iret (v := (-1)) hx hb hr (fun t ht hW => ⟨⟨(-1), (), rfl, rfl, (by show va_P _ _ _ t.heap; rw [ht]; exact hP)⟩, hS.F ht⟩) hS.2.2 dX7_sews_17
theorem iX7_many_X7 : ∀ w ∈ u_ws RX7 TX7 9, w ∈ wsX7_many := by decide +kernel
theorem kX7_many_7 : Cond.fieldLink RX7 7 "TailorChalksModel" "s" "[I" ∈ wsX7_many := by decide +kernel
def F_Model_many_L4 (how : Int32) (vs : Nat → Int32) : Nat → Int32 → Int32 → Int32 × Int32
  | 0, x3, x2 => (x3, x2)
  | n + 1, x3, x2 => (if (82 : Int32) ≤ x3 then (x3, x2) else (if (vs ((0 : Int32) + x3).toNatClampNeg) = how then (bnd (F_Model_isVoid x3 vs) (fun r_4 => (if r_4 = 0 then (F_Model_many_L4 how vs n (x3 + 1) (x2 + 1)) else (F_Model_many_L4 how vs n (x3 + 1) (x2 + 0))))) else (F_Model_many_L4 how vs n (x3 + 1) (x2 + 0))))
def F_Model_many (how : Int32) (vs : Nat → Int32) : Int32 := (bnd (F_Model_many_L4 how vs 83 (0 : Int32) (0 : Int32)) (fun q_1 => q_1.2))
set_option maxHeartbeats 4000000 in
set_option maxRecDepth 100000 in
theorem c_Model_many (l : Launch) (dC : Nat → ClassId) (dI : Nat → Nat → Nat) (cI cC cG cZ : ClassId) (mo ms mah mhi msl msv mpd mlb : Nat) (how : Int32) (vkp : Int32) (vln : Int32) (vs : Nat → Int32) (res : Int32) (hres : res = F_Model_many how vs) : Met l yX7_many wsX7_many ({ frames := 3, cells := 0, slots := 0, locals := 61 }) (va_Pc [.ref mo, .int how] (ro_P (dC, dI) vwCl (tyL cI cC cG cZ) [(mo, .inr (7, [.ref ms, .ref mah, .ref mhi, .int vkp, .ref msl, .ref msv, .ref mpd, .int vln, .ref mlb])), (ms, .inl (cI, 246, .inl vs))])) (va_Qi (fun r (_ : Unit) => r = res) (fun _ _ => True) ro_F) 0 0 ro_F := by
  refine Met.ofW (cc := cX7_many) (maxL := 4) (ret := (some .int)) (by decide) rfl ?_
  intro p e s m args below meth c s₁ B hml hv
  obtain ⟨rfl, hP, hK⟩ := hv
  have hx := B.exec
  have hb := B.bytes
  have hr := B.returns
  have hts := atoms_spec (ws := wsX7_many) B.pre
  have hown : s.vm.findClass RX7 = some m.cls := findClass_of_methodNamed B.named
  have hlocks := B.notSynchronized
  have hS : va_S ro_F s.heap s.heap [] := va_S.rf
  have hl := lv_entry ([.ref mo, .int how]) (n := 4) (Nat.le_of_ble_eq_true rfl)
  rw [lg_entry_eq]
  generalize (lg_sl ([.ref mo, .int how]) ++ List.replicate (4 - (lg_sl ([.ref mo, .int how])).length) Slot.unset).toArray = ls at hl ⊢
  have hl : lv_has ls 4 [(0, .ref mo), (1, .int how)] := hl
  rw [F_Model_many] at hres
  refine lv_iconst (v := 0) hx hb dX7_many_0 (by decide) ?_
  refine lv_istore_n (lv' := [(2, .int 0), (0, .ref mo), (1, .int how)]) hx hb dX7_many_1 rfl hl (by decide) rfl (fun ls hl => ?_)
  refine lv_iconst (v := 0) hx hb dX7_many_2 (by decide) ?_
  refine lv_istore_n (lv' := [(3, .int 0), (2, .int 0), (0, .ref mo), (1, .int how)]) hx hb dX7_many_3 rfl hl (by decide) rfl (fun ls hl => ?_)
  obtain ⟨q_1, hq_1⟩ : ∃ z, z = F_Model_many_L4 how vs 83 (0 : Int32) (0 : Int32) := ⟨_, rfl⟩
  rw [bnd_e hq_1] at hres
  have hexit4 : ∀ (H : Heap) (locs : List Loc) (ls : Array Slot), va_P (dC, dI) vwCl [(mo, .inr (7, [.ref ms, .ref mah, .ref mhi, .int vkp, .ref msl, .ref msv, .ref mpd, .int vln, .ref mlb])), (ms, .inl (cI, 246, .inl vs))] H → va_S ro_F s.heap H locs → lv_has ls 4 [(3, .int q_1.1), (2, .int q_1.2), (0, .ref mo), (1, .int how)] → W p l e (headSpec wsX7_many ({ frames := 3, cells := 0, slots := 0, locals := 61 })).room s m ([.ref mo, .int how] : List Value).toArray below meth c H locs 0 0 (MQ below (va_Qi (fun r (_ : Unit) => r = res) (fun _ _ => True) ro_F) ([.ref mo, .int how] : List Value).toArray s 0 0 ro_F) (F0 m 44 ls []) := by
    intro H locs ls  hP hS hl
    refine lv_iload_n hx hb dX7_many_44 rfl (lv_at hl 1 rfl) ?_
    exact W.iret (v := q_1.2) hx hb hr (fun t ht hW => ⟨⟨q_1.2, (), rfl, hres.symm, trivial⟩, hS.F ht⟩) hS.2.2 dX7_many_45
  have hloop4 : ∀ (n k4 : Nat) (x3 : Int32) (x2 : Int32) (H : Heap) (locs : List Loc) (ls : Array Slot), k4 ≤ 82 → 82 - k4 < n → x3 = nI k4 → q_1 = F_Model_many_L4 how vs n x3 x2 → va_P (dC, dI) vwCl [(mo, .inr (7, [.ref ms, .ref mah, .ref mhi, .int vkp, .ref msl, .ref msv, .ref mpd, .int vln, .ref mlb])), (ms, .inl (cI, 246, .inl vs))] H → va_S ro_F s.heap H locs → lv_has ls 4 [(3, .int x3), (2, .int x2), (0, .ref mo), (1, .int how)] → W p l e (headSpec wsX7_many ({ frames := 3, cells := 0, slots := 0, locals := 61 })).room s m ([.ref mo, .int how] : List Value).toArray below meth c H locs 0 0 (MQ below (va_Qi (fun r (_ : Unit) => r = res) (fun _ _ => True) ro_F) ([.ref mo, .int how] : List Value).toArray s 0 0 ro_F) (F0 m 4 ls []) := by
    intro n
    induction n with
    | zero => intro k4 x3 x2 _ _ _ _ hm; exact absurd hm (Nat.not_lt_zero _)
    | succ n ih4 =>
      intro k4 x3 x2 H locs ls hk4 hm4 ex4  hq_1 hP hS hl
      rw [F_Model_many_L4] at hq_1
      refine lv_iload_n hx hb dX7_many_4 rfl (lv_at hl 0 rfl) ?_
      refine lv_bipush (v := 82) hx hb dX7_many_5 (by decide) ?_
      refine lv_icmp_ge (tgt := 44) hx hb dX7_many_7 (by decide) (fun c_2 => ?_) (fun c_2 => ?_)
      · rw [if_pos c_2] at hq_1
        subst hq_1
        exact hexit4 _ _ _  hP hS (lv_sub hl [0, 1, 2, 3] rfl)
      · rw [if_neg c_2] at hq_1
        have hlt_k4 : k4 < 82 := lp_lt rfl ex4 hk4 c_2
        refine lv_iload_n hx hb dX7_many_10 rfl (lv_at hl 1 rfl) ?_
        refine lv_aload_n hx hb dX7_many_11 rfl (lv_at hl 2 rfl) ?_
        refine va_get (D := (dC, dI)) (ci := 7) (v := .ref ms) (C := RX7) (T := TX7) (N := 9) hx hb hts iX7_many_X7 hown hK hP 0 rfl rfl 0 (by decide) (hts (.fieldLink RX7 7 "TailorChalksModel" "s" "[I") kX7_many_7) (fun _ h9 => h9) rfl dX7_many_12 ?_
        refine lv_iconst (v := 0) hx hb dX7_many_15 (by decide) ?_
        refine lv_iload_n hx hb dX7_many_16 rfl (lv_at hl 0 rfl) ?_
        refine lv_iadd hx hb dX7_many_17 ?_
        refine va_iald hx hb hK hP 1 0 rfl rfl (vp_addc (q := 0) (n := 82) rfl (by rw [ex4]; exact vp_in_nI (by omega) (by decide)) (by decide) (by decide)) dX7_many_18 ?_
        refine lv_iload_n hx hb dX7_many_19 rfl (lv_at hl 3 rfl) ?_
        refine lv_icmp_ne (tgt := 35) hx hb dX7_many_20 (by decide) (fun c_3 => ?_) (fun c_3 => ?_)
        · rw [if_neg c_3] at hq_1
          refine lv_iconst (v := 0) hx hb dX7_many_35 (by decide) ?_
          refine lv_iadd hx hb dX7_many_36 ?_
          refine lv_istore_n (lv' := [(2, .int (x2 + 0)), (3, .int x3), (0, .ref mo), (1, .int how)]) hx hb dX7_many_37 rfl hl (by decide) rfl (fun ls hl => ?_)
          refine lv_iinc (v := (x3 + 1)) (lv' := [(3, .int (x3 + 1)), (2, .int (x2 + 0)), (0, .ref mo), (1, .int how)]) hx hb dX7_many_38 hl (k := 1) rfl rfl (by decide) rfl (fun ls hl => ?_)
          refine lv_goto (tgt := 4) hx hb dX7_many_41 (by decide) ?_
          exact ih4 (k4 + 1) (x3 + 1) (x2 + 0) _ _ _ (by omega) (by omega) (by rw [ex4]; exact nI_1 _)  hq_1 hP hS (lv_sub hl [0, 1, 2, 3] rfl)
        · rw [if_pos c_3] at hq_1
          refine lv_aload_n hx hb dX7_many_23 rfl (lv_at hl 2 rfl) ?_
          refine lv_iload_n hx hb dX7_many_24 rfl (lv_at hl 0 rfl) ?_
          obtain ⟨r_4, hr_4⟩ : ∃ z, z = F_Model_isVoid x3 vs := ⟨_, rfl⟩
          rw [bnd_e hr_4] at hq_1
          refine ro_calli (va_runV (As := [.int x3]) (rest := [.int x2]) ⟨hx, hb, hml, hown, hts⟩ (c_Model_isVoid l dC dI cI cC cG cZ mo ms mah mhi msl msv mpd mlb x3 vkp vln vs (by rw [ex4]; exact vp_in_nI (by omega) (by decide)) r_4 hr_4) (cwV 1 hts gX7_many_X7_isVoid rfl rfl rfl (by decide +kernel) ⟨Nat.le_of_ble_eq_true rfl, Nat.le_of_ble_eq_true rfl⟩) (ro_preV (hP.sub (ws' := [(mo, .inr (7, [.ref ms, .ref mah, .ref mhi, .int vkp, .ref msl, .ref msv, .ref mpd, .int vln, .ref mlb])), (ms, .inl (cI, 246, .inl vs))]) [0, 1] rfl) hK (ci := 7) (q0 := 0) rfl rfl) rfl rfl hl.1 rfl (lv_room (Nat.le_of_ble_eq_true rfl)) dX7_many_25 ⟨Nat.zero_le _, Nat.zero_le _⟩) hP hS (fun H locs hP hS => ?_)
          refine lv_if_ne (tgt := 35) hx hb dX7_many_28 (by decide) (fun c_5 => ?_) (fun c_5 => ?_)
          · rw [if_neg c_5] at hq_1
            refine lv_iconst (v := 0) hx hb dX7_many_35 (by decide) ?_
            refine lv_iadd hx hb dX7_many_36 ?_
            refine lv_istore_n (lv' := [(2, .int (x2 + 0)), (3, .int x3), (0, .ref mo), (1, .int how)]) hx hb dX7_many_37 rfl hl (by decide) rfl (fun ls hl => ?_)
            refine lv_iinc (v := (x3 + 1)) (lv' := [(3, .int (x3 + 1)), (2, .int (x2 + 0)), (0, .ref mo), (1, .int how)]) hx hb dX7_many_38 hl (k := 1) rfl rfl (by decide) rfl (fun ls hl => ?_)
            refine lv_goto (tgt := 4) hx hb dX7_many_41 (by decide) ?_
            exact ih4 (k4 + 1) (x3 + 1) (x2 + 0) _ _ _ (by omega) (by omega) (by rw [ex4]; exact nI_1 _)  hq_1 hP hS (lv_sub hl [0, 1, 2, 3] rfl)
          · rw [if_pos c_5] at hq_1
            refine lv_iconst (v := 1) hx hb dX7_many_31 (by decide) ?_
            refine lv_goto (tgt := 36) hx hb dX7_many_32 (by decide) ?_
            refine lv_iadd hx hb dX7_many_36 ?_
            refine lv_istore_n (lv' := [(2, .int (x2 + 1)), (3, .int x3), (0, .ref mo), (1, .int how)]) hx hb dX7_many_37 rfl hl (by decide) rfl (fun ls hl => ?_)
            refine lv_iinc (v := (x3 + 1)) (lv' := [(3, .int (x3 + 1)), (2, .int (x2 + 1)), (0, .ref mo), (1, .int how)]) hx hb dX7_many_38 hl (k := 1) rfl rfl (by decide) rfl (fun ls hl => ?_)
            refine lv_goto (tgt := 4) hx hb dX7_many_41 (by decide) ?_
            exact ih4 (k4 + 1) (x3 + 1) (x2 + 1) _ _ _ (by omega) (by omega) (by rw [ex4]; exact nI_1 _)  hq_1 hP hS (lv_sub hl [0, 1, 2, 3] rfl)
  exact hloop4 83 0 (0 : Int32) (0 : Int32) _ _ _ (by omega) (by omega) nI_0.symm  hq_1 hP hS (lv_sub hl [0, 1, 2, 3] rfl)
theorem iX7_bluffs_X7 : ∀ w ∈ u_ws RX7 TX7 9, w ∈ wsX7_bluffs := by decide +kernel
theorem kX7_bluffs_7 : Cond.fieldLink RX7 7 "TailorChalksModel" "s" "[I" ∈ wsX7_bluffs := by decide +kernel
def F_Model_bluffs (joint : Int32) (vs : Nat → Int32) : Int32 × (Nat → Int32) := (bnd (F_Model_isJoint joint) (fun r_1 => (if r_1 = 0 then ((-1), vs) else (bnd (F_Model_isCut joint vs) (fun r_3 => (if r_3 = 0 then ((-5), vs) else (bnd (F_Model_many (3 : Int32) (upd (upd vs ((0 : Int32) + joint).toNatClampNeg 3) ((82 : Int32) + joint).toNatClampNeg ((upd vs ((0 : Int32) + joint).toNatClampNeg 3) (245 : Int32).toNatClampNeg))) (fun r_5 => (bnd (F_Model_ends r_5 (upd (upd vs ((0 : Int32) + joint).toNatClampNeg 3) ((82 : Int32) + joint).toNatClampNeg ((upd vs ((0 : Int32) + joint).toNatClampNeg 3) (245 : Int32).toNatClampNeg))) (fun r_6 => (r_6.1, r_6.2)))))))))))
set_option maxHeartbeats 4000000 in
set_option maxRecDepth 100000 in
theorem c_Model_bluffs (l : Launch) (dC : Nat → ClassId) (dI : Nat → Nat → Nat) (cI cC cG cZ : ClassId) (mo ms mah mhi msl msv mpd mlb : Nat) (joint : Int32) (vkp : Int32) (vln : Int32) (vs : Nat → Int32) (hMI : MI vs) (res : Int32 × (Nat → Int32)) (hres : res = F_Model_bluffs joint vs) : Met l yX7_bluffs wsX7_bluffs ({ frames := 4, cells := 0, slots := 0, locals := 84 }) (va_Pc [.ref mo, .int joint] (wr_P (dC, dI) vwCl (tyL cI cC cG cZ) [(mo, .inr (7, [.ref ms, .ref mah, .ref mhi, .int vkp, .ref msl, .ref msv, .ref mpd, .int vln, .ref mlb])), (ms, .inl (cI, 246, .inl vs))])) (va_Qi (fun r (_ : Unit) => r = res.1) (fun _ zt => va_P (dC, dI) vwCl [(mo, .inr (7, [.ref ms, .ref mah, .ref mhi, .int vkp, .ref msl, .ref msv, .ref mpd, .int vln, .ref mlb])), (ms, .inl (cI, 246, .inl res.2))] zt.heap) (wr_A [(mo, .inr (7, [.ref ms, .ref mah, .ref mhi, .int vkp, .ref msl, .ref msv, .ref mpd, .int vln, .ref mlb])), (ms, .inl (cI, 246, .inl vs))])) 0 0 (wr_A [(mo, .inr (7, [.ref ms, .ref mah, .ref mhi, .int vkp, .ref msl, .ref msv, .ref mpd, .int vln, .ref mlb])), (ms, .inl (cI, 246, .inl vs))]) := by
  refine Met.ofW (cc := cX7_bluffs) (maxL := 2) (ret := (some .int)) (by decide) rfl ?_
  intro p e s m args below meth c s₁ B hml hv
  obtain ⟨rfl, hP, hK, hD0⟩ := hv
  have hx := B.exec
  have hb := B.bytes
  have hr := B.returns
  have hts := atoms_spec (ws := wsX7_bluffs) B.pre
  have hown : s.vm.findClass RX7 = some m.cls := findClass_of_methodNamed B.named
  have hlocks := B.notSynchronized
  have hD := wr_self hD0
  generalize hAe : wr_A [(mo, .inr (7, [.ref ms, .ref mah, .ref mhi, .int vkp, .ref msl, .ref msv, .ref mpd, .int vln, .ref mlb])), (ms, .inl (cI, 246, .inl vs))] = A at hD ⊢
  have hS : va_S A s.heap s.heap [] := va_S.rf
  have hP : va_P (dC, dI) vwCl [(mo, .inr (7, [.ref ms, .ref mah, .ref mhi, .int vkp, .ref msl, .ref msv, .ref mpd, .int vln, .ref mlb])), (ms, .inl (cI, 246, .inl vs))] s.heap := hP
  have hl := lv_entry ([.ref mo, .int joint]) (n := 2) (Nat.le_of_ble_eq_true rfl)
  rw [lg_entry_eq]
  generalize (lg_sl ([.ref mo, .int joint]) ++ List.replicate (2 - (lg_sl ([.ref mo, .int joint])).length) Slot.unset).toArray = ls at hl ⊢
  have hl : lv_has ls 2 [(0, .ref mo), (1, .int joint)] := hl
  rw [F_Model_bluffs] at hres
  refine lv_iload_n hx hb dX7_bluffs_0 rfl (lv_at hl 1 rfl) ?_
  obtain ⟨r_1, hr_1⟩ : ∃ z, z = F_Model_isJoint joint := ⟨_, rfl⟩
  rw [bnd_e hr_1] at hres
  refine ro_calli (va_runS (As := [.int joint]) (rest := []) ⟨hx, hb, hml, hown, hts⟩ (c_Model_isJoint l dC dI cI cC cG cZ  joint  r_1 hr_1) (va_cwS 1 hts gX7_bluffs_X7_isJoint rfl rfl rfl (by decide +kernel) ⟨Nat.le_of_ble_eq_true rfl, Nat.le_of_ble_eq_true rfl⟩) (ro_preS (hP.sub (ws' := []) [] rfl) hK) rfl rfl hl.1 rfl (lv_room (Nat.le_of_ble_eq_true rfl)) dX7_bluffs_1 ⟨Nat.zero_le _, Nat.zero_le _⟩) hP hS (fun H locs hP hS => ?_)
  refine lv_if_ne (tgt := 9) hx hb dX7_bluffs_4 (by decide) (fun c_2 => ?_) (fun c_2 => ?_)
  · rw [if_neg c_2] at hres
    refine lv_aload_n hx hb dX7_bluffs_9 rfl (lv_at hl 0 rfl) ?_
    refine lv_iload_n hx hb dX7_bluffs_10 rfl (lv_at hl 1 rfl) ?_
    obtain ⟨r_3, hr_3⟩ : ∃ z, z = F_Model_isCut joint vs := ⟨_, rfl⟩
    rw [bnd_e hr_3] at hres
    refine ro_calli (va_runV (As := [.int joint]) (rest := []) ⟨hx, hb, hml, hown, hts⟩ (c_Model_isCut l dC dI cI cC cG cZ mo ms mah mhi msl msv mpd mlb joint vkp vln vs (mjt_in (by rw [← hr_1]; exact c_2)) r_3 hr_3) (cwV 1 hts gX7_bluffs_X7_isCut rfl rfl rfl (by decide +kernel) ⟨Nat.le_of_ble_eq_true rfl, Nat.le_of_ble_eq_true rfl⟩) (ro_preV (hP.sub (ws' := [(mo, .inr (7, [.ref ms, .ref mah, .ref mhi, .int vkp, .ref msl, .ref msv, .ref mpd, .int vln, .ref mlb])), (ms, .inl (cI, 246, .inl vs))]) [0, 1] rfl) hK (ci := 7) (q0 := 0) rfl rfl) rfl rfl hl.1 rfl (lv_room (Nat.le_of_ble_eq_true rfl)) dX7_bluffs_11 ⟨Nat.zero_le _, Nat.zero_le _⟩) hP hS (fun H locs hP hS => ?_)
    refine lv_if_ne (tgt := 20) hx hb dX7_bluffs_14 (by decide) (fun c_4 => ?_) (fun c_4 => ?_)
    · rw [if_neg c_4] at hres
      refine lv_aload_n hx hb dX7_bluffs_20 rfl (lv_at hl 0 rfl) ?_
      refine va_get (D := (dC, dI)) (ci := 7) (v := .ref ms) (C := RX7) (T := TX7) (N := 9) hx hb hts iX7_bluffs_X7 hown hK hP 0 rfl rfl 0 (by decide) (hts (.fieldLink RX7 7 "TailorChalksModel" "s" "[I") kX7_bluffs_7) (fun _ h9 => h9) rfl dX7_bluffs_21 ?_
      refine lv_iconst (v := 0) hx hb dX7_bluffs_24 (by decide) ?_
      refine lv_iload_n hx hb dX7_bluffs_25 rfl (lv_at hl 1 rfl) ?_
      refine lv_iadd hx hb dX7_bluffs_26 ?_
      refine lv_iconst (v := 3) hx hb dX7_bluffs_27 (by decide) ?_
      refine va_iast hx hb hK hP hD hS 1 0 rfl rfl (vp_addc (q := 0) (n := 82) rfl (mjt_in (by rw [← hr_1]; exact c_2)) (by decide) (by decide)) dX7_bluffs_28 (fun H locs hP hD hS => ?_)
      have hP : va_P (dC, dI) vwCl [(mo, .inr (7, [.ref ms, .ref mah, .ref mhi, .int vkp, .ref msl, .ref msv, .ref mpd, .int vln, .ref mlb])), (ms, .inl (cI, 246, .inl (upd vs ((0 : Int32) + joint).toNatClampNeg 3)))] H := hP
      have hD : va_D A [(mo, .inr (7, [.ref ms, .ref mah, .ref mhi, .int vkp, .ref msl, .ref msv, .ref mpd, .int vln, .ref mlb])), (ms, .inl (cI, 246, .inl (upd vs ((0 : Int32) + joint).toNatClampNeg 3)))] := hD
      refine lv_aload_n hx hb dX7_bluffs_29 rfl (lv_at hl 0 rfl) ?_
      refine va_get (D := (dC, dI)) (ci := 7) (v := .ref ms) (C := RX7) (T := TX7) (N := 9) hx hb hts iX7_bluffs_X7 hown hK hP 0 rfl rfl 0 (by decide) (hts (.fieldLink RX7 7 "TailorChalksModel" "s" "[I") kX7_bluffs_7) (fun _ h9 => h9) rfl dX7_bluffs_30 ?_
      refine lv_bipush (v := 82) hx hb dX7_bluffs_33 (by decide) ?_
      refine lv_iload_n hx hb dX7_bluffs_35 rfl (lv_at hl 1 rfl) ?_
      refine lv_iadd hx hb dX7_bluffs_36 ?_
      refine lv_aload_n hx hb dX7_bluffs_37 rfl (lv_at hl 0 rfl) ?_
      refine va_get (D := (dC, dI)) (ci := 7) (v := .ref ms) (C := RX7) (T := TX7) (N := 9) hx hb hts iX7_bluffs_X7 hown hK hP 0 rfl rfl 0 (by decide) (hts (.fieldLink RX7 7 "TailorChalksModel" "s" "[I") kX7_bluffs_7) (fun _ h9 => h9) rfl dX7_bluffs_38 ?_
      refine lv_sipush (v := 245) hx hb dX7_bluffs_41 (by decide) ?_
      refine va_iald hx hb hK hP 1 0 rfl rfl (vp_in_iff.mpr (by decide +kernel)) dX7_bluffs_44 ?_
      refine va_iast hx hb hK hP hD hS 1 0 rfl rfl (vp_addc (q := 82) (n := 82) rfl (mjt_in (by rw [← hr_1]; exact c_2)) (by decide) (by decide)) dX7_bluffs_45 (fun H locs hP hD hS => ?_)
      have hP : va_P (dC, dI) vwCl [(mo, .inr (7, [.ref ms, .ref mah, .ref mhi, .int vkp, .ref msl, .ref msv, .ref mpd, .int vln, .ref mlb])), (ms, .inl (cI, 246, .inl (upd (upd vs ((0 : Int32) + joint).toNatClampNeg 3) ((82 : Int32) + joint).toNatClampNeg ((upd vs ((0 : Int32) + joint).toNatClampNeg 3) (245 : Int32).toNatClampNeg))))] H := hP
      have hD : va_D A [(mo, .inr (7, [.ref ms, .ref mah, .ref mhi, .int vkp, .ref msl, .ref msv, .ref mpd, .int vln, .ref mlb])), (ms, .inl (cI, 246, .inl (upd (upd vs ((0 : Int32) + joint).toNatClampNeg 3) ((82 : Int32) + joint).toNatClampNeg ((upd vs ((0 : Int32) + joint).toNatClampNeg 3) (245 : Int32).toNatClampNeg))))] := hD
      refine lv_aload_n hx hb dX7_bluffs_46 rfl (lv_at hl 0 rfl) ?_
      refine lv_aload_n hx hb dX7_bluffs_47 rfl (lv_at hl 0 rfl) ?_
      refine lv_iconst (v := 3) hx hb dX7_bluffs_48 (by decide) ?_
      obtain ⟨r_5, hr_5⟩ : ∃ z, z = F_Model_many (3 : Int32) (upd (upd vs ((0 : Int32) + joint).toNatClampNeg 3) ((82 : Int32) + joint).toNatClampNeg ((upd vs ((0 : Int32) + joint).toNatClampNeg 3) (245 : Int32).toNatClampNeg)) := ⟨_, rfl⟩
      rw [bnd_e hr_5] at hres
      refine ro_calli (va_runV (As := [.int 3]) (rest := [.ref mo]) ⟨hx, hb, hml, hown, hts⟩ (c_Model_many l dC dI cI cC cG cZ mo ms mah mhi msl msv mpd mlb (3 : Int32) vkp vln (upd (upd vs ((0 : Int32) + joint).toNatClampNeg 3) ((82 : Int32) + joint).toNatClampNeg ((upd vs ((0 : Int32) + joint).toNatClampNeg 3) (245 : Int32).toNatClampNeg))  r_5 hr_5) (cwV 1 hts gX7_bluffs_X7_many rfl rfl rfl (by decide +kernel) ⟨Nat.le_of_ble_eq_true rfl, Nat.le_of_ble_eq_true rfl⟩) (ro_preV (hP.sub (ws' := [(mo, .inr (7, [.ref ms, .ref mah, .ref mhi, .int vkp, .ref msl, .ref msv, .ref mpd, .int vln, .ref mlb])), (ms, .inl (cI, 246, .inl (upd (upd vs ((0 : Int32) + joint).toNatClampNeg 3) ((82 : Int32) + joint).toNatClampNeg ((upd vs ((0 : Int32) + joint).toNatClampNeg 3) (245 : Int32).toNatClampNeg))))]) [0, 1] rfl) hK (ci := 7) (q0 := 0) rfl rfl) rfl rfl hl.1 rfl (lv_room (Nat.le_of_ble_eq_true rfl)) dX7_bluffs_49 ⟨Nat.zero_le _, Nat.zero_le _⟩) hP hS (fun H locs hP hS => ?_)
      obtain ⟨r_6, hr_6⟩ : ∃ z, z = F_Model_ends r_5 (upd (upd vs ((0 : Int32) + joint).toNatClampNeg 3) ((82 : Int32) + joint).toNatClampNeg ((upd vs ((0 : Int32) + joint).toNatClampNeg 3) (245 : Int32).toNatClampNeg)) := ⟨_, rfl⟩
      rw [bnd_e hr_6] at hres
      refine wr_calli (w1 := [(mo, .inr (7, [.ref ms, .ref mah, .ref mhi, .int vkp, .ref msl, .ref msv, .ref mpd, .int vln, .ref mlb])), (ms, .inl (cI, 246, .inl r_6.2))]) (is := [0, 1]) (va_runV (As := [.int r_5]) (rest := []) ⟨hx, hb, hml, hown, hts⟩ (c_Model_ends l dC dI cI cC cG cZ mo ms mah mhi msl msv mpd mlb r_5 vkp vln (upd (upd vs ((0 : Int32) + joint).toNatClampNeg 3) ((82 : Int32) + joint).toNatClampNeg ((upd vs ((0 : Int32) + joint).toNatClampNeg 3) (245 : Int32).toNatClampNeg))  r_6 hr_6) (cwV 1 hts gX7_bluffs_X7_ends rfl rfl rfl (by decide +kernel) ⟨Nat.le_of_ble_eq_true rfl, Nat.le_of_ble_eq_true rfl⟩) (wr_preV (hP.sub (ws' := [(mo, .inr (7, [.ref ms, .ref mah, .ref mhi, .int vkp, .ref msl, .ref msv, .ref mpd, .int vln, .ref mlb])), (ms, .inl (cI, 246, .inl (upd (upd vs ((0 : Int32) + joint).toNatClampNeg 3) ((82 : Int32) + joint).toNatClampNeg ((upd vs ((0 : Int32) + joint).toNatClampNeg 3) (245 : Int32).toNatClampNeg))))]) [0, 1] rfl) hK (hD.sub (ws' := [(mo, .inr (7, [.ref ms, .ref mah, .ref mhi, .int vkp, .ref msl, .ref msv, .ref mpd, .int vln, .ref mlb])), (ms, .inl (cI, 246, .inl (upd (upd vs ((0 : Int32) + joint).toNatClampNeg 3) ((82 : Int32) + joint).toNatClampNeg ((upd vs ((0 : Int32) + joint).toNatClampNeg 3) (245 : Int32).toNatClampNeg))))]) [0, 1] (by decide) rfl) (ci := 7) (q0 := 0) rfl rfl) rfl rfl hl.1 rfl (lv_room (Nat.le_of_ble_eq_true rfl)) dX7_bluffs_52 ⟨Nat.zero_le _, Nat.zero_le _⟩) hP hD hS rfl rfl rfl (fun H locs hP hD hS => ?_)
      have hP : va_P (dC, dI) vwCl [(mo, .inr (7, [.ref ms, .ref mah, .ref mhi, .int vkp, .ref msl, .ref msv, .ref mpd, .int vln, .ref mlb])), (ms, .inl (cI, 246, .inl r_6.2))] H := hP
      have hD : va_D A [(mo, .inr (7, [.ref ms, .ref mah, .ref mhi, .int vkp, .ref msl, .ref msv, .ref mpd, .int vln, .ref mlb])), (ms, .inl (cI, 246, .inl r_6.2))] := hD
      subst hres
      exact W.iret (v := r_6.1) hx hb hr (fun t ht hW => ⟨⟨r_6.1, (), rfl, rfl, (by show va_P _ _ _ t.heap; rw [ht]; exact hP)⟩, hS.F ht⟩) hS.2.2 dX7_bluffs_55
    · rw [if_pos c_4] at hres
      refine lv_bipush (v := (-5)) hx hb dX7_bluffs_17 (by decide) ?_
      subst hres
      exact W.iret (v := (-5)) hx hb hr (fun t ht hW => ⟨⟨(-5), (), rfl, rfl, (by show va_P _ _ _ t.heap; rw [ht]; exact hP)⟩, hS.F ht⟩) hS.2.2 dX7_bluffs_19
  · rw [if_pos c_2] at hres
    refine lv_iconst (v := (-1)) hx hb dX7_bluffs_7 (by decide) ?_
    subst hres
    exact W.iret (v := (-1)) hx hb hr (fun t ht hW => ⟨⟨(-1), (), rfl, rfl, (by show va_P _ _ _ t.heap; rw [ht]; exact hP)⟩, hS.F ht⟩) hS.2.2 dX7_bluffs_8
theorem iX7_doubts_X7 : ∀ w ∈ u_ws RX7 TX7 9, w ∈ wsX7_doubts := by decide +kernel
theorem kX7_doubts_7 : Cond.fieldLink RX7 7 "TailorChalksModel" "s" "[I" ∈ wsX7_doubts := by decide +kernel
def F_Model_doubts (joint : Int32) (vs : Nat → Int32) : Int32 × (Nat → Int32) := (bnd (F_Model_isJoint joint) (fun r_1 => (if r_1 = 0 then ((-1), vs) else (bnd (F_Model_isOver vs) (fun r_3 => (if r_3 = 0 then (bnd (F_Model_isVoid joint vs) (fun r_5 => (if r_5 = 0 then (if (vs ((82 : Int32) + joint).toNatClampNeg) = ((1 : Int32) - (vs (245 : Int32).toNatClampNeg)) then (if (vs ((0 : Int32) + joint).toNatClampNeg) = 3 then (bnd (F_Model_at (vs (245 : Int32).toNatClampNeg) (0 : Int32)) (fun r_17 => (bnd (F_Model_at (vs (245 : Int32).toNatClampNeg) (6 : Int32)) (fun r_20 => (bnd (F_Model_ends (1 : Int32) (upd (upd (upd (upd vs ((82 : Int32) + joint).toNatClampNeg (-6)) ((0 : Int32) + joint).toNatClampNeg 1) r_17.toNatClampNeg (((upd (upd vs ((82 : Int32) + joint).toNatClampNeg (-6)) ((0 : Int32) + joint).toNatClampNeg 1) r_17.toNatClampNeg) + 2)) r_20.toNatClampNeg (((upd (upd (upd vs ((82 : Int32) + joint).toNatClampNeg (-6)) ((0 : Int32) + joint).toNatClampNeg 1) r_17.toNatClampNeg (((upd (upd vs ((82 : Int32) + joint).toNatClampNeg (-6)) ((0 : Int32) + joint).toNatClampNeg 1) r_17.toNatClampNeg) + 2)) r_20.toNatClampNeg) + 1))) (fun r_22 => (r_22.1, r_22.2))))))) else (bnd (F_Model_at (vs (245 : Int32).toNatClampNeg) (0 : Int32)) (fun r_10 => (bnd (F_Model_at (vs (245 : Int32).toNatClampNeg) (7 : Int32)) (fun r_13 => (bnd (F_Model_ends (0 : Int32) (upd (upd (upd (upd vs ((82 : Int32) + joint).toNatClampNeg (-6)) ((0 : Int32) + joint).toNatClampNeg 2) r_10.toNatClampNeg (((upd (upd vs ((82 : Int32) + joint).toNatClampNeg (-6)) ((0 : Int32) + joint).toNatClampNeg 2) r_10.toNatClampNeg) + (-2))) r_13.toNatClampNeg (((upd (upd (upd vs ((82 : Int32) + joint).toNatClampNeg (-6)) ((0 : Int32) + joint).toNatClampNeg 2) r_10.toNatClampNeg (((upd (upd vs ((82 : Int32) + joint).toNatClampNeg (-6)) ((0 : Int32) + joint).toNatClampNeg 2) r_10.toNatClampNeg) + (-2))) r_13.toNatClampNeg) + 1))) (fun r_15 => (r_15.1, r_15.2)))))))) else ((-5), vs)) else ((-5), vs)))) else ((-5), vs)))))))
set_option maxHeartbeats 4000000 in
set_option maxRecDepth 100000 in
theorem c_Model_doubts (l : Launch) (dC : Nat → ClassId) (dI : Nat → Nat → Nat) (cI cC cG cZ : ClassId) (mo ms mah mhi msl msv mpd mlb : Nat) (joint : Int32) (vkp : Int32) (vln : Int32) (vs : Nat → Int32) (hMI : MI vs) (res : Int32 × (Nat → Int32)) (hres : res = F_Model_doubts joint vs) : Met l yX7_doubts wsX7_doubts ({ frames := 3, cells := 0, slots := 0, locals := 63 }) (va_Pc [.ref mo, .int joint] (wr_P (dC, dI) vwCl (tyL cI cC cG cZ) [(mo, .inr (7, [.ref ms, .ref mah, .ref mhi, .int vkp, .ref msl, .ref msv, .ref mpd, .int vln, .ref mlb])), (ms, .inl (cI, 246, .inl vs))])) (va_Qi (fun r (_ : Unit) => r = res.1) (fun _ zt => va_P (dC, dI) vwCl [(mo, .inr (7, [.ref ms, .ref mah, .ref mhi, .int vkp, .ref msl, .ref msv, .ref mpd, .int vln, .ref mlb])), (ms, .inl (cI, 246, .inl res.2))] zt.heap) (wr_A [(mo, .inr (7, [.ref ms, .ref mah, .ref mhi, .int vkp, .ref msl, .ref msv, .ref mpd, .int vln, .ref mlb])), (ms, .inl (cI, 246, .inl vs))])) 0 0 (wr_A [(mo, .inr (7, [.ref ms, .ref mah, .ref mhi, .int vkp, .ref msl, .ref msv, .ref mpd, .int vln, .ref mlb])), (ms, .inl (cI, 246, .inl vs))]) := by
  refine Met.ofW (cc := cX7_doubts) (maxL := 4) (ret := (some .int)) (by decide) rfl ?_
  intro p e s m args below meth c s₁ B hml hv
  obtain ⟨rfl, hP, hK, hD0⟩ := hv
  have hx := B.exec
  have hb := B.bytes
  have hr := B.returns
  have hts := atoms_spec (ws := wsX7_doubts) B.pre
  have hown : s.vm.findClass RX7 = some m.cls := findClass_of_methodNamed B.named
  have hlocks := B.notSynchronized
  have hD := wr_self hD0
  generalize hAe : wr_A [(mo, .inr (7, [.ref ms, .ref mah, .ref mhi, .int vkp, .ref msl, .ref msv, .ref mpd, .int vln, .ref mlb])), (ms, .inl (cI, 246, .inl vs))] = A at hD ⊢
  have hS : va_S A s.heap s.heap [] := va_S.rf
  have hP : va_P (dC, dI) vwCl [(mo, .inr (7, [.ref ms, .ref mah, .ref mhi, .int vkp, .ref msl, .ref msv, .ref mpd, .int vln, .ref mlb])), (ms, .inl (cI, 246, .inl vs))] s.heap := hP
  have hl := lv_entry ([.ref mo, .int joint]) (n := 4) (Nat.le_of_ble_eq_true rfl)
  rw [lg_entry_eq]
  generalize (lg_sl ([.ref mo, .int joint]) ++ List.replicate (4 - (lg_sl ([.ref mo, .int joint])).length) Slot.unset).toArray = ls at hl ⊢
  have hl : lv_has ls 4 [(0, .ref mo), (1, .int joint)] := hl
  rw [F_Model_doubts] at hres
  refine lv_aload_n hx hb dX7_doubts_0 rfl (lv_at hl 0 rfl) ?_
  refine va_get (D := (dC, dI)) (ci := 7) (v := .ref ms) (C := RX7) (T := TX7) (N := 9) hx hb hts iX7_doubts_X7 hown hK hP 0 rfl rfl 0 (by decide) (hts (.fieldLink RX7 7 "TailorChalksModel" "s" "[I") kX7_doubts_7) (fun _ h9 => h9) rfl dX7_doubts_1 ?_
  refine lv_sipush (v := 245) hx hb dX7_doubts_4 (by decide) ?_
  refine va_iald hx hb hK hP 1 0 rfl rfl (vp_in_iff.mpr (by decide +kernel)) dX7_doubts_7 ?_
  refine lv_istore_n (lv' := [(2, .int (vs (245 : Int32).toNatClampNeg)), (0, .ref mo), (1, .int joint)]) hx hb dX7_doubts_8 rfl hl (by decide) rfl (fun ls hl => ?_)
  refine lv_iload_n hx hb dX7_doubts_9 rfl (lv_at hl 2 rfl) ?_
  obtain ⟨r_1, hr_1⟩ : ∃ z, z = F_Model_isJoint joint := ⟨_, rfl⟩
  rw [bnd_e hr_1] at hres
  refine ro_calli (va_runS (As := [.int joint]) (rest := []) ⟨hx, hb, hml, hown, hts⟩ (c_Model_isJoint l dC dI cI cC cG cZ  joint  r_1 hr_1) (va_cwS 1 hts gX7_doubts_X7_isJoint rfl rfl rfl (by decide +kernel) ⟨Nat.le_of_ble_eq_true rfl, Nat.le_of_ble_eq_true rfl⟩) (ro_preS (hP.sub (ws' := []) [] rfl) hK) rfl rfl hl.1 rfl (lv_room (Nat.le_of_ble_eq_true rfl)) dX7_doubts_10 ⟨Nat.zero_le _, Nat.zero_le _⟩) hP hS (fun H locs hP hS => ?_)
  refine lv_if_ne (tgt := 18) hx hb dX7_doubts_13 (by decide) (fun c_2 => ?_) (fun c_2 => ?_)
  · rw [if_neg c_2] at hres
    refine lv_aload_n hx hb dX7_doubts_18 rfl (lv_at hl 1 rfl) ?_
    obtain ⟨r_3, hr_3⟩ : ∃ z, z = F_Model_isOver vs := ⟨_, rfl⟩
    rw [bnd_e hr_3] at hres
    refine ro_calli (va_runV (As := []) (rest := []) ⟨hx, hb, hml, hown, hts⟩ (c_Model_isOver l dC dI cI cC cG cZ mo ms mah mhi msl msv mpd mlb vkp vln vs  r_3 hr_3) (cwV 0 hts gX7_doubts_X7_isOver rfl rfl rfl (by decide +kernel) ⟨Nat.le_of_ble_eq_true rfl, Nat.le_of_ble_eq_true rfl⟩) (ro_preV (hP.sub (ws' := [(mo, .inr (7, [.ref ms, .ref mah, .ref mhi, .int vkp, .ref msl, .ref msv, .ref mpd, .int vln, .ref mlb])), (ms, .inl (cI, 246, .inl vs))]) [0, 1] rfl) hK (ci := 7) (q0 := 0) rfl rfl) rfl rfl hl.1 rfl (lv_room (Nat.le_of_ble_eq_true rfl)) dX7_doubts_19 ⟨Nat.zero_le _, Nat.zero_le _⟩) hP hS (fun H locs hP hS => ?_)
    refine lv_if_ne (tgt := 48) hx hb dX7_doubts_22 (by decide) (fun c_4 => ?_) (fun c_4 => ?_)
    · rw [if_neg c_4] at hres
      refine lv_bipush (v := (-5)) hx hb dX7_doubts_48 (by decide) ?_
      subst hres
      exact W.iret (v := (-5)) hx hb hr (fun t ht hW => ⟨⟨(-5), (), rfl, rfl, (by show va_P _ _ _ t.heap; rw [ht]; exact hP)⟩, hS.F ht⟩) hS.2.2 dX7_doubts_50
    · rw [if_pos c_4] at hres
      refine lv_aload_n hx hb dX7_doubts_25 rfl (lv_at hl 1 rfl) ?_
      refine lv_iload_n hx hb dX7_doubts_26 rfl (lv_at hl 2 rfl) ?_
      obtain ⟨r_5, hr_5⟩ : ∃ z, z = F_Model_isVoid joint vs := ⟨_, rfl⟩
      rw [bnd_e hr_5] at hres
      refine ro_calli (va_runV (As := [.int joint]) (rest := []) ⟨hx, hb, hml, hown, hts⟩ (c_Model_isVoid l dC dI cI cC cG cZ mo ms mah mhi msl msv mpd mlb joint vkp vln vs (mjt_in (by rw [← hr_1]; exact c_2)) r_5 hr_5) (cwV 1 hts gX7_doubts_X7_isVoid rfl rfl rfl (by decide +kernel) ⟨Nat.le_of_ble_eq_true rfl, Nat.le_of_ble_eq_true rfl⟩) (ro_preV (hP.sub (ws' := [(mo, .inr (7, [.ref ms, .ref mah, .ref mhi, .int vkp, .ref msl, .ref msv, .ref mpd, .int vln, .ref mlb])), (ms, .inl (cI, 246, .inl vs))]) [0, 1] rfl) hK (ci := 7) (q0 := 0) rfl rfl) rfl rfl hl.1 rfl (lv_room (Nat.le_of_ble_eq_true rfl)) dX7_doubts_27 ⟨Nat.zero_le _, Nat.zero_le _⟩) hP hS (fun H locs hP hS => ?_)
      refine lv_if_ne (tgt := 48) hx hb dX7_doubts_30 (by decide) (fun c_6 => ?_) (fun c_6 => ?_)
      · rw [if_neg c_6] at hres
        refine lv_bipush (v := (-5)) hx hb dX7_doubts_48 (by decide) ?_
        subst hres
        exact W.iret (v := (-5)) hx hb hr (fun t ht hW => ⟨⟨(-5), (), rfl, rfl, (by show va_P _ _ _ t.heap; rw [ht]; exact hP)⟩, hS.F ht⟩) hS.2.2 dX7_doubts_50
      · rw [if_pos c_6] at hres
        refine lv_aload_n hx hb dX7_doubts_33 rfl (lv_at hl 1 rfl) ?_
        refine va_get (D := (dC, dI)) (ci := 7) (v := .ref ms) (C := RX7) (T := TX7) (N := 9) hx hb hts iX7_doubts_X7 hown hK hP 0 rfl rfl 0 (by decide) (hts (.fieldLink RX7 7 "TailorChalksModel" "s" "[I") kX7_doubts_7) (fun _ h9 => h9) rfl dX7_doubts_34 ?_
        refine lv_bipush (v := 82) hx hb dX7_doubts_37 (by decide) ?_
        refine lv_iload_n hx hb dX7_doubts_39 rfl (lv_at hl 2 rfl) ?_
        refine lv_iadd hx hb dX7_doubts_40 ?_
        refine va_iald hx hb hK hP 1 0 rfl rfl (vp_addc (q := 82) (n := 82) rfl (mjt_in (by rw [← hr_1]; exact c_2)) (by decide) (by decide)) dX7_doubts_41 ?_
        refine lv_iconst (v := 1) hx hb dX7_doubts_42 (by decide) ?_
        refine lv_iload_n hx hb dX7_doubts_43 rfl (lv_at hl 0 rfl) ?_
        refine lv_isub hx hb dX7_doubts_44 ?_
        refine lv_icmp_eq (tgt := 51) hx hb dX7_doubts_45 (by decide) (fun c_7 => ?_) (fun c_7 => ?_)
        · rw [if_pos c_7] at hres
          refine lv_aload_n hx hb dX7_doubts_51 rfl (lv_at hl 1 rfl) ?_
          refine va_get (D := (dC, dI)) (ci := 7) (v := .ref ms) (C := RX7) (T := TX7) (N := 9) hx hb hts iX7_doubts_X7 hown hK hP 0 rfl rfl 0 (by decide) (hts (.fieldLink RX7 7 "TailorChalksModel" "s" "[I") kX7_doubts_7) (fun _ h9 => h9) rfl dX7_doubts_52 ?_
          refine lv_iconst (v := 0) hx hb dX7_doubts_55 (by decide) ?_
          refine lv_iload_n hx hb dX7_doubts_56 rfl (lv_at hl 2 rfl) ?_
          refine lv_iadd hx hb dX7_doubts_57 ?_
          refine va_iald hx hb hK hP 1 0 rfl rfl (vp_addc (q := 0) (n := 82) rfl (mjt_in (by rw [← hr_1]; exact c_2)) (by decide) (by decide)) dX7_doubts_58 ?_
          refine lv_iconst (v := 3) hx hb dX7_doubts_59 (by decide) ?_
          refine lv_icmp_ne (tgt := 67) hx hb dX7_doubts_60 (by decide) (fun c_8 => ?_) (fun c_8 => ?_)
          · rw [if_neg c_8] at hres
            refine lv_iconst (v := 0) hx hb dX7_doubts_67 (by decide) ?_
            refine lv_istore_n (lv' := [(3, .int 0), (2, .int (vs (245 : Int32).toNatClampNeg)), (0, .ref mo), (1, .int joint)]) hx hb dX7_doubts_68 rfl hl (by decide) rfl (fun ls hl => ?_)
            refine lv_aload_n hx hb dX7_doubts_69 rfl (lv_at hl 2 rfl) ?_
            refine va_get (D := (dC, dI)) (ci := 7) (v := .ref ms) (C := RX7) (T := TX7) (N := 9) hx hb hts iX7_doubts_X7 hown hK hP 0 rfl rfl 0 (by decide) (hts (.fieldLink RX7 7 "TailorChalksModel" "s" "[I") kX7_doubts_7) (fun _ h9 => h9) rfl dX7_doubts_70 ?_
            refine lv_bipush (v := 82) hx hb dX7_doubts_73 (by decide) ?_
            refine lv_iload_n hx hb dX7_doubts_75 rfl (lv_at hl 3 rfl) ?_
            refine lv_iadd hx hb dX7_doubts_76 ?_
            refine lv_bipush (v := (-6)) hx hb dX7_doubts_77 (by decide) ?_
            refine va_iast hx hb hK hP hD hS 1 0 rfl rfl (vp_addc (q := 82) (n := 82) rfl (mjt_in (by rw [← hr_1]; exact c_2)) (by decide) (by decide)) dX7_doubts_79 (fun H locs hP hD hS => ?_)
            have hP : va_P (dC, dI) vwCl [(mo, .inr (7, [.ref ms, .ref mah, .ref mhi, .int vkp, .ref msl, .ref msv, .ref mpd, .int vln, .ref mlb])), (ms, .inl (cI, 246, .inl (upd vs ((82 : Int32) + joint).toNatClampNeg (-6))))] H := hP
            have hD : va_D A [(mo, .inr (7, [.ref ms, .ref mah, .ref mhi, .int vkp, .ref msl, .ref msv, .ref mpd, .int vln, .ref mlb])), (ms, .inl (cI, 246, .inl (upd vs ((82 : Int32) + joint).toNatClampNeg (-6))))] := hD
            refine lv_aload_n hx hb dX7_doubts_80 rfl (lv_at hl 2 rfl) ?_
            refine va_get (D := (dC, dI)) (ci := 7) (v := .ref ms) (C := RX7) (T := TX7) (N := 9) hx hb hts iX7_doubts_X7 hown hK hP 0 rfl rfl 0 (by decide) (hts (.fieldLink RX7 7 "TailorChalksModel" "s" "[I") kX7_doubts_7) (fun _ h9 => h9) rfl dX7_doubts_81 ?_
            refine lv_iconst (v := 0) hx hb dX7_doubts_84 (by decide) ?_
            refine lv_iload_n hx hb dX7_doubts_85 rfl (lv_at hl 3 rfl) ?_
            refine lv_iadd hx hb dX7_doubts_86 ?_
            refine lv_iload_n hx hb dX7_doubts_87 rfl (lv_at hl 0 rfl) ?_
            refine lv_if_eq (tgt := 95) hx hb dX7_doubts_88 (by decide) (fun c_9 => ?_) (fun c_9 => ?_)
            rotate_left
            · exact absurd (by decide) c_9
            refine lv_iconst (v := 2) hx hb dX7_doubts_95 (by decide) ?_
            refine va_iast hx hb hK hP hD hS 1 0 rfl rfl (vp_addc (q := 0) (n := 82) rfl (mjt_in (by rw [← hr_1]; exact c_2)) (by decide) (by decide)) dX7_doubts_96 (fun H locs hP hD hS => ?_)
            have hP : va_P (dC, dI) vwCl [(mo, .inr (7, [.ref ms, .ref mah, .ref mhi, .int vkp, .ref msl, .ref msv, .ref mpd, .int vln, .ref mlb])), (ms, .inl (cI, 246, .inl (upd (upd vs ((82 : Int32) + joint).toNatClampNeg (-6)) ((0 : Int32) + joint).toNatClampNeg 2)))] H := hP
            have hD : va_D A [(mo, .inr (7, [.ref ms, .ref mah, .ref mhi, .int vkp, .ref msl, .ref msv, .ref mpd, .int vln, .ref mlb])), (ms, .inl (cI, 246, .inl (upd (upd vs ((82 : Int32) + joint).toNatClampNeg (-6)) ((0 : Int32) + joint).toNatClampNeg 2)))] := hD
            refine lv_aload_n hx hb dX7_doubts_97 rfl (lv_at hl 2 rfl) ?_
            refine va_get (D := (dC, dI)) (ci := 7) (v := .ref ms) (C := RX7) (T := TX7) (N := 9) hx hb hts iX7_doubts_X7 hown hK hP 0 rfl rfl 0 (by decide) (hts (.fieldLink RX7 7 "TailorChalksModel" "s" "[I") kX7_doubts_7) (fun _ h9 => h9) rfl dX7_doubts_98 ?_
            refine lv_iload_n hx hb dX7_doubts_101 rfl (lv_at hl 1 rfl) ?_
            refine lv_iconst (v := 0) hx hb dX7_doubts_102 (by decide) ?_
            obtain ⟨r_10, hr_10⟩ : ∃ z, z = F_Model_at (vs (245 : Int32).toNatClampNeg) (0 : Int32) := ⟨_, rfl⟩
            rw [bnd_e hr_10] at hres
            refine ro_calli (va_runS (As := [.int (vs (245 : Int32).toNatClampNeg), .int 0]) (rest := [.ref ms]) ⟨hx, hb, hml, hown, hts⟩ (c_Model_at l dC dI cI cC cG cZ  (vs (245 : Int32).toNatClampNeg) (0 : Int32)  r_10 hr_10) (va_cwS 2 hts gX7_doubts_X7_at rfl rfl rfl (by decide +kernel) ⟨Nat.le_of_ble_eq_true rfl, Nat.le_of_ble_eq_true rfl⟩) (ro_preS (hP.sub (ws' := []) [] rfl) hK) rfl rfl hl.1 rfl (lv_room (Nat.le_of_ble_eq_true rfl)) dX7_doubts_103 ⟨Nat.zero_le _, Nat.zero_le _⟩) hP hS (fun H locs hP hS => ?_)
            refine lv_dup2_11 hx hb dX7_doubts_106 rfl rfl ?_
            refine va_iald hx hb hK hP 1 0 rfl rfl (by rw [hr_10]; exact at_in (mi_next hMI) (by decide) (by decide)) dX7_doubts_107 ?_
            refine lv_iload_n hx hb dX7_doubts_108 rfl (lv_at hl 0 rfl) ?_
            refine lv_if_eq (tgt := 116) hx hb dX7_doubts_109 (by decide) (fun c_11 => ?_) (fun c_11 => ?_)
            rotate_left
            · exact absurd (by decide) c_11
            refine lv_bipush (v := (-2)) hx hb dX7_doubts_116 (by decide) ?_
            refine lv_iadd hx hb dX7_doubts_118 ?_
            refine va_iast hx hb hK hP hD hS 1 0 rfl rfl (by rw [hr_10]; exact at_in (mi_next hMI) (by decide) (by decide)) dX7_doubts_119 (fun H locs hP hD hS => ?_)
            have hP : va_P (dC, dI) vwCl [(mo, .inr (7, [.ref ms, .ref mah, .ref mhi, .int vkp, .ref msl, .ref msv, .ref mpd, .int vln, .ref mlb])), (ms, .inl (cI, 246, .inl (upd (upd (upd vs ((82 : Int32) + joint).toNatClampNeg (-6)) ((0 : Int32) + joint).toNatClampNeg 2) r_10.toNatClampNeg (((upd (upd vs ((82 : Int32) + joint).toNatClampNeg (-6)) ((0 : Int32) + joint).toNatClampNeg 2) r_10.toNatClampNeg) + (-2)))))] H := hP
            have hD : va_D A [(mo, .inr (7, [.ref ms, .ref mah, .ref mhi, .int vkp, .ref msl, .ref msv, .ref mpd, .int vln, .ref mlb])), (ms, .inl (cI, 246, .inl (upd (upd (upd vs ((82 : Int32) + joint).toNatClampNeg (-6)) ((0 : Int32) + joint).toNatClampNeg 2) r_10.toNatClampNeg (((upd (upd vs ((82 : Int32) + joint).toNatClampNeg (-6)) ((0 : Int32) + joint).toNatClampNeg 2) r_10.toNatClampNeg) + (-2)))))] := hD
            refine lv_aload_n hx hb dX7_doubts_120 rfl (lv_at hl 2 rfl) ?_
            refine va_get (D := (dC, dI)) (ci := 7) (v := .ref ms) (C := RX7) (T := TX7) (N := 9) hx hb hts iX7_doubts_X7 hown hK hP 0 rfl rfl 0 (by decide) (hts (.fieldLink RX7 7 "TailorChalksModel" "s" "[I") kX7_doubts_7) (fun _ h9 => h9) rfl dX7_doubts_121 ?_
            refine lv_iload_n hx hb dX7_doubts_124 rfl (lv_at hl 1 rfl) ?_
            refine lv_iload_n hx hb dX7_doubts_125 rfl (lv_at hl 0 rfl) ?_
            refine lv_if_eq (tgt := 134) hx hb dX7_doubts_126 (by decide) (fun c_12 => ?_) (fun c_12 => ?_)
            rotate_left
            · exact absurd (by decide) c_12
            refine lv_bipush (v := 7) hx hb dX7_doubts_134 (by decide) ?_
            obtain ⟨r_13, hr_13⟩ : ∃ z, z = F_Model_at (vs (245 : Int32).toNatClampNeg) (7 : Int32) := ⟨_, rfl⟩
            rw [bnd_e hr_13] at hres
            refine ro_calli (va_runS (As := [.int (vs (245 : Int32).toNatClampNeg), .int 7]) (rest := [.ref ms]) ⟨hx, hb, hml, hown, hts⟩ (c_Model_at l dC dI cI cC cG cZ  (vs (245 : Int32).toNatClampNeg) (7 : Int32)  r_13 hr_13) (va_cwS 2 hts gX7_doubts_X7_at rfl rfl rfl (by decide +kernel) ⟨Nat.le_of_ble_eq_true rfl, Nat.le_of_ble_eq_true rfl⟩) (ro_preS (hP.sub (ws' := []) [] rfl) hK) rfl rfl hl.1 rfl (lv_room (Nat.le_of_ble_eq_true rfl)) dX7_doubts_136 ⟨Nat.zero_le _, Nat.zero_le _⟩) hP hS (fun H locs hP hS => ?_)
            refine lv_dup2_11 hx hb dX7_doubts_139 rfl rfl ?_
            refine va_iald hx hb hK hP 1 0 rfl rfl (by rw [hr_13]; exact at_in (mi_next hMI) (by decide) (by decide)) dX7_doubts_140 ?_
            refine lv_iconst (v := 1) hx hb dX7_doubts_141 (by decide) ?_
            refine lv_iadd hx hb dX7_doubts_142 ?_
            refine va_iast hx hb hK hP hD hS 1 0 rfl rfl (by rw [hr_13]; exact at_in (mi_next hMI) (by decide) (by decide)) dX7_doubts_143 (fun H locs hP hD hS => ?_)
            have hP : va_P (dC, dI) vwCl [(mo, .inr (7, [.ref ms, .ref mah, .ref mhi, .int vkp, .ref msl, .ref msv, .ref mpd, .int vln, .ref mlb])), (ms, .inl (cI, 246, .inl (upd (upd (upd (upd vs ((82 : Int32) + joint).toNatClampNeg (-6)) ((0 : Int32) + joint).toNatClampNeg 2) r_10.toNatClampNeg (((upd (upd vs ((82 : Int32) + joint).toNatClampNeg (-6)) ((0 : Int32) + joint).toNatClampNeg 2) r_10.toNatClampNeg) + (-2))) r_13.toNatClampNeg (((upd (upd (upd vs ((82 : Int32) + joint).toNatClampNeg (-6)) ((0 : Int32) + joint).toNatClampNeg 2) r_10.toNatClampNeg (((upd (upd vs ((82 : Int32) + joint).toNatClampNeg (-6)) ((0 : Int32) + joint).toNatClampNeg 2) r_10.toNatClampNeg) + (-2))) r_13.toNatClampNeg) + 1))))] H := hP
            have hD : va_D A [(mo, .inr (7, [.ref ms, .ref mah, .ref mhi, .int vkp, .ref msl, .ref msv, .ref mpd, .int vln, .ref mlb])), (ms, .inl (cI, 246, .inl (upd (upd (upd (upd vs ((82 : Int32) + joint).toNatClampNeg (-6)) ((0 : Int32) + joint).toNatClampNeg 2) r_10.toNatClampNeg (((upd (upd vs ((82 : Int32) + joint).toNatClampNeg (-6)) ((0 : Int32) + joint).toNatClampNeg 2) r_10.toNatClampNeg) + (-2))) r_13.toNatClampNeg (((upd (upd (upd vs ((82 : Int32) + joint).toNatClampNeg (-6)) ((0 : Int32) + joint).toNatClampNeg 2) r_10.toNatClampNeg (((upd (upd vs ((82 : Int32) + joint).toNatClampNeg (-6)) ((0 : Int32) + joint).toNatClampNeg 2) r_10.toNatClampNeg) + (-2))) r_13.toNatClampNeg) + 1))))] := hD
            refine lv_aload_n hx hb dX7_doubts_144 rfl (lv_at hl 2 rfl) ?_
            refine lv_iload_n hx hb dX7_doubts_145 rfl (lv_at hl 0 rfl) ?_
            refine lv_if_eq (tgt := 153) hx hb dX7_doubts_146 (by decide) (fun c_14 => ?_) (fun c_14 => ?_)
            rotate_left
            · exact absurd (by decide) c_14
            refine lv_iconst (v := 0) hx hb dX7_doubts_153 (by decide) ?_
            obtain ⟨r_15, hr_15⟩ : ∃ z, z = F_Model_ends (0 : Int32) (upd (upd (upd (upd vs ((82 : Int32) + joint).toNatClampNeg (-6)) ((0 : Int32) + joint).toNatClampNeg 2) r_10.toNatClampNeg (((upd (upd vs ((82 : Int32) + joint).toNatClampNeg (-6)) ((0 : Int32) + joint).toNatClampNeg 2) r_10.toNatClampNeg) + (-2))) r_13.toNatClampNeg (((upd (upd (upd vs ((82 : Int32) + joint).toNatClampNeg (-6)) ((0 : Int32) + joint).toNatClampNeg 2) r_10.toNatClampNeg (((upd (upd vs ((82 : Int32) + joint).toNatClampNeg (-6)) ((0 : Int32) + joint).toNatClampNeg 2) r_10.toNatClampNeg) + (-2))) r_13.toNatClampNeg) + 1)) := ⟨_, rfl⟩
            rw [bnd_e hr_15] at hres
            refine wr_calli (w1 := [(mo, .inr (7, [.ref ms, .ref mah, .ref mhi, .int vkp, .ref msl, .ref msv, .ref mpd, .int vln, .ref mlb])), (ms, .inl (cI, 246, .inl r_15.2))]) (is := [0, 1]) (va_runV (As := [.int 0]) (rest := []) ⟨hx, hb, hml, hown, hts⟩ (c_Model_ends l dC dI cI cC cG cZ mo ms mah mhi msl msv mpd mlb (0 : Int32) vkp vln (upd (upd (upd (upd vs ((82 : Int32) + joint).toNatClampNeg (-6)) ((0 : Int32) + joint).toNatClampNeg 2) r_10.toNatClampNeg (((upd (upd vs ((82 : Int32) + joint).toNatClampNeg (-6)) ((0 : Int32) + joint).toNatClampNeg 2) r_10.toNatClampNeg) + (-2))) r_13.toNatClampNeg (((upd (upd (upd vs ((82 : Int32) + joint).toNatClampNeg (-6)) ((0 : Int32) + joint).toNatClampNeg 2) r_10.toNatClampNeg (((upd (upd vs ((82 : Int32) + joint).toNatClampNeg (-6)) ((0 : Int32) + joint).toNatClampNeg 2) r_10.toNatClampNeg) + (-2))) r_13.toNatClampNeg) + 1))  r_15 hr_15) (cwV 1 hts gX7_doubts_X7_ends rfl rfl rfl (by decide +kernel) ⟨Nat.le_of_ble_eq_true rfl, Nat.le_of_ble_eq_true rfl⟩) (wr_preV (hP.sub (ws' := [(mo, .inr (7, [.ref ms, .ref mah, .ref mhi, .int vkp, .ref msl, .ref msv, .ref mpd, .int vln, .ref mlb])), (ms, .inl (cI, 246, .inl (upd (upd (upd (upd vs ((82 : Int32) + joint).toNatClampNeg (-6)) ((0 : Int32) + joint).toNatClampNeg 2) r_10.toNatClampNeg (((upd (upd vs ((82 : Int32) + joint).toNatClampNeg (-6)) ((0 : Int32) + joint).toNatClampNeg 2) r_10.toNatClampNeg) + (-2))) r_13.toNatClampNeg (((upd (upd (upd vs ((82 : Int32) + joint).toNatClampNeg (-6)) ((0 : Int32) + joint).toNatClampNeg 2) r_10.toNatClampNeg (((upd (upd vs ((82 : Int32) + joint).toNatClampNeg (-6)) ((0 : Int32) + joint).toNatClampNeg 2) r_10.toNatClampNeg) + (-2))) r_13.toNatClampNeg) + 1))))]) [0, 1] rfl) hK (hD.sub (ws' := [(mo, .inr (7, [.ref ms, .ref mah, .ref mhi, .int vkp, .ref msl, .ref msv, .ref mpd, .int vln, .ref mlb])), (ms, .inl (cI, 246, .inl (upd (upd (upd (upd vs ((82 : Int32) + joint).toNatClampNeg (-6)) ((0 : Int32) + joint).toNatClampNeg 2) r_10.toNatClampNeg (((upd (upd vs ((82 : Int32) + joint).toNatClampNeg (-6)) ((0 : Int32) + joint).toNatClampNeg 2) r_10.toNatClampNeg) + (-2))) r_13.toNatClampNeg (((upd (upd (upd vs ((82 : Int32) + joint).toNatClampNeg (-6)) ((0 : Int32) + joint).toNatClampNeg 2) r_10.toNatClampNeg (((upd (upd vs ((82 : Int32) + joint).toNatClampNeg (-6)) ((0 : Int32) + joint).toNatClampNeg 2) r_10.toNatClampNeg) + (-2))) r_13.toNatClampNeg) + 1))))]) [0, 1] (by decide) rfl) (ci := 7) (q0 := 0) rfl rfl) rfl rfl hl.1 rfl (lv_room (Nat.le_of_ble_eq_true rfl)) dX7_doubts_154 ⟨Nat.zero_le _, Nat.zero_le _⟩) hP hD hS rfl rfl rfl (fun H locs hP hD hS => ?_)
            have hP : va_P (dC, dI) vwCl [(mo, .inr (7, [.ref ms, .ref mah, .ref mhi, .int vkp, .ref msl, .ref msv, .ref mpd, .int vln, .ref mlb])), (ms, .inl (cI, 246, .inl r_15.2))] H := hP
            have hD : va_D A [(mo, .inr (7, [.ref ms, .ref mah, .ref mhi, .int vkp, .ref msl, .ref msv, .ref mpd, .int vln, .ref mlb])), (ms, .inl (cI, 246, .inl r_15.2))] := hD
            subst hres
            exact W.iret (v := r_15.1) hx hb hr (fun t ht hW => ⟨⟨r_15.1, (), rfl, rfl, (by show va_P _ _ _ t.heap; rw [ht]; exact hP)⟩, hS.F ht⟩) hS.2.2 dX7_doubts_157
          · rw [if_pos c_8] at hres
            refine lv_iconst (v := 1) hx hb dX7_doubts_63 (by decide) ?_
            refine lv_goto (tgt := 68) hx hb dX7_doubts_64 (by decide) ?_
            refine lv_istore_n (lv' := [(3, .int 1), (2, .int (vs (245 : Int32).toNatClampNeg)), (0, .ref mo), (1, .int joint)]) hx hb dX7_doubts_68 rfl hl (by decide) rfl (fun ls hl => ?_)
            refine lv_aload_n hx hb dX7_doubts_69 rfl (lv_at hl 2 rfl) ?_
            refine va_get (D := (dC, dI)) (ci := 7) (v := .ref ms) (C := RX7) (T := TX7) (N := 9) hx hb hts iX7_doubts_X7 hown hK hP 0 rfl rfl 0 (by decide) (hts (.fieldLink RX7 7 "TailorChalksModel" "s" "[I") kX7_doubts_7) (fun _ h9 => h9) rfl dX7_doubts_70 ?_
            refine lv_bipush (v := 82) hx hb dX7_doubts_73 (by decide) ?_
            refine lv_iload_n hx hb dX7_doubts_75 rfl (lv_at hl 3 rfl) ?_
            refine lv_iadd hx hb dX7_doubts_76 ?_
            refine lv_bipush (v := (-6)) hx hb dX7_doubts_77 (by decide) ?_
            refine va_iast hx hb hK hP hD hS 1 0 rfl rfl (vp_addc (q := 82) (n := 82) rfl (mjt_in (by rw [← hr_1]; exact c_2)) (by decide) (by decide)) dX7_doubts_79 (fun H locs hP hD hS => ?_)
            have hP : va_P (dC, dI) vwCl [(mo, .inr (7, [.ref ms, .ref mah, .ref mhi, .int vkp, .ref msl, .ref msv, .ref mpd, .int vln, .ref mlb])), (ms, .inl (cI, 246, .inl (upd vs ((82 : Int32) + joint).toNatClampNeg (-6))))] H := hP
            have hD : va_D A [(mo, .inr (7, [.ref ms, .ref mah, .ref mhi, .int vkp, .ref msl, .ref msv, .ref mpd, .int vln, .ref mlb])), (ms, .inl (cI, 246, .inl (upd vs ((82 : Int32) + joint).toNatClampNeg (-6))))] := hD
            refine lv_aload_n hx hb dX7_doubts_80 rfl (lv_at hl 2 rfl) ?_
            refine va_get (D := (dC, dI)) (ci := 7) (v := .ref ms) (C := RX7) (T := TX7) (N := 9) hx hb hts iX7_doubts_X7 hown hK hP 0 rfl rfl 0 (by decide) (hts (.fieldLink RX7 7 "TailorChalksModel" "s" "[I") kX7_doubts_7) (fun _ h9 => h9) rfl dX7_doubts_81 ?_
            refine lv_iconst (v := 0) hx hb dX7_doubts_84 (by decide) ?_
            refine lv_iload_n hx hb dX7_doubts_85 rfl (lv_at hl 3 rfl) ?_
            refine lv_iadd hx hb dX7_doubts_86 ?_
            refine lv_iload_n hx hb dX7_doubts_87 rfl (lv_at hl 0 rfl) ?_
            refine lv_if_eq (tgt := 95) hx hb dX7_doubts_88 (by decide) (fun c_16 => ?_) (fun c_16 => ?_)
            · exact absurd c_16 (by decide)
            refine lv_iconst (v := 1) hx hb dX7_doubts_91 (by decide) ?_
            refine lv_goto (tgt := 96) hx hb dX7_doubts_92 (by decide) ?_
            refine va_iast hx hb hK hP hD hS 1 0 rfl rfl (vp_addc (q := 0) (n := 82) rfl (mjt_in (by rw [← hr_1]; exact c_2)) (by decide) (by decide)) dX7_doubts_96 (fun H locs hP hD hS => ?_)
            have hP : va_P (dC, dI) vwCl [(mo, .inr (7, [.ref ms, .ref mah, .ref mhi, .int vkp, .ref msl, .ref msv, .ref mpd, .int vln, .ref mlb])), (ms, .inl (cI, 246, .inl (upd (upd vs ((82 : Int32) + joint).toNatClampNeg (-6)) ((0 : Int32) + joint).toNatClampNeg 1)))] H := hP
            have hD : va_D A [(mo, .inr (7, [.ref ms, .ref mah, .ref mhi, .int vkp, .ref msl, .ref msv, .ref mpd, .int vln, .ref mlb])), (ms, .inl (cI, 246, .inl (upd (upd vs ((82 : Int32) + joint).toNatClampNeg (-6)) ((0 : Int32) + joint).toNatClampNeg 1)))] := hD
            refine lv_aload_n hx hb dX7_doubts_97 rfl (lv_at hl 2 rfl) ?_
            refine va_get (D := (dC, dI)) (ci := 7) (v := .ref ms) (C := RX7) (T := TX7) (N := 9) hx hb hts iX7_doubts_X7 hown hK hP 0 rfl rfl 0 (by decide) (hts (.fieldLink RX7 7 "TailorChalksModel" "s" "[I") kX7_doubts_7) (fun _ h9 => h9) rfl dX7_doubts_98 ?_
            refine lv_iload_n hx hb dX7_doubts_101 rfl (lv_at hl 1 rfl) ?_
            refine lv_iconst (v := 0) hx hb dX7_doubts_102 (by decide) ?_
            obtain ⟨r_17, hr_17⟩ : ∃ z, z = F_Model_at (vs (245 : Int32).toNatClampNeg) (0 : Int32) := ⟨_, rfl⟩
            rw [bnd_e hr_17] at hres
            refine ro_calli (va_runS (As := [.int (vs (245 : Int32).toNatClampNeg), .int 0]) (rest := [.ref ms]) ⟨hx, hb, hml, hown, hts⟩ (c_Model_at l dC dI cI cC cG cZ  (vs (245 : Int32).toNatClampNeg) (0 : Int32)  r_17 hr_17) (va_cwS 2 hts gX7_doubts_X7_at rfl rfl rfl (by decide +kernel) ⟨Nat.le_of_ble_eq_true rfl, Nat.le_of_ble_eq_true rfl⟩) (ro_preS (hP.sub (ws' := []) [] rfl) hK) rfl rfl hl.1 rfl (lv_room (Nat.le_of_ble_eq_true rfl)) dX7_doubts_103 ⟨Nat.zero_le _, Nat.zero_le _⟩) hP hS (fun H locs hP hS => ?_)
            refine lv_dup2_11 hx hb dX7_doubts_106 rfl rfl ?_
            refine va_iald hx hb hK hP 1 0 rfl rfl (by rw [hr_17]; exact at_in (mi_next hMI) (by decide) (by decide)) dX7_doubts_107 ?_
            refine lv_iload_n hx hb dX7_doubts_108 rfl (lv_at hl 0 rfl) ?_
            refine lv_if_eq (tgt := 116) hx hb dX7_doubts_109 (by decide) (fun c_18 => ?_) (fun c_18 => ?_)
            · exact absurd c_18 (by decide)
            refine lv_iconst (v := 2) hx hb dX7_doubts_112 (by decide) ?_
            refine lv_goto (tgt := 118) hx hb dX7_doubts_113 (by decide) ?_
            refine lv_iadd hx hb dX7_doubts_118 ?_
            refine va_iast hx hb hK hP hD hS 1 0 rfl rfl (by rw [hr_17]; exact at_in (mi_next hMI) (by decide) (by decide)) dX7_doubts_119 (fun H locs hP hD hS => ?_)
            have hP : va_P (dC, dI) vwCl [(mo, .inr (7, [.ref ms, .ref mah, .ref mhi, .int vkp, .ref msl, .ref msv, .ref mpd, .int vln, .ref mlb])), (ms, .inl (cI, 246, .inl (upd (upd (upd vs ((82 : Int32) + joint).toNatClampNeg (-6)) ((0 : Int32) + joint).toNatClampNeg 1) r_17.toNatClampNeg (((upd (upd vs ((82 : Int32) + joint).toNatClampNeg (-6)) ((0 : Int32) + joint).toNatClampNeg 1) r_17.toNatClampNeg) + 2))))] H := hP
            have hD : va_D A [(mo, .inr (7, [.ref ms, .ref mah, .ref mhi, .int vkp, .ref msl, .ref msv, .ref mpd, .int vln, .ref mlb])), (ms, .inl (cI, 246, .inl (upd (upd (upd vs ((82 : Int32) + joint).toNatClampNeg (-6)) ((0 : Int32) + joint).toNatClampNeg 1) r_17.toNatClampNeg (((upd (upd vs ((82 : Int32) + joint).toNatClampNeg (-6)) ((0 : Int32) + joint).toNatClampNeg 1) r_17.toNatClampNeg) + 2))))] := hD
            refine lv_aload_n hx hb dX7_doubts_120 rfl (lv_at hl 2 rfl) ?_
            refine va_get (D := (dC, dI)) (ci := 7) (v := .ref ms) (C := RX7) (T := TX7) (N := 9) hx hb hts iX7_doubts_X7 hown hK hP 0 rfl rfl 0 (by decide) (hts (.fieldLink RX7 7 "TailorChalksModel" "s" "[I") kX7_doubts_7) (fun _ h9 => h9) rfl dX7_doubts_121 ?_
            refine lv_iload_n hx hb dX7_doubts_124 rfl (lv_at hl 1 rfl) ?_
            refine lv_iload_n hx hb dX7_doubts_125 rfl (lv_at hl 0 rfl) ?_
            refine lv_if_eq (tgt := 134) hx hb dX7_doubts_126 (by decide) (fun c_19 => ?_) (fun c_19 => ?_)
            · exact absurd c_19 (by decide)
            refine lv_bipush (v := 6) hx hb dX7_doubts_129 (by decide) ?_
            refine lv_goto (tgt := 136) hx hb dX7_doubts_131 (by decide) ?_
            obtain ⟨r_20, hr_20⟩ : ∃ z, z = F_Model_at (vs (245 : Int32).toNatClampNeg) (6 : Int32) := ⟨_, rfl⟩
            rw [bnd_e hr_20] at hres
            refine ro_calli (va_runS (As := [.int (vs (245 : Int32).toNatClampNeg), .int 6]) (rest := [.ref ms]) ⟨hx, hb, hml, hown, hts⟩ (c_Model_at l dC dI cI cC cG cZ  (vs (245 : Int32).toNatClampNeg) (6 : Int32)  r_20 hr_20) (va_cwS 2 hts gX7_doubts_X7_at rfl rfl rfl (by decide +kernel) ⟨Nat.le_of_ble_eq_true rfl, Nat.le_of_ble_eq_true rfl⟩) (ro_preS (hP.sub (ws' := []) [] rfl) hK) rfl rfl hl.1 rfl (lv_room (Nat.le_of_ble_eq_true rfl)) dX7_doubts_136 ⟨Nat.zero_le _, Nat.zero_le _⟩) hP hS (fun H locs hP hS => ?_)
            refine lv_dup2_11 hx hb dX7_doubts_139 rfl rfl ?_
            refine va_iald hx hb hK hP 1 0 rfl rfl (by rw [hr_20]; exact at_in (mi_next hMI) (by decide) (by decide)) dX7_doubts_140 ?_
            refine lv_iconst (v := 1) hx hb dX7_doubts_141 (by decide) ?_
            refine lv_iadd hx hb dX7_doubts_142 ?_
            refine va_iast hx hb hK hP hD hS 1 0 rfl rfl (by rw [hr_20]; exact at_in (mi_next hMI) (by decide) (by decide)) dX7_doubts_143 (fun H locs hP hD hS => ?_)
            have hP : va_P (dC, dI) vwCl [(mo, .inr (7, [.ref ms, .ref mah, .ref mhi, .int vkp, .ref msl, .ref msv, .ref mpd, .int vln, .ref mlb])), (ms, .inl (cI, 246, .inl (upd (upd (upd (upd vs ((82 : Int32) + joint).toNatClampNeg (-6)) ((0 : Int32) + joint).toNatClampNeg 1) r_17.toNatClampNeg (((upd (upd vs ((82 : Int32) + joint).toNatClampNeg (-6)) ((0 : Int32) + joint).toNatClampNeg 1) r_17.toNatClampNeg) + 2)) r_20.toNatClampNeg (((upd (upd (upd vs ((82 : Int32) + joint).toNatClampNeg (-6)) ((0 : Int32) + joint).toNatClampNeg 1) r_17.toNatClampNeg (((upd (upd vs ((82 : Int32) + joint).toNatClampNeg (-6)) ((0 : Int32) + joint).toNatClampNeg 1) r_17.toNatClampNeg) + 2)) r_20.toNatClampNeg) + 1))))] H := hP
            have hD : va_D A [(mo, .inr (7, [.ref ms, .ref mah, .ref mhi, .int vkp, .ref msl, .ref msv, .ref mpd, .int vln, .ref mlb])), (ms, .inl (cI, 246, .inl (upd (upd (upd (upd vs ((82 : Int32) + joint).toNatClampNeg (-6)) ((0 : Int32) + joint).toNatClampNeg 1) r_17.toNatClampNeg (((upd (upd vs ((82 : Int32) + joint).toNatClampNeg (-6)) ((0 : Int32) + joint).toNatClampNeg 1) r_17.toNatClampNeg) + 2)) r_20.toNatClampNeg (((upd (upd (upd vs ((82 : Int32) + joint).toNatClampNeg (-6)) ((0 : Int32) + joint).toNatClampNeg 1) r_17.toNatClampNeg (((upd (upd vs ((82 : Int32) + joint).toNatClampNeg (-6)) ((0 : Int32) + joint).toNatClampNeg 1) r_17.toNatClampNeg) + 2)) r_20.toNatClampNeg) + 1))))] := hD
            refine lv_aload_n hx hb dX7_doubts_144 rfl (lv_at hl 2 rfl) ?_
            refine lv_iload_n hx hb dX7_doubts_145 rfl (lv_at hl 0 rfl) ?_
            refine lv_if_eq (tgt := 153) hx hb dX7_doubts_146 (by decide) (fun c_21 => ?_) (fun c_21 => ?_)
            · exact absurd c_21 (by decide)
            refine lv_iconst (v := 1) hx hb dX7_doubts_149 (by decide) ?_
            refine lv_goto (tgt := 154) hx hb dX7_doubts_150 (by decide) ?_
            obtain ⟨r_22, hr_22⟩ : ∃ z, z = F_Model_ends (1 : Int32) (upd (upd (upd (upd vs ((82 : Int32) + joint).toNatClampNeg (-6)) ((0 : Int32) + joint).toNatClampNeg 1) r_17.toNatClampNeg (((upd (upd vs ((82 : Int32) + joint).toNatClampNeg (-6)) ((0 : Int32) + joint).toNatClampNeg 1) r_17.toNatClampNeg) + 2)) r_20.toNatClampNeg (((upd (upd (upd vs ((82 : Int32) + joint).toNatClampNeg (-6)) ((0 : Int32) + joint).toNatClampNeg 1) r_17.toNatClampNeg (((upd (upd vs ((82 : Int32) + joint).toNatClampNeg (-6)) ((0 : Int32) + joint).toNatClampNeg 1) r_17.toNatClampNeg) + 2)) r_20.toNatClampNeg) + 1)) := ⟨_, rfl⟩
            rw [bnd_e hr_22] at hres
            refine wr_calli (w1 := [(mo, .inr (7, [.ref ms, .ref mah, .ref mhi, .int vkp, .ref msl, .ref msv, .ref mpd, .int vln, .ref mlb])), (ms, .inl (cI, 246, .inl r_22.2))]) (is := [0, 1]) (va_runV (As := [.int 1]) (rest := []) ⟨hx, hb, hml, hown, hts⟩ (c_Model_ends l dC dI cI cC cG cZ mo ms mah mhi msl msv mpd mlb (1 : Int32) vkp vln (upd (upd (upd (upd vs ((82 : Int32) + joint).toNatClampNeg (-6)) ((0 : Int32) + joint).toNatClampNeg 1) r_17.toNatClampNeg (((upd (upd vs ((82 : Int32) + joint).toNatClampNeg (-6)) ((0 : Int32) + joint).toNatClampNeg 1) r_17.toNatClampNeg) + 2)) r_20.toNatClampNeg (((upd (upd (upd vs ((82 : Int32) + joint).toNatClampNeg (-6)) ((0 : Int32) + joint).toNatClampNeg 1) r_17.toNatClampNeg (((upd (upd vs ((82 : Int32) + joint).toNatClampNeg (-6)) ((0 : Int32) + joint).toNatClampNeg 1) r_17.toNatClampNeg) + 2)) r_20.toNatClampNeg) + 1))  r_22 hr_22) (cwV 1 hts gX7_doubts_X7_ends rfl rfl rfl (by decide +kernel) ⟨Nat.le_of_ble_eq_true rfl, Nat.le_of_ble_eq_true rfl⟩) (wr_preV (hP.sub (ws' := [(mo, .inr (7, [.ref ms, .ref mah, .ref mhi, .int vkp, .ref msl, .ref msv, .ref mpd, .int vln, .ref mlb])), (ms, .inl (cI, 246, .inl (upd (upd (upd (upd vs ((82 : Int32) + joint).toNatClampNeg (-6)) ((0 : Int32) + joint).toNatClampNeg 1) r_17.toNatClampNeg (((upd (upd vs ((82 : Int32) + joint).toNatClampNeg (-6)) ((0 : Int32) + joint).toNatClampNeg 1) r_17.toNatClampNeg) + 2)) r_20.toNatClampNeg (((upd (upd (upd vs ((82 : Int32) + joint).toNatClampNeg (-6)) ((0 : Int32) + joint).toNatClampNeg 1) r_17.toNatClampNeg (((upd (upd vs ((82 : Int32) + joint).toNatClampNeg (-6)) ((0 : Int32) + joint).toNatClampNeg 1) r_17.toNatClampNeg) + 2)) r_20.toNatClampNeg) + 1))))]) [0, 1] rfl) hK (hD.sub (ws' := [(mo, .inr (7, [.ref ms, .ref mah, .ref mhi, .int vkp, .ref msl, .ref msv, .ref mpd, .int vln, .ref mlb])), (ms, .inl (cI, 246, .inl (upd (upd (upd (upd vs ((82 : Int32) + joint).toNatClampNeg (-6)) ((0 : Int32) + joint).toNatClampNeg 1) r_17.toNatClampNeg (((upd (upd vs ((82 : Int32) + joint).toNatClampNeg (-6)) ((0 : Int32) + joint).toNatClampNeg 1) r_17.toNatClampNeg) + 2)) r_20.toNatClampNeg (((upd (upd (upd vs ((82 : Int32) + joint).toNatClampNeg (-6)) ((0 : Int32) + joint).toNatClampNeg 1) r_17.toNatClampNeg (((upd (upd vs ((82 : Int32) + joint).toNatClampNeg (-6)) ((0 : Int32) + joint).toNatClampNeg 1) r_17.toNatClampNeg) + 2)) r_20.toNatClampNeg) + 1))))]) [0, 1] (by decide) rfl) (ci := 7) (q0 := 0) rfl rfl) rfl rfl hl.1 rfl (lv_room (Nat.le_of_ble_eq_true rfl)) dX7_doubts_154 ⟨Nat.zero_le _, Nat.zero_le _⟩) hP hD hS rfl rfl rfl (fun H locs hP hD hS => ?_)
            have hP : va_P (dC, dI) vwCl [(mo, .inr (7, [.ref ms, .ref mah, .ref mhi, .int vkp, .ref msl, .ref msv, .ref mpd, .int vln, .ref mlb])), (ms, .inl (cI, 246, .inl r_22.2))] H := hP
            have hD : va_D A [(mo, .inr (7, [.ref ms, .ref mah, .ref mhi, .int vkp, .ref msl, .ref msv, .ref mpd, .int vln, .ref mlb])), (ms, .inl (cI, 246, .inl r_22.2))] := hD
            subst hres
            exact W.iret (v := r_22.1) hx hb hr (fun t ht hW => ⟨⟨r_22.1, (), rfl, rfl, (by show va_P _ _ _ t.heap; rw [ht]; exact hP)⟩, hS.F ht⟩) hS.2.2 dX7_doubts_157
        · rw [if_neg c_7] at hres
          refine lv_bipush (v := (-5)) hx hb dX7_doubts_48 (by decide) ?_
          subst hres
          exact W.iret (v := (-5)) hx hb hr (fun t ht hW => ⟨⟨(-5), (), rfl, rfl, (by show va_P _ _ _ t.heap; rw [ht]; exact hP)⟩, hS.F ht⟩) hS.2.2 dX7_doubts_50
  · rw [if_pos c_2] at hres
    refine lv_iconst (v := (-1)) hx hb dX7_doubts_16 (by decide) ?_
    subst hres
    exact W.iret (v := (-1)) hx hb hr (fun t ht hW => ⟨⟨(-1), (), rfl, rfl, (by show va_P _ _ _ t.heap; rw [ht]; exact hP)⟩, hS.F ht⟩) hS.2.2 dX7_doubts_17
theorem iX7_passes_X7 : ∀ w ∈ u_ws RX7 TX7 9, w ∈ wsX7_passes := by decide +kernel
theorem kX7_passes_7 : Cond.fieldLink RX7 7 "TailorChalksModel" "s" "[I" ∈ wsX7_passes := by decide +kernel
def F_Model_passes (vs : Nat → Int32) : Int32 × (Nat → Int32) := (bnd (F_Model_isOver vs) (fun r_1 => (if r_1 = 0 then (bnd (F_Model_ends ((1 : Int32) - (vs (245 : Int32).toNatClampNeg)) vs) (fun r_3 => (r_3.1, r_3.2))) else ((-5), vs))))
set_option maxHeartbeats 4000000 in
set_option maxRecDepth 100000 in
theorem c_Model_passes (l : Launch) (dC : Nat → ClassId) (dI : Nat → Nat → Nat) (cI cC cG cZ : ClassId) (mo ms mah mhi msl msv mpd mlb : Nat) (vkp : Int32) (vln : Int32) (vs : Nat → Int32) (res : Int32 × (Nat → Int32)) (hres : res = F_Model_passes vs) : Met l yX7_passes wsX7_passes ({ frames := 3, cells := 0, slots := 0, locals := 63 }) (va_Pc [.ref mo] (wr_P (dC, dI) vwCl (tyL cI cC cG cZ) [(mo, .inr (7, [.ref ms, .ref mah, .ref mhi, .int vkp, .ref msl, .ref msv, .ref mpd, .int vln, .ref mlb])), (ms, .inl (cI, 246, .inl vs))])) (va_Qi (fun r (_ : Unit) => r = res.1) (fun _ zt => va_P (dC, dI) vwCl [(mo, .inr (7, [.ref ms, .ref mah, .ref mhi, .int vkp, .ref msl, .ref msv, .ref mpd, .int vln, .ref mlb])), (ms, .inl (cI, 246, .inl res.2))] zt.heap) (wr_A [(mo, .inr (7, [.ref ms, .ref mah, .ref mhi, .int vkp, .ref msl, .ref msv, .ref mpd, .int vln, .ref mlb])), (ms, .inl (cI, 246, .inl vs))])) 0 0 (wr_A [(mo, .inr (7, [.ref ms, .ref mah, .ref mhi, .int vkp, .ref msl, .ref msv, .ref mpd, .int vln, .ref mlb])), (ms, .inl (cI, 246, .inl vs))]) := by
  refine Met.ofW (cc := cX7_passes) (maxL := 1) (ret := (some .int)) (by decide) rfl ?_
  intro p e s m args below meth c s₁ B hml hv
  obtain ⟨rfl, hP, hK, hD0⟩ := hv
  have hx := B.exec
  have hb := B.bytes
  have hr := B.returns
  have hts := atoms_spec (ws := wsX7_passes) B.pre
  have hown : s.vm.findClass RX7 = some m.cls := findClass_of_methodNamed B.named
  have hlocks := B.notSynchronized
  have hD := wr_self hD0
  generalize hAe : wr_A [(mo, .inr (7, [.ref ms, .ref mah, .ref mhi, .int vkp, .ref msl, .ref msv, .ref mpd, .int vln, .ref mlb])), (ms, .inl (cI, 246, .inl vs))] = A at hD ⊢
  have hS : va_S A s.heap s.heap [] := va_S.rf
  have hP : va_P (dC, dI) vwCl [(mo, .inr (7, [.ref ms, .ref mah, .ref mhi, .int vkp, .ref msl, .ref msv, .ref mpd, .int vln, .ref mlb])), (ms, .inl (cI, 246, .inl vs))] s.heap := hP
  have hl := lv_entry ([.ref mo]) (n := 1) (Nat.le_of_ble_eq_true rfl)
  rw [lg_entry_eq]
  generalize (lg_sl ([.ref mo]) ++ List.replicate (1 - (lg_sl ([.ref mo])).length) Slot.unset).toArray = ls at hl ⊢
  have hl : lv_has ls 1 [(0, .ref mo)] := hl
  rw [F_Model_passes] at hres
  refine lv_aload_n hx hb dX7_passes_0 rfl (lv_at hl 0 rfl) ?_
  obtain ⟨r_1, hr_1⟩ : ∃ z, z = F_Model_isOver vs := ⟨_, rfl⟩
  rw [bnd_e hr_1] at hres
  refine ro_calli (va_runV (As := []) (rest := []) ⟨hx, hb, hml, hown, hts⟩ (c_Model_isOver l dC dI cI cC cG cZ mo ms mah mhi msl msv mpd mlb vkp vln vs  r_1 hr_1) (cwV 0 hts gX7_passes_X7_isOver rfl rfl rfl (by decide +kernel) ⟨Nat.le_of_ble_eq_true rfl, Nat.le_of_ble_eq_true rfl⟩) (ro_preV (hP.sub (ws' := [(mo, .inr (7, [.ref ms, .ref mah, .ref mhi, .int vkp, .ref msl, .ref msv, .ref mpd, .int vln, .ref mlb])), (ms, .inl (cI, 246, .inl vs))]) [0, 1] rfl) hK (ci := 7) (q0 := 0) rfl rfl) rfl rfl hl.1 rfl (lv_room (Nat.le_of_ble_eq_true rfl)) dX7_passes_1 ⟨Nat.zero_le _, Nat.zero_le _⟩) hP hS (fun H locs hP hS => ?_)
  refine lv_if_eq (tgt := 12) hx hb dX7_passes_4 (by decide) (fun c_2 => ?_) (fun c_2 => ?_)
  · rw [if_pos c_2] at hres
    refine lv_aload_n hx hb dX7_passes_12 rfl (lv_at hl 0 rfl) ?_
    refine lv_iconst (v := 1) hx hb dX7_passes_13 (by decide) ?_
    refine lv_aload_n hx hb dX7_passes_14 rfl (lv_at hl 0 rfl) ?_
    refine va_get (D := (dC, dI)) (ci := 7) (v := .ref ms) (C := RX7) (T := TX7) (N := 9) hx hb hts iX7_passes_X7 hown hK hP 0 rfl rfl 0 (by decide) (hts (.fieldLink RX7 7 "TailorChalksModel" "s" "[I") kX7_passes_7) (fun _ h9 => h9) rfl dX7_passes_15 ?_
    refine lv_sipush (v := 245) hx hb dX7_passes_18 (by decide) ?_
    refine va_iald hx hb hK hP 1 0 rfl rfl (vp_in_iff.mpr (by decide +kernel)) dX7_passes_21 ?_
    refine lv_isub hx hb dX7_passes_22 ?_
    obtain ⟨r_3, hr_3⟩ : ∃ z, z = F_Model_ends ((1 : Int32) - (vs (245 : Int32).toNatClampNeg)) vs := ⟨_, rfl⟩
    rw [bnd_e hr_3] at hres
    refine wr_calli (w1 := [(mo, .inr (7, [.ref ms, .ref mah, .ref mhi, .int vkp, .ref msl, .ref msv, .ref mpd, .int vln, .ref mlb])), (ms, .inl (cI, 246, .inl r_3.2))]) (is := [0, 1]) (va_runV (As := [.int ((1 : Int32) - (vs (245 : Int32).toNatClampNeg))]) (rest := []) ⟨hx, hb, hml, hown, hts⟩ (c_Model_ends l dC dI cI cC cG cZ mo ms mah mhi msl msv mpd mlb ((1 : Int32) - (vs (245 : Int32).toNatClampNeg)) vkp vln vs  r_3 hr_3) (cwV 1 hts gX7_passes_X7_ends rfl rfl rfl (by decide +kernel) ⟨Nat.le_of_ble_eq_true rfl, Nat.le_of_ble_eq_true rfl⟩) (wr_preV (hP.sub (ws' := [(mo, .inr (7, [.ref ms, .ref mah, .ref mhi, .int vkp, .ref msl, .ref msv, .ref mpd, .int vln, .ref mlb])), (ms, .inl (cI, 246, .inl vs))]) [0, 1] rfl) hK (hD.sub (ws' := [(mo, .inr (7, [.ref ms, .ref mah, .ref mhi, .int vkp, .ref msl, .ref msv, .ref mpd, .int vln, .ref mlb])), (ms, .inl (cI, 246, .inl vs))]) [0, 1] (by decide) rfl) (ci := 7) (q0 := 0) rfl rfl) rfl rfl hl.1 rfl (lv_room (Nat.le_of_ble_eq_true rfl)) dX7_passes_23 ⟨Nat.zero_le _, Nat.zero_le _⟩) hP hD hS rfl rfl rfl (fun H locs hP hD hS => ?_)
    have hP : va_P (dC, dI) vwCl [(mo, .inr (7, [.ref ms, .ref mah, .ref mhi, .int vkp, .ref msl, .ref msv, .ref mpd, .int vln, .ref mlb])), (ms, .inl (cI, 246, .inl r_3.2))] H := hP
    have hD : va_D A [(mo, .inr (7, [.ref ms, .ref mah, .ref mhi, .int vkp, .ref msl, .ref msv, .ref mpd, .int vln, .ref mlb])), (ms, .inl (cI, 246, .inl r_3.2))] := hD
    subst hres
    exact W.iret (v := r_3.1) hx hb hr (fun t ht hW => ⟨⟨r_3.1, (), rfl, rfl, (by show va_P _ _ _ t.heap; rw [ht]; exact hP)⟩, hS.F ht⟩) hS.2.2 dX7_passes_26
  · rw [if_neg c_2] at hres
    refine lv_bipush (v := (-5)) hx hb dX7_passes_7 (by decide) ?_
    refine lv_goto (tgt := 26) hx hb dX7_passes_9 (by decide) ?_
    subst hres
    exact W.iret (v := (-5)) hx hb hr (fun t ht hW => ⟨⟨(-5), (), rfl, rfl, (by show va_P _ _ _ t.heap; rw [ht]; exact hP)⟩, hS.F ht⟩) hS.2.2 dX7_passes_26
def F_Model_does (letter : Int32) (joint : Int32) (vs : Nat → Int32) (vlb : Nat → Int32) : Int32 × (Nat → Int32) × (Nat → Int32) := (if letter = 98 then (bnd (F_Model_bluffs joint vs) (fun r_2 => (r_2.1, r_2.2, vlb))) else (if letter = 99 then (bnd (F_Model_chalks joint vs) (fun r_4 => (r_4.1, r_4.2, vlb))) else (if letter = 100 then (bnd (F_Model_doubts joint vs) (fun r_6 => (r_6.1, r_6.2, vlb))) else (if letter = 115 then (bnd (F_Model_snips joint vs vlb) (fun r_8 => (r_8.1, r_8.2.1, r_8.2.2))) else (if letter = 119 then (bnd (F_Model_sews joint vs) (fun r_10 => (r_10.1, r_10.2, vlb))) else (bnd (F_Model_passes vs) (fun r_11 => (r_11.1, r_11.2, vlb))))))))
set_option maxHeartbeats 4000000 in
set_option maxRecDepth 100000 in
theorem c_Model_does (l : Launch) (dC : Nat → ClassId) (dI : Nat → Nat → Nat) (cI cC cG cZ : ClassId) (mo ms mah mhi msl msv mpd mlb : Nat) (letter : Int32) (joint : Int32) (vkp : Int32) (vln : Int32) (vs : Nat → Int32) (vlb : Nat → Int32) (hMI : MI vs) (res : Int32 × (Nat → Int32) × (Nat → Int32)) (hres : res = F_Model_does letter joint vs vlb) : Met l yX7_does wsX7_does ({ frames := 7, cells := 0, slots := 0, locals := 159 }) (va_Pc [.ref mo, .int letter, .int joint] (wr_P (dC, dI) vwCl (tyL cI cC cG cZ) [(mo, .inr (7, [.ref ms, .ref mah, .ref mhi, .int vkp, .ref msl, .ref msv, .ref mpd, .int vln, .ref mlb])), (ms, .inl (cI, 246, .inl vs)), (mlb, .inl (cI, 48, .inl vlb))])) (va_Qi (fun r (_ : Unit) => r = res.1) (fun _ zt => va_P (dC, dI) vwCl [(mo, .inr (7, [.ref ms, .ref mah, .ref mhi, .int vkp, .ref msl, .ref msv, .ref mpd, .int vln, .ref mlb])), (ms, .inl (cI, 246, .inl res.2.1)), (mlb, .inl (cI, 48, .inl res.2.2))] zt.heap) (wr_A [(mo, .inr (7, [.ref ms, .ref mah, .ref mhi, .int vkp, .ref msl, .ref msv, .ref mpd, .int vln, .ref mlb])), (ms, .inl (cI, 246, .inl vs)), (mlb, .inl (cI, 48, .inl vlb))])) 0 0 (wr_A [(mo, .inr (7, [.ref ms, .ref mah, .ref mhi, .int vkp, .ref msl, .ref msv, .ref mpd, .int vln, .ref mlb])), (ms, .inl (cI, 246, .inl vs)), (mlb, .inl (cI, 48, .inl vlb))]) := by
  refine Met.ofW (cc := cX7_does) (maxL := 3) (ret := (some .int)) (by decide) rfl ?_
  intro p e s m args below meth c s₁ B hml hv
  obtain ⟨rfl, hP, hK, hD0⟩ := hv
  have hx := B.exec
  have hb := B.bytes
  have hr := B.returns
  have hts := atoms_spec (ws := wsX7_does) B.pre
  have hown : s.vm.findClass RX7 = some m.cls := findClass_of_methodNamed B.named
  have hlocks := B.notSynchronized
  have hD := wr_self hD0
  generalize hAe : wr_A [(mo, .inr (7, [.ref ms, .ref mah, .ref mhi, .int vkp, .ref msl, .ref msv, .ref mpd, .int vln, .ref mlb])), (ms, .inl (cI, 246, .inl vs)), (mlb, .inl (cI, 48, .inl vlb))] = A at hD ⊢
  have hS : va_S A s.heap s.heap [] := va_S.rf
  have hP : va_P (dC, dI) vwCl [(mo, .inr (7, [.ref ms, .ref mah, .ref mhi, .int vkp, .ref msl, .ref msv, .ref mpd, .int vln, .ref mlb])), (ms, .inl (cI, 246, .inl vs)), (mlb, .inl (cI, 48, .inl vlb))] s.heap := hP
  have hl := lv_entry ([.ref mo, .int letter, .int joint]) (n := 3) (Nat.le_of_ble_eq_true rfl)
  rw [lg_entry_eq]
  generalize (lg_sl ([.ref mo, .int letter, .int joint]) ++ List.replicate (3 - (lg_sl ([.ref mo, .int letter, .int joint])).length) Slot.unset).toArray = ls at hl ⊢
  have hl : lv_has ls 3 [(0, .ref mo), (1, .int letter), (2, .int joint)] := hl
  rw [F_Model_does] at hres
  refine lv_iload_n hx hb dX7_does_0 rfl (lv_at hl 1 rfl) ?_
  by_cases c_1 : letter = 98
  · rw [if_pos c_1] at hres
    refine lv_lookup (off := 69) (tgt := 70) hx hb dX7_does_1 (by decide) (by rw [c_1]; rfl) (by decide) ?_
    refine lv_aload_n hx hb dX7_does_70 rfl (lv_at hl 0 rfl) ?_
    refine lv_iload_n hx hb dX7_does_71 rfl (lv_at hl 2 rfl) ?_
    obtain ⟨r_2, hr_2⟩ : ∃ z, z = F_Model_bluffs joint vs := ⟨_, rfl⟩
    rw [bnd_e hr_2] at hres
    refine wr_calli (w1 := [(mo, .inr (7, [.ref ms, .ref mah, .ref mhi, .int vkp, .ref msl, .ref msv, .ref mpd, .int vln, .ref mlb])), (ms, .inl (cI, 246, .inl r_2.2))]) (is := [0, 1]) (va_runV (As := [.int joint]) (rest := []) ⟨hx, hb, hml, hown, hts⟩ (c_Model_bluffs l dC dI cI cC cG cZ mo ms mah mhi msl msv mpd mlb joint vkp vln vs hMI r_2 hr_2) (cwV 1 hts gX7_does_X7_bluffs rfl rfl rfl (by decide +kernel) ⟨Nat.le_of_ble_eq_true rfl, Nat.le_of_ble_eq_true rfl⟩) (wr_preV (hP.sub (ws' := [(mo, .inr (7, [.ref ms, .ref mah, .ref mhi, .int vkp, .ref msl, .ref msv, .ref mpd, .int vln, .ref mlb])), (ms, .inl (cI, 246, .inl vs))]) [0, 1] rfl) hK (hD.sub (ws' := [(mo, .inr (7, [.ref ms, .ref mah, .ref mhi, .int vkp, .ref msl, .ref msv, .ref mpd, .int vln, .ref mlb])), (ms, .inl (cI, 246, .inl vs))]) [0, 1] (by decide) rfl) (ci := 7) (q0 := 0) rfl rfl) rfl rfl hl.1 rfl (lv_room (Nat.le_of_ble_eq_true rfl)) dX7_does_72 ⟨Nat.zero_le _, Nat.zero_le _⟩) hP hD hS rfl rfl rfl (fun H locs hP hD hS => ?_)
    have hP : va_P (dC, dI) vwCl [(mo, .inr (7, [.ref ms, .ref mah, .ref mhi, .int vkp, .ref msl, .ref msv, .ref mpd, .int vln, .ref mlb])), (ms, .inl (cI, 246, .inl r_2.2)), (mlb, .inl (cI, 48, .inl vlb))] H := hP
    have hD : va_D A [(mo, .inr (7, [.ref ms, .ref mah, .ref mhi, .int vkp, .ref msl, .ref msv, .ref mpd, .int vln, .ref mlb])), (ms, .inl (cI, 246, .inl r_2.2)), (mlb, .inl (cI, 48, .inl vlb))] := hD
    subst hres
    exact W.iret (v := r_2.1) hx hb hr (fun t ht hW => ⟨⟨r_2.1, (), rfl, rfl, (by show va_P _ _ _ t.heap; rw [ht]; exact hP)⟩, hS.F ht⟩) hS.2.2 dX7_does_75
  · rw [if_neg c_1] at hres
    by_cases c_3 : letter = 99
    · rw [if_pos c_3] at hres
      refine lv_lookup (off := 51) (tgt := 52) hx hb dX7_does_1 (by decide) (by rw [c_3]; rfl) (by decide) ?_
      refine lv_aload_n hx hb dX7_does_52 rfl (lv_at hl 0 rfl) ?_
      refine lv_iload_n hx hb dX7_does_53 rfl (lv_at hl 2 rfl) ?_
      obtain ⟨r_4, hr_4⟩ : ∃ z, z = F_Model_chalks joint vs := ⟨_, rfl⟩
      rw [bnd_e hr_4] at hres
      refine wr_calli (w1 := [(mo, .inr (7, [.ref ms, .ref mah, .ref mhi, .int vkp, .ref msl, .ref msv, .ref mpd, .int vln, .ref mlb])), (ms, .inl (cI, 246, .inl r_4.2))]) (is := [0, 1]) (va_runV (As := [.int joint]) (rest := []) ⟨hx, hb, hml, hown, hts⟩ (c_Model_chalks l dC dI cI cC cG cZ mo ms mah mhi msl msv mpd mlb joint vkp vln vs hMI r_4 hr_4) (cwV 1 hts gX7_does_X7_chalks rfl rfl rfl (by decide +kernel) ⟨Nat.le_of_ble_eq_true rfl, Nat.le_of_ble_eq_true rfl⟩) (wr_preV (hP.sub (ws' := [(mo, .inr (7, [.ref ms, .ref mah, .ref mhi, .int vkp, .ref msl, .ref msv, .ref mpd, .int vln, .ref mlb])), (ms, .inl (cI, 246, .inl vs))]) [0, 1] rfl) hK (hD.sub (ws' := [(mo, .inr (7, [.ref ms, .ref mah, .ref mhi, .int vkp, .ref msl, .ref msv, .ref mpd, .int vln, .ref mlb])), (ms, .inl (cI, 246, .inl vs))]) [0, 1] (by decide) rfl) (ci := 7) (q0 := 0) rfl rfl) rfl rfl hl.1 rfl (lv_room (Nat.le_of_ble_eq_true rfl)) dX7_does_54 ⟨Nat.zero_le _, Nat.zero_le _⟩) hP hD hS rfl rfl rfl (fun H locs hP hD hS => ?_)
      have hP : va_P (dC, dI) vwCl [(mo, .inr (7, [.ref ms, .ref mah, .ref mhi, .int vkp, .ref msl, .ref msv, .ref mpd, .int vln, .ref mlb])), (ms, .inl (cI, 246, .inl r_4.2)), (mlb, .inl (cI, 48, .inl vlb))] H := hP
      have hD : va_D A [(mo, .inr (7, [.ref ms, .ref mah, .ref mhi, .int vkp, .ref msl, .ref msv, .ref mpd, .int vln, .ref mlb])), (ms, .inl (cI, 246, .inl r_4.2)), (mlb, .inl (cI, 48, .inl vlb))] := hD
      subst hres
      exact W.iret (v := r_4.1) hx hb hr (fun t ht hW => ⟨⟨r_4.1, (), rfl, rfl, (by show va_P _ _ _ t.heap; rw [ht]; exact hP)⟩, hS.F ht⟩) hS.2.2 dX7_does_57
    · rw [if_neg c_3] at hres
      by_cases c_5 : letter = 100
      · rw [if_pos c_5] at hres
        refine lv_lookup (off := 75) (tgt := 76) hx hb dX7_does_1 (by decide) (by rw [c_5]; rfl) (by decide) ?_
        refine lv_aload_n hx hb dX7_does_76 rfl (lv_at hl 0 rfl) ?_
        refine lv_iload_n hx hb dX7_does_77 rfl (lv_at hl 2 rfl) ?_
        obtain ⟨r_6, hr_6⟩ : ∃ z, z = F_Model_doubts joint vs := ⟨_, rfl⟩
        rw [bnd_e hr_6] at hres
        refine wr_calli (w1 := [(mo, .inr (7, [.ref ms, .ref mah, .ref mhi, .int vkp, .ref msl, .ref msv, .ref mpd, .int vln, .ref mlb])), (ms, .inl (cI, 246, .inl r_6.2))]) (is := [0, 1]) (va_runV (As := [.int joint]) (rest := []) ⟨hx, hb, hml, hown, hts⟩ (c_Model_doubts l dC dI cI cC cG cZ mo ms mah mhi msl msv mpd mlb joint vkp vln vs hMI r_6 hr_6) (cwV 1 hts gX7_does_X7_doubts rfl rfl rfl (by decide +kernel) ⟨Nat.le_of_ble_eq_true rfl, Nat.le_of_ble_eq_true rfl⟩) (wr_preV (hP.sub (ws' := [(mo, .inr (7, [.ref ms, .ref mah, .ref mhi, .int vkp, .ref msl, .ref msv, .ref mpd, .int vln, .ref mlb])), (ms, .inl (cI, 246, .inl vs))]) [0, 1] rfl) hK (hD.sub (ws' := [(mo, .inr (7, [.ref ms, .ref mah, .ref mhi, .int vkp, .ref msl, .ref msv, .ref mpd, .int vln, .ref mlb])), (ms, .inl (cI, 246, .inl vs))]) [0, 1] (by decide) rfl) (ci := 7) (q0 := 0) rfl rfl) rfl rfl hl.1 rfl (lv_room (Nat.le_of_ble_eq_true rfl)) dX7_does_78 ⟨Nat.zero_le _, Nat.zero_le _⟩) hP hD hS rfl rfl rfl (fun H locs hP hD hS => ?_)
        have hP : va_P (dC, dI) vwCl [(mo, .inr (7, [.ref ms, .ref mah, .ref mhi, .int vkp, .ref msl, .ref msv, .ref mpd, .int vln, .ref mlb])), (ms, .inl (cI, 246, .inl r_6.2)), (mlb, .inl (cI, 48, .inl vlb))] H := hP
        have hD : va_D A [(mo, .inr (7, [.ref ms, .ref mah, .ref mhi, .int vkp, .ref msl, .ref msv, .ref mpd, .int vln, .ref mlb])), (ms, .inl (cI, 246, .inl r_6.2)), (mlb, .inl (cI, 48, .inl vlb))] := hD
        subst hres
        exact W.iret (v := r_6.1) hx hb hr (fun t ht hW => ⟨⟨r_6.1, (), rfl, rfl, (by show va_P _ _ _ t.heap; rw [ht]; exact hP)⟩, hS.F ht⟩) hS.2.2 dX7_does_81
      · rw [if_neg c_5] at hres
        by_cases c_7 : letter = 115
        · rw [if_pos c_7] at hres
          refine lv_lookup (off := 57) (tgt := 58) hx hb dX7_does_1 (by decide) (by rw [c_7]; rfl) (by decide) ?_
          refine lv_aload_n hx hb dX7_does_58 rfl (lv_at hl 0 rfl) ?_
          refine lv_iload_n hx hb dX7_does_59 rfl (lv_at hl 2 rfl) ?_
          obtain ⟨r_8, hr_8⟩ : ∃ z, z = F_Model_snips joint vs vlb := ⟨_, rfl⟩
          rw [bnd_e hr_8] at hres
          refine wr_calli (w1 := [(mo, .inr (7, [.ref ms, .ref mah, .ref mhi, .int vkp, .ref msl, .ref msv, .ref mpd, .int vln, .ref mlb])), (ms, .inl (cI, 246, .inl r_8.2.1)), (mlb, .inl (cI, 48, .inl r_8.2.2))]) (is := [0, 1, 2]) (va_runV (As := [.int joint]) (rest := []) ⟨hx, hb, hml, hown, hts⟩ (c_Model_snips l dC dI cI cC cG cZ mo ms mah mhi msl msv mpd mlb joint vkp vln vs vlb hMI r_8 hr_8) (cwV 1 hts gX7_does_X7_snips rfl rfl rfl (by decide +kernel) ⟨Nat.le_of_ble_eq_true rfl, Nat.le_of_ble_eq_true rfl⟩) (wr_preV (hP.sub (ws' := [(mo, .inr (7, [.ref ms, .ref mah, .ref mhi, .int vkp, .ref msl, .ref msv, .ref mpd, .int vln, .ref mlb])), (ms, .inl (cI, 246, .inl vs)), (mlb, .inl (cI, 48, .inl vlb))]) [0, 1, 2] rfl) hK (hD.sub (ws' := [(mo, .inr (7, [.ref ms, .ref mah, .ref mhi, .int vkp, .ref msl, .ref msv, .ref mpd, .int vln, .ref mlb])), (ms, .inl (cI, 246, .inl vs)), (mlb, .inl (cI, 48, .inl vlb))]) [0, 1, 2] (by decide) rfl) (ci := 7) (q0 := 0) rfl rfl) rfl rfl hl.1 rfl (lv_room (Nat.le_of_ble_eq_true rfl)) dX7_does_60 ⟨Nat.zero_le _, Nat.zero_le _⟩) hP hD hS rfl rfl rfl (fun H locs hP hD hS => ?_)
          have hP : va_P (dC, dI) vwCl [(mo, .inr (7, [.ref ms, .ref mah, .ref mhi, .int vkp, .ref msl, .ref msv, .ref mpd, .int vln, .ref mlb])), (ms, .inl (cI, 246, .inl r_8.2.1)), (mlb, .inl (cI, 48, .inl r_8.2.2))] H := hP
          have hD : va_D A [(mo, .inr (7, [.ref ms, .ref mah, .ref mhi, .int vkp, .ref msl, .ref msv, .ref mpd, .int vln, .ref mlb])), (ms, .inl (cI, 246, .inl r_8.2.1)), (mlb, .inl (cI, 48, .inl r_8.2.2))] := hD
          subst hres
          exact W.iret (v := r_8.1) hx hb hr (fun t ht hW => ⟨⟨r_8.1, (), rfl, rfl, (by show va_P _ _ _ t.heap; rw [ht]; exact hP)⟩, hS.F ht⟩) hS.2.2 dX7_does_63
        · rw [if_neg c_7] at hres
          by_cases c_9 : letter = 119
          · rw [if_pos c_9] at hres
            refine lv_lookup (off := 63) (tgt := 64) hx hb dX7_does_1 (by decide) (by rw [c_9]; rfl) (by decide) ?_
            refine lv_aload_n hx hb dX7_does_64 rfl (lv_at hl 0 rfl) ?_
            refine lv_iload_n hx hb dX7_does_65 rfl (lv_at hl 2 rfl) ?_
            obtain ⟨r_10, hr_10⟩ : ∃ z, z = F_Model_sews joint vs := ⟨_, rfl⟩
            rw [bnd_e hr_10] at hres
            refine wr_calli (w1 := [(mo, .inr (7, [.ref ms, .ref mah, .ref mhi, .int vkp, .ref msl, .ref msv, .ref mpd, .int vln, .ref mlb])), (ms, .inl (cI, 246, .inl r_10.2))]) (is := [0, 1]) (va_runV (As := [.int joint]) (rest := []) ⟨hx, hb, hml, hown, hts⟩ (c_Model_sews l dC dI cI cC cG cZ mo ms mah mhi msl msv mpd mlb joint vkp vln vs hMI r_10 hr_10) (cwV 1 hts gX7_does_X7_sews rfl rfl rfl (by decide +kernel) ⟨Nat.le_of_ble_eq_true rfl, Nat.le_of_ble_eq_true rfl⟩) (wr_preV (hP.sub (ws' := [(mo, .inr (7, [.ref ms, .ref mah, .ref mhi, .int vkp, .ref msl, .ref msv, .ref mpd, .int vln, .ref mlb])), (ms, .inl (cI, 246, .inl vs))]) [0, 1] rfl) hK (hD.sub (ws' := [(mo, .inr (7, [.ref ms, .ref mah, .ref mhi, .int vkp, .ref msl, .ref msv, .ref mpd, .int vln, .ref mlb])), (ms, .inl (cI, 246, .inl vs))]) [0, 1] (by decide) rfl) (ci := 7) (q0 := 0) rfl rfl) rfl rfl hl.1 rfl (lv_room (Nat.le_of_ble_eq_true rfl)) dX7_does_66 ⟨Nat.zero_le _, Nat.zero_le _⟩) hP hD hS rfl rfl rfl (fun H locs hP hD hS => ?_)
            have hP : va_P (dC, dI) vwCl [(mo, .inr (7, [.ref ms, .ref mah, .ref mhi, .int vkp, .ref msl, .ref msv, .ref mpd, .int vln, .ref mlb])), (ms, .inl (cI, 246, .inl r_10.2)), (mlb, .inl (cI, 48, .inl vlb))] H := hP
            have hD : va_D A [(mo, .inr (7, [.ref ms, .ref mah, .ref mhi, .int vkp, .ref msl, .ref msv, .ref mpd, .int vln, .ref mlb])), (ms, .inl (cI, 246, .inl r_10.2)), (mlb, .inl (cI, 48, .inl vlb))] := hD
            subst hres
            exact W.iret (v := r_10.1) hx hb hr (fun t ht hW => ⟨⟨r_10.1, (), rfl, rfl, (by show va_P _ _ _ t.heap; rw [ht]; exact hP)⟩, hS.F ht⟩) hS.2.2 dX7_does_69
          · rw [if_neg c_9] at hres
            refine lv_lookup (off := 81) (tgt := 82) hx hb dX7_does_1 (by decide) (by show Op.lookupswitch.offset [(98, 69), (99, 51), (100, 75), (115, 57), (119, 63)] 81 _ = _; rw [lv_osw (a := 98) c_1 rfl, lv_osw (a := 99) c_3 rfl, lv_osw (a := 100) c_5 rfl, lv_osw (a := 115) c_7 rfl, lv_osw (a := 119) c_9 rfl]; rfl) (by decide) ?_
            refine lv_aload_n hx hb dX7_does_82 rfl (lv_at hl 0 rfl) ?_
            obtain ⟨r_11, hr_11⟩ : ∃ z, z = F_Model_passes vs := ⟨_, rfl⟩
            rw [bnd_e hr_11] at hres
            refine wr_calli (w1 := [(mo, .inr (7, [.ref ms, .ref mah, .ref mhi, .int vkp, .ref msl, .ref msv, .ref mpd, .int vln, .ref mlb])), (ms, .inl (cI, 246, .inl r_11.2))]) (is := [0, 1]) (va_runV (As := []) (rest := []) ⟨hx, hb, hml, hown, hts⟩ (c_Model_passes l dC dI cI cC cG cZ mo ms mah mhi msl msv mpd mlb vkp vln vs  r_11 hr_11) (cwV 0 hts gX7_does_X7_passes rfl rfl rfl (by decide +kernel) ⟨Nat.le_of_ble_eq_true rfl, Nat.le_of_ble_eq_true rfl⟩) (wr_preV (hP.sub (ws' := [(mo, .inr (7, [.ref ms, .ref mah, .ref mhi, .int vkp, .ref msl, .ref msv, .ref mpd, .int vln, .ref mlb])), (ms, .inl (cI, 246, .inl vs))]) [0, 1] rfl) hK (hD.sub (ws' := [(mo, .inr (7, [.ref ms, .ref mah, .ref mhi, .int vkp, .ref msl, .ref msv, .ref mpd, .int vln, .ref mlb])), (ms, .inl (cI, 246, .inl vs))]) [0, 1] (by decide) rfl) (ci := 7) (q0 := 0) rfl rfl) rfl rfl hl.1 rfl (lv_room (Nat.le_of_ble_eq_true rfl)) dX7_does_83 ⟨Nat.zero_le _, Nat.zero_le _⟩) hP hD hS rfl rfl rfl (fun H locs hP hD hS => ?_)
            have hP : va_P (dC, dI) vwCl [(mo, .inr (7, [.ref ms, .ref mah, .ref mhi, .int vkp, .ref msl, .ref msv, .ref mpd, .int vln, .ref mlb])), (ms, .inl (cI, 246, .inl r_11.2)), (mlb, .inl (cI, 48, .inl vlb))] H := hP
            have hD : va_D A [(mo, .inr (7, [.ref ms, .ref mah, .ref mhi, .int vkp, .ref msl, .ref msv, .ref mpd, .int vln, .ref mlb])), (ms, .inl (cI, 246, .inl r_11.2)), (mlb, .inl (cI, 48, .inl vlb))] := hD
            subst hres
            exact W.iret (v := r_11.1) hx hb hr (fun t ht hW => ⟨⟨r_11.1, (), rfl, rfl, (by show va_P _ _ _ t.heap; rw [ht]; exact hP)⟩, hS.F ht⟩) hS.2.2 dX7_does_86
def F_Model_turns (letter : Int32) (joint : Int32) (vkp : Int32) (vs : Nat → Int32) (vhi : Nat → Int32) (vlb : Nat → Int32) : Int32 × Int32 × (Nat → Int32) × (Nat → Int32) × (Nat → Int32) × (Nat → Int32) := (bnd (F_Model_does letter joint vs vlb) (fun r_2 => (if r_2.1 < 0 then (r_2.1, vkp, r_2.2.1, vs, vhi, r_2.2.2) else (bnd (F_Model_records vkp vs vhi) (fun r_4 => (r_2.1, r_4.2, r_2.2.1, vs, r_4.1, r_2.2.2))))))
set_option maxHeartbeats 4000000 in
set_option maxRecDepth 100000 in
theorem c_Model_turns (l : Launch) (dC : Nat → ClassId) (dI : Nat → Nat → Nat) (cI cC cG cZ : ClassId) (mo ms mah mhi msl msv mpd mlb : Nat) (letter : Int32) (joint : Int32) (vkp : Int32) (vln : Int32) (vs : Nat → Int32) (vah : Nat → Int32) (vhi : Nat → Int32) (vlb : Nat → Int32) (hMI : MI vs) (hkp : tm_ok 6 vkp) (res : Int32 × Int32 × (Nat → Int32) × (Nat → Int32) × (Nat → Int32) × (Nat → Int32)) (hres : res = F_Model_turns letter joint vkp vs vhi vlb) : Met l yX7_turns wsX7_turns ({ frames := 8, cells := 0, slots := 0, locals := 181 }) (va_Pc [.ref mo, .int letter, .int joint] (wr_P (dC, dI) vwCl (tyL cI cC cG cZ) [(mo, .inr (7, [.ref ms, .ref mah, .ref mhi, .int vkp, .ref msl, .ref msv, .ref mpd, .int vln, .ref mlb])), (ms, .inl (cI, 246, .inl vs)), (mah, .inl (cI, 246, .inl vah)), (mhi, .inl (cI, 1476, .inl vhi)), (mlb, .inl (cI, 48, .inl vlb))])) (va_Qi (fun r (_ : Unit) => r = res.1) (fun _ zt => va_P (dC, dI) vwCl [(mo, .inr (7, [.ref ms, .ref mah, .ref mhi, .int res.2.1, .ref msl, .ref msv, .ref mpd, .int vln, .ref mlb])), (ms, .inl (cI, 246, .inl res.2.2.1)), (mah, .inl (cI, 246, .inl res.2.2.2.1)), (mhi, .inl (cI, 1476, .inl res.2.2.2.2.1)), (mlb, .inl (cI, 48, .inl res.2.2.2.2.2))] zt.heap) (wr_A [(mo, .inr (7, [.ref ms, .ref mah, .ref mhi, .int vkp, .ref msl, .ref msv, .ref mpd, .int vln, .ref mlb])), (ms, .inl (cI, 246, .inl vs)), (mah, .inl (cI, 246, .inl vah)), (mhi, .inl (cI, 1476, .inl vhi)), (mlb, .inl (cI, 48, .inl vlb))])) 0 0 (wr_A [(mo, .inr (7, [.ref ms, .ref mah, .ref mhi, .int vkp, .ref msl, .ref msv, .ref mpd, .int vln, .ref mlb])), (ms, .inl (cI, 246, .inl vs)), (mah, .inl (cI, 246, .inl vah)), (mhi, .inl (cI, 1476, .inl vhi)), (mlb, .inl (cI, 48, .inl vlb))]) := by
  refine Met.ofW (cc := cX7_turns) (maxL := 4) (ret := (some .int)) (by decide) rfl ?_
  intro p e s m args below meth c s₁ B hml hv
  obtain ⟨rfl, hP, hK, hD0⟩ := hv
  have hx := B.exec
  have hb := B.bytes
  have hr := B.returns
  have hts := atoms_spec (ws := wsX7_turns) B.pre
  have hown : s.vm.findClass RX7 = some m.cls := findClass_of_methodNamed B.named
  have hlocks := B.notSynchronized
  have hD := wr_self hD0
  generalize hAe : wr_A [(mo, .inr (7, [.ref ms, .ref mah, .ref mhi, .int vkp, .ref msl, .ref msv, .ref mpd, .int vln, .ref mlb])), (ms, .inl (cI, 246, .inl vs)), (mah, .inl (cI, 246, .inl vah)), (mhi, .inl (cI, 1476, .inl vhi)), (mlb, .inl (cI, 48, .inl vlb))] = A at hD ⊢
  have hS : va_S A s.heap s.heap [] := va_S.rf
  have hP : va_P (dC, dI) vwCl [(mo, .inr (7, [.ref ms, .ref mah, .ref mhi, .int vkp, .ref msl, .ref msv, .ref mpd, .int vln, .ref mlb])), (ms, .inl (cI, 246, .inl vs)), (mah, .inl (cI, 246, .inl vah)), (mhi, .inl (cI, 1476, .inl vhi)), (mlb, .inl (cI, 48, .inl vlb))] s.heap := hP
  have hl := lv_entry ([.ref mo, .int letter, .int joint]) (n := 4) (Nat.le_of_ble_eq_true rfl)
  rw [lg_entry_eq]
  generalize (lg_sl ([.ref mo, .int letter, .int joint]) ++ List.replicate (4 - (lg_sl ([.ref mo, .int letter, .int joint])).length) Slot.unset).toArray = ls at hl ⊢
  have hl : lv_has ls 4 [(0, .ref mo), (1, .int letter), (2, .int joint)] := hl
  rw [F_Model_turns] at hres
  refine lv_aload_n hx hb dX7_turns_0 rfl (lv_at hl 0 rfl) ?_
  refine wr_callv (w1 := [(mo, .inr (7, [.ref ms, .ref mah, .ref mhi, .int vkp, .ref msl, .ref msv, .ref mpd, .int vln, .ref mlb])), (ms, .inl (cI, 246, .inl vs)), (mah, .inl (cI, 246, .inl vs))]) (is := [0, 1, 2]) (va_runV (As := []) (rest := []) ⟨hx, hb, hml, hown, hts⟩ (c_Model_looks l dC dI cI cC cG cZ mo ms mah mhi msl msv mpd mlb vkp vln vs vah  ) (cwV 0 hts gX7_turns_X7_looks rfl rfl rfl (by decide +kernel) ⟨Nat.le_of_ble_eq_true rfl, Nat.le_of_ble_eq_true rfl⟩) (wr_preV (hP.sub (ws' := [(mo, .inr (7, [.ref ms, .ref mah, .ref mhi, .int vkp, .ref msl, .ref msv, .ref mpd, .int vln, .ref mlb])), (ms, .inl (cI, 246, .inl vs)), (mah, .inl (cI, 246, .inl vah))]) [0, 1, 2] rfl) hK (hD.sub (ws' := [(mo, .inr (7, [.ref ms, .ref mah, .ref mhi, .int vkp, .ref msl, .ref msv, .ref mpd, .int vln, .ref mlb])), (ms, .inl (cI, 246, .inl vs)), (mah, .inl (cI, 246, .inl vah))]) [0, 1, 2] (by decide) rfl) (ci := 7) (q0 := 0) rfl rfl) rfl rfl hl.1 rfl (lv_room (Nat.le_of_ble_eq_true rfl)) dX7_turns_1 ⟨Nat.zero_le _, Nat.zero_le _⟩) hP hD hS rfl rfl rfl (fun H locs hP hD hS => ?_)
  have hP : va_P (dC, dI) vwCl [(mo, .inr (7, [.ref ms, .ref mah, .ref mhi, .int vkp, .ref msl, .ref msv, .ref mpd, .int vln, .ref mlb])), (ms, .inl (cI, 246, .inl vs)), (mah, .inl (cI, 246, .inl vs)), (mhi, .inl (cI, 1476, .inl vhi)), (mlb, .inl (cI, 48, .inl vlb))] H := hP
  have hD : va_D A [(mo, .inr (7, [.ref ms, .ref mah, .ref mhi, .int vkp, .ref msl, .ref msv, .ref mpd, .int vln, .ref mlb])), (ms, .inl (cI, 246, .inl vs)), (mah, .inl (cI, 246, .inl vs)), (mhi, .inl (cI, 1476, .inl vhi)), (mlb, .inl (cI, 48, .inl vlb))] := hD
  refine lv_aload_n hx hb dX7_turns_4 rfl (lv_at hl 0 rfl) ?_
  refine lv_iload_n hx hb dX7_turns_5 rfl (lv_at hl 1 rfl) ?_
  refine lv_iload_n hx hb dX7_turns_6 rfl (lv_at hl 2 rfl) ?_
  obtain ⟨r_2, hr_2⟩ : ∃ z, z = F_Model_does letter joint vs vlb := ⟨_, rfl⟩
  rw [bnd_e hr_2] at hres
  refine wr_calli (w1 := [(mo, .inr (7, [.ref ms, .ref mah, .ref mhi, .int vkp, .ref msl, .ref msv, .ref mpd, .int vln, .ref mlb])), (ms, .inl (cI, 246, .inl r_2.2.1)), (mlb, .inl (cI, 48, .inl r_2.2.2))]) (is := [0, 1, 4]) (va_runV (As := [.int letter, .int joint]) (rest := []) ⟨hx, hb, hml, hown, hts⟩ (c_Model_does l dC dI cI cC cG cZ mo ms mah mhi msl msv mpd mlb letter joint vkp vln vs vlb hMI r_2 hr_2) (cwV 2 hts gX7_turns_X7_does rfl rfl rfl (by decide +kernel) ⟨Nat.le_of_ble_eq_true rfl, Nat.le_of_ble_eq_true rfl⟩) (wr_preV (hP.sub (ws' := [(mo, .inr (7, [.ref ms, .ref mah, .ref mhi, .int vkp, .ref msl, .ref msv, .ref mpd, .int vln, .ref mlb])), (ms, .inl (cI, 246, .inl vs)), (mlb, .inl (cI, 48, .inl vlb))]) [0, 1, 4] rfl) hK (hD.sub (ws' := [(mo, .inr (7, [.ref ms, .ref mah, .ref mhi, .int vkp, .ref msl, .ref msv, .ref mpd, .int vln, .ref mlb])), (ms, .inl (cI, 246, .inl vs)), (mlb, .inl (cI, 48, .inl vlb))]) [0, 1, 4] (by decide) rfl) (ci := 7) (q0 := 0) rfl rfl) rfl rfl hl.1 rfl (lv_room (Nat.le_of_ble_eq_true rfl)) dX7_turns_7 ⟨Nat.zero_le _, Nat.zero_le _⟩) hP hD hS rfl rfl rfl (fun H locs hP hD hS => ?_)
  have hP : va_P (dC, dI) vwCl [(mo, .inr (7, [.ref ms, .ref mah, .ref mhi, .int vkp, .ref msl, .ref msv, .ref mpd, .int vln, .ref mlb])), (ms, .inl (cI, 246, .inl r_2.2.1)), (mah, .inl (cI, 246, .inl vs)), (mhi, .inl (cI, 1476, .inl vhi)), (mlb, .inl (cI, 48, .inl r_2.2.2))] H := hP
  have hD : va_D A [(mo, .inr (7, [.ref ms, .ref mah, .ref mhi, .int vkp, .ref msl, .ref msv, .ref mpd, .int vln, .ref mlb])), (ms, .inl (cI, 246, .inl r_2.2.1)), (mah, .inl (cI, 246, .inl vs)), (mhi, .inl (cI, 1476, .inl vhi)), (mlb, .inl (cI, 48, .inl r_2.2.2))] := hD
  refine lv_istore_n (lv' := [(3, .int r_2.1), (0, .ref mo), (1, .int letter), (2, .int joint)]) hx hb dX7_turns_10 rfl hl (by decide) rfl (fun ls hl => ?_)
  refine lv_iload_n hx hb dX7_turns_11 rfl (lv_at hl 0 rfl) ?_
  refine lv_if_lt (tgt := 19) hx hb dX7_turns_12 (by decide) (fun c_3 => ?_) (fun c_3 => ?_)
  · rw [if_pos c_3] at hres
    refine lv_iload_n hx hb dX7_turns_19 rfl (lv_at hl 0 rfl) ?_
    subst hres
    exact W.iret (v := r_2.1) hx hb hr (fun t ht hW => ⟨⟨r_2.1, (), rfl, rfl, (by show va_P _ _ _ t.heap; rw [ht]; exact hP)⟩, hS.F ht⟩) hS.2.2 dX7_turns_20
  · rw [if_neg c_3] at hres
    refine lv_aload_n hx hb dX7_turns_15 rfl (lv_at hl 1 rfl) ?_
    obtain ⟨r_4, hr_4⟩ : ∃ z, z = F_Model_records vkp vs vhi := ⟨_, rfl⟩
    rw [bnd_e hr_4] at hres
    refine wr_callv (w1 := [(mo, .inr (7, [.ref ms, .ref mah, .ref mhi, .int r_4.2, .ref msl, .ref msv, .ref mpd, .int vln, .ref mlb])), (mah, .inl (cI, 246, .inl vs)), (mhi, .inl (cI, 1476, .inl r_4.1))]) (is := [0, 2, 3]) (va_runV (As := []) (rest := []) ⟨hx, hb, hml, hown, hts⟩ (c_Model_records l dC dI cI cC cG cZ mo ms mah mhi msl msv mpd mlb vkp vln vs vhi hkp r_4 hr_4) (cwV 0 hts gX7_turns_X7_records rfl rfl rfl (by decide +kernel) ⟨Nat.le_of_ble_eq_true rfl, Nat.le_of_ble_eq_true rfl⟩) (wr_preV (hP.sub (ws' := [(mo, .inr (7, [.ref ms, .ref mah, .ref mhi, .int vkp, .ref msl, .ref msv, .ref mpd, .int vln, .ref mlb])), (mah, .inl (cI, 246, .inl vs)), (mhi, .inl (cI, 1476, .inl vhi))]) [0, 2, 3] rfl) hK (hD.sub (ws' := [(mo, .inr (7, [.ref ms, .ref mah, .ref mhi, .int vkp, .ref msl, .ref msv, .ref mpd, .int vln, .ref mlb])), (mah, .inl (cI, 246, .inl vs)), (mhi, .inl (cI, 1476, .inl vhi))]) [0, 2, 3] (by decide) rfl) (ci := 7) (q0 := 0) rfl rfl) rfl rfl hl.1 rfl (lv_room (Nat.le_of_ble_eq_true rfl)) dX7_turns_16 ⟨Nat.zero_le _, Nat.zero_le _⟩) hP hD hS rfl rfl rfl (fun H locs hP hD hS => ?_)
    have hP : va_P (dC, dI) vwCl [(mo, .inr (7, [.ref ms, .ref mah, .ref mhi, .int r_4.2, .ref msl, .ref msv, .ref mpd, .int vln, .ref mlb])), (ms, .inl (cI, 246, .inl r_2.2.1)), (mah, .inl (cI, 246, .inl vs)), (mhi, .inl (cI, 1476, .inl r_4.1)), (mlb, .inl (cI, 48, .inl r_2.2.2))] H := hP
    have hD : va_D A [(mo, .inr (7, [.ref ms, .ref mah, .ref mhi, .int r_4.2, .ref msl, .ref msv, .ref mpd, .int vln, .ref mlb])), (ms, .inl (cI, 246, .inl r_2.2.1)), (mah, .inl (cI, 246, .inl vs)), (mhi, .inl (cI, 1476, .inl r_4.1)), (mlb, .inl (cI, 48, .inl r_2.2.2))] := hD
    refine lv_iload_n hx hb dX7_turns_19 rfl (lv_at hl 0 rfl) ?_
    subst hres
    exact W.iret (v := r_2.1) hx hb hr (fun t ht hW => ⟨⟨r_2.1, (), rfl, rfl, (by show va_P _ _ _ t.heap; rw [ht]; exact hP)⟩, hS.F ht⟩) hS.2.2 dX7_turns_20
def F_Model_chalk (joint : Int32) (vkp : Int32) (vs : Nat → Int32) (vhi : Nat → Int32) (vlb : Nat → Int32) : Int32 × Int32 × (Nat → Int32) × (Nat → Int32) × (Nat → Int32) × (Nat → Int32) := (bnd (F_Model_turns (99 : Int32) joint vkp vs vhi vlb) (fun r_1 => (r_1.1, r_1.2.1, r_1.2.2.1, r_1.2.2.2.1, r_1.2.2.2.2.1, r_1.2.2.2.2.2)))
set_option maxHeartbeats 4000000 in
set_option maxRecDepth 100000 in
theorem c_Model_chalk (l : Launch) (dC : Nat → ClassId) (dI : Nat → Nat → Nat) (cI cC cG cZ : ClassId) (mo ms mah mhi msl msv mpd mlb : Nat) (joint : Int32) (vkp : Int32) (vln : Int32) (vs : Nat → Int32) (vah : Nat → Int32) (vhi : Nat → Int32) (vlb : Nat → Int32) (hMI : MI vs) (hkp : tm_ok 6 vkp) (res : Int32 × Int32 × (Nat → Int32) × (Nat → Int32) × (Nat → Int32) × (Nat → Int32)) (hres : res = F_Model_chalk joint vkp vs vhi vlb) : Met l yX7_chalk wsX7_chalk ({ frames := 9, cells := 0, slots := 0, locals := 204 }) (va_Pc [.ref mo, .int joint] (wr_P (dC, dI) vwCl (tyL cI cC cG cZ) [(mo, .inr (7, [.ref ms, .ref mah, .ref mhi, .int vkp, .ref msl, .ref msv, .ref mpd, .int vln, .ref mlb])), (ms, .inl (cI, 246, .inl vs)), (mah, .inl (cI, 246, .inl vah)), (mhi, .inl (cI, 1476, .inl vhi)), (mlb, .inl (cI, 48, .inl vlb))])) (va_Qi (fun r (_ : Unit) => r = res.1) (fun _ zt => va_P (dC, dI) vwCl [(mo, .inr (7, [.ref ms, .ref mah, .ref mhi, .int res.2.1, .ref msl, .ref msv, .ref mpd, .int vln, .ref mlb])), (ms, .inl (cI, 246, .inl res.2.2.1)), (mah, .inl (cI, 246, .inl res.2.2.2.1)), (mhi, .inl (cI, 1476, .inl res.2.2.2.2.1)), (mlb, .inl (cI, 48, .inl res.2.2.2.2.2))] zt.heap) (wr_A [(mo, .inr (7, [.ref ms, .ref mah, .ref mhi, .int vkp, .ref msl, .ref msv, .ref mpd, .int vln, .ref mlb])), (ms, .inl (cI, 246, .inl vs)), (mah, .inl (cI, 246, .inl vah)), (mhi, .inl (cI, 1476, .inl vhi)), (mlb, .inl (cI, 48, .inl vlb))])) 0 0 (wr_A [(mo, .inr (7, [.ref ms, .ref mah, .ref mhi, .int vkp, .ref msl, .ref msv, .ref mpd, .int vln, .ref mlb])), (ms, .inl (cI, 246, .inl vs)), (mah, .inl (cI, 246, .inl vah)), (mhi, .inl (cI, 1476, .inl vhi)), (mlb, .inl (cI, 48, .inl vlb))]) := by
  refine Met.ofW (cc := cX7_chalk) (maxL := 2) (ret := (some .int)) (by decide) rfl ?_
  intro p e s m args below meth c s₁ B hml hv
  obtain ⟨rfl, hP, hK, hD0⟩ := hv
  have hx := B.exec
  have hb := B.bytes
  have hr := B.returns
  have hts := atoms_spec (ws := wsX7_chalk) B.pre
  have hown : s.vm.findClass RX7 = some m.cls := findClass_of_methodNamed B.named
  have hlocks := B.notSynchronized
  have hD := wr_self hD0
  generalize hAe : wr_A [(mo, .inr (7, [.ref ms, .ref mah, .ref mhi, .int vkp, .ref msl, .ref msv, .ref mpd, .int vln, .ref mlb])), (ms, .inl (cI, 246, .inl vs)), (mah, .inl (cI, 246, .inl vah)), (mhi, .inl (cI, 1476, .inl vhi)), (mlb, .inl (cI, 48, .inl vlb))] = A at hD ⊢
  have hS : va_S A s.heap s.heap [] := va_S.rf
  have hP : va_P (dC, dI) vwCl [(mo, .inr (7, [.ref ms, .ref mah, .ref mhi, .int vkp, .ref msl, .ref msv, .ref mpd, .int vln, .ref mlb])), (ms, .inl (cI, 246, .inl vs)), (mah, .inl (cI, 246, .inl vah)), (mhi, .inl (cI, 1476, .inl vhi)), (mlb, .inl (cI, 48, .inl vlb))] s.heap := hP
  have hl := lv_entry ([.ref mo, .int joint]) (n := 2) (Nat.le_of_ble_eq_true rfl)
  rw [lg_entry_eq]
  generalize (lg_sl ([.ref mo, .int joint]) ++ List.replicate (2 - (lg_sl ([.ref mo, .int joint])).length) Slot.unset).toArray = ls at hl ⊢
  have hl : lv_has ls 2 [(0, .ref mo), (1, .int joint)] := hl
  rw [F_Model_chalk] at hres
  refine lv_aload_n hx hb dX7_chalk_0 rfl (lv_at hl 0 rfl) ?_
  refine lv_bipush (v := 99) hx hb dX7_chalk_1 (by decide) ?_
  refine lv_iload_n hx hb dX7_chalk_3 rfl (lv_at hl 1 rfl) ?_
  obtain ⟨r_1, hr_1⟩ : ∃ z, z = F_Model_turns (99 : Int32) joint vkp vs vhi vlb := ⟨_, rfl⟩
  rw [bnd_e hr_1] at hres
  refine wr_calli (w1 := [(mo, .inr (7, [.ref ms, .ref mah, .ref mhi, .int r_1.2.1, .ref msl, .ref msv, .ref mpd, .int vln, .ref mlb])), (ms, .inl (cI, 246, .inl r_1.2.2.1)), (mah, .inl (cI, 246, .inl r_1.2.2.2.1)), (mhi, .inl (cI, 1476, .inl r_1.2.2.2.2.1)), (mlb, .inl (cI, 48, .inl r_1.2.2.2.2.2))]) (is := [0, 1, 2, 3, 4]) (va_runV (As := [.int 99, .int joint]) (rest := []) ⟨hx, hb, hml, hown, hts⟩ (c_Model_turns l dC dI cI cC cG cZ mo ms mah mhi msl msv mpd mlb (99 : Int32) joint vkp vln vs vah vhi vlb hMI hkp r_1 hr_1) (cwV 2 hts gX7_chalk_X7_turns rfl rfl rfl (by decide +kernel) ⟨Nat.le_of_ble_eq_true rfl, Nat.le_of_ble_eq_true rfl⟩) (wr_preV (hP.sub (ws' := [(mo, .inr (7, [.ref ms, .ref mah, .ref mhi, .int vkp, .ref msl, .ref msv, .ref mpd, .int vln, .ref mlb])), (ms, .inl (cI, 246, .inl vs)), (mah, .inl (cI, 246, .inl vah)), (mhi, .inl (cI, 1476, .inl vhi)), (mlb, .inl (cI, 48, .inl vlb))]) [0, 1, 2, 3, 4] rfl) hK (hD.sub (ws' := [(mo, .inr (7, [.ref ms, .ref mah, .ref mhi, .int vkp, .ref msl, .ref msv, .ref mpd, .int vln, .ref mlb])), (ms, .inl (cI, 246, .inl vs)), (mah, .inl (cI, 246, .inl vah)), (mhi, .inl (cI, 1476, .inl vhi)), (mlb, .inl (cI, 48, .inl vlb))]) [0, 1, 2, 3, 4] (by decide) rfl) (ci := 7) (q0 := 0) rfl rfl) rfl rfl hl.1 rfl (lv_room (Nat.le_of_ble_eq_true rfl)) dX7_chalk_4 ⟨Nat.zero_le _, Nat.zero_le _⟩) hP hD hS rfl rfl rfl (fun H locs hP hD hS => ?_)
  have hP : va_P (dC, dI) vwCl [(mo, .inr (7, [.ref ms, .ref mah, .ref mhi, .int r_1.2.1, .ref msl, .ref msv, .ref mpd, .int vln, .ref mlb])), (ms, .inl (cI, 246, .inl r_1.2.2.1)), (mah, .inl (cI, 246, .inl r_1.2.2.2.1)), (mhi, .inl (cI, 1476, .inl r_1.2.2.2.2.1)), (mlb, .inl (cI, 48, .inl r_1.2.2.2.2.2))] H := hP
  have hD : va_D A [(mo, .inr (7, [.ref ms, .ref mah, .ref mhi, .int r_1.2.1, .ref msl, .ref msv, .ref mpd, .int vln, .ref mlb])), (ms, .inl (cI, 246, .inl r_1.2.2.1)), (mah, .inl (cI, 246, .inl r_1.2.2.2.1)), (mhi, .inl (cI, 1476, .inl r_1.2.2.2.2.1)), (mlb, .inl (cI, 48, .inl r_1.2.2.2.2.2))] := hD
  subst hres
  exact W.iret (v := r_1.1) hx hb hr (fun t ht hW => ⟨⟨r_1.1, (), rfl, rfl, (by show va_P _ _ _ t.heap; rw [ht]; exact hP)⟩, hS.F ht⟩) hS.2.2 dX7_chalk_7
def F_Model_snip (joint : Int32) (vkp : Int32) (vs : Nat → Int32) (vhi : Nat → Int32) (vlb : Nat → Int32) : Int32 × Int32 × (Nat → Int32) × (Nat → Int32) × (Nat → Int32) × (Nat → Int32) := (bnd (F_Model_turns (115 : Int32) joint vkp vs vhi vlb) (fun r_1 => (r_1.1, r_1.2.1, r_1.2.2.1, r_1.2.2.2.1, r_1.2.2.2.2.1, r_1.2.2.2.2.2)))
set_option maxHeartbeats 4000000 in
set_option maxRecDepth 100000 in
theorem c_Model_snip (l : Launch) (dC : Nat → ClassId) (dI : Nat → Nat → Nat) (cI cC cG cZ : ClassId) (mo ms mah mhi msl msv mpd mlb : Nat) (joint : Int32) (vkp : Int32) (vln : Int32) (vs : Nat → Int32) (vah : Nat → Int32) (vhi : Nat → Int32) (vlb : Nat → Int32) (hMI : MI vs) (hkp : tm_ok 6 vkp) (res : Int32 × Int32 × (Nat → Int32) × (Nat → Int32) × (Nat → Int32) × (Nat → Int32)) (hres : res = F_Model_snip joint vkp vs vhi vlb) : Met l yX7_snip wsX7_snip ({ frames := 9, cells := 0, slots := 0, locals := 204 }) (va_Pc [.ref mo, .int joint] (wr_P (dC, dI) vwCl (tyL cI cC cG cZ) [(mo, .inr (7, [.ref ms, .ref mah, .ref mhi, .int vkp, .ref msl, .ref msv, .ref mpd, .int vln, .ref mlb])), (ms, .inl (cI, 246, .inl vs)), (mah, .inl (cI, 246, .inl vah)), (mhi, .inl (cI, 1476, .inl vhi)), (mlb, .inl (cI, 48, .inl vlb))])) (va_Qi (fun r (_ : Unit) => r = res.1) (fun _ zt => va_P (dC, dI) vwCl [(mo, .inr (7, [.ref ms, .ref mah, .ref mhi, .int res.2.1, .ref msl, .ref msv, .ref mpd, .int vln, .ref mlb])), (ms, .inl (cI, 246, .inl res.2.2.1)), (mah, .inl (cI, 246, .inl res.2.2.2.1)), (mhi, .inl (cI, 1476, .inl res.2.2.2.2.1)), (mlb, .inl (cI, 48, .inl res.2.2.2.2.2))] zt.heap) (wr_A [(mo, .inr (7, [.ref ms, .ref mah, .ref mhi, .int vkp, .ref msl, .ref msv, .ref mpd, .int vln, .ref mlb])), (ms, .inl (cI, 246, .inl vs)), (mah, .inl (cI, 246, .inl vah)), (mhi, .inl (cI, 1476, .inl vhi)), (mlb, .inl (cI, 48, .inl vlb))])) 0 0 (wr_A [(mo, .inr (7, [.ref ms, .ref mah, .ref mhi, .int vkp, .ref msl, .ref msv, .ref mpd, .int vln, .ref mlb])), (ms, .inl (cI, 246, .inl vs)), (mah, .inl (cI, 246, .inl vah)), (mhi, .inl (cI, 1476, .inl vhi)), (mlb, .inl (cI, 48, .inl vlb))]) := by
  refine Met.ofW (cc := cX7_snip) (maxL := 2) (ret := (some .int)) (by decide) rfl ?_
  intro p e s m args below meth c s₁ B hml hv
  obtain ⟨rfl, hP, hK, hD0⟩ := hv
  have hx := B.exec
  have hb := B.bytes
  have hr := B.returns
  have hts := atoms_spec (ws := wsX7_snip) B.pre
  have hown : s.vm.findClass RX7 = some m.cls := findClass_of_methodNamed B.named
  have hlocks := B.notSynchronized
  have hD := wr_self hD0
  generalize hAe : wr_A [(mo, .inr (7, [.ref ms, .ref mah, .ref mhi, .int vkp, .ref msl, .ref msv, .ref mpd, .int vln, .ref mlb])), (ms, .inl (cI, 246, .inl vs)), (mah, .inl (cI, 246, .inl vah)), (mhi, .inl (cI, 1476, .inl vhi)), (mlb, .inl (cI, 48, .inl vlb))] = A at hD ⊢
  have hS : va_S A s.heap s.heap [] := va_S.rf
  have hP : va_P (dC, dI) vwCl [(mo, .inr (7, [.ref ms, .ref mah, .ref mhi, .int vkp, .ref msl, .ref msv, .ref mpd, .int vln, .ref mlb])), (ms, .inl (cI, 246, .inl vs)), (mah, .inl (cI, 246, .inl vah)), (mhi, .inl (cI, 1476, .inl vhi)), (mlb, .inl (cI, 48, .inl vlb))] s.heap := hP
  have hl := lv_entry ([.ref mo, .int joint]) (n := 2) (Nat.le_of_ble_eq_true rfl)
  rw [lg_entry_eq]
  generalize (lg_sl ([.ref mo, .int joint]) ++ List.replicate (2 - (lg_sl ([.ref mo, .int joint])).length) Slot.unset).toArray = ls at hl ⊢
  have hl : lv_has ls 2 [(0, .ref mo), (1, .int joint)] := hl
  rw [F_Model_snip] at hres
  refine lv_aload_n hx hb dX7_snip_0 rfl (lv_at hl 0 rfl) ?_
  refine lv_bipush (v := 115) hx hb dX7_snip_1 (by decide) ?_
  refine lv_iload_n hx hb dX7_snip_3 rfl (lv_at hl 1 rfl) ?_
  obtain ⟨r_1, hr_1⟩ : ∃ z, z = F_Model_turns (115 : Int32) joint vkp vs vhi vlb := ⟨_, rfl⟩
  rw [bnd_e hr_1] at hres
  refine wr_calli (w1 := [(mo, .inr (7, [.ref ms, .ref mah, .ref mhi, .int r_1.2.1, .ref msl, .ref msv, .ref mpd, .int vln, .ref mlb])), (ms, .inl (cI, 246, .inl r_1.2.2.1)), (mah, .inl (cI, 246, .inl r_1.2.2.2.1)), (mhi, .inl (cI, 1476, .inl r_1.2.2.2.2.1)), (mlb, .inl (cI, 48, .inl r_1.2.2.2.2.2))]) (is := [0, 1, 2, 3, 4]) (va_runV (As := [.int 115, .int joint]) (rest := []) ⟨hx, hb, hml, hown, hts⟩ (c_Model_turns l dC dI cI cC cG cZ mo ms mah mhi msl msv mpd mlb (115 : Int32) joint vkp vln vs vah vhi vlb hMI hkp r_1 hr_1) (cwV 2 hts gX7_snip_X7_turns rfl rfl rfl (by decide +kernel) ⟨Nat.le_of_ble_eq_true rfl, Nat.le_of_ble_eq_true rfl⟩) (wr_preV (hP.sub (ws' := [(mo, .inr (7, [.ref ms, .ref mah, .ref mhi, .int vkp, .ref msl, .ref msv, .ref mpd, .int vln, .ref mlb])), (ms, .inl (cI, 246, .inl vs)), (mah, .inl (cI, 246, .inl vah)), (mhi, .inl (cI, 1476, .inl vhi)), (mlb, .inl (cI, 48, .inl vlb))]) [0, 1, 2, 3, 4] rfl) hK (hD.sub (ws' := [(mo, .inr (7, [.ref ms, .ref mah, .ref mhi, .int vkp, .ref msl, .ref msv, .ref mpd, .int vln, .ref mlb])), (ms, .inl (cI, 246, .inl vs)), (mah, .inl (cI, 246, .inl vah)), (mhi, .inl (cI, 1476, .inl vhi)), (mlb, .inl (cI, 48, .inl vlb))]) [0, 1, 2, 3, 4] (by decide) rfl) (ci := 7) (q0 := 0) rfl rfl) rfl rfl hl.1 rfl (lv_room (Nat.le_of_ble_eq_true rfl)) dX7_snip_4 ⟨Nat.zero_le _, Nat.zero_le _⟩) hP hD hS rfl rfl rfl (fun H locs hP hD hS => ?_)
  have hP : va_P (dC, dI) vwCl [(mo, .inr (7, [.ref ms, .ref mah, .ref mhi, .int r_1.2.1, .ref msl, .ref msv, .ref mpd, .int vln, .ref mlb])), (ms, .inl (cI, 246, .inl r_1.2.2.1)), (mah, .inl (cI, 246, .inl r_1.2.2.2.1)), (mhi, .inl (cI, 1476, .inl r_1.2.2.2.2.1)), (mlb, .inl (cI, 48, .inl r_1.2.2.2.2.2))] H := hP
  have hD : va_D A [(mo, .inr (7, [.ref ms, .ref mah, .ref mhi, .int r_1.2.1, .ref msl, .ref msv, .ref mpd, .int vln, .ref mlb])), (ms, .inl (cI, 246, .inl r_1.2.2.1)), (mah, .inl (cI, 246, .inl r_1.2.2.2.1)), (mhi, .inl (cI, 1476, .inl r_1.2.2.2.2.1)), (mlb, .inl (cI, 48, .inl r_1.2.2.2.2.2))] := hD
  subst hres
  exact W.iret (v := r_1.1) hx hb hr (fun t ht hW => ⟨⟨r_1.1, (), rfl, rfl, (by show va_P _ _ _ t.heap; rw [ht]; exact hP)⟩, hS.F ht⟩) hS.2.2 dX7_snip_7
def F_Model_sew (joint : Int32) (vkp : Int32) (vs : Nat → Int32) (vhi : Nat → Int32) (vlb : Nat → Int32) : Int32 × Int32 × (Nat → Int32) × (Nat → Int32) × (Nat → Int32) × (Nat → Int32) := (bnd (F_Model_turns (119 : Int32) joint vkp vs vhi vlb) (fun r_1 => (r_1.1, r_1.2.1, r_1.2.2.1, r_1.2.2.2.1, r_1.2.2.2.2.1, r_1.2.2.2.2.2)))
set_option maxHeartbeats 4000000 in
set_option maxRecDepth 100000 in
theorem c_Model_sew (l : Launch) (dC : Nat → ClassId) (dI : Nat → Nat → Nat) (cI cC cG cZ : ClassId) (mo ms mah mhi msl msv mpd mlb : Nat) (joint : Int32) (vkp : Int32) (vln : Int32) (vs : Nat → Int32) (vah : Nat → Int32) (vhi : Nat → Int32) (vlb : Nat → Int32) (hMI : MI vs) (hkp : tm_ok 6 vkp) (res : Int32 × Int32 × (Nat → Int32) × (Nat → Int32) × (Nat → Int32) × (Nat → Int32)) (hres : res = F_Model_sew joint vkp vs vhi vlb) : Met l yX7_sew wsX7_sew ({ frames := 9, cells := 0, slots := 0, locals := 204 }) (va_Pc [.ref mo, .int joint] (wr_P (dC, dI) vwCl (tyL cI cC cG cZ) [(mo, .inr (7, [.ref ms, .ref mah, .ref mhi, .int vkp, .ref msl, .ref msv, .ref mpd, .int vln, .ref mlb])), (ms, .inl (cI, 246, .inl vs)), (mah, .inl (cI, 246, .inl vah)), (mhi, .inl (cI, 1476, .inl vhi)), (mlb, .inl (cI, 48, .inl vlb))])) (va_Qi (fun r (_ : Unit) => r = res.1) (fun _ zt => va_P (dC, dI) vwCl [(mo, .inr (7, [.ref ms, .ref mah, .ref mhi, .int res.2.1, .ref msl, .ref msv, .ref mpd, .int vln, .ref mlb])), (ms, .inl (cI, 246, .inl res.2.2.1)), (mah, .inl (cI, 246, .inl res.2.2.2.1)), (mhi, .inl (cI, 1476, .inl res.2.2.2.2.1)), (mlb, .inl (cI, 48, .inl res.2.2.2.2.2))] zt.heap) (wr_A [(mo, .inr (7, [.ref ms, .ref mah, .ref mhi, .int vkp, .ref msl, .ref msv, .ref mpd, .int vln, .ref mlb])), (ms, .inl (cI, 246, .inl vs)), (mah, .inl (cI, 246, .inl vah)), (mhi, .inl (cI, 1476, .inl vhi)), (mlb, .inl (cI, 48, .inl vlb))])) 0 0 (wr_A [(mo, .inr (7, [.ref ms, .ref mah, .ref mhi, .int vkp, .ref msl, .ref msv, .ref mpd, .int vln, .ref mlb])), (ms, .inl (cI, 246, .inl vs)), (mah, .inl (cI, 246, .inl vah)), (mhi, .inl (cI, 1476, .inl vhi)), (mlb, .inl (cI, 48, .inl vlb))]) := by
  refine Met.ofW (cc := cX7_sew) (maxL := 2) (ret := (some .int)) (by decide) rfl ?_
  intro p e s m args below meth c s₁ B hml hv
  obtain ⟨rfl, hP, hK, hD0⟩ := hv
  have hx := B.exec
  have hb := B.bytes
  have hr := B.returns
  have hts := atoms_spec (ws := wsX7_sew) B.pre
  have hown : s.vm.findClass RX7 = some m.cls := findClass_of_methodNamed B.named
  have hlocks := B.notSynchronized
  have hD := wr_self hD0
  generalize hAe : wr_A [(mo, .inr (7, [.ref ms, .ref mah, .ref mhi, .int vkp, .ref msl, .ref msv, .ref mpd, .int vln, .ref mlb])), (ms, .inl (cI, 246, .inl vs)), (mah, .inl (cI, 246, .inl vah)), (mhi, .inl (cI, 1476, .inl vhi)), (mlb, .inl (cI, 48, .inl vlb))] = A at hD ⊢
  have hS : va_S A s.heap s.heap [] := va_S.rf
  have hP : va_P (dC, dI) vwCl [(mo, .inr (7, [.ref ms, .ref mah, .ref mhi, .int vkp, .ref msl, .ref msv, .ref mpd, .int vln, .ref mlb])), (ms, .inl (cI, 246, .inl vs)), (mah, .inl (cI, 246, .inl vah)), (mhi, .inl (cI, 1476, .inl vhi)), (mlb, .inl (cI, 48, .inl vlb))] s.heap := hP
  have hl := lv_entry ([.ref mo, .int joint]) (n := 2) (Nat.le_of_ble_eq_true rfl)
  rw [lg_entry_eq]
  generalize (lg_sl ([.ref mo, .int joint]) ++ List.replicate (2 - (lg_sl ([.ref mo, .int joint])).length) Slot.unset).toArray = ls at hl ⊢
  have hl : lv_has ls 2 [(0, .ref mo), (1, .int joint)] := hl
  rw [F_Model_sew] at hres
  refine lv_aload_n hx hb dX7_sew_0 rfl (lv_at hl 0 rfl) ?_
  refine lv_bipush (v := 119) hx hb dX7_sew_1 (by decide) ?_
  refine lv_iload_n hx hb dX7_sew_3 rfl (lv_at hl 1 rfl) ?_
  obtain ⟨r_1, hr_1⟩ : ∃ z, z = F_Model_turns (119 : Int32) joint vkp vs vhi vlb := ⟨_, rfl⟩
  rw [bnd_e hr_1] at hres
  refine wr_calli (w1 := [(mo, .inr (7, [.ref ms, .ref mah, .ref mhi, .int r_1.2.1, .ref msl, .ref msv, .ref mpd, .int vln, .ref mlb])), (ms, .inl (cI, 246, .inl r_1.2.2.1)), (mah, .inl (cI, 246, .inl r_1.2.2.2.1)), (mhi, .inl (cI, 1476, .inl r_1.2.2.2.2.1)), (mlb, .inl (cI, 48, .inl r_1.2.2.2.2.2))]) (is := [0, 1, 2, 3, 4]) (va_runV (As := [.int 119, .int joint]) (rest := []) ⟨hx, hb, hml, hown, hts⟩ (c_Model_turns l dC dI cI cC cG cZ mo ms mah mhi msl msv mpd mlb (119 : Int32) joint vkp vln vs vah vhi vlb hMI hkp r_1 hr_1) (cwV 2 hts gX7_sew_X7_turns rfl rfl rfl (by decide +kernel) ⟨Nat.le_of_ble_eq_true rfl, Nat.le_of_ble_eq_true rfl⟩) (wr_preV (hP.sub (ws' := [(mo, .inr (7, [.ref ms, .ref mah, .ref mhi, .int vkp, .ref msl, .ref msv, .ref mpd, .int vln, .ref mlb])), (ms, .inl (cI, 246, .inl vs)), (mah, .inl (cI, 246, .inl vah)), (mhi, .inl (cI, 1476, .inl vhi)), (mlb, .inl (cI, 48, .inl vlb))]) [0, 1, 2, 3, 4] rfl) hK (hD.sub (ws' := [(mo, .inr (7, [.ref ms, .ref mah, .ref mhi, .int vkp, .ref msl, .ref msv, .ref mpd, .int vln, .ref mlb])), (ms, .inl (cI, 246, .inl vs)), (mah, .inl (cI, 246, .inl vah)), (mhi, .inl (cI, 1476, .inl vhi)), (mlb, .inl (cI, 48, .inl vlb))]) [0, 1, 2, 3, 4] (by decide) rfl) (ci := 7) (q0 := 0) rfl rfl) rfl rfl hl.1 rfl (lv_room (Nat.le_of_ble_eq_true rfl)) dX7_sew_4 ⟨Nat.zero_le _, Nat.zero_le _⟩) hP hD hS rfl rfl rfl (fun H locs hP hD hS => ?_)
  have hP : va_P (dC, dI) vwCl [(mo, .inr (7, [.ref ms, .ref mah, .ref mhi, .int r_1.2.1, .ref msl, .ref msv, .ref mpd, .int vln, .ref mlb])), (ms, .inl (cI, 246, .inl r_1.2.2.1)), (mah, .inl (cI, 246, .inl r_1.2.2.2.1)), (mhi, .inl (cI, 1476, .inl r_1.2.2.2.2.1)), (mlb, .inl (cI, 48, .inl r_1.2.2.2.2.2))] H := hP
  have hD : va_D A [(mo, .inr (7, [.ref ms, .ref mah, .ref mhi, .int r_1.2.1, .ref msl, .ref msv, .ref mpd, .int vln, .ref mlb])), (ms, .inl (cI, 246, .inl r_1.2.2.1)), (mah, .inl (cI, 246, .inl r_1.2.2.2.1)), (mhi, .inl (cI, 1476, .inl r_1.2.2.2.2.1)), (mlb, .inl (cI, 48, .inl r_1.2.2.2.2.2))] := hD
  subst hres
  exact W.iret (v := r_1.1) hx hb hr (fun t ht hW => ⟨⟨r_1.1, (), rfl, rfl, (by show va_P _ _ _ t.heap; rw [ht]; exact hP)⟩, hS.F ht⟩) hS.2.2 dX7_sew_7
def F_Model_bluff (joint : Int32) (vkp : Int32) (vs : Nat → Int32) (vhi : Nat → Int32) (vlb : Nat → Int32) : Int32 × Int32 × (Nat → Int32) × (Nat → Int32) × (Nat → Int32) × (Nat → Int32) := (bnd (F_Model_turns (98 : Int32) joint vkp vs vhi vlb) (fun r_1 => (r_1.1, r_1.2.1, r_1.2.2.1, r_1.2.2.2.1, r_1.2.2.2.2.1, r_1.2.2.2.2.2)))
set_option maxHeartbeats 4000000 in
set_option maxRecDepth 100000 in
theorem c_Model_bluff (l : Launch) (dC : Nat → ClassId) (dI : Nat → Nat → Nat) (cI cC cG cZ : ClassId) (mo ms mah mhi msl msv mpd mlb : Nat) (joint : Int32) (vkp : Int32) (vln : Int32) (vs : Nat → Int32) (vah : Nat → Int32) (vhi : Nat → Int32) (vlb : Nat → Int32) (hMI : MI vs) (hkp : tm_ok 6 vkp) (res : Int32 × Int32 × (Nat → Int32) × (Nat → Int32) × (Nat → Int32) × (Nat → Int32)) (hres : res = F_Model_bluff joint vkp vs vhi vlb) : Met l yX7_bluff wsX7_bluff ({ frames := 9, cells := 0, slots := 0, locals := 204 }) (va_Pc [.ref mo, .int joint] (wr_P (dC, dI) vwCl (tyL cI cC cG cZ) [(mo, .inr (7, [.ref ms, .ref mah, .ref mhi, .int vkp, .ref msl, .ref msv, .ref mpd, .int vln, .ref mlb])), (ms, .inl (cI, 246, .inl vs)), (mah, .inl (cI, 246, .inl vah)), (mhi, .inl (cI, 1476, .inl vhi)), (mlb, .inl (cI, 48, .inl vlb))])) (va_Qi (fun r (_ : Unit) => r = res.1) (fun _ zt => va_P (dC, dI) vwCl [(mo, .inr (7, [.ref ms, .ref mah, .ref mhi, .int res.2.1, .ref msl, .ref msv, .ref mpd, .int vln, .ref mlb])), (ms, .inl (cI, 246, .inl res.2.2.1)), (mah, .inl (cI, 246, .inl res.2.2.2.1)), (mhi, .inl (cI, 1476, .inl res.2.2.2.2.1)), (mlb, .inl (cI, 48, .inl res.2.2.2.2.2))] zt.heap) (wr_A [(mo, .inr (7, [.ref ms, .ref mah, .ref mhi, .int vkp, .ref msl, .ref msv, .ref mpd, .int vln, .ref mlb])), (ms, .inl (cI, 246, .inl vs)), (mah, .inl (cI, 246, .inl vah)), (mhi, .inl (cI, 1476, .inl vhi)), (mlb, .inl (cI, 48, .inl vlb))])) 0 0 (wr_A [(mo, .inr (7, [.ref ms, .ref mah, .ref mhi, .int vkp, .ref msl, .ref msv, .ref mpd, .int vln, .ref mlb])), (ms, .inl (cI, 246, .inl vs)), (mah, .inl (cI, 246, .inl vah)), (mhi, .inl (cI, 1476, .inl vhi)), (mlb, .inl (cI, 48, .inl vlb))]) := by
  refine Met.ofW (cc := cX7_bluff) (maxL := 2) (ret := (some .int)) (by decide) rfl ?_
  intro p e s m args below meth c s₁ B hml hv
  obtain ⟨rfl, hP, hK, hD0⟩ := hv
  have hx := B.exec
  have hb := B.bytes
  have hr := B.returns
  have hts := atoms_spec (ws := wsX7_bluff) B.pre
  have hown : s.vm.findClass RX7 = some m.cls := findClass_of_methodNamed B.named
  have hlocks := B.notSynchronized
  have hD := wr_self hD0
  generalize hAe : wr_A [(mo, .inr (7, [.ref ms, .ref mah, .ref mhi, .int vkp, .ref msl, .ref msv, .ref mpd, .int vln, .ref mlb])), (ms, .inl (cI, 246, .inl vs)), (mah, .inl (cI, 246, .inl vah)), (mhi, .inl (cI, 1476, .inl vhi)), (mlb, .inl (cI, 48, .inl vlb))] = A at hD ⊢
  have hS : va_S A s.heap s.heap [] := va_S.rf
  have hP : va_P (dC, dI) vwCl [(mo, .inr (7, [.ref ms, .ref mah, .ref mhi, .int vkp, .ref msl, .ref msv, .ref mpd, .int vln, .ref mlb])), (ms, .inl (cI, 246, .inl vs)), (mah, .inl (cI, 246, .inl vah)), (mhi, .inl (cI, 1476, .inl vhi)), (mlb, .inl (cI, 48, .inl vlb))] s.heap := hP
  have hl := lv_entry ([.ref mo, .int joint]) (n := 2) (Nat.le_of_ble_eq_true rfl)
  rw [lg_entry_eq]
  generalize (lg_sl ([.ref mo, .int joint]) ++ List.replicate (2 - (lg_sl ([.ref mo, .int joint])).length) Slot.unset).toArray = ls at hl ⊢
  have hl : lv_has ls 2 [(0, .ref mo), (1, .int joint)] := hl
  rw [F_Model_bluff] at hres
  refine lv_aload_n hx hb dX7_bluff_0 rfl (lv_at hl 0 rfl) ?_
  refine lv_bipush (v := 98) hx hb dX7_bluff_1 (by decide) ?_
  refine lv_iload_n hx hb dX7_bluff_3 rfl (lv_at hl 1 rfl) ?_
  obtain ⟨r_1, hr_1⟩ : ∃ z, z = F_Model_turns (98 : Int32) joint vkp vs vhi vlb := ⟨_, rfl⟩
  rw [bnd_e hr_1] at hres
  refine wr_calli (w1 := [(mo, .inr (7, [.ref ms, .ref mah, .ref mhi, .int r_1.2.1, .ref msl, .ref msv, .ref mpd, .int vln, .ref mlb])), (ms, .inl (cI, 246, .inl r_1.2.2.1)), (mah, .inl (cI, 246, .inl r_1.2.2.2.1)), (mhi, .inl (cI, 1476, .inl r_1.2.2.2.2.1)), (mlb, .inl (cI, 48, .inl r_1.2.2.2.2.2))]) (is := [0, 1, 2, 3, 4]) (va_runV (As := [.int 98, .int joint]) (rest := []) ⟨hx, hb, hml, hown, hts⟩ (c_Model_turns l dC dI cI cC cG cZ mo ms mah mhi msl msv mpd mlb (98 : Int32) joint vkp vln vs vah vhi vlb hMI hkp r_1 hr_1) (cwV 2 hts gX7_bluff_X7_turns rfl rfl rfl (by decide +kernel) ⟨Nat.le_of_ble_eq_true rfl, Nat.le_of_ble_eq_true rfl⟩) (wr_preV (hP.sub (ws' := [(mo, .inr (7, [.ref ms, .ref mah, .ref mhi, .int vkp, .ref msl, .ref msv, .ref mpd, .int vln, .ref mlb])), (ms, .inl (cI, 246, .inl vs)), (mah, .inl (cI, 246, .inl vah)), (mhi, .inl (cI, 1476, .inl vhi)), (mlb, .inl (cI, 48, .inl vlb))]) [0, 1, 2, 3, 4] rfl) hK (hD.sub (ws' := [(mo, .inr (7, [.ref ms, .ref mah, .ref mhi, .int vkp, .ref msl, .ref msv, .ref mpd, .int vln, .ref mlb])), (ms, .inl (cI, 246, .inl vs)), (mah, .inl (cI, 246, .inl vah)), (mhi, .inl (cI, 1476, .inl vhi)), (mlb, .inl (cI, 48, .inl vlb))]) [0, 1, 2, 3, 4] (by decide) rfl) (ci := 7) (q0 := 0) rfl rfl) rfl rfl hl.1 rfl (lv_room (Nat.le_of_ble_eq_true rfl)) dX7_bluff_4 ⟨Nat.zero_le _, Nat.zero_le _⟩) hP hD hS rfl rfl rfl (fun H locs hP hD hS => ?_)
  have hP : va_P (dC, dI) vwCl [(mo, .inr (7, [.ref ms, .ref mah, .ref mhi, .int r_1.2.1, .ref msl, .ref msv, .ref mpd, .int vln, .ref mlb])), (ms, .inl (cI, 246, .inl r_1.2.2.1)), (mah, .inl (cI, 246, .inl r_1.2.2.2.1)), (mhi, .inl (cI, 1476, .inl r_1.2.2.2.2.1)), (mlb, .inl (cI, 48, .inl r_1.2.2.2.2.2))] H := hP
  have hD : va_D A [(mo, .inr (7, [.ref ms, .ref mah, .ref mhi, .int r_1.2.1, .ref msl, .ref msv, .ref mpd, .int vln, .ref mlb])), (ms, .inl (cI, 246, .inl r_1.2.2.1)), (mah, .inl (cI, 246, .inl r_1.2.2.2.1)), (mhi, .inl (cI, 1476, .inl r_1.2.2.2.2.1)), (mlb, .inl (cI, 48, .inl r_1.2.2.2.2.2))] := hD
  subst hres
  exact W.iret (v := r_1.1) hx hb hr (fun t ht hW => ⟨⟨r_1.1, (), rfl, rfl, (by show va_P _ _ _ t.heap; rw [ht]; exact hP)⟩, hS.F ht⟩) hS.2.2 dX7_bluff_7
def F_Model_doubt (joint : Int32) (vkp : Int32) (vs : Nat → Int32) (vhi : Nat → Int32) (vlb : Nat → Int32) : Int32 × Int32 × (Nat → Int32) × (Nat → Int32) × (Nat → Int32) × (Nat → Int32) := (bnd (F_Model_turns (100 : Int32) joint vkp vs vhi vlb) (fun r_1 => (r_1.1, r_1.2.1, r_1.2.2.1, r_1.2.2.2.1, r_1.2.2.2.2.1, r_1.2.2.2.2.2)))
set_option maxHeartbeats 4000000 in
set_option maxRecDepth 100000 in
theorem c_Model_doubt (l : Launch) (dC : Nat → ClassId) (dI : Nat → Nat → Nat) (cI cC cG cZ : ClassId) (mo ms mah mhi msl msv mpd mlb : Nat) (joint : Int32) (vkp : Int32) (vln : Int32) (vs : Nat → Int32) (vah : Nat → Int32) (vhi : Nat → Int32) (vlb : Nat → Int32) (hMI : MI vs) (hkp : tm_ok 6 vkp) (res : Int32 × Int32 × (Nat → Int32) × (Nat → Int32) × (Nat → Int32) × (Nat → Int32)) (hres : res = F_Model_doubt joint vkp vs vhi vlb) : Met l yX7_doubt wsX7_doubt ({ frames := 9, cells := 0, slots := 0, locals := 204 }) (va_Pc [.ref mo, .int joint] (wr_P (dC, dI) vwCl (tyL cI cC cG cZ) [(mo, .inr (7, [.ref ms, .ref mah, .ref mhi, .int vkp, .ref msl, .ref msv, .ref mpd, .int vln, .ref mlb])), (ms, .inl (cI, 246, .inl vs)), (mah, .inl (cI, 246, .inl vah)), (mhi, .inl (cI, 1476, .inl vhi)), (mlb, .inl (cI, 48, .inl vlb))])) (va_Qi (fun r (_ : Unit) => r = res.1) (fun _ zt => va_P (dC, dI) vwCl [(mo, .inr (7, [.ref ms, .ref mah, .ref mhi, .int res.2.1, .ref msl, .ref msv, .ref mpd, .int vln, .ref mlb])), (ms, .inl (cI, 246, .inl res.2.2.1)), (mah, .inl (cI, 246, .inl res.2.2.2.1)), (mhi, .inl (cI, 1476, .inl res.2.2.2.2.1)), (mlb, .inl (cI, 48, .inl res.2.2.2.2.2))] zt.heap) (wr_A [(mo, .inr (7, [.ref ms, .ref mah, .ref mhi, .int vkp, .ref msl, .ref msv, .ref mpd, .int vln, .ref mlb])), (ms, .inl (cI, 246, .inl vs)), (mah, .inl (cI, 246, .inl vah)), (mhi, .inl (cI, 1476, .inl vhi)), (mlb, .inl (cI, 48, .inl vlb))])) 0 0 (wr_A [(mo, .inr (7, [.ref ms, .ref mah, .ref mhi, .int vkp, .ref msl, .ref msv, .ref mpd, .int vln, .ref mlb])), (ms, .inl (cI, 246, .inl vs)), (mah, .inl (cI, 246, .inl vah)), (mhi, .inl (cI, 1476, .inl vhi)), (mlb, .inl (cI, 48, .inl vlb))]) := by
  refine Met.ofW (cc := cX7_doubt) (maxL := 2) (ret := (some .int)) (by decide) rfl ?_
  intro p e s m args below meth c s₁ B hml hv
  obtain ⟨rfl, hP, hK, hD0⟩ := hv
  have hx := B.exec
  have hb := B.bytes
  have hr := B.returns
  have hts := atoms_spec (ws := wsX7_doubt) B.pre
  have hown : s.vm.findClass RX7 = some m.cls := findClass_of_methodNamed B.named
  have hlocks := B.notSynchronized
  have hD := wr_self hD0
  generalize hAe : wr_A [(mo, .inr (7, [.ref ms, .ref mah, .ref mhi, .int vkp, .ref msl, .ref msv, .ref mpd, .int vln, .ref mlb])), (ms, .inl (cI, 246, .inl vs)), (mah, .inl (cI, 246, .inl vah)), (mhi, .inl (cI, 1476, .inl vhi)), (mlb, .inl (cI, 48, .inl vlb))] = A at hD ⊢
  have hS : va_S A s.heap s.heap [] := va_S.rf
  have hP : va_P (dC, dI) vwCl [(mo, .inr (7, [.ref ms, .ref mah, .ref mhi, .int vkp, .ref msl, .ref msv, .ref mpd, .int vln, .ref mlb])), (ms, .inl (cI, 246, .inl vs)), (mah, .inl (cI, 246, .inl vah)), (mhi, .inl (cI, 1476, .inl vhi)), (mlb, .inl (cI, 48, .inl vlb))] s.heap := hP
  have hl := lv_entry ([.ref mo, .int joint]) (n := 2) (Nat.le_of_ble_eq_true rfl)
  rw [lg_entry_eq]
  generalize (lg_sl ([.ref mo, .int joint]) ++ List.replicate (2 - (lg_sl ([.ref mo, .int joint])).length) Slot.unset).toArray = ls at hl ⊢
  have hl : lv_has ls 2 [(0, .ref mo), (1, .int joint)] := hl
  rw [F_Model_doubt] at hres
  refine lv_aload_n hx hb dX7_doubt_0 rfl (lv_at hl 0 rfl) ?_
  refine lv_bipush (v := 100) hx hb dX7_doubt_1 (by decide) ?_
  refine lv_iload_n hx hb dX7_doubt_3 rfl (lv_at hl 1 rfl) ?_
  obtain ⟨r_1, hr_1⟩ : ∃ z, z = F_Model_turns (100 : Int32) joint vkp vs vhi vlb := ⟨_, rfl⟩
  rw [bnd_e hr_1] at hres
  refine wr_calli (w1 := [(mo, .inr (7, [.ref ms, .ref mah, .ref mhi, .int r_1.2.1, .ref msl, .ref msv, .ref mpd, .int vln, .ref mlb])), (ms, .inl (cI, 246, .inl r_1.2.2.1)), (mah, .inl (cI, 246, .inl r_1.2.2.2.1)), (mhi, .inl (cI, 1476, .inl r_1.2.2.2.2.1)), (mlb, .inl (cI, 48, .inl r_1.2.2.2.2.2))]) (is := [0, 1, 2, 3, 4]) (va_runV (As := [.int 100, .int joint]) (rest := []) ⟨hx, hb, hml, hown, hts⟩ (c_Model_turns l dC dI cI cC cG cZ mo ms mah mhi msl msv mpd mlb (100 : Int32) joint vkp vln vs vah vhi vlb hMI hkp r_1 hr_1) (cwV 2 hts gX7_doubt_X7_turns rfl rfl rfl (by decide +kernel) ⟨Nat.le_of_ble_eq_true rfl, Nat.le_of_ble_eq_true rfl⟩) (wr_preV (hP.sub (ws' := [(mo, .inr (7, [.ref ms, .ref mah, .ref mhi, .int vkp, .ref msl, .ref msv, .ref mpd, .int vln, .ref mlb])), (ms, .inl (cI, 246, .inl vs)), (mah, .inl (cI, 246, .inl vah)), (mhi, .inl (cI, 1476, .inl vhi)), (mlb, .inl (cI, 48, .inl vlb))]) [0, 1, 2, 3, 4] rfl) hK (hD.sub (ws' := [(mo, .inr (7, [.ref ms, .ref mah, .ref mhi, .int vkp, .ref msl, .ref msv, .ref mpd, .int vln, .ref mlb])), (ms, .inl (cI, 246, .inl vs)), (mah, .inl (cI, 246, .inl vah)), (mhi, .inl (cI, 1476, .inl vhi)), (mlb, .inl (cI, 48, .inl vlb))]) [0, 1, 2, 3, 4] (by decide) rfl) (ci := 7) (q0 := 0) rfl rfl) rfl rfl hl.1 rfl (lv_room (Nat.le_of_ble_eq_true rfl)) dX7_doubt_4 ⟨Nat.zero_le _, Nat.zero_le _⟩) hP hD hS rfl rfl rfl (fun H locs hP hD hS => ?_)
  have hP : va_P (dC, dI) vwCl [(mo, .inr (7, [.ref ms, .ref mah, .ref mhi, .int r_1.2.1, .ref msl, .ref msv, .ref mpd, .int vln, .ref mlb])), (ms, .inl (cI, 246, .inl r_1.2.2.1)), (mah, .inl (cI, 246, .inl r_1.2.2.2.1)), (mhi, .inl (cI, 1476, .inl r_1.2.2.2.2.1)), (mlb, .inl (cI, 48, .inl r_1.2.2.2.2.2))] H := hP
  have hD : va_D A [(mo, .inr (7, [.ref ms, .ref mah, .ref mhi, .int r_1.2.1, .ref msl, .ref msv, .ref mpd, .int vln, .ref mlb])), (ms, .inl (cI, 246, .inl r_1.2.2.1)), (mah, .inl (cI, 246, .inl r_1.2.2.2.1)), (mhi, .inl (cI, 1476, .inl r_1.2.2.2.2.1)), (mlb, .inl (cI, 48, .inl r_1.2.2.2.2.2))] := hD
  subst hres
  exact W.iret (v := r_1.1) hx hb hr (fun t ht hW => ⟨⟨r_1.1, (), rfl, rfl, (by show va_P _ _ _ t.heap; rw [ht]; exact hP)⟩, hS.F ht⟩) hS.2.2 dX7_doubt_7
def F_Model_pass (vkp : Int32) (vs : Nat → Int32) (vhi : Nat → Int32) (vlb : Nat → Int32) : Int32 × Int32 × (Nat → Int32) × (Nat → Int32) × (Nat → Int32) × (Nat → Int32) := (bnd (F_Model_turns (112 : Int32) (0 : Int32) vkp vs vhi vlb) (fun r_1 => (r_1.1, r_1.2.1, r_1.2.2.1, r_1.2.2.2.1, r_1.2.2.2.2.1, r_1.2.2.2.2.2)))
set_option maxHeartbeats 4000000 in
set_option maxRecDepth 100000 in
theorem c_Model_pass (l : Launch) (dC : Nat → ClassId) (dI : Nat → Nat → Nat) (cI cC cG cZ : ClassId) (mo ms mah mhi msl msv mpd mlb : Nat) (vkp : Int32) (vln : Int32) (vs : Nat → Int32) (vah : Nat → Int32) (vhi : Nat → Int32) (vlb : Nat → Int32) (hMI : MI vs) (hkp : tm_ok 6 vkp) (res : Int32 × Int32 × (Nat → Int32) × (Nat → Int32) × (Nat → Int32) × (Nat → Int32)) (hres : res = F_Model_pass vkp vs vhi vlb) : Met l yX7_pass wsX7_pass ({ frames := 9, cells := 0, slots := 0, locals := 204 }) (va_Pc [.ref mo] (wr_P (dC, dI) vwCl (tyL cI cC cG cZ) [(mo, .inr (7, [.ref ms, .ref mah, .ref mhi, .int vkp, .ref msl, .ref msv, .ref mpd, .int vln, .ref mlb])), (ms, .inl (cI, 246, .inl vs)), (mah, .inl (cI, 246, .inl vah)), (mhi, .inl (cI, 1476, .inl vhi)), (mlb, .inl (cI, 48, .inl vlb))])) (va_Qi (fun r (_ : Unit) => r = res.1) (fun _ zt => va_P (dC, dI) vwCl [(mo, .inr (7, [.ref ms, .ref mah, .ref mhi, .int res.2.1, .ref msl, .ref msv, .ref mpd, .int vln, .ref mlb])), (ms, .inl (cI, 246, .inl res.2.2.1)), (mah, .inl (cI, 246, .inl res.2.2.2.1)), (mhi, .inl (cI, 1476, .inl res.2.2.2.2.1)), (mlb, .inl (cI, 48, .inl res.2.2.2.2.2))] zt.heap) (wr_A [(mo, .inr (7, [.ref ms, .ref mah, .ref mhi, .int vkp, .ref msl, .ref msv, .ref mpd, .int vln, .ref mlb])), (ms, .inl (cI, 246, .inl vs)), (mah, .inl (cI, 246, .inl vah)), (mhi, .inl (cI, 1476, .inl vhi)), (mlb, .inl (cI, 48, .inl vlb))])) 0 0 (wr_A [(mo, .inr (7, [.ref ms, .ref mah, .ref mhi, .int vkp, .ref msl, .ref msv, .ref mpd, .int vln, .ref mlb])), (ms, .inl (cI, 246, .inl vs)), (mah, .inl (cI, 246, .inl vah)), (mhi, .inl (cI, 1476, .inl vhi)), (mlb, .inl (cI, 48, .inl vlb))]) := by
  refine Met.ofW (cc := cX7_pass) (maxL := 1) (ret := (some .int)) (by decide) rfl ?_
  intro p e s m args below meth c s₁ B hml hv
  obtain ⟨rfl, hP, hK, hD0⟩ := hv
  have hx := B.exec
  have hb := B.bytes
  have hr := B.returns
  have hts := atoms_spec (ws := wsX7_pass) B.pre
  have hown : s.vm.findClass RX7 = some m.cls := findClass_of_methodNamed B.named
  have hlocks := B.notSynchronized
  have hD := wr_self hD0
  generalize hAe : wr_A [(mo, .inr (7, [.ref ms, .ref mah, .ref mhi, .int vkp, .ref msl, .ref msv, .ref mpd, .int vln, .ref mlb])), (ms, .inl (cI, 246, .inl vs)), (mah, .inl (cI, 246, .inl vah)), (mhi, .inl (cI, 1476, .inl vhi)), (mlb, .inl (cI, 48, .inl vlb))] = A at hD ⊢
  have hS : va_S A s.heap s.heap [] := va_S.rf
  have hP : va_P (dC, dI) vwCl [(mo, .inr (7, [.ref ms, .ref mah, .ref mhi, .int vkp, .ref msl, .ref msv, .ref mpd, .int vln, .ref mlb])), (ms, .inl (cI, 246, .inl vs)), (mah, .inl (cI, 246, .inl vah)), (mhi, .inl (cI, 1476, .inl vhi)), (mlb, .inl (cI, 48, .inl vlb))] s.heap := hP
  have hl := lv_entry ([.ref mo]) (n := 1) (Nat.le_of_ble_eq_true rfl)
  rw [lg_entry_eq]
  generalize (lg_sl ([.ref mo]) ++ List.replicate (1 - (lg_sl ([.ref mo])).length) Slot.unset).toArray = ls at hl ⊢
  have hl : lv_has ls 1 [(0, .ref mo)] := hl
  rw [F_Model_pass] at hres
  refine lv_aload_n hx hb dX7_pass_0 rfl (lv_at hl 0 rfl) ?_
  refine lv_bipush (v := 112) hx hb dX7_pass_1 (by decide) ?_
  refine lv_iconst (v := 0) hx hb dX7_pass_3 (by decide) ?_
  obtain ⟨r_1, hr_1⟩ : ∃ z, z = F_Model_turns (112 : Int32) (0 : Int32) vkp vs vhi vlb := ⟨_, rfl⟩
  rw [bnd_e hr_1] at hres
  refine wr_calli (w1 := [(mo, .inr (7, [.ref ms, .ref mah, .ref mhi, .int r_1.2.1, .ref msl, .ref msv, .ref mpd, .int vln, .ref mlb])), (ms, .inl (cI, 246, .inl r_1.2.2.1)), (mah, .inl (cI, 246, .inl r_1.2.2.2.1)), (mhi, .inl (cI, 1476, .inl r_1.2.2.2.2.1)), (mlb, .inl (cI, 48, .inl r_1.2.2.2.2.2))]) (is := [0, 1, 2, 3, 4]) (va_runV (As := [.int 112, .int 0]) (rest := []) ⟨hx, hb, hml, hown, hts⟩ (c_Model_turns l dC dI cI cC cG cZ mo ms mah mhi msl msv mpd mlb (112 : Int32) (0 : Int32) vkp vln vs vah vhi vlb hMI hkp r_1 hr_1) (cwV 2 hts gX7_pass_X7_turns rfl rfl rfl (by decide +kernel) ⟨Nat.le_of_ble_eq_true rfl, Nat.le_of_ble_eq_true rfl⟩) (wr_preV (hP.sub (ws' := [(mo, .inr (7, [.ref ms, .ref mah, .ref mhi, .int vkp, .ref msl, .ref msv, .ref mpd, .int vln, .ref mlb])), (ms, .inl (cI, 246, .inl vs)), (mah, .inl (cI, 246, .inl vah)), (mhi, .inl (cI, 1476, .inl vhi)), (mlb, .inl (cI, 48, .inl vlb))]) [0, 1, 2, 3, 4] rfl) hK (hD.sub (ws' := [(mo, .inr (7, [.ref ms, .ref mah, .ref mhi, .int vkp, .ref msl, .ref msv, .ref mpd, .int vln, .ref mlb])), (ms, .inl (cI, 246, .inl vs)), (mah, .inl (cI, 246, .inl vah)), (mhi, .inl (cI, 1476, .inl vhi)), (mlb, .inl (cI, 48, .inl vlb))]) [0, 1, 2, 3, 4] (by decide) rfl) (ci := 7) (q0 := 0) rfl rfl) rfl rfl hl.1 rfl (lv_room (Nat.le_of_ble_eq_true rfl)) dX7_pass_4 ⟨Nat.zero_le _, Nat.zero_le _⟩) hP hD hS rfl rfl rfl (fun H locs hP hD hS => ?_)
  have hP : va_P (dC, dI) vwCl [(mo, .inr (7, [.ref ms, .ref mah, .ref mhi, .int r_1.2.1, .ref msl, .ref msv, .ref mpd, .int vln, .ref mlb])), (ms, .inl (cI, 246, .inl r_1.2.2.1)), (mah, .inl (cI, 246, .inl r_1.2.2.2.1)), (mhi, .inl (cI, 1476, .inl r_1.2.2.2.2.1)), (mlb, .inl (cI, 48, .inl r_1.2.2.2.2.2))] H := hP
  have hD : va_D A [(mo, .inr (7, [.ref ms, .ref mah, .ref mhi, .int r_1.2.1, .ref msl, .ref msv, .ref mpd, .int vln, .ref mlb])), (ms, .inl (cI, 246, .inl r_1.2.2.1)), (mah, .inl (cI, 246, .inl r_1.2.2.2.1)), (mhi, .inl (cI, 1476, .inl r_1.2.2.2.2.1)), (mlb, .inl (cI, 48, .inl r_1.2.2.2.2.2))] := hD
  subst hres
  exact W.iret (v := r_1.1) hx hb hr (fun t ht hW => ⟨⟨r_1.1, (), rfl, rfl, (by show va_P _ _ _ t.heap; rw [ht]; exact hP)⟩, hS.F ht⟩) hS.2.2 dX7_pass_7
theorem iX7_of_X7 : ∀ w ∈ u_ws RX7 TX7 9, w ∈ wsX7_of := by decide +kernel
theorem kX7_of_7 : Cond.fieldLink RX7 7 "TailorChalksModel" "s" "[I" ∈ wsX7_of := by decide +kernel
def F_Model_of (joint : Int32) (what : Int32) (vs : Nat → Int32) : Int32 := (bnd (F_Model_isJoint joint) (fun r_1 => (if r_1 = 0 then (-1) else (if what = 0 then (vs ((0 : Int32) + joint).toNatClampNeg) else (if what = 1 then (bnd (F_Model_isVoid joint vs) (fun r_5 => (if r_5 = 0 then 0 else 1))) else (if what = 2 then (bnd (F_Model_first joint) (fun r_8 => r_8)) else (if what = 3 then (bnd (F_Model_second joint) (fun r_10 => r_10)) else (if what = 4 then (bnd (F_Model_hasChalk (0 : Int32) joint vs) (fun r_12 => (if r_12 = 0 then (bnd (F_Model_hasChalk (1 : Int32) joint vs) (fun r_14 => (if r_14 = 0 then ((0 : Int32) + 0) else ((0 : Int32) + 2)))) else (bnd (F_Model_hasChalk (1 : Int32) joint vs) (fun r_16 => (if r_16 = 0 then ((1 : Int32) + 0) else ((1 : Int32) + 2))))))) else (if what = 5 then (bnd (F_Model_isVoid joint vs) (fun r_19 => (if r_19 = 0 then (vs ((82 : Int32) + joint).toNatClampNeg) else (-6)))) else (if what = 6 then (bnd (F_Model_holds joint vs) (fun r_22 => (if r_22 = 0 then 0 else 1))) else (-2)))))))))))
set_option maxHeartbeats 4000000 in
set_option maxRecDepth 100000 in
theorem c_Model_of (l : Launch) (dC : Nat → ClassId) (dI : Nat → Nat → Nat) (cI cC cG cZ : ClassId) (mo ms mah mhi msl msv mpd mlb : Nat) (joint : Int32) (what : Int32) (vkp : Int32) (vln : Int32) (vs : Nat → Int32) (hMI : MI vs) (res : Int32) (hres : res = F_Model_of joint what vs) : Met l yX7_of wsX7_of ({ frames := 4, cells := 0, slots := 0, locals := 89 }) (va_Pc [.ref mo, .int joint, .int what] (ro_P (dC, dI) vwCl (tyL cI cC cG cZ) [(mo, .inr (7, [.ref ms, .ref mah, .ref mhi, .int vkp, .ref msl, .ref msv, .ref mpd, .int vln, .ref mlb])), (ms, .inl (cI, 246, .inl vs))])) (va_Qi (fun r (_ : Unit) => r = res) (fun _ _ => True) ro_F) 0 0 ro_F := by
  refine Met.ofW (cc := cX7_of) (maxL := 3) (ret := (some .int)) (by decide) rfl ?_
  intro p e s m args below meth c s₁ B hml hv
  obtain ⟨rfl, hP, hK⟩ := hv
  have hx := B.exec
  have hb := B.bytes
  have hr := B.returns
  have hts := atoms_spec (ws := wsX7_of) B.pre
  have hown : s.vm.findClass RX7 = some m.cls := findClass_of_methodNamed B.named
  have hlocks := B.notSynchronized
  have hS : va_S ro_F s.heap s.heap [] := va_S.rf
  have hl := lv_entry ([.ref mo, .int joint, .int what]) (n := 3) (Nat.le_of_ble_eq_true rfl)
  rw [lg_entry_eq]
  generalize (lg_sl ([.ref mo, .int joint, .int what]) ++ List.replicate (3 - (lg_sl ([.ref mo, .int joint, .int what])).length) Slot.unset).toArray = ls at hl ⊢
  have hl : lv_has ls 3 [(0, .ref mo), (1, .int joint), (2, .int what)] := hl
  rw [F_Model_of] at hres
  refine lv_iload_n hx hb dX7_of_0 rfl (lv_at hl 1 rfl) ?_
  obtain ⟨r_1, hr_1⟩ : ∃ z, z = F_Model_isJoint joint := ⟨_, rfl⟩
  rw [bnd_e hr_1] at hres
  refine ro_calli (va_runS (As := [.int joint]) (rest := []) ⟨hx, hb, hml, hown, hts⟩ (c_Model_isJoint l dC dI cI cC cG cZ  joint  r_1 hr_1) (va_cwS 1 hts gX7_of_X7_isJoint rfl rfl rfl (by decide +kernel) ⟨Nat.le_of_ble_eq_true rfl, Nat.le_of_ble_eq_true rfl⟩) (ro_preS (hP.sub (ws' := []) [] rfl) hK) rfl rfl hl.1 rfl (lv_room (Nat.le_of_ble_eq_true rfl)) dX7_of_1 ⟨Nat.zero_le _, Nat.zero_le _⟩) hP hS (fun H locs hP hS => ?_)
  refine lv_if_ne (tgt := 9) hx hb dX7_of_4 (by decide) (fun c_2 => ?_) (fun c_2 => ?_)
  · rw [if_neg c_2] at hres
    refine lv_iload_n hx hb dX7_of_9 rfl (lv_at hl 2 rfl) ?_
    by_cases c_3 : what = 0
    · rw [if_pos c_3] at hres
      refine lv_tableIn (off := 42) (tgt := 52) hx hb dX7_of_10 (by rw [c_3]; decide) (by rw [c_3]; decide) (by rw [c_3]; rfl) (by decide) ?_
      refine lv_aload_n hx hb dX7_of_52 rfl (lv_at hl 0 rfl) ?_
      refine va_get (D := (dC, dI)) (ci := 7) (v := .ref ms) (C := RX7) (T := TX7) (N := 9) hx hb hts iX7_of_X7 hown hK hP 0 rfl rfl 0 (by decide) (hts (.fieldLink RX7 7 "TailorChalksModel" "s" "[I") kX7_of_7) (fun _ h9 => h9) rfl dX7_of_53 ?_
      refine lv_iconst (v := 0) hx hb dX7_of_56 (by decide) ?_
      refine lv_iload_n hx hb dX7_of_57 rfl (lv_at hl 1 rfl) ?_
      refine lv_iadd hx hb dX7_of_58 ?_
      refine va_iald hx hb hK hP 1 0 rfl rfl (vp_addc (q := 0) (n := 82) rfl (mjt_in (by rw [← hr_1]; exact c_2)) (by decide) (by decide)) dX7_of_59 ?_
      exact W.iret (v := (vs ((0 : Int32) + joint).toNatClampNeg)) hx hb hr (fun t ht hW => ⟨⟨(vs ((0 : Int32) + joint).toNatClampNeg), (), rfl, hres.symm, trivial⟩, hS.F ht⟩) hS.2.2 dX7_of_60
    · rw [if_neg c_3] at hres
      by_cases c_4 : what = 1
      · rw [if_pos c_4] at hres
        refine lv_tableIn (off := 51) (tgt := 61) hx hb dX7_of_10 (by rw [c_4]; decide) (by rw [c_4]; decide) (by rw [c_4]; rfl) (by decide) ?_
        refine lv_aload_n hx hb dX7_of_61 rfl (lv_at hl 0 rfl) ?_
        refine lv_iload_n hx hb dX7_of_62 rfl (lv_at hl 1 rfl) ?_
        obtain ⟨r_5, hr_5⟩ : ∃ z, z = F_Model_isVoid joint vs := ⟨_, rfl⟩
        rw [bnd_e hr_5] at hres
        refine ro_calli (va_runV (As := [.int joint]) (rest := []) ⟨hx, hb, hml, hown, hts⟩ (c_Model_isVoid l dC dI cI cC cG cZ mo ms mah mhi msl msv mpd mlb joint vkp vln vs (mjt_in (by rw [← hr_1]; exact c_2)) r_5 hr_5) (cwV 1 hts gX7_of_X7_isVoid rfl rfl rfl (by decide +kernel) ⟨Nat.le_of_ble_eq_true rfl, Nat.le_of_ble_eq_true rfl⟩) (ro_preV (hP.sub (ws' := [(mo, .inr (7, [.ref ms, .ref mah, .ref mhi, .int vkp, .ref msl, .ref msv, .ref mpd, .int vln, .ref mlb])), (ms, .inl (cI, 246, .inl vs))]) [0, 1] rfl) hK (ci := 7) (q0 := 0) rfl rfl) rfl rfl hl.1 rfl (lv_room (Nat.le_of_ble_eq_true rfl)) dX7_of_63 ⟨Nat.zero_le _, Nat.zero_le _⟩) hP hS (fun H locs hP hS => ?_)
        refine lv_if_eq (tgt := 73) hx hb dX7_of_66 (by decide) (fun c_6 => ?_) (fun c_6 => ?_)
        · rw [if_pos c_6] at hres
          refine lv_iconst (v := 0) hx hb dX7_of_73 (by decide) ?_
          exact W.iret (v := 0) hx hb hr (fun t ht hW => ⟨⟨0, (), rfl, hres.symm, trivial⟩, hS.F ht⟩) hS.2.2 dX7_of_74
        · rw [if_neg c_6] at hres
          refine lv_iconst (v := 1) hx hb dX7_of_69 (by decide) ?_
          refine lv_goto (tgt := 74) hx hb dX7_of_70 (by decide) ?_
          exact W.iret (v := 1) hx hb hr (fun t ht hW => ⟨⟨1, (), rfl, hres.symm, trivial⟩, hS.F ht⟩) hS.2.2 dX7_of_74
      · rw [if_neg c_4] at hres
        by_cases c_7 : what = 2
        · rw [if_pos c_7] at hres
          refine lv_tableIn (off := 65) (tgt := 75) hx hb dX7_of_10 (by rw [c_7]; decide) (by rw [c_7]; decide) (by rw [c_7]; rfl) (by decide) ?_
          refine lv_iload_n hx hb dX7_of_75 rfl (lv_at hl 1 rfl) ?_
          obtain ⟨r_8, hr_8⟩ : ∃ z, z = F_Model_first joint := ⟨_, rfl⟩
          rw [bnd_e hr_8] at hres
          refine ro_calli (va_runS (As := [.int joint]) (rest := []) ⟨hx, hb, hml, hown, hts⟩ (c_Model_first l dC dI cI cC cG cZ  joint  r_8 hr_8) (va_cwS 1 hts gX7_of_X7_first rfl rfl rfl (by decide +kernel) ⟨Nat.le_of_ble_eq_true rfl, Nat.le_of_ble_eq_true rfl⟩) (ro_preS (hP.sub (ws' := []) [] rfl) hK) rfl rfl hl.1 rfl (lv_room (Nat.le_of_ble_eq_true rfl)) dX7_of_76 ⟨Nat.zero_le _, Nat.zero_le _⟩) hP hS (fun H locs hP hS => ?_)
          exact W.iret (v := r_8) hx hb hr (fun t ht hW => ⟨⟨r_8, (), rfl, hres.symm, trivial⟩, hS.F ht⟩) hS.2.2 dX7_of_79
        · rw [if_neg c_7] at hres
          by_cases c_9 : what = 3
          · rw [if_pos c_9] at hres
            refine lv_tableIn (off := 70) (tgt := 80) hx hb dX7_of_10 (by rw [c_9]; decide) (by rw [c_9]; decide) (by rw [c_9]; rfl) (by decide) ?_
            refine lv_iload_n hx hb dX7_of_80 rfl (lv_at hl 1 rfl) ?_
            obtain ⟨r_10, hr_10⟩ : ∃ z, z = F_Model_second joint := ⟨_, rfl⟩
            rw [bnd_e hr_10] at hres
            refine ro_calli (va_runS (As := [.int joint]) (rest := []) ⟨hx, hb, hml, hown, hts⟩ (c_Model_second l dC dI cI cC cG cZ  joint  r_10 hr_10) (va_cwS 1 hts gX7_of_X7_second rfl rfl rfl (by decide +kernel) ⟨Nat.le_of_ble_eq_true rfl, Nat.le_of_ble_eq_true rfl⟩) (ro_preS (hP.sub (ws' := []) [] rfl) hK) rfl rfl hl.1 rfl (lv_room (Nat.le_of_ble_eq_true rfl)) dX7_of_81 ⟨Nat.zero_le _, Nat.zero_le _⟩) hP hS (fun H locs hP hS => ?_)
            exact W.iret (v := r_10) hx hb hr (fun t ht hW => ⟨⟨r_10, (), rfl, hres.symm, trivial⟩, hS.F ht⟩) hS.2.2 dX7_of_84
          · rw [if_neg c_9] at hres
            by_cases c_11 : what = 4
            · rw [if_pos c_11] at hres
              refine lv_tableIn (off := 75) (tgt := 85) hx hb dX7_of_10 (by rw [c_11]; decide) (by rw [c_11]; decide) (by rw [c_11]; rfl) (by decide) ?_
              refine lv_aload_n hx hb dX7_of_85 rfl (lv_at hl 0 rfl) ?_
              refine lv_iconst (v := 0) hx hb dX7_of_86 (by decide) ?_
              refine lv_iload_n hx hb dX7_of_87 rfl (lv_at hl 1 rfl) ?_
              obtain ⟨r_12, hr_12⟩ : ∃ z, z = F_Model_hasChalk (0 : Int32) joint vs := ⟨_, rfl⟩
              rw [bnd_e hr_12] at hres
              refine ro_calli (va_runV (As := [.int 0, .int joint]) (rest := []) ⟨hx, hb, hml, hown, hts⟩ (c_Model_hasChalk l dC dI cI cC cG cZ mo ms mah mhi msl msv mpd mlb (0 : Int32) joint vkp vln vs p01_0 hMI r_12 hr_12) (cwV 2 hts gX7_of_X7_hasChalk rfl rfl rfl (by decide +kernel) ⟨Nat.le_of_ble_eq_true rfl, Nat.le_of_ble_eq_true rfl⟩) (ro_preV (hP.sub (ws' := [(mo, .inr (7, [.ref ms, .ref mah, .ref mhi, .int vkp, .ref msl, .ref msv, .ref mpd, .int vln, .ref mlb])), (ms, .inl (cI, 246, .inl vs))]) [0, 1] rfl) hK (ci := 7) (q0 := 0) rfl rfl) rfl rfl hl.1 rfl (lv_room (Nat.le_of_ble_eq_true rfl)) dX7_of_88 ⟨Nat.zero_le _, Nat.zero_le _⟩) hP hS (fun H locs hP hS => ?_)
              refine lv_if_eq (tgt := 98) hx hb dX7_of_91 (by decide) (fun c_13 => ?_) (fun c_13 => ?_)
              · rw [if_pos c_13] at hres
                refine lv_iconst (v := 0) hx hb dX7_of_98 (by decide) ?_
                refine lv_aload_n hx hb dX7_of_99 rfl (lv_at hl 0 rfl) ?_
                refine lv_iconst (v := 1) hx hb dX7_of_100 (by decide) ?_
                refine lv_iload_n hx hb dX7_of_101 rfl (lv_at hl 1 rfl) ?_
                obtain ⟨r_14, hr_14⟩ : ∃ z, z = F_Model_hasChalk (1 : Int32) joint vs := ⟨_, rfl⟩
                rw [bnd_e hr_14] at hres
                refine ro_calli (va_runV (As := [.int 1, .int joint]) (rest := [.int 0]) ⟨hx, hb, hml, hown, hts⟩ (c_Model_hasChalk l dC dI cI cC cG cZ mo ms mah mhi msl msv mpd mlb (1 : Int32) joint vkp vln vs p01_1 hMI r_14 hr_14) (cwV 2 hts gX7_of_X7_hasChalk rfl rfl rfl (by decide +kernel) ⟨Nat.le_of_ble_eq_true rfl, Nat.le_of_ble_eq_true rfl⟩) (ro_preV (hP.sub (ws' := [(mo, .inr (7, [.ref ms, .ref mah, .ref mhi, .int vkp, .ref msl, .ref msv, .ref mpd, .int vln, .ref mlb])), (ms, .inl (cI, 246, .inl vs))]) [0, 1] rfl) hK (ci := 7) (q0 := 0) rfl rfl) rfl rfl hl.1 rfl (lv_room (Nat.le_of_ble_eq_true rfl)) dX7_of_102 ⟨Nat.zero_le _, Nat.zero_le _⟩) hP hS (fun H locs hP hS => ?_)
                refine lv_if_eq (tgt := 112) hx hb dX7_of_105 (by decide) (fun c_15 => ?_) (fun c_15 => ?_)
                · rw [if_pos c_15] at hres
                  refine lv_iconst (v := 0) hx hb dX7_of_112 (by decide) ?_
                  refine lv_iadd hx hb dX7_of_113 ?_
                  exact W.iret (v := ((0 : Int32) + 0)) hx hb hr (fun t ht hW => ⟨⟨((0 : Int32) + 0), (), rfl, hres.symm, trivial⟩, hS.F ht⟩) hS.2.2 dX7_of_114
                · rw [if_neg c_15] at hres
                  refine lv_iconst (v := 2) hx hb dX7_of_108 (by decide) ?_
                  refine lv_goto (tgt := 113) hx hb dX7_of_109 (by decide) ?_
                  refine lv_iadd hx hb dX7_of_113 ?_
                  exact W.iret (v := ((0 : Int32) + 2)) hx hb hr (fun t ht hW => ⟨⟨((0 : Int32) + 2), (), rfl, hres.symm, trivial⟩, hS.F ht⟩) hS.2.2 dX7_of_114
              · rw [if_neg c_13] at hres
                refine lv_iconst (v := 1) hx hb dX7_of_94 (by decide) ?_
                refine lv_goto (tgt := 99) hx hb dX7_of_95 (by decide) ?_
                refine lv_aload_n hx hb dX7_of_99 rfl (lv_at hl 0 rfl) ?_
                refine lv_iconst (v := 1) hx hb dX7_of_100 (by decide) ?_
                refine lv_iload_n hx hb dX7_of_101 rfl (lv_at hl 1 rfl) ?_
                obtain ⟨r_16, hr_16⟩ : ∃ z, z = F_Model_hasChalk (1 : Int32) joint vs := ⟨_, rfl⟩
                rw [bnd_e hr_16] at hres
                refine ro_calli (va_runV (As := [.int 1, .int joint]) (rest := [.int 1]) ⟨hx, hb, hml, hown, hts⟩ (c_Model_hasChalk l dC dI cI cC cG cZ mo ms mah mhi msl msv mpd mlb (1 : Int32) joint vkp vln vs p01_1 hMI r_16 hr_16) (cwV 2 hts gX7_of_X7_hasChalk rfl rfl rfl (by decide +kernel) ⟨Nat.le_of_ble_eq_true rfl, Nat.le_of_ble_eq_true rfl⟩) (ro_preV (hP.sub (ws' := [(mo, .inr (7, [.ref ms, .ref mah, .ref mhi, .int vkp, .ref msl, .ref msv, .ref mpd, .int vln, .ref mlb])), (ms, .inl (cI, 246, .inl vs))]) [0, 1] rfl) hK (ci := 7) (q0 := 0) rfl rfl) rfl rfl hl.1 rfl (lv_room (Nat.le_of_ble_eq_true rfl)) dX7_of_102 ⟨Nat.zero_le _, Nat.zero_le _⟩) hP hS (fun H locs hP hS => ?_)
                refine lv_if_eq (tgt := 112) hx hb dX7_of_105 (by decide) (fun c_17 => ?_) (fun c_17 => ?_)
                · rw [if_pos c_17] at hres
                  refine lv_iconst (v := 0) hx hb dX7_of_112 (by decide) ?_
                  refine lv_iadd hx hb dX7_of_113 ?_
                  exact W.iret (v := ((1 : Int32) + 0)) hx hb hr (fun t ht hW => ⟨⟨((1 : Int32) + 0), (), rfl, hres.symm, trivial⟩, hS.F ht⟩) hS.2.2 dX7_of_114
                · rw [if_neg c_17] at hres
                  refine lv_iconst (v := 2) hx hb dX7_of_108 (by decide) ?_
                  refine lv_goto (tgt := 113) hx hb dX7_of_109 (by decide) ?_
                  refine lv_iadd hx hb dX7_of_113 ?_
                  exact W.iret (v := ((1 : Int32) + 2)) hx hb hr (fun t ht hW => ⟨⟨((1 : Int32) + 2), (), rfl, hres.symm, trivial⟩, hS.F ht⟩) hS.2.2 dX7_of_114
            · rw [if_neg c_11] at hres
              by_cases c_18 : what = 5
              · rw [if_pos c_18] at hres
                refine lv_tableIn (off := 105) (tgt := 115) hx hb dX7_of_10 (by rw [c_18]; decide) (by rw [c_18]; decide) (by rw [c_18]; rfl) (by decide) ?_
                refine lv_aload_n hx hb dX7_of_115 rfl (lv_at hl 0 rfl) ?_
                refine lv_iload_n hx hb dX7_of_116 rfl (lv_at hl 1 rfl) ?_
                obtain ⟨r_19, hr_19⟩ : ∃ z, z = F_Model_isVoid joint vs := ⟨_, rfl⟩
                rw [bnd_e hr_19] at hres
                refine ro_calli (va_runV (As := [.int joint]) (rest := []) ⟨hx, hb, hml, hown, hts⟩ (c_Model_isVoid l dC dI cI cC cG cZ mo ms mah mhi msl msv mpd mlb joint vkp vln vs (mjt_in (by rw [← hr_1]; exact c_2)) r_19 hr_19) (cwV 1 hts gX7_of_X7_isVoid rfl rfl rfl (by decide +kernel) ⟨Nat.le_of_ble_eq_true rfl, Nat.le_of_ble_eq_true rfl⟩) (ro_preV (hP.sub (ws' := [(mo, .inr (7, [.ref ms, .ref mah, .ref mhi, .int vkp, .ref msl, .ref msv, .ref mpd, .int vln, .ref mlb])), (ms, .inl (cI, 246, .inl vs))]) [0, 1] rfl) hK (ci := 7) (q0 := 0) rfl rfl) rfl rfl hl.1 rfl (lv_room (Nat.le_of_ble_eq_true rfl)) dX7_of_117 ⟨Nat.zero_le _, Nat.zero_le _⟩) hP hS (fun H locs hP hS => ?_)
                refine lv_if_eq (tgt := 128) hx hb dX7_of_120 (by decide) (fun c_20 => ?_) (fun c_20 => ?_)
                · rw [if_pos c_20] at hres
                  refine lv_aload_n hx hb dX7_of_128 rfl (lv_at hl 0 rfl) ?_
                  refine va_get (D := (dC, dI)) (ci := 7) (v := .ref ms) (C := RX7) (T := TX7) (N := 9) hx hb hts iX7_of_X7 hown hK hP 0 rfl rfl 0 (by decide) (hts (.fieldLink RX7 7 "TailorChalksModel" "s" "[I") kX7_of_7) (fun _ h9 => h9) rfl dX7_of_129 ?_
                  refine lv_bipush (v := 82) hx hb dX7_of_132 (by decide) ?_
                  refine lv_iload_n hx hb dX7_of_134 rfl (lv_at hl 1 rfl) ?_
                  refine lv_iadd hx hb dX7_of_135 ?_
                  refine va_iald hx hb hK hP 1 0 rfl rfl (vp_addc (q := 82) (n := 82) rfl (mjt_in (by rw [← hr_1]; exact c_2)) (by decide) (by decide)) dX7_of_136 ?_
                  exact W.iret (v := (vs ((82 : Int32) + joint).toNatClampNeg)) hx hb hr (fun t ht hW => ⟨⟨(vs ((82 : Int32) + joint).toNatClampNeg), (), rfl, hres.symm, trivial⟩, hS.F ht⟩) hS.2.2 dX7_of_137
                · rw [if_neg c_20] at hres
                  refine lv_bipush (v := (-6)) hx hb dX7_of_123 (by decide) ?_
                  refine lv_goto (tgt := 137) hx hb dX7_of_125 (by decide) ?_
                  exact W.iret (v := (-6)) hx hb hr (fun t ht hW => ⟨⟨(-6), (), rfl, hres.symm, trivial⟩, hS.F ht⟩) hS.2.2 dX7_of_137
              · rw [if_neg c_18] at hres
                by_cases c_21 : what = 6
                · rw [if_pos c_21] at hres
                  refine lv_tableIn (off := 128) (tgt := 138) hx hb dX7_of_10 (by rw [c_21]; decide) (by rw [c_21]; decide) (by rw [c_21]; rfl) (by decide) ?_
                  refine lv_aload_n hx hb dX7_of_138 rfl (lv_at hl 0 rfl) ?_
                  refine lv_iload_n hx hb dX7_of_139 rfl (lv_at hl 1 rfl) ?_
                  obtain ⟨r_22, hr_22⟩ : ∃ z, z = F_Model_holds joint vs := ⟨_, rfl⟩
                  rw [bnd_e hr_22] at hres
                  refine ro_calli (va_runV (As := [.int joint]) (rest := []) ⟨hx, hb, hml, hown, hts⟩ (c_Model_holds l dC dI cI cC cG cZ mo ms mah mhi msl msv mpd mlb joint vkp vln vs (mjt_in (by rw [← hr_1]; exact c_2)) r_22 hr_22) (cwV 1 hts gX7_of_X7_holds rfl rfl rfl (by decide +kernel) ⟨Nat.le_of_ble_eq_true rfl, Nat.le_of_ble_eq_true rfl⟩) (ro_preV (hP.sub (ws' := [(mo, .inr (7, [.ref ms, .ref mah, .ref mhi, .int vkp, .ref msl, .ref msv, .ref mpd, .int vln, .ref mlb])), (ms, .inl (cI, 246, .inl vs))]) [0, 1] rfl) hK (ci := 7) (q0 := 0) rfl rfl) rfl rfl hl.1 rfl (lv_room (Nat.le_of_ble_eq_true rfl)) dX7_of_140 ⟨Nat.zero_le _, Nat.zero_le _⟩) hP hS (fun H locs hP hS => ?_)
                  refine lv_if_eq (tgt := 150) hx hb dX7_of_143 (by decide) (fun c_23 => ?_) (fun c_23 => ?_)
                  · rw [if_pos c_23] at hres
                    refine lv_iconst (v := 0) hx hb dX7_of_150 (by decide) ?_
                    exact W.iret (v := 0) hx hb hr (fun t ht hW => ⟨⟨0, (), rfl, hres.symm, trivial⟩, hS.F ht⟩) hS.2.2 dX7_of_151
                  · rw [if_neg c_23] at hres
                    refine lv_iconst (v := 1) hx hb dX7_of_146 (by decide) ?_
                    refine lv_goto (tgt := 151) hx hb dX7_of_147 (by decide) ?_
                    exact W.iret (v := 1) hx hb hr (fun t ht hW => ⟨⟨1, (), rfl, hres.symm, trivial⟩, hS.F ht⟩) hS.2.2 dX7_of_151
                · rw [if_neg c_21] at hres
                  refine lv_tableOut (tgt := 152) hx hb dX7_of_10 (by have o_24_0 := lv_neT (a := 0) c_3 rfl; have o_24_1 := lv_neT (a := 1) c_4 rfl; have o_24_2 := lv_neT (a := 2) c_7 rfl; have o_24_3 := lv_neT (a := 3) c_9 rfl; have o_24_4 := lv_neT (a := 4) c_11 rfl; have o_24_5 := lv_neT (a := 5) c_18 rfl; have o_24_6 := lv_neT (a := 6) c_21 rfl; omega) (by decide) ?_
                  refine lv_bipush (v := (-2)) hx hb dX7_of_152 (by decide) ?_
                  exact W.iret (v := (-2)) hx hb hr (fun t ht hW => ⟨⟨(-2), (), rfl, hres.symm, trivial⟩, hS.F ht⟩) hS.2.2 dX7_of_154
  · rw [if_pos c_2] at hres
    refine lv_iconst (v := (-1)) hx hb dX7_of_7 (by decide) ?_
    exact W.iret (v := (-1)) hx hb hr (fun t ht hW => ⟨⟨(-1), (), rfl, hres.symm, trivial⟩, hS.F ht⟩) hS.2.2 dX7_of_8
theorem iX7_pieceOf_X7 : ∀ w ∈ u_ws RX7 TX7 9, w ∈ wsX7_pieceOf := by decide +kernel
theorem kX7_pieceOf_29 : Cond.fieldLink RX7 29 "TailorChalksModel" "label" "[I" ∈ wsX7_pieceOf := by decide +kernel
def F_Model_pieceOf (cell : Int32) (what : Int32) (vs : Nat → Int32) (vlb : Nat → Int32) : Int32 × (Nat → Int32) := (bnd (F_Model_layPieces (-6 : Int32) (0 : Int32) vs vlb) (fun r_1 => (bnd (F_Model_isGone cell vs) (fun r_2 => (if r_2 = 0 then (if what = 1 then (bnd (F_Model_cellsOf (r_1 cell.toNatClampNeg) r_1) (fun r_5 => (r_5, r_1))) else ((r_1 cell.toNatClampNeg), r_1)) else (if what = 1 then (0, r_1) else ((-6), r_1)))))))
set_option maxHeartbeats 4000000 in
set_option maxRecDepth 100000 in
theorem c_Model_pieceOf (l : Launch) (dC : Nat → ClassId) (dI : Nat → Nat → Nat) (cI cC cG cZ : ClassId) (mo ms mah mhi msl msv mpd mlb : Nat) (cell : Int32) (what : Int32) (vkp : Int32) (vln : Int32) (vs : Nat → Int32) (vlb : Nat → Int32) (hc : vp_in cell 48) (res : Int32 × (Nat → Int32)) (hres : res = F_Model_pieceOf cell what vs vlb) : Met l yX7_pieceOf wsX7_pieceOf ({ frames := 5, cells := 0, slots := 0, locals := 109 }) (va_Pc [.ref mo, .int cell, .int what] (wr_P (dC, dI) vwCl (tyL cI cC cG cZ) [(mo, .inr (7, [.ref ms, .ref mah, .ref mhi, .int vkp, .ref msl, .ref msv, .ref mpd, .int vln, .ref mlb])), (ms, .inl (cI, 246, .inl vs)), (mlb, .inl (cI, 48, .inl vlb))])) (va_Qi (fun r (_ : Unit) => r = res.1) (fun _ zt => va_P (dC, dI) vwCl [(mo, .inr (7, [.ref ms, .ref mah, .ref mhi, .int vkp, .ref msl, .ref msv, .ref mpd, .int vln, .ref mlb])), (ms, .inl (cI, 246, .inl vs)), (mlb, .inl (cI, 48, .inl res.2))] zt.heap) (wr_A [(mo, .inr (7, [.ref ms, .ref mah, .ref mhi, .int vkp, .ref msl, .ref msv, .ref mpd, .int vln, .ref mlb])), (ms, .inl (cI, 246, .inl vs)), (mlb, .inl (cI, 48, .inl vlb))])) 0 0 (wr_A [(mo, .inr (7, [.ref ms, .ref mah, .ref mhi, .int vkp, .ref msl, .ref msv, .ref mpd, .int vln, .ref mlb])), (ms, .inl (cI, 246, .inl vs)), (mlb, .inl (cI, 48, .inl vlb))]) := by
  refine Met.ofW (cc := cX7_pieceOf) (maxL := 3) (ret := (some .int)) (by decide) rfl ?_
  intro p e s m args below meth c s₁ B hml hv
  obtain ⟨rfl, hP, hK, hD0⟩ := hv
  have hx := B.exec
  have hb := B.bytes
  have hr := B.returns
  have hts := atoms_spec (ws := wsX7_pieceOf) B.pre
  have hown : s.vm.findClass RX7 = some m.cls := findClass_of_methodNamed B.named
  have hlocks := B.notSynchronized
  have hD := wr_self hD0
  generalize hAe : wr_A [(mo, .inr (7, [.ref ms, .ref mah, .ref mhi, .int vkp, .ref msl, .ref msv, .ref mpd, .int vln, .ref mlb])), (ms, .inl (cI, 246, .inl vs)), (mlb, .inl (cI, 48, .inl vlb))] = A at hD ⊢
  have hS : va_S A s.heap s.heap [] := va_S.rf
  have hP : va_P (dC, dI) vwCl [(mo, .inr (7, [.ref ms, .ref mah, .ref mhi, .int vkp, .ref msl, .ref msv, .ref mpd, .int vln, .ref mlb])), (ms, .inl (cI, 246, .inl vs)), (mlb, .inl (cI, 48, .inl vlb))] s.heap := hP
  have hl := lv_entry ([.ref mo, .int cell, .int what]) (n := 3) (Nat.le_of_ble_eq_true rfl)
  rw [lg_entry_eq]
  generalize (lg_sl ([.ref mo, .int cell, .int what]) ++ List.replicate (3 - (lg_sl ([.ref mo, .int cell, .int what])).length) Slot.unset).toArray = ls at hl ⊢
  have hl : lv_has ls 3 [(0, .ref mo), (1, .int cell), (2, .int what)] := hl
  rw [F_Model_pieceOf] at hres
  refine lv_aload_n hx hb dX7_pieceOf_0 rfl (lv_at hl 0 rfl) ?_
  refine lv_bipush (v := (-6)) hx hb dX7_pieceOf_1 (by decide) ?_
  refine lv_iconst (v := 0) hx hb dX7_pieceOf_3 (by decide) ?_
  obtain ⟨r_1, hr_1⟩ : ∃ z, z = F_Model_layPieces (-6 : Int32) (0 : Int32) vs vlb := ⟨_, rfl⟩
  rw [bnd_e hr_1] at hres
  refine wr_callv (w1 := [(mo, .inr (7, [.ref ms, .ref mah, .ref mhi, .int vkp, .ref msl, .ref msv, .ref mpd, .int vln, .ref mlb])), (ms, .inl (cI, 246, .inl vs)), (mlb, .inl (cI, 48, .inl r_1))]) (is := [0, 1, 2]) (va_runV (As := [.int (-6), .int 0]) (rest := []) ⟨hx, hb, hml, hown, hts⟩ (c_Model_layPieces l dC dI cI cC cG cZ mo ms mah mhi msl msv mpd mlb (-6 : Int32) (0 : Int32) vkp vln vs vlb  r_1 hr_1) (cwV 2 hts gX7_pieceOf_X7_layPieces rfl rfl rfl (by decide +kernel) ⟨Nat.le_of_ble_eq_true rfl, Nat.le_of_ble_eq_true rfl⟩) (wr_preV (hP.sub (ws' := [(mo, .inr (7, [.ref ms, .ref mah, .ref mhi, .int vkp, .ref msl, .ref msv, .ref mpd, .int vln, .ref mlb])), (ms, .inl (cI, 246, .inl vs)), (mlb, .inl (cI, 48, .inl vlb))]) [0, 1, 2] rfl) hK (hD.sub (ws' := [(mo, .inr (7, [.ref ms, .ref mah, .ref mhi, .int vkp, .ref msl, .ref msv, .ref mpd, .int vln, .ref mlb])), (ms, .inl (cI, 246, .inl vs)), (mlb, .inl (cI, 48, .inl vlb))]) [0, 1, 2] (by decide) rfl) (ci := 7) (q0 := 0) rfl rfl) rfl rfl hl.1 rfl (lv_room (Nat.le_of_ble_eq_true rfl)) dX7_pieceOf_4 ⟨Nat.zero_le _, Nat.zero_le _⟩) hP hD hS rfl rfl rfl (fun H locs hP hD hS => ?_)
  have hP : va_P (dC, dI) vwCl [(mo, .inr (7, [.ref ms, .ref mah, .ref mhi, .int vkp, .ref msl, .ref msv, .ref mpd, .int vln, .ref mlb])), (ms, .inl (cI, 246, .inl vs)), (mlb, .inl (cI, 48, .inl r_1))] H := hP
  have hD : va_D A [(mo, .inr (7, [.ref ms, .ref mah, .ref mhi, .int vkp, .ref msl, .ref msv, .ref mpd, .int vln, .ref mlb])), (ms, .inl (cI, 246, .inl vs)), (mlb, .inl (cI, 48, .inl r_1))] := hD
  refine lv_aload_n hx hb dX7_pieceOf_7 rfl (lv_at hl 0 rfl) ?_
  refine lv_iload_n hx hb dX7_pieceOf_8 rfl (lv_at hl 1 rfl) ?_
  obtain ⟨r_2, hr_2⟩ : ∃ z, z = F_Model_isGone cell vs := ⟨_, rfl⟩
  rw [bnd_e hr_2] at hres
  refine ro_calli (va_runV (As := [.int cell]) (rest := []) ⟨hx, hb, hml, hown, hts⟩ (c_Model_isGone l dC dI cI cC cG cZ mo ms mah mhi msl msv mpd mlb cell vkp vln vs hc r_2 hr_2) (cwV 1 hts gX7_pieceOf_X7_isGone rfl rfl rfl (by decide +kernel) ⟨Nat.le_of_ble_eq_true rfl, Nat.le_of_ble_eq_true rfl⟩) (ro_preV (hP.sub (ws' := [(mo, .inr (7, [.ref ms, .ref mah, .ref mhi, .int vkp, .ref msl, .ref msv, .ref mpd, .int vln, .ref mlb])), (ms, .inl (cI, 246, .inl vs))]) [0, 1] rfl) hK (ci := 7) (q0 := 0) rfl rfl) rfl rfl hl.1 rfl (lv_room (Nat.le_of_ble_eq_true rfl)) dX7_pieceOf_9 ⟨Nat.zero_le _, Nat.zero_le _⟩) hP hS (fun H locs hP hS => ?_)
  refine lv_if_eq (tgt := 29) hx hb dX7_pieceOf_12 (by decide) (fun c_3 => ?_) (fun c_3 => ?_)
  · rw [if_pos c_3] at hres
    refine lv_iload_n hx hb dX7_pieceOf_29 rfl (lv_at hl 2 rfl) ?_
    refine lv_iconst (v := 1) hx hb dX7_pieceOf_30 (by decide) ?_
    refine lv_icmp_ne (tgt := 47) hx hb dX7_pieceOf_31 (by decide) (fun c_4 => ?_) (fun c_4 => ?_)
    · rw [if_neg c_4] at hres
      refine lv_aload_n hx hb dX7_pieceOf_47 rfl (lv_at hl 0 rfl) ?_
      refine va_get (D := (dC, dI)) (ci := 7) (v := .ref mlb) (C := RX7) (T := TX7) (N := 9) hx hb hts iX7_pieceOf_X7 hown hK hP 0 rfl rfl 8 (by decide) (hts (.fieldLink RX7 29 "TailorChalksModel" "label" "[I") kX7_pieceOf_29) (fun _ h9 => h9) rfl dX7_pieceOf_48 ?_
      refine lv_iload_n hx hb dX7_pieceOf_51 rfl (lv_at hl 1 rfl) ?_
      refine va_iald hx hb hK hP 2 0 rfl rfl hc dX7_pieceOf_52 ?_
      subst hres
      exact W.iret (v := (r_1 cell.toNatClampNeg)) hx hb hr (fun t ht hW => ⟨⟨(r_1 cell.toNatClampNeg), (), rfl, rfl, (by show va_P _ _ _ t.heap; rw [ht]; exact hP)⟩, hS.F ht⟩) hS.2.2 dX7_pieceOf_53
    · rw [if_pos c_4] at hres
      refine lv_aload_n hx hb dX7_pieceOf_34 rfl (lv_at hl 0 rfl) ?_
      refine lv_aload_n hx hb dX7_pieceOf_35 rfl (lv_at hl 0 rfl) ?_
      refine va_get (D := (dC, dI)) (ci := 7) (v := .ref mlb) (C := RX7) (T := TX7) (N := 9) hx hb hts iX7_pieceOf_X7 hown hK hP 0 rfl rfl 8 (by decide) (hts (.fieldLink RX7 29 "TailorChalksModel" "label" "[I") kX7_pieceOf_29) (fun _ h9 => h9) rfl dX7_pieceOf_36 ?_
      refine lv_iload_n hx hb dX7_pieceOf_39 rfl (lv_at hl 1 rfl) ?_
      refine va_iald hx hb hK hP 2 0 rfl rfl hc dX7_pieceOf_40 ?_
      obtain ⟨r_5, hr_5⟩ : ∃ z, z = F_Model_cellsOf (r_1 cell.toNatClampNeg) r_1 := ⟨_, rfl⟩
      rw [bnd_e hr_5] at hres
      refine ro_calli (va_runV (As := [.int (r_1 cell.toNatClampNeg)]) (rest := []) ⟨hx, hb, hml, hown, hts⟩ (c_Model_cellsOf l dC dI cI cC cG cZ mo ms mah mhi msl msv mpd mlb (r_1 cell.toNatClampNeg) vkp vln r_1  r_5 hr_5) (cwV 1 hts gX7_pieceOf_X7_cellsOf rfl rfl rfl (by decide +kernel) ⟨Nat.le_of_ble_eq_true rfl, Nat.le_of_ble_eq_true rfl⟩) (ro_preV (hP.sub (ws' := [(mo, .inr (7, [.ref ms, .ref mah, .ref mhi, .int vkp, .ref msl, .ref msv, .ref mpd, .int vln, .ref mlb])), (mlb, .inl (cI, 48, .inl r_1))]) [0, 2] rfl) hK (ci := 7) (q0 := 0) rfl rfl) rfl rfl hl.1 rfl (lv_room (Nat.le_of_ble_eq_true rfl)) dX7_pieceOf_41 ⟨Nat.zero_le _, Nat.zero_le _⟩) hP hS (fun H locs hP hS => ?_)
      refine lv_goto (tgt := 53) hx hb dX7_pieceOf_44 (by decide) ?_
      subst hres
      exact W.iret (v := r_5) hx hb hr (fun t ht hW => ⟨⟨r_5, (), rfl, rfl, (by show va_P _ _ _ t.heap; rw [ht]; exact hP)⟩, hS.F ht⟩) hS.2.2 dX7_pieceOf_53
  · rw [if_neg c_3] at hres
    refine lv_iload_n hx hb dX7_pieceOf_15 rfl (lv_at hl 2 rfl) ?_
    refine lv_iconst (v := 1) hx hb dX7_pieceOf_16 (by decide) ?_
    refine lv_icmp_ne (tgt := 24) hx hb dX7_pieceOf_17 (by decide) (fun c_6 => ?_) (fun c_6 => ?_)
    · rw [if_neg c_6] at hres
      refine lv_bipush (v := (-6)) hx hb dX7_pieceOf_24 (by decide) ?_
      refine lv_goto (tgt := 53) hx hb dX7_pieceOf_26 (by decide) ?_
      subst hres
      exact W.iret (v := (-6)) hx hb hr (fun t ht hW => ⟨⟨(-6), (), rfl, rfl, (by show va_P _ _ _ t.heap; rw [ht]; exact hP)⟩, hS.F ht⟩) hS.2.2 dX7_pieceOf_53
    · rw [if_pos c_6] at hres
      refine lv_iconst (v := 0) hx hb dX7_pieceOf_20 (by decide) ?_
      refine lv_goto (tgt := 53) hx hb dX7_pieceOf_21 (by decide) ?_
      subst hres
      exact W.iret (v := 0) hx hb hr (fun t ht hW => ⟨⟨0, (), rfl, rfl, (by show va_P _ _ _ t.heap; rw [ht]; exact hP)⟩, hS.F ht⟩) hS.2.2 dX7_pieceOf_53
def F_Model_holding_L4 (cell : Int32) (vs : Nat → Int32) : Nat → Int32 → Int32 → Int32 × Int32
  | 0, x3, x2 => (x3, x2)
  | n + 1, x3, x2 => (if (82 : Int32) ≤ x3 then (x3, x2) else (bnd (F_Model_first x3) (fun r_3 => (if r_3 = cell then (bnd (F_Model_holds x3 vs) (fun r_5 => (if r_5 = 0 then (F_Model_holding_L4 cell vs n (x3 + 1) (x2 + 0)) else (F_Model_holding_L4 cell vs n (x3 + 1) (x2 + 1))))) else (bnd (F_Model_second x3) (fun r_7 => (if r_7 = cell then (bnd (F_Model_holds x3 vs) (fun r_9 => (if r_9 = 0 then (F_Model_holding_L4 cell vs n (x3 + 1) (x2 + 0)) else (F_Model_holding_L4 cell vs n (x3 + 1) (x2 + 1))))) else (F_Model_holding_L4 cell vs n (x3 + 1) (x2 + 0)))))))))
def F_Model_holding (cell : Int32) (vs : Nat → Int32) : Int32 := (bnd (F_Model_holding_L4 cell vs 83 (0 : Int32) (0 : Int32)) (fun q_1 => q_1.2))
set_option maxHeartbeats 4000000 in
set_option maxRecDepth 100000 in
theorem c_Model_holding (l : Launch) (dC : Nat → ClassId) (dI : Nat → Nat → Nat) (cI cC cG cZ : ClassId) (mo ms mah mhi msl msv mpd mlb : Nat) (cell : Int32) (vkp : Int32) (vln : Int32) (vs : Nat → Int32) (res : Int32) (hres : res = F_Model_holding cell vs) : Met l yX7_holding wsX7_holding ({ frames := 4, cells := 0, slots := 0, locals := 82 }) (va_Pc [.ref mo, .int cell] (ro_P (dC, dI) vwCl (tyL cI cC cG cZ) [(mo, .inr (7, [.ref ms, .ref mah, .ref mhi, .int vkp, .ref msl, .ref msv, .ref mpd, .int vln, .ref mlb])), (ms, .inl (cI, 246, .inl vs))])) (va_Qi (fun r (_ : Unit) => r = res) (fun _ _ => True) ro_F) 0 0 ro_F := by
  refine Met.ofW (cc := cX7_holding) (maxL := 4) (ret := (some .int)) (by decide) rfl ?_
  intro p e s m args below meth c s₁ B hml hv
  obtain ⟨rfl, hP, hK⟩ := hv
  have hx := B.exec
  have hb := B.bytes
  have hr := B.returns
  have hts := atoms_spec (ws := wsX7_holding) B.pre
  have hown : s.vm.findClass RX7 = some m.cls := findClass_of_methodNamed B.named
  have hlocks := B.notSynchronized
  have hS : va_S ro_F s.heap s.heap [] := va_S.rf
  have hl := lv_entry ([.ref mo, .int cell]) (n := 4) (Nat.le_of_ble_eq_true rfl)
  rw [lg_entry_eq]
  generalize (lg_sl ([.ref mo, .int cell]) ++ List.replicate (4 - (lg_sl ([.ref mo, .int cell])).length) Slot.unset).toArray = ls at hl ⊢
  have hl : lv_has ls 4 [(0, .ref mo), (1, .int cell)] := hl
  rw [F_Model_holding] at hres
  refine lv_iconst (v := 0) hx hb dX7_holding_0 (by decide) ?_
  refine lv_istore_n (lv' := [(2, .int 0), (0, .ref mo), (1, .int cell)]) hx hb dX7_holding_1 rfl hl (by decide) rfl (fun ls hl => ?_)
  refine lv_iconst (v := 0) hx hb dX7_holding_2 (by decide) ?_
  refine lv_istore_n (lv' := [(3, .int 0), (2, .int 0), (0, .ref mo), (1, .int cell)]) hx hb dX7_holding_3 rfl hl (by decide) rfl (fun ls hl => ?_)
  obtain ⟨q_1, hq_1⟩ : ∃ z, z = F_Model_holding_L4 cell vs 83 (0 : Int32) (0 : Int32) := ⟨_, rfl⟩
  rw [bnd_e hq_1] at hres
  have hexit4 : ∀ (H : Heap) (locs : List Loc) (ls : Array Slot), va_P (dC, dI) vwCl [(mo, .inr (7, [.ref ms, .ref mah, .ref mhi, .int vkp, .ref msl, .ref msv, .ref mpd, .int vln, .ref mlb])), (ms, .inl (cI, 246, .inl vs))] H → va_S ro_F s.heap H locs → lv_has ls 4 [(3, .int q_1.1), (2, .int q_1.2), (0, .ref mo), (1, .int cell)] → W p l e (headSpec wsX7_holding ({ frames := 4, cells := 0, slots := 0, locals := 82 })).room s m ([.ref mo, .int cell] : List Value).toArray below meth c H locs 0 0 (MQ below (va_Qi (fun r (_ : Unit) => r = res) (fun _ _ => True) ro_F) ([.ref mo, .int cell] : List Value).toArray s 0 0 ro_F) (F0 m 48 ls []) := by
    intro H locs ls  hP hS hl
    refine lv_iload_n hx hb dX7_holding_48 rfl (lv_at hl 1 rfl) ?_
    exact W.iret (v := q_1.2) hx hb hr (fun t ht hW => ⟨⟨q_1.2, (), rfl, hres.symm, trivial⟩, hS.F ht⟩) hS.2.2 dX7_holding_49
  have hloop4 : ∀ (n k4 : Nat) (x3 : Int32) (x2 : Int32) (H : Heap) (locs : List Loc) (ls : Array Slot), k4 ≤ 82 → 82 - k4 < n → x3 = nI k4 → q_1 = F_Model_holding_L4 cell vs n x3 x2 → va_P (dC, dI) vwCl [(mo, .inr (7, [.ref ms, .ref mah, .ref mhi, .int vkp, .ref msl, .ref msv, .ref mpd, .int vln, .ref mlb])), (ms, .inl (cI, 246, .inl vs))] H → va_S ro_F s.heap H locs → lv_has ls 4 [(3, .int x3), (2, .int x2), (0, .ref mo), (1, .int cell)] → W p l e (headSpec wsX7_holding ({ frames := 4, cells := 0, slots := 0, locals := 82 })).room s m ([.ref mo, .int cell] : List Value).toArray below meth c H locs 0 0 (MQ below (va_Qi (fun r (_ : Unit) => r = res) (fun _ _ => True) ro_F) ([.ref mo, .int cell] : List Value).toArray s 0 0 ro_F) (F0 m 4 ls []) := by
    intro n
    induction n with
    | zero => intro k4 x3 x2 _ _ _ _ hm; exact absurd hm (Nat.not_lt_zero _)
    | succ n ih4 =>
      intro k4 x3 x2 H locs ls hk4 hm4 ex4  hq_1 hP hS hl
      rw [F_Model_holding_L4] at hq_1
      refine lv_iload_n hx hb dX7_holding_4 rfl (lv_at hl 0 rfl) ?_
      refine lv_bipush (v := 82) hx hb dX7_holding_5 (by decide) ?_
      refine lv_icmp_ge (tgt := 48) hx hb dX7_holding_7 (by decide) (fun c_2 => ?_) (fun c_2 => ?_)
      · rw [if_pos c_2] at hq_1
        subst hq_1
        exact hexit4 _ _ _  hP hS (lv_sub hl [0, 1, 2, 3] rfl)
      · rw [if_neg c_2] at hq_1
        have hlt_k4 : k4 < 82 := lp_lt rfl ex4 hk4 c_2
        refine lv_iload_n hx hb dX7_holding_10 rfl (lv_at hl 1 rfl) ?_
        refine lv_iload_n hx hb dX7_holding_11 rfl (lv_at hl 0 rfl) ?_
        obtain ⟨r_3, hr_3⟩ : ∃ z, z = F_Model_first x3 := ⟨_, rfl⟩
        rw [bnd_e hr_3] at hq_1
        refine ro_calli (va_runS (As := [.int x3]) (rest := [.int x2]) ⟨hx, hb, hml, hown, hts⟩ (c_Model_first l dC dI cI cC cG cZ  x3  r_3 hr_3) (va_cwS 1 hts gX7_holding_X7_first rfl rfl rfl (by decide +kernel) ⟨Nat.le_of_ble_eq_true rfl, Nat.le_of_ble_eq_true rfl⟩) (ro_preS (hP.sub (ws' := []) [] rfl) hK) rfl rfl hl.1 rfl (lv_room (Nat.le_of_ble_eq_true rfl)) dX7_holding_12 ⟨Nat.zero_le _, Nat.zero_le _⟩) hP hS (fun H locs hP hS => ?_)
        refine lv_iload_n hx hb dX7_holding_15 rfl (lv_at hl 3 rfl) ?_
        refine lv_icmp_eq (tgt := 27) hx hb dX7_holding_16 (by decide) (fun c_4 => ?_) (fun c_4 => ?_)
        · rw [if_pos c_4] at hq_1
          refine lv_aload_n hx hb dX7_holding_27 rfl (lv_at hl 2 rfl) ?_
          refine lv_iload_n hx hb dX7_holding_28 rfl (lv_at hl 0 rfl) ?_
          obtain ⟨r_5, hr_5⟩ : ∃ z, z = F_Model_holds x3 vs := ⟨_, rfl⟩
          rw [bnd_e hr_5] at hq_1
          refine ro_calli (va_runV (As := [.int x3]) (rest := [.int x2]) ⟨hx, hb, hml, hown, hts⟩ (c_Model_holds l dC dI cI cC cG cZ mo ms mah mhi msl msv mpd mlb x3 vkp vln vs (by rw [ex4]; exact vp_in_nI (by omega) (by decide)) r_5 hr_5) (cwV 1 hts gX7_holding_X7_holds rfl rfl rfl (by decide +kernel) ⟨Nat.le_of_ble_eq_true rfl, Nat.le_of_ble_eq_true rfl⟩) (ro_preV (hP.sub (ws' := [(mo, .inr (7, [.ref ms, .ref mah, .ref mhi, .int vkp, .ref msl, .ref msv, .ref mpd, .int vln, .ref mlb])), (ms, .inl (cI, 246, .inl vs))]) [0, 1] rfl) hK (ci := 7) (q0 := 0) rfl rfl) rfl rfl hl.1 rfl (lv_room (Nat.le_of_ble_eq_true rfl)) dX7_holding_29 ⟨Nat.zero_le _, Nat.zero_le _⟩) hP hS (fun H locs hP hS => ?_)
          refine lv_if_eq (tgt := 39) hx hb dX7_holding_32 (by decide) (fun c_6 => ?_) (fun c_6 => ?_)
          · rw [if_pos c_6] at hq_1
            refine lv_iconst (v := 0) hx hb dX7_holding_39 (by decide) ?_
            refine lv_iadd hx hb dX7_holding_40 ?_
            refine lv_istore_n (lv' := [(2, .int (x2 + 0)), (3, .int x3), (0, .ref mo), (1, .int cell)]) hx hb dX7_holding_41 rfl hl (by decide) rfl (fun ls hl => ?_)
            refine lv_iinc (v := (x3 + 1)) (lv' := [(3, .int (x3 + 1)), (2, .int (x2 + 0)), (0, .ref mo), (1, .int cell)]) hx hb dX7_holding_42 hl (k := 1) rfl rfl (by decide) rfl (fun ls hl => ?_)
            refine lv_goto (tgt := 4) hx hb dX7_holding_45 (by decide) ?_
            exact ih4 (k4 + 1) (x3 + 1) (x2 + 0) _ _ _ (by omega) (by omega) (by rw [ex4]; exact nI_1 _)  hq_1 hP hS (lv_sub hl [0, 1, 2, 3] rfl)
          · rw [if_neg c_6] at hq_1
            refine lv_iconst (v := 1) hx hb dX7_holding_35 (by decide) ?_
            refine lv_goto (tgt := 40) hx hb dX7_holding_36 (by decide) ?_
            refine lv_iadd hx hb dX7_holding_40 ?_
            refine lv_istore_n (lv' := [(2, .int (x2 + 1)), (3, .int x3), (0, .ref mo), (1, .int cell)]) hx hb dX7_holding_41 rfl hl (by decide) rfl (fun ls hl => ?_)
            refine lv_iinc (v := (x3 + 1)) (lv' := [(3, .int (x3 + 1)), (2, .int (x2 + 1)), (0, .ref mo), (1, .int cell)]) hx hb dX7_holding_42 hl (k := 1) rfl rfl (by decide) rfl (fun ls hl => ?_)
            refine lv_goto (tgt := 4) hx hb dX7_holding_45 (by decide) ?_
            exact ih4 (k4 + 1) (x3 + 1) (x2 + 1) _ _ _ (by omega) (by omega) (by rw [ex4]; exact nI_1 _)  hq_1 hP hS (lv_sub hl [0, 1, 2, 3] rfl)
        · rw [if_neg c_4] at hq_1
          refine lv_iload_n hx hb dX7_holding_19 rfl (lv_at hl 0 rfl) ?_
          obtain ⟨r_7, hr_7⟩ : ∃ z, z = F_Model_second x3 := ⟨_, rfl⟩
          rw [bnd_e hr_7] at hq_1
          refine ro_calli (va_runS (As := [.int x3]) (rest := [.int x2]) ⟨hx, hb, hml, hown, hts⟩ (c_Model_second l dC dI cI cC cG cZ  x3  r_7 hr_7) (va_cwS 1 hts gX7_holding_X7_second rfl rfl rfl (by decide +kernel) ⟨Nat.le_of_ble_eq_true rfl, Nat.le_of_ble_eq_true rfl⟩) (ro_preS (hP.sub (ws' := []) [] rfl) hK) rfl rfl hl.1 rfl (lv_room (Nat.le_of_ble_eq_true rfl)) dX7_holding_20 ⟨Nat.zero_le _, Nat.zero_le _⟩) hP hS (fun H locs hP hS => ?_)
          refine lv_iload_n hx hb dX7_holding_23 rfl (lv_at hl 3 rfl) ?_
          refine lv_icmp_ne (tgt := 39) hx hb dX7_holding_24 (by decide) (fun c_8 => ?_) (fun c_8 => ?_)
          · rw [if_neg c_8] at hq_1
            refine lv_iconst (v := 0) hx hb dX7_holding_39 (by decide) ?_
            refine lv_iadd hx hb dX7_holding_40 ?_
            refine lv_istore_n (lv' := [(2, .int (x2 + 0)), (3, .int x3), (0, .ref mo), (1, .int cell)]) hx hb dX7_holding_41 rfl hl (by decide) rfl (fun ls hl => ?_)
            refine lv_iinc (v := (x3 + 1)) (lv' := [(3, .int (x3 + 1)), (2, .int (x2 + 0)), (0, .ref mo), (1, .int cell)]) hx hb dX7_holding_42 hl (k := 1) rfl rfl (by decide) rfl (fun ls hl => ?_)
            refine lv_goto (tgt := 4) hx hb dX7_holding_45 (by decide) ?_
            exact ih4 (k4 + 1) (x3 + 1) (x2 + 0) _ _ _ (by omega) (by omega) (by rw [ex4]; exact nI_1 _)  hq_1 hP hS (lv_sub hl [0, 1, 2, 3] rfl)
          · rw [if_pos c_8] at hq_1
            refine lv_aload_n hx hb dX7_holding_27 rfl (lv_at hl 2 rfl) ?_
            refine lv_iload_n hx hb dX7_holding_28 rfl (lv_at hl 0 rfl) ?_
            obtain ⟨r_9, hr_9⟩ : ∃ z, z = F_Model_holds x3 vs := ⟨_, rfl⟩
            rw [bnd_e hr_9] at hq_1
            refine ro_calli (va_runV (As := [.int x3]) (rest := [.int x2]) ⟨hx, hb, hml, hown, hts⟩ (c_Model_holds l dC dI cI cC cG cZ mo ms mah mhi msl msv mpd mlb x3 vkp vln vs (by rw [ex4]; exact vp_in_nI (by omega) (by decide)) r_9 hr_9) (cwV 1 hts gX7_holding_X7_holds rfl rfl rfl (by decide +kernel) ⟨Nat.le_of_ble_eq_true rfl, Nat.le_of_ble_eq_true rfl⟩) (ro_preV (hP.sub (ws' := [(mo, .inr (7, [.ref ms, .ref mah, .ref mhi, .int vkp, .ref msl, .ref msv, .ref mpd, .int vln, .ref mlb])), (ms, .inl (cI, 246, .inl vs))]) [0, 1] rfl) hK (ci := 7) (q0 := 0) rfl rfl) rfl rfl hl.1 rfl (lv_room (Nat.le_of_ble_eq_true rfl)) dX7_holding_29 ⟨Nat.zero_le _, Nat.zero_le _⟩) hP hS (fun H locs hP hS => ?_)
            refine lv_if_eq (tgt := 39) hx hb dX7_holding_32 (by decide) (fun c_10 => ?_) (fun c_10 => ?_)
            · rw [if_pos c_10] at hq_1
              refine lv_iconst (v := 0) hx hb dX7_holding_39 (by decide) ?_
              refine lv_iadd hx hb dX7_holding_40 ?_
              refine lv_istore_n (lv' := [(2, .int (x2 + 0)), (3, .int x3), (0, .ref mo), (1, .int cell)]) hx hb dX7_holding_41 rfl hl (by decide) rfl (fun ls hl => ?_)
              refine lv_iinc (v := (x3 + 1)) (lv' := [(3, .int (x3 + 1)), (2, .int (x2 + 0)), (0, .ref mo), (1, .int cell)]) hx hb dX7_holding_42 hl (k := 1) rfl rfl (by decide) rfl (fun ls hl => ?_)
              refine lv_goto (tgt := 4) hx hb dX7_holding_45 (by decide) ?_
              exact ih4 (k4 + 1) (x3 + 1) (x2 + 0) _ _ _ (by omega) (by omega) (by rw [ex4]; exact nI_1 _)  hq_1 hP hS (lv_sub hl [0, 1, 2, 3] rfl)
            · rw [if_neg c_10] at hq_1
              refine lv_iconst (v := 1) hx hb dX7_holding_35 (by decide) ?_
              refine lv_goto (tgt := 40) hx hb dX7_holding_36 (by decide) ?_
              refine lv_iadd hx hb dX7_holding_40 ?_
              refine lv_istore_n (lv' := [(2, .int (x2 + 1)), (3, .int x3), (0, .ref mo), (1, .int cell)]) hx hb dX7_holding_41 rfl hl (by decide) rfl (fun ls hl => ?_)
              refine lv_iinc (v := (x3 + 1)) (lv' := [(3, .int (x3 + 1)), (2, .int (x2 + 1)), (0, .ref mo), (1, .int cell)]) hx hb dX7_holding_42 hl (k := 1) rfl rfl (by decide) rfl (fun ls hl => ?_)
              refine lv_goto (tgt := 4) hx hb dX7_holding_45 (by decide) ?_
              exact ih4 (k4 + 1) (x3 + 1) (x2 + 1) _ _ _ (by omega) (by omega) (by rw [ex4]; exact nI_1 _)  hq_1 hP hS (lv_sub hl [0, 1, 2, 3] rfl)
  exact hloop4 83 0 (0 : Int32) (0 : Int32) _ _ _ (by omega) (by omega) nI_0.symm  hq_1 hP hS (lv_sub hl [0, 1, 2, 3] rfl)
def F_Model_cell (cell : Int32) (what : Int32) (vs : Nat → Int32) (vlb : Nat → Int32) : Int32 × (Nat → Int32) := (bnd (F_Model_isCell cell) (fun r_1 => (if r_1 = 0 then ((-1), vlb) else (if what = 0 then (bnd (F_Model_isGone cell vs) (fun r_4 => (if r_4 = 0 then (0, vlb) else (1, vlb)))) else (if what = 1 then (bnd (F_Model_pieceOf cell what vs vlb) (fun r_7 => (r_7.1, r_7.2))) else (if what = 2 then (bnd (F_Model_pieceOf cell what vs vlb) (fun r_9 => (r_9.1, r_9.2))) else (if what = 3 then (bnd (F_Model_holding cell vs) (fun r_11 => (r_11, vlb))) else ((-2), vlb))))))))
set_option maxHeartbeats 4000000 in
set_option maxRecDepth 100000 in
theorem c_Model_cell (l : Launch) (dC : Nat → ClassId) (dI : Nat → Nat → Nat) (cI cC cG cZ : ClassId) (mo ms mah mhi msl msv mpd mlb : Nat) (cell : Int32) (what : Int32) (vkp : Int32) (vln : Int32) (vs : Nat → Int32) (vlb : Nat → Int32) (res : Int32 × (Nat → Int32)) (hres : res = F_Model_cell cell what vs vlb) : Met l yX7_cell wsX7_cell ({ frames := 6, cells := 0, slots := 0, locals := 131 }) (va_Pc [.ref mo, .int cell, .int what] (wr_P (dC, dI) vwCl (tyL cI cC cG cZ) [(mo, .inr (7, [.ref ms, .ref mah, .ref mhi, .int vkp, .ref msl, .ref msv, .ref mpd, .int vln, .ref mlb])), (ms, .inl (cI, 246, .inl vs)), (mlb, .inl (cI, 48, .inl vlb))])) (va_Qi (fun r (_ : Unit) => r = res.1) (fun _ zt => va_P (dC, dI) vwCl [(mo, .inr (7, [.ref ms, .ref mah, .ref mhi, .int vkp, .ref msl, .ref msv, .ref mpd, .int vln, .ref mlb])), (ms, .inl (cI, 246, .inl vs)), (mlb, .inl (cI, 48, .inl res.2))] zt.heap) (wr_A [(mo, .inr (7, [.ref ms, .ref mah, .ref mhi, .int vkp, .ref msl, .ref msv, .ref mpd, .int vln, .ref mlb])), (ms, .inl (cI, 246, .inl vs)), (mlb, .inl (cI, 48, .inl vlb))])) 0 0 (wr_A [(mo, .inr (7, [.ref ms, .ref mah, .ref mhi, .int vkp, .ref msl, .ref msv, .ref mpd, .int vln, .ref mlb])), (ms, .inl (cI, 246, .inl vs)), (mlb, .inl (cI, 48, .inl vlb))]) := by
  refine Met.ofW (cc := cX7_cell) (maxL := 3) (ret := (some .int)) (by decide) rfl ?_
  intro p e s m args below meth c s₁ B hml hv
  obtain ⟨rfl, hP, hK, hD0⟩ := hv
  have hx := B.exec
  have hb := B.bytes
  have hr := B.returns
  have hts := atoms_spec (ws := wsX7_cell) B.pre
  have hown : s.vm.findClass RX7 = some m.cls := findClass_of_methodNamed B.named
  have hlocks := B.notSynchronized
  have hD := wr_self hD0
  generalize hAe : wr_A [(mo, .inr (7, [.ref ms, .ref mah, .ref mhi, .int vkp, .ref msl, .ref msv, .ref mpd, .int vln, .ref mlb])), (ms, .inl (cI, 246, .inl vs)), (mlb, .inl (cI, 48, .inl vlb))] = A at hD ⊢
  have hS : va_S A s.heap s.heap [] := va_S.rf
  have hP : va_P (dC, dI) vwCl [(mo, .inr (7, [.ref ms, .ref mah, .ref mhi, .int vkp, .ref msl, .ref msv, .ref mpd, .int vln, .ref mlb])), (ms, .inl (cI, 246, .inl vs)), (mlb, .inl (cI, 48, .inl vlb))] s.heap := hP
  have hl := lv_entry ([.ref mo, .int cell, .int what]) (n := 3) (Nat.le_of_ble_eq_true rfl)
  rw [lg_entry_eq]
  generalize (lg_sl ([.ref mo, .int cell, .int what]) ++ List.replicate (3 - (lg_sl ([.ref mo, .int cell, .int what])).length) Slot.unset).toArray = ls at hl ⊢
  have hl : lv_has ls 3 [(0, .ref mo), (1, .int cell), (2, .int what)] := hl
  rw [F_Model_cell] at hres
  refine lv_iload_n hx hb dX7_cell_0 rfl (lv_at hl 1 rfl) ?_
  obtain ⟨r_1, hr_1⟩ : ∃ z, z = F_Model_isCell cell := ⟨_, rfl⟩
  rw [bnd_e hr_1] at hres
  refine ro_calli (va_runS (As := [.int cell]) (rest := []) ⟨hx, hb, hml, hown, hts⟩ (c_Model_isCell l dC dI cI cC cG cZ  cell  r_1 hr_1) (va_cwS 1 hts gX7_cell_X7_isCell rfl rfl rfl (by decide +kernel) ⟨Nat.le_of_ble_eq_true rfl, Nat.le_of_ble_eq_true rfl⟩) (ro_preS (hP.sub (ws' := []) [] rfl) hK) rfl rfl hl.1 rfl (lv_room (Nat.le_of_ble_eq_true rfl)) dX7_cell_1 ⟨Nat.zero_le _, Nat.zero_le _⟩) hP hS (fun H locs hP hS => ?_)
  refine lv_if_ne (tgt := 9) hx hb dX7_cell_4 (by decide) (fun c_2 => ?_) (fun c_2 => ?_)
  · rw [if_neg c_2] at hres
    refine lv_iload_n hx hb dX7_cell_9 rfl (lv_at hl 2 rfl) ?_
    by_cases c_3 : what = 0
    · rw [if_pos c_3] at hres
      refine lv_tableIn (off := 30) (tgt := 40) hx hb dX7_cell_10 (by rw [c_3]; decide) (by rw [c_3]; decide) (by rw [c_3]; rfl) (by decide) ?_
      refine lv_aload_n hx hb dX7_cell_40 rfl (lv_at hl 0 rfl) ?_
      refine lv_iload_n hx hb dX7_cell_41 rfl (lv_at hl 1 rfl) ?_
      obtain ⟨r_4, hr_4⟩ : ∃ z, z = F_Model_isGone cell vs := ⟨_, rfl⟩
      rw [bnd_e hr_4] at hres
      refine ro_calli (va_runV (As := [.int cell]) (rest := []) ⟨hx, hb, hml, hown, hts⟩ (c_Model_isGone l dC dI cI cC cG cZ mo ms mah mhi msl msv mpd mlb cell vkp vln vs (mcl_in (by rw [← hr_1]; exact c_2)) r_4 hr_4) (cwV 1 hts gX7_cell_X7_isGone rfl rfl rfl (by decide +kernel) ⟨Nat.le_of_ble_eq_true rfl, Nat.le_of_ble_eq_true rfl⟩) (ro_preV (hP.sub (ws' := [(mo, .inr (7, [.ref ms, .ref mah, .ref mhi, .int vkp, .ref msl, .ref msv, .ref mpd, .int vln, .ref mlb])), (ms, .inl (cI, 246, .inl vs))]) [0, 1] rfl) hK (ci := 7) (q0 := 0) rfl rfl) rfl rfl hl.1 rfl (lv_room (Nat.le_of_ble_eq_true rfl)) dX7_cell_42 ⟨Nat.zero_le _, Nat.zero_le _⟩) hP hS (fun H locs hP hS => ?_)
      refine lv_if_eq (tgt := 52) hx hb dX7_cell_45 (by decide) (fun c_5 => ?_) (fun c_5 => ?_)
      · rw [if_pos c_5] at hres
        refine lv_iconst (v := 0) hx hb dX7_cell_52 (by decide) ?_
        subst hres
        exact W.iret (v := 0) hx hb hr (fun t ht hW => ⟨⟨0, (), rfl, rfl, (by show va_P _ _ _ t.heap; rw [ht]; exact hP)⟩, hS.F ht⟩) hS.2.2 dX7_cell_53
      · rw [if_neg c_5] at hres
        refine lv_iconst (v := 1) hx hb dX7_cell_48 (by decide) ?_
        refine lv_goto (tgt := 53) hx hb dX7_cell_49 (by decide) ?_
        subst hres
        exact W.iret (v := 1) hx hb hr (fun t ht hW => ⟨⟨1, (), rfl, rfl, (by show va_P _ _ _ t.heap; rw [ht]; exact hP)⟩, hS.F ht⟩) hS.2.2 dX7_cell_53
    · rw [if_neg c_3] at hres
      by_cases c_6 : what = 1
      · rw [if_pos c_6] at hres
        refine lv_tableIn (off := 44) (tgt := 54) hx hb dX7_cell_10 (by rw [c_6]; decide) (by rw [c_6]; decide) (by rw [c_6]; rfl) (by decide) ?_
        refine lv_aload_n hx hb dX7_cell_54 rfl (lv_at hl 0 rfl) ?_
        refine lv_iload_n hx hb dX7_cell_55 rfl (lv_at hl 1 rfl) ?_
        refine lv_iload_n hx hb dX7_cell_56 rfl (lv_at hl 2 rfl) ?_
        obtain ⟨r_7, hr_7⟩ : ∃ z, z = F_Model_pieceOf cell what vs vlb := ⟨_, rfl⟩
        rw [bnd_e hr_7] at hres
        refine wr_calli (w1 := [(mo, .inr (7, [.ref ms, .ref mah, .ref mhi, .int vkp, .ref msl, .ref msv, .ref mpd, .int vln, .ref mlb])), (ms, .inl (cI, 246, .inl vs)), (mlb, .inl (cI, 48, .inl r_7.2))]) (is := [0, 1, 2]) (va_runV (As := [.int cell, .int what]) (rest := []) ⟨hx, hb, hml, hown, hts⟩ (c_Model_pieceOf l dC dI cI cC cG cZ mo ms mah mhi msl msv mpd mlb cell what vkp vln vs vlb (mcl_in (by rw [← hr_1]; exact c_2)) r_7 hr_7) (cwV 2 hts gX7_cell_X7_pieceOf rfl rfl rfl (by decide +kernel) ⟨Nat.le_of_ble_eq_true rfl, Nat.le_of_ble_eq_true rfl⟩) (wr_preV (hP.sub (ws' := [(mo, .inr (7, [.ref ms, .ref mah, .ref mhi, .int vkp, .ref msl, .ref msv, .ref mpd, .int vln, .ref mlb])), (ms, .inl (cI, 246, .inl vs)), (mlb, .inl (cI, 48, .inl vlb))]) [0, 1, 2] rfl) hK (hD.sub (ws' := [(mo, .inr (7, [.ref ms, .ref mah, .ref mhi, .int vkp, .ref msl, .ref msv, .ref mpd, .int vln, .ref mlb])), (ms, .inl (cI, 246, .inl vs)), (mlb, .inl (cI, 48, .inl vlb))]) [0, 1, 2] (by decide) rfl) (ci := 7) (q0 := 0) rfl rfl) rfl rfl hl.1 rfl (lv_room (Nat.le_of_ble_eq_true rfl)) dX7_cell_57 ⟨Nat.zero_le _, Nat.zero_le _⟩) hP hD hS rfl rfl rfl (fun H locs hP hD hS => ?_)
        have hP : va_P (dC, dI) vwCl [(mo, .inr (7, [.ref ms, .ref mah, .ref mhi, .int vkp, .ref msl, .ref msv, .ref mpd, .int vln, .ref mlb])), (ms, .inl (cI, 246, .inl vs)), (mlb, .inl (cI, 48, .inl r_7.2))] H := hP
        have hD : va_D A [(mo, .inr (7, [.ref ms, .ref mah, .ref mhi, .int vkp, .ref msl, .ref msv, .ref mpd, .int vln, .ref mlb])), (ms, .inl (cI, 246, .inl vs)), (mlb, .inl (cI, 48, .inl r_7.2))] := hD
        subst hres
        exact W.iret (v := r_7.1) hx hb hr (fun t ht hW => ⟨⟨r_7.1, (), rfl, rfl, (by show va_P _ _ _ t.heap; rw [ht]; exact hP)⟩, hS.F ht⟩) hS.2.2 dX7_cell_60
      · rw [if_neg c_6] at hres
        by_cases c_8 : what = 2
        · rw [if_pos c_8] at hres
          refine lv_tableIn (off := 44) (tgt := 54) hx hb dX7_cell_10 (by rw [c_8]; decide) (by rw [c_8]; decide) (by rw [c_8]; rfl) (by decide) ?_
          refine lv_aload_n hx hb dX7_cell_54 rfl (lv_at hl 0 rfl) ?_
          refine lv_iload_n hx hb dX7_cell_55 rfl (lv_at hl 1 rfl) ?_
          refine lv_iload_n hx hb dX7_cell_56 rfl (lv_at hl 2 rfl) ?_
          obtain ⟨r_9, hr_9⟩ : ∃ z, z = F_Model_pieceOf cell what vs vlb := ⟨_, rfl⟩
          rw [bnd_e hr_9] at hres
          refine wr_calli (w1 := [(mo, .inr (7, [.ref ms, .ref mah, .ref mhi, .int vkp, .ref msl, .ref msv, .ref mpd, .int vln, .ref mlb])), (ms, .inl (cI, 246, .inl vs)), (mlb, .inl (cI, 48, .inl r_9.2))]) (is := [0, 1, 2]) (va_runV (As := [.int cell, .int what]) (rest := []) ⟨hx, hb, hml, hown, hts⟩ (c_Model_pieceOf l dC dI cI cC cG cZ mo ms mah mhi msl msv mpd mlb cell what vkp vln vs vlb (mcl_in (by rw [← hr_1]; exact c_2)) r_9 hr_9) (cwV 2 hts gX7_cell_X7_pieceOf rfl rfl rfl (by decide +kernel) ⟨Nat.le_of_ble_eq_true rfl, Nat.le_of_ble_eq_true rfl⟩) (wr_preV (hP.sub (ws' := [(mo, .inr (7, [.ref ms, .ref mah, .ref mhi, .int vkp, .ref msl, .ref msv, .ref mpd, .int vln, .ref mlb])), (ms, .inl (cI, 246, .inl vs)), (mlb, .inl (cI, 48, .inl vlb))]) [0, 1, 2] rfl) hK (hD.sub (ws' := [(mo, .inr (7, [.ref ms, .ref mah, .ref mhi, .int vkp, .ref msl, .ref msv, .ref mpd, .int vln, .ref mlb])), (ms, .inl (cI, 246, .inl vs)), (mlb, .inl (cI, 48, .inl vlb))]) [0, 1, 2] (by decide) rfl) (ci := 7) (q0 := 0) rfl rfl) rfl rfl hl.1 rfl (lv_room (Nat.le_of_ble_eq_true rfl)) dX7_cell_57 ⟨Nat.zero_le _, Nat.zero_le _⟩) hP hD hS rfl rfl rfl (fun H locs hP hD hS => ?_)
          have hP : va_P (dC, dI) vwCl [(mo, .inr (7, [.ref ms, .ref mah, .ref mhi, .int vkp, .ref msl, .ref msv, .ref mpd, .int vln, .ref mlb])), (ms, .inl (cI, 246, .inl vs)), (mlb, .inl (cI, 48, .inl r_9.2))] H := hP
          have hD : va_D A [(mo, .inr (7, [.ref ms, .ref mah, .ref mhi, .int vkp, .ref msl, .ref msv, .ref mpd, .int vln, .ref mlb])), (ms, .inl (cI, 246, .inl vs)), (mlb, .inl (cI, 48, .inl r_9.2))] := hD
          subst hres
          exact W.iret (v := r_9.1) hx hb hr (fun t ht hW => ⟨⟨r_9.1, (), rfl, rfl, (by show va_P _ _ _ t.heap; rw [ht]; exact hP)⟩, hS.F ht⟩) hS.2.2 dX7_cell_60
        · rw [if_neg c_8] at hres
          by_cases c_10 : what = 3
          · rw [if_pos c_10] at hres
            refine lv_tableIn (off := 51) (tgt := 61) hx hb dX7_cell_10 (by rw [c_10]; decide) (by rw [c_10]; decide) (by rw [c_10]; rfl) (by decide) ?_
            refine lv_aload_n hx hb dX7_cell_61 rfl (lv_at hl 0 rfl) ?_
            refine lv_iload_n hx hb dX7_cell_62 rfl (lv_at hl 1 rfl) ?_
            obtain ⟨r_11, hr_11⟩ : ∃ z, z = F_Model_holding cell vs := ⟨_, rfl⟩
            rw [bnd_e hr_11] at hres
            refine ro_calli (va_runV (As := [.int cell]) (rest := []) ⟨hx, hb, hml, hown, hts⟩ (c_Model_holding l dC dI cI cC cG cZ mo ms mah mhi msl msv mpd mlb cell vkp vln vs  r_11 hr_11) (cwV 1 hts gX7_cell_X7_holding rfl rfl rfl (by decide +kernel) ⟨Nat.le_of_ble_eq_true rfl, Nat.le_of_ble_eq_true rfl⟩) (ro_preV (hP.sub (ws' := [(mo, .inr (7, [.ref ms, .ref mah, .ref mhi, .int vkp, .ref msl, .ref msv, .ref mpd, .int vln, .ref mlb])), (ms, .inl (cI, 246, .inl vs))]) [0, 1] rfl) hK (ci := 7) (q0 := 0) rfl rfl) rfl rfl hl.1 rfl (lv_room (Nat.le_of_ble_eq_true rfl)) dX7_cell_63 ⟨Nat.zero_le _, Nat.zero_le _⟩) hP hS (fun H locs hP hS => ?_)
            subst hres
            exact W.iret (v := r_11) hx hb hr (fun t ht hW => ⟨⟨r_11, (), rfl, rfl, (by show va_P _ _ _ t.heap; rw [ht]; exact hP)⟩, hS.F ht⟩) hS.2.2 dX7_cell_66
          · rw [if_neg c_10] at hres
            refine lv_tableOut (tgt := 67) hx hb dX7_cell_10 (by have o_12_0 := lv_neT (a := 0) c_3 rfl; have o_12_1 := lv_neT (a := 1) c_6 rfl; have o_12_2 := lv_neT (a := 2) c_8 rfl; have o_12_3 := lv_neT (a := 3) c_10 rfl; omega) (by decide) ?_
            refine lv_bipush (v := (-2)) hx hb dX7_cell_67 (by decide) ?_
            subst hres
            exact W.iret (v := (-2)) hx hb hr (fun t ht hW => ⟨⟨(-2), (), rfl, rfl, (by show va_P _ _ _ t.heap; rw [ht]; exact hP)⟩, hS.F ht⟩) hS.2.2 dX7_cell_69
  · rw [if_pos c_2] at hres
    refine lv_iconst (v := (-1)) hx hb dX7_cell_7 (by decide) ?_
    subst hres
    exact W.iret (v := (-1)) hx hb hr (fun t ht hW => ⟨⟨(-1), (), rfl, rfl, (by show va_P _ _ _ t.heap; rw [ht]; exact hP)⟩, hS.F ht⟩) hS.2.2 dX7_cell_8
theorem iX7_player_X7 : ∀ w ∈ u_ws RX7 TX7 9, w ∈ wsX7_player := by decide +kernel
theorem kX7_player_7 : Cond.fieldLink RX7 7 "TailorChalksModel" "s" "[I" ∈ wsX7_player := by decide +kernel
def F_Model_player (player : Int32) (what : Int32) (vs : Nat → Int32) : Int32 := (bnd (F_Model_in player (0 : Int32) (1 : Int32)) (fun r_1 => (if r_1 = 0 then (-1) else (if what = 0 then (bnd (F_Model_at player (0 : Int32)) (fun r_7 => ((500 : Int32) + (vs r_7.toNatClampNeg)))) else (bnd (F_Model_in what (1 : Int32) (7 : Int32)) (fun r_4 => (if r_4 = 0 then (-2) else (bnd (F_Model_at player what) (fun r_6 => (vs r_6.toNatClampNeg))))))))))
set_option maxHeartbeats 4000000 in
set_option maxRecDepth 100000 in
theorem c_Model_player (l : Launch) (dC : Nat → ClassId) (dI : Nat → Nat → Nat) (cI cC cG cZ : ClassId) (mo ms mah mhi msl msv mpd mlb : Nat) (player : Int32) (what : Int32) (vkp : Int32) (vln : Int32) (vs : Nat → Int32) (res : Int32) (hres : res = F_Model_player player what vs) : Met l yX7_player wsX7_player ({ frames := 1, cells := 0, slots := 0, locals := 22 }) (va_Pc [.ref mo, .int player, .int what] (ro_P (dC, dI) vwCl (tyL cI cC cG cZ) [(mo, .inr (7, [.ref ms, .ref mah, .ref mhi, .int vkp, .ref msl, .ref msv, .ref mpd, .int vln, .ref mlb])), (ms, .inl (cI, 246, .inl vs))])) (va_Qi (fun r (_ : Unit) => r = res) (fun _ _ => True) ro_F) 0 0 ro_F := by
  refine Met.ofW (cc := cX7_player) (maxL := 3) (ret := (some .int)) (by decide) rfl ?_
  intro p e s m args below meth c s₁ B hml hv
  obtain ⟨rfl, hP, hK⟩ := hv
  have hx := B.exec
  have hb := B.bytes
  have hr := B.returns
  have hts := atoms_spec (ws := wsX7_player) B.pre
  have hown : s.vm.findClass RX7 = some m.cls := findClass_of_methodNamed B.named
  have hlocks := B.notSynchronized
  have hS : va_S ro_F s.heap s.heap [] := va_S.rf
  have hl := lv_entry ([.ref mo, .int player, .int what]) (n := 3) (Nat.le_of_ble_eq_true rfl)
  rw [lg_entry_eq]
  generalize (lg_sl ([.ref mo, .int player, .int what]) ++ List.replicate (3 - (lg_sl ([.ref mo, .int player, .int what])).length) Slot.unset).toArray = ls at hl ⊢
  have hl : lv_has ls 3 [(0, .ref mo), (1, .int player), (2, .int what)] := hl
  rw [F_Model_player] at hres
  refine lv_iload_n hx hb dX7_player_0 rfl (lv_at hl 1 rfl) ?_
  refine lv_iconst (v := 0) hx hb dX7_player_1 (by decide) ?_
  refine lv_iconst (v := 1) hx hb dX7_player_2 (by decide) ?_
  obtain ⟨r_1, hr_1⟩ : ∃ z, z = F_Model_in player (0 : Int32) (1 : Int32) := ⟨_, rfl⟩
  rw [bnd_e hr_1] at hres
  refine ro_calli (va_runS (As := [.int player, .int 0, .int 1]) (rest := []) ⟨hx, hb, hml, hown, hts⟩ (c_Model_in l dC dI cI cC cG cZ  player (0 : Int32) (1 : Int32)  r_1 hr_1) (va_cwS 3 hts gX7_player_X7_in rfl rfl rfl (by decide +kernel) ⟨Nat.le_of_ble_eq_true rfl, Nat.le_of_ble_eq_true rfl⟩) (ro_preS (hP.sub (ws' := []) [] rfl) hK) rfl rfl hl.1 rfl (lv_room (Nat.le_of_ble_eq_true rfl)) dX7_player_3 ⟨Nat.zero_le _, Nat.zero_le _⟩) hP hS (fun H locs hP hS => ?_)
  refine lv_if_ne (tgt := 11) hx hb dX7_player_6 (by decide) (fun c_2 => ?_) (fun c_2 => ?_)
  · rw [if_neg c_2] at hres
    refine lv_iload_n hx hb dX7_player_11 rfl (lv_at hl 2 rfl) ?_
    refine lv_if_ne (tgt := 32) hx hb dX7_player_12 (by decide) (fun c_3 => ?_) (fun c_3 => ?_)
    · rw [if_neg c_3] at hres
      refine lv_iload_n hx hb dX7_player_32 rfl (lv_at hl 2 rfl) ?_
      refine lv_iconst (v := 1) hx hb dX7_player_33 (by decide) ?_
      refine lv_bipush (v := 7) hx hb dX7_player_34 (by decide) ?_
      obtain ⟨r_4, hr_4⟩ : ∃ z, z = F_Model_in what (1 : Int32) (7 : Int32) := ⟨_, rfl⟩
      rw [bnd_e hr_4] at hres
      refine ro_calli (va_runS (As := [.int what, .int 1, .int 7]) (rest := []) ⟨hx, hb, hml, hown, hts⟩ (c_Model_in l dC dI cI cC cG cZ  what (1 : Int32) (7 : Int32)  r_4 hr_4) (va_cwS 3 hts gX7_player_X7_in rfl rfl rfl (by decide +kernel) ⟨Nat.le_of_ble_eq_true rfl, Nat.le_of_ble_eq_true rfl⟩) (ro_preS (hP.sub (ws' := []) [] rfl) hK) rfl rfl hl.1 rfl (lv_room (Nat.le_of_ble_eq_true rfl)) dX7_player_36 ⟨Nat.zero_le _, Nat.zero_le _⟩) hP hS (fun H locs hP hS => ?_)
      refine lv_if_eq (tgt := 55) hx hb dX7_player_39 (by decide) (fun c_5 => ?_) (fun c_5 => ?_)
      · rw [if_pos c_5] at hres
        refine lv_bipush (v := (-2)) hx hb dX7_player_55 (by decide) ?_
        exact W.iret (v := (-2)) hx hb hr (fun t ht hW => ⟨⟨(-2), (), rfl, hres.symm, trivial⟩, hS.F ht⟩) hS.2.2 dX7_player_57
      · rw [if_neg c_5] at hres
        refine lv_aload_n hx hb dX7_player_42 rfl (lv_at hl 0 rfl) ?_
        refine va_get (D := (dC, dI)) (ci := 7) (v := .ref ms) (C := RX7) (T := TX7) (N := 9) hx hb hts iX7_player_X7 hown hK hP 0 rfl rfl 0 (by decide) (hts (.fieldLink RX7 7 "TailorChalksModel" "s" "[I") kX7_player_7) (fun _ h9 => h9) rfl dX7_player_43 ?_
        refine lv_iload_n hx hb dX7_player_46 rfl (lv_at hl 1 rfl) ?_
        refine lv_iload_n hx hb dX7_player_47 rfl (lv_at hl 2 rfl) ?_
        obtain ⟨r_6, hr_6⟩ : ∃ z, z = F_Model_at player what := ⟨_, rfl⟩
        rw [bnd_e hr_6] at hres
        refine ro_calli (va_runS (As := [.int player, .int what]) (rest := [.ref ms]) ⟨hx, hb, hml, hown, hts⟩ (c_Model_at l dC dI cI cC cG cZ  player what  r_6 hr_6) (va_cwS 2 hts gX7_player_X7_at rfl rfl rfl (by decide +kernel) ⟨Nat.le_of_ble_eq_true rfl, Nat.le_of_ble_eq_true rfl⟩) (ro_preS (hP.sub (ws' := []) [] rfl) hK) rfl rfl hl.1 rfl (lv_room (Nat.le_of_ble_eq_true rfl)) dX7_player_48 ⟨Nat.zero_le _, Nat.zero_le _⟩) hP hS (fun H locs hP hS => ?_)
        refine va_iald hx hb hK hP 1 0 rfl rfl (by rw [hr_6]; exact at_in (in01 (by rw [← hr_1]; exact c_2)) (in17 (by rw [← hr_4]; exact c_5)) (by decide)) dX7_player_51 ?_
        refine lv_goto (tgt := 57) hx hb dX7_player_52 (by decide) ?_
        exact W.iret (v := (vs r_6.toNatClampNeg)) hx hb hr (fun t ht hW => ⟨⟨(vs r_6.toNatClampNeg), (), rfl, hres.symm, trivial⟩, hS.F ht⟩) hS.2.2 dX7_player_57
    · rw [if_pos c_3] at hres
      refine lv_sipush (v := 500) hx hb dX7_player_15 (by decide) ?_
      refine lv_aload_n hx hb dX7_player_18 rfl (lv_at hl 0 rfl) ?_
      refine va_get (D := (dC, dI)) (ci := 7) (v := .ref ms) (C := RX7) (T := TX7) (N := 9) hx hb hts iX7_player_X7 hown hK hP 0 rfl rfl 0 (by decide) (hts (.fieldLink RX7 7 "TailorChalksModel" "s" "[I") kX7_player_7) (fun _ h9 => h9) rfl dX7_player_19 ?_
      refine lv_iload_n hx hb dX7_player_22 rfl (lv_at hl 1 rfl) ?_
      refine lv_iconst (v := 0) hx hb dX7_player_23 (by decide) ?_
      obtain ⟨r_7, hr_7⟩ : ∃ z, z = F_Model_at player (0 : Int32) := ⟨_, rfl⟩
      rw [bnd_e hr_7] at hres
      refine ro_calli (va_runS (As := [.int player, .int 0]) (rest := [.ref ms, .int 500]) ⟨hx, hb, hml, hown, hts⟩ (c_Model_at l dC dI cI cC cG cZ  player (0 : Int32)  r_7 hr_7) (va_cwS 2 hts gX7_player_X7_at rfl rfl rfl (by decide +kernel) ⟨Nat.le_of_ble_eq_true rfl, Nat.le_of_ble_eq_true rfl⟩) (ro_preS (hP.sub (ws' := []) [] rfl) hK) rfl rfl hl.1 rfl (lv_room (Nat.le_of_ble_eq_true rfl)) dX7_player_24 ⟨Nat.zero_le _, Nat.zero_le _⟩) hP hS (fun H locs hP hS => ?_)
      refine va_iald hx hb hK hP 1 0 rfl rfl (by rw [hr_7]; exact at_in (in01 (by rw [← hr_1]; exact c_2)) (by decide) (by decide)) dX7_player_27 ?_
      refine lv_iadd hx hb dX7_player_28 ?_
      refine lv_goto (tgt := 57) hx hb dX7_player_29 (by decide) ?_
      exact W.iret (v := ((500 : Int32) + (vs r_7.toNatClampNeg))) hx hb hr (fun t ht hW => ⟨⟨((500 : Int32) + (vs r_7.toNatClampNeg)), (), rfl, hres.symm, trivial⟩, hS.F ht⟩) hS.2.2 dX7_player_57
  · rw [if_pos c_2] at hres
    refine lv_iconst (v := (-1)) hx hb dX7_player_9 (by decide) ?_
    exact W.iret (v := (-1)) hx hb hr (fun t ht hW => ⟨⟨(-1), (), rfl, hres.symm, trivial⟩, hS.F ht⟩) hS.2.2 dX7_player_10
theorem iX7_chalked_X7 : ∀ w ∈ u_ws RX7 TX7 9, w ∈ wsX7_chalked := by decide +kernel
theorem kX7_chalked_7 : Cond.fieldLink RX7 7 "TailorChalksModel" "s" "[I" ∈ wsX7_chalked := by decide +kernel
def F_Model_chalked (player : Int32) (rank : Int32) (vs : Nat → Int32) : Int32 := (bnd (F_Model_in player (0 : Int32) (1 : Int32)) (fun r_1 => (if r_1 = 0 then (-1) else (bnd (F_Model_at player (2 : Int32)) (fun r_3 => (bnd (F_Model_in rank (0 : Int32) ((vs r_3.toNatClampNeg) - 1)) (fun r_4 => (if r_4 = 0 then (-1) else (bnd (F_Model_chalkAt player rank vs) (fun r_6 => r_6))))))))))
set_option maxHeartbeats 4000000 in
set_option maxRecDepth 100000 in
theorem c_Model_chalked (l : Launch) (dC : Nat → ClassId) (dI : Nat → Nat → Nat) (cI cC cG cZ : ClassId) (mo ms mah mhi msl msv mpd mlb : Nat) (player : Int32) (rank : Int32) (vkp : Int32) (vln : Int32) (vs : Nat → Int32) (hMI : MI vs) (res : Int32) (hres : res = F_Model_chalked player rank vs) : Met l yX7_chalked wsX7_chalked ({ frames := 2, cells := 0, slots := 0, locals := 43 }) (va_Pc [.ref mo, .int player, .int rank] (ro_P (dC, dI) vwCl (tyL cI cC cG cZ) [(mo, .inr (7, [.ref ms, .ref mah, .ref mhi, .int vkp, .ref msl, .ref msv, .ref mpd, .int vln, .ref mlb])), (ms, .inl (cI, 246, .inl vs))])) (va_Qi (fun r (_ : Unit) => r = res) (fun _ _ => True) ro_F) 0 0 ro_F := by
  refine Met.ofW (cc := cX7_chalked) (maxL := 3) (ret := (some .int)) (by decide) rfl ?_
  intro p e s m args below meth c s₁ B hml hv
  obtain ⟨rfl, hP, hK⟩ := hv
  have hx := B.exec
  have hb := B.bytes
  have hr := B.returns
  have hts := atoms_spec (ws := wsX7_chalked) B.pre
  have hown : s.vm.findClass RX7 = some m.cls := findClass_of_methodNamed B.named
  have hlocks := B.notSynchronized
  have hS : va_S ro_F s.heap s.heap [] := va_S.rf
  have hl := lv_entry ([.ref mo, .int player, .int rank]) (n := 3) (Nat.le_of_ble_eq_true rfl)
  rw [lg_entry_eq]
  generalize (lg_sl ([.ref mo, .int player, .int rank]) ++ List.replicate (3 - (lg_sl ([.ref mo, .int player, .int rank])).length) Slot.unset).toArray = ls at hl ⊢
  have hl : lv_has ls 3 [(0, .ref mo), (1, .int player), (2, .int rank)] := hl
  rw [F_Model_chalked] at hres
  refine lv_iload_n hx hb dX7_chalked_0 rfl (lv_at hl 1 rfl) ?_
  refine lv_iconst (v := 0) hx hb dX7_chalked_1 (by decide) ?_
  refine lv_iconst (v := 1) hx hb dX7_chalked_2 (by decide) ?_
  obtain ⟨r_1, hr_1⟩ : ∃ z, z = F_Model_in player (0 : Int32) (1 : Int32) := ⟨_, rfl⟩
  rw [bnd_e hr_1] at hres
  refine ro_calli (va_runS (As := [.int player, .int 0, .int 1]) (rest := []) ⟨hx, hb, hml, hown, hts⟩ (c_Model_in l dC dI cI cC cG cZ  player (0 : Int32) (1 : Int32)  r_1 hr_1) (va_cwS 3 hts gX7_chalked_X7_in rfl rfl rfl (by decide +kernel) ⟨Nat.le_of_ble_eq_true rfl, Nat.le_of_ble_eq_true rfl⟩) (ro_preS (hP.sub (ws' := []) [] rfl) hK) rfl rfl hl.1 rfl (lv_room (Nat.le_of_ble_eq_true rfl)) dX7_chalked_3 ⟨Nat.zero_le _, Nat.zero_le _⟩) hP hS (fun H locs hP hS => ?_)
  refine lv_if_eq (tgt := 38) hx hb dX7_chalked_6 (by decide) (fun c_2 => ?_) (fun c_2 => ?_)
  · rw [if_pos c_2] at hres
    refine lv_iconst (v := (-1)) hx hb dX7_chalked_38 (by decide) ?_
    exact W.iret (v := (-1)) hx hb hr (fun t ht hW => ⟨⟨(-1), (), rfl, hres.symm, trivial⟩, hS.F ht⟩) hS.2.2 dX7_chalked_39
  · rw [if_neg c_2] at hres
    refine lv_iload_n hx hb dX7_chalked_9 rfl (lv_at hl 2 rfl) ?_
    refine lv_iconst (v := 0) hx hb dX7_chalked_10 (by decide) ?_
    refine lv_aload_n hx hb dX7_chalked_11 rfl (lv_at hl 0 rfl) ?_
    refine va_get (D := (dC, dI)) (ci := 7) (v := .ref ms) (C := RX7) (T := TX7) (N := 9) hx hb hts iX7_chalked_X7 hown hK hP 0 rfl rfl 0 (by decide) (hts (.fieldLink RX7 7 "TailorChalksModel" "s" "[I") kX7_chalked_7) (fun _ h9 => h9) rfl dX7_chalked_12 ?_
    refine lv_iload_n hx hb dX7_chalked_15 rfl (lv_at hl 1 rfl) ?_
    refine lv_iconst (v := 2) hx hb dX7_chalked_16 (by decide) ?_
    obtain ⟨r_3, hr_3⟩ : ∃ z, z = F_Model_at player (2 : Int32) := ⟨_, rfl⟩
    rw [bnd_e hr_3] at hres
    refine ro_calli (va_runS (As := [.int player, .int 2]) (rest := [.ref ms, .int 0, .int rank]) ⟨hx, hb, hml, hown, hts⟩ (c_Model_at l dC dI cI cC cG cZ  player (2 : Int32)  r_3 hr_3) (va_cwS 2 hts gX7_chalked_X7_at rfl rfl rfl (by decide +kernel) ⟨Nat.le_of_ble_eq_true rfl, Nat.le_of_ble_eq_true rfl⟩) (ro_preS (hP.sub (ws' := []) [] rfl) hK) rfl rfl hl.1 rfl (lv_room (Nat.le_of_ble_eq_true rfl)) dX7_chalked_17 ⟨Nat.zero_le _, Nat.zero_le _⟩) hP hS (fun H locs hP hS => ?_)
    refine va_iald hx hb hK hP 1 0 rfl rfl (by rw [hr_3]; exact at_in (in01 (by rw [← hr_1]; exact c_2)) (by decide) (by decide)) dX7_chalked_20 ?_
    refine lv_iconst (v := 1) hx hb dX7_chalked_21 (by decide) ?_
    refine lv_isub hx hb dX7_chalked_22 ?_
    obtain ⟨r_4, hr_4⟩ : ∃ z, z = F_Model_in rank (0 : Int32) ((vs r_3.toNatClampNeg) - 1) := ⟨_, rfl⟩
    rw [bnd_e hr_4] at hres
    refine ro_calli (va_runS (As := [.int rank, .int 0, .int ((vs r_3.toNatClampNeg) - 1)]) (rest := []) ⟨hx, hb, hml, hown, hts⟩ (c_Model_in l dC dI cI cC cG cZ  rank (0 : Int32) ((vs r_3.toNatClampNeg) - 1)  r_4 hr_4) (va_cwS 3 hts gX7_chalked_X7_in rfl rfl rfl (by decide +kernel) ⟨Nat.le_of_ble_eq_true rfl, Nat.le_of_ble_eq_true rfl⟩) (ro_preS (hP.sub (ws' := []) [] rfl) hK) rfl rfl hl.1 rfl (lv_room (Nat.le_of_ble_eq_true rfl)) dX7_chalked_23 ⟨Nat.zero_le _, Nat.zero_le _⟩) hP hS (fun H locs hP hS => ?_)
    refine lv_if_eq (tgt := 38) hx hb dX7_chalked_26 (by decide) (fun c_5 => ?_) (fun c_5 => ?_)
    · rw [if_pos c_5] at hres
      refine lv_iconst (v := (-1)) hx hb dX7_chalked_38 (by decide) ?_
      exact W.iret (v := (-1)) hx hb hr (fun t ht hW => ⟨⟨(-1), (), rfl, hres.symm, trivial⟩, hS.F ht⟩) hS.2.2 dX7_chalked_39
    · rw [if_neg c_5] at hres
      refine lv_aload_n hx hb dX7_chalked_29 rfl (lv_at hl 0 rfl) ?_
      refine lv_iload_n hx hb dX7_chalked_30 rfl (lv_at hl 1 rfl) ?_
      refine lv_iload_n hx hb dX7_chalked_31 rfl (lv_at hl 2 rfl) ?_
      obtain ⟨r_6, hr_6⟩ : ∃ z, z = F_Model_chalkAt player rank vs := ⟨_, rfl⟩
      rw [bnd_e hr_6] at hres
      refine ro_calli (va_runV (As := [.int player, .int rank]) (rest := []) ⟨hx, hb, hml, hown, hts⟩ (c_Model_chalkAt l dC dI cI cC cG cZ mo ms mah mhi msl msv mpd mlb player rank vkp vln vs (in01 (by rw [← hr_1]; exact c_2)) (in_cnt (c := vs r_3.toNatClampNeg) (by rw [hr_3]; exact mi_cnt hMI (in01 (by rw [← hr_1]; exact c_2))) (by rw [← hr_4]; exact c_5)) r_6 hr_6) (cwV 2 hts gX7_chalked_X7_chalkAt rfl rfl rfl (by decide +kernel) ⟨Nat.le_of_ble_eq_true rfl, Nat.le_of_ble_eq_true rfl⟩) (ro_preV (hP.sub (ws' := [(mo, .inr (7, [.ref ms, .ref mah, .ref mhi, .int vkp, .ref msl, .ref msv, .ref mpd, .int vln, .ref mlb])), (ms, .inl (cI, 246, .inl vs))]) [0, 1] rfl) hK (ci := 7) (q0 := 0) rfl rfl) rfl rfl hl.1 rfl (lv_room (Nat.le_of_ble_eq_true rfl)) dX7_chalked_32 ⟨Nat.zero_le _, Nat.zero_le _⟩) hP hS (fun H locs hP hS => ?_)
      refine lv_goto (tgt := 39) hx hb dX7_chalked_35 (by decide) ?_
      exact W.iret (v := r_6) hx hb hr (fun t ht hW => ⟨⟨r_6, (), rfl, hres.symm, trivial⟩, hS.F ht⟩) hS.2.2 dX7_chalked_39
theorem iX7_pieces_X7 : ∀ w ∈ u_ws RX7 TX7 9, w ∈ wsX7_pieces := by decide +kernel
theorem kX7_pieces_29 : Cond.fieldLink RX7 29 "TailorChalksModel" "label" "[I" ∈ wsX7_pieces := by decide +kernel
def F_Model_pieces_L11 (vs : Nat → Int32) (vlb : Nat → Int32) : Nat → Int32 → Int32 → (Nat → Int32) → Int32 × Int32 × (Nat → Int32)
  | 0, x2, x1, w2f => (x2, x1, w2f)
  | n + 1, x2, x1, w2f => (if (48 : Int32) ≤ x2 then (x2, x1, w2f) else (if (w2f x2.toNatClampNeg) = x2 then (F_Model_pieces_L11 vs vlb n (x2 + 1) (x1 + 1) w2f) else (F_Model_pieces_L11 vs vlb n (x2 + 1) (x1 + 0) w2f)))
def F_Model_pieces (vs : Nat → Int32) (vlb : Nat → Int32) : Int32 × (Nat → Int32) := (bnd (F_Model_layPieces (-6 : Int32) (0 : Int32) vs vlb) (fun r_1 => (bnd (F_Model_pieces_L11 vs vlb 49 (0 : Int32) (0 : Int32) r_1) (fun q_2 => (q_2.2.1, q_2.2.2)))))
set_option maxHeartbeats 4000000 in
set_option maxRecDepth 100000 in
theorem c_Model_pieces (l : Launch) (dC : Nat → ClassId) (dI : Nat → Nat → Nat) (cI cC cG cZ : ClassId) (mo ms mah mhi msl msv mpd mlb : Nat) (vkp : Int32) (vln : Int32) (vs : Nat → Int32) (vlb : Nat → Int32) (res : Int32 × (Nat → Int32)) (hres : res = F_Model_pieces vs vlb) : Met l yX7_pieces wsX7_pieces ({ frames := 5, cells := 0, slots := 0, locals := 109 }) (va_Pc [.ref mo] (wr_P (dC, dI) vwCl (tyL cI cC cG cZ) [(mo, .inr (7, [.ref ms, .ref mah, .ref mhi, .int vkp, .ref msl, .ref msv, .ref mpd, .int vln, .ref mlb])), (ms, .inl (cI, 246, .inl vs)), (mlb, .inl (cI, 48, .inl vlb))])) (va_Qi (fun r (_ : Unit) => r = res.1) (fun _ zt => va_P (dC, dI) vwCl [(mo, .inr (7, [.ref ms, .ref mah, .ref mhi, .int vkp, .ref msl, .ref msv, .ref mpd, .int vln, .ref mlb])), (ms, .inl (cI, 246, .inl vs)), (mlb, .inl (cI, 48, .inl res.2))] zt.heap) (wr_A [(mo, .inr (7, [.ref ms, .ref mah, .ref mhi, .int vkp, .ref msl, .ref msv, .ref mpd, .int vln, .ref mlb])), (ms, .inl (cI, 246, .inl vs)), (mlb, .inl (cI, 48, .inl vlb))])) 0 0 (wr_A [(mo, .inr (7, [.ref ms, .ref mah, .ref mhi, .int vkp, .ref msl, .ref msv, .ref mpd, .int vln, .ref mlb])), (ms, .inl (cI, 246, .inl vs)), (mlb, .inl (cI, 48, .inl vlb))]) := by
  refine Met.ofW (cc := cX7_pieces) (maxL := 3) (ret := (some .int)) (by decide) rfl ?_
  intro p e s m args below meth c s₁ B hml hv
  obtain ⟨rfl, hP, hK, hD0⟩ := hv
  have hx := B.exec
  have hb := B.bytes
  have hr := B.returns
  have hts := atoms_spec (ws := wsX7_pieces) B.pre
  have hown : s.vm.findClass RX7 = some m.cls := findClass_of_methodNamed B.named
  have hlocks := B.notSynchronized
  have hD := wr_self hD0
  generalize hAe : wr_A [(mo, .inr (7, [.ref ms, .ref mah, .ref mhi, .int vkp, .ref msl, .ref msv, .ref mpd, .int vln, .ref mlb])), (ms, .inl (cI, 246, .inl vs)), (mlb, .inl (cI, 48, .inl vlb))] = A at hD ⊢
  have hS : va_S A s.heap s.heap [] := va_S.rf
  have hP : va_P (dC, dI) vwCl [(mo, .inr (7, [.ref ms, .ref mah, .ref mhi, .int vkp, .ref msl, .ref msv, .ref mpd, .int vln, .ref mlb])), (ms, .inl (cI, 246, .inl vs)), (mlb, .inl (cI, 48, .inl vlb))] s.heap := hP
  have hl := lv_entry ([.ref mo]) (n := 3) (Nat.le_of_ble_eq_true rfl)
  rw [lg_entry_eq]
  generalize (lg_sl ([.ref mo]) ++ List.replicate (3 - (lg_sl ([.ref mo])).length) Slot.unset).toArray = ls at hl ⊢
  have hl : lv_has ls 3 [(0, .ref mo)] := hl
  rw [F_Model_pieces] at hres
  refine lv_aload_n hx hb dX7_pieces_0 rfl (lv_at hl 0 rfl) ?_
  refine lv_bipush (v := (-6)) hx hb dX7_pieces_1 (by decide) ?_
  refine lv_iconst (v := 0) hx hb dX7_pieces_3 (by decide) ?_
  obtain ⟨r_1, hr_1⟩ : ∃ z, z = F_Model_layPieces (-6 : Int32) (0 : Int32) vs vlb := ⟨_, rfl⟩
  rw [bnd_e hr_1] at hres
  refine wr_callv (w1 := [(mo, .inr (7, [.ref ms, .ref mah, .ref mhi, .int vkp, .ref msl, .ref msv, .ref mpd, .int vln, .ref mlb])), (ms, .inl (cI, 246, .inl vs)), (mlb, .inl (cI, 48, .inl r_1))]) (is := [0, 1, 2]) (va_runV (As := [.int (-6), .int 0]) (rest := []) ⟨hx, hb, hml, hown, hts⟩ (c_Model_layPieces l dC dI cI cC cG cZ mo ms mah mhi msl msv mpd mlb (-6 : Int32) (0 : Int32) vkp vln vs vlb  r_1 hr_1) (cwV 2 hts gX7_pieces_X7_layPieces rfl rfl rfl (by decide +kernel) ⟨Nat.le_of_ble_eq_true rfl, Nat.le_of_ble_eq_true rfl⟩) (wr_preV (hP.sub (ws' := [(mo, .inr (7, [.ref ms, .ref mah, .ref mhi, .int vkp, .ref msl, .ref msv, .ref mpd, .int vln, .ref mlb])), (ms, .inl (cI, 246, .inl vs)), (mlb, .inl (cI, 48, .inl vlb))]) [0, 1, 2] rfl) hK (hD.sub (ws' := [(mo, .inr (7, [.ref ms, .ref mah, .ref mhi, .int vkp, .ref msl, .ref msv, .ref mpd, .int vln, .ref mlb])), (ms, .inl (cI, 246, .inl vs)), (mlb, .inl (cI, 48, .inl vlb))]) [0, 1, 2] (by decide) rfl) (ci := 7) (q0 := 0) rfl rfl) rfl rfl hl.1 rfl (lv_room (Nat.le_of_ble_eq_true rfl)) dX7_pieces_4 ⟨Nat.zero_le _, Nat.zero_le _⟩) hP hD hS rfl rfl rfl (fun H locs hP hD hS => ?_)
  have hP : va_P (dC, dI) vwCl [(mo, .inr (7, [.ref ms, .ref mah, .ref mhi, .int vkp, .ref msl, .ref msv, .ref mpd, .int vln, .ref mlb])), (ms, .inl (cI, 246, .inl vs)), (mlb, .inl (cI, 48, .inl r_1))] H := hP
  have hD : va_D A [(mo, .inr (7, [.ref ms, .ref mah, .ref mhi, .int vkp, .ref msl, .ref msv, .ref mpd, .int vln, .ref mlb])), (ms, .inl (cI, 246, .inl vs)), (mlb, .inl (cI, 48, .inl r_1))] := hD
  refine lv_iconst (v := 0) hx hb dX7_pieces_7 (by decide) ?_
  refine lv_istore_n (lv' := [(1, .int 0), (0, .ref mo)]) hx hb dX7_pieces_8 rfl hl (by decide) rfl (fun ls hl => ?_)
  refine lv_iconst (v := 0) hx hb dX7_pieces_9 (by decide) ?_
  refine lv_istore_n (lv' := [(2, .int 0), (1, .int 0), (0, .ref mo)]) hx hb dX7_pieces_10 rfl hl (by decide) rfl (fun ls hl => ?_)
  obtain ⟨q_2, hq_2⟩ : ∃ z, z = F_Model_pieces_L11 vs vlb 49 (0 : Int32) (0 : Int32) r_1 := ⟨_, rfl⟩
  rw [bnd_e hq_2] at hres
  have hexit11 : ∀ (H : Heap) (locs : List Loc) (ls : Array Slot), va_P (dC, dI) vwCl [(mo, .inr (7, [.ref ms, .ref mah, .ref mhi, .int vkp, .ref msl, .ref msv, .ref mpd, .int vln, .ref mlb])), (ms, .inl (cI, 246, .inl vs)), (mlb, .inl (cI, 48, .inl q_2.2.2))] H → va_D A [(mo, .inr (7, [.ref ms, .ref mah, .ref mhi, .int vkp, .ref msl, .ref msv, .ref mpd, .int vln, .ref mlb])), (ms, .inl (cI, 246, .inl vs)), (mlb, .inl (cI, 48, .inl q_2.2.2))] → va_S A s.heap H locs → lv_has ls 3 [(2, .int q_2.1), (1, .int q_2.2.1), (0, .ref mo)] → W p l e (headSpec wsX7_pieces ({ frames := 5, cells := 0, slots := 0, locals := 109 })).room s m ([.ref mo] : List Value).toArray below meth c H locs 0 0 (MQ below (va_Qi (fun r (_ : Unit) => r = res.1) (fun _ zt => va_P (dC, dI) vwCl [(mo, .inr (7, [.ref ms, .ref mah, .ref mhi, .int vkp, .ref msl, .ref msv, .ref mpd, .int vln, .ref mlb])), (ms, .inl (cI, 246, .inl vs)), (mlb, .inl (cI, 48, .inl res.2))] zt.heap) A) ([.ref mo] : List Value).toArray s 0 0 A) (F0 m 41 ls []) := by
    intro H locs ls  hP hD hS hl
    refine lv_iload_n hx hb dX7_pieces_41 rfl (lv_at hl 1 rfl) ?_
    subst hres
    exact W.iret (v := q_2.2.1) hx hb hr (fun t ht hW => ⟨⟨q_2.2.1, (), rfl, rfl, (by show va_P _ _ _ t.heap; rw [ht]; exact hP)⟩, hS.F ht⟩) hS.2.2 dX7_pieces_42
  have hloop11 : ∀ (n k11 : Nat) (x2 : Int32) (x1 : Int32) (w2f : Nat → Int32) (H : Heap) (locs : List Loc) (ls : Array Slot), k11 ≤ 48 → 48 - k11 < n → x2 = nI k11 → q_2 = F_Model_pieces_L11 vs vlb n x2 x1 w2f → va_P (dC, dI) vwCl [(mo, .inr (7, [.ref ms, .ref mah, .ref mhi, .int vkp, .ref msl, .ref msv, .ref mpd, .int vln, .ref mlb])), (ms, .inl (cI, 246, .inl vs)), (mlb, .inl (cI, 48, .inl w2f))] H → va_D A [(mo, .inr (7, [.ref ms, .ref mah, .ref mhi, .int vkp, .ref msl, .ref msv, .ref mpd, .int vln, .ref mlb])), (ms, .inl (cI, 246, .inl vs)), (mlb, .inl (cI, 48, .inl w2f))] → va_S A s.heap H locs → lv_has ls 3 [(2, .int x2), (1, .int x1), (0, .ref mo)] → W p l e (headSpec wsX7_pieces ({ frames := 5, cells := 0, slots := 0, locals := 109 })).room s m ([.ref mo] : List Value).toArray below meth c H locs 0 0 (MQ below (va_Qi (fun r (_ : Unit) => r = res.1) (fun _ zt => va_P (dC, dI) vwCl [(mo, .inr (7, [.ref ms, .ref mah, .ref mhi, .int vkp, .ref msl, .ref msv, .ref mpd, .int vln, .ref mlb])), (ms, .inl (cI, 246, .inl vs)), (mlb, .inl (cI, 48, .inl res.2))] zt.heap) A) ([.ref mo] : List Value).toArray s 0 0 A) (F0 m 11 ls []) := by
    intro n
    induction n with
    | zero => intro k11 x2 x1 w2f _ _ _ _ hm; exact absurd hm (Nat.not_lt_zero _)
    | succ n ih11 =>
      intro k11 x2 x1 w2f H locs ls hk11 hm11 ex11  hq_2 hP hD hS hl
      rw [F_Model_pieces_L11] at hq_2
      refine lv_iload_n hx hb dX7_pieces_11 rfl (lv_at hl 0 rfl) ?_
      refine lv_bipush (v := 48) hx hb dX7_pieces_12 (by decide) ?_
      refine lv_icmp_ge (tgt := 41) hx hb dX7_pieces_14 (by decide) (fun c_3 => ?_) (fun c_3 => ?_)
      · rw [if_pos c_3] at hq_2
        subst hq_2
        exact hexit11 _ _ _  hP hD hS (lv_sub hl [0, 1, 2] rfl)
      · rw [if_neg c_3] at hq_2
        have hlt_k11 : k11 < 48 := lp_lt rfl ex11 hk11 c_3
        refine lv_iload_n hx hb dX7_pieces_17 rfl (lv_at hl 1 rfl) ?_
        refine lv_aload_n hx hb dX7_pieces_18 rfl (lv_at hl 2 rfl) ?_
        refine va_get (D := (dC, dI)) (ci := 7) (v := .ref mlb) (C := RX7) (T := TX7) (N := 9) hx hb hts iX7_pieces_X7 hown hK hP 0 rfl rfl 8 (by decide) (hts (.fieldLink RX7 29 "TailorChalksModel" "label" "[I") kX7_pieces_29) (fun _ h9 => h9) rfl dX7_pieces_19 ?_
        refine lv_iload_n hx hb dX7_pieces_22 rfl (lv_at hl 0 rfl) ?_
        refine va_iald hx hb hK hP 2 0 rfl rfl (by rw [ex11]; exact vp_in_nI (by omega) (by decide)) dX7_pieces_23 ?_
        refine lv_iload_n hx hb dX7_pieces_24 rfl (lv_at hl 0 rfl) ?_
        refine lv_icmp_ne (tgt := 32) hx hb dX7_pieces_25 (by decide) (fun c_4 => ?_) (fun c_4 => ?_)
        · rw [if_neg c_4] at hq_2
          refine lv_iconst (v := 0) hx hb dX7_pieces_32 (by decide) ?_
          refine lv_iadd hx hb dX7_pieces_33 ?_
          refine lv_istore_n (lv' := [(1, .int (x1 + 0)), (2, .int x2), (0, .ref mo)]) hx hb dX7_pieces_34 rfl hl (by decide) rfl (fun ls hl => ?_)
          refine lv_iinc (v := (x2 + 1)) (lv' := [(2, .int (x2 + 1)), (1, .int (x1 + 0)), (0, .ref mo)]) hx hb dX7_pieces_35 hl (k := 1) rfl rfl (by decide) rfl (fun ls hl => ?_)
          refine lv_goto (tgt := 11) hx hb dX7_pieces_38 (by decide) ?_
          exact ih11 (k11 + 1) (x2 + 1) (x1 + 0) w2f _ _ _ (by omega) (by omega) (by rw [ex11]; exact nI_1 _)  hq_2 hP hD hS (lv_sub hl [0, 1, 2] rfl)
        · rw [if_pos c_4] at hq_2
          refine lv_iconst (v := 1) hx hb dX7_pieces_28 (by decide) ?_
          refine lv_goto (tgt := 33) hx hb dX7_pieces_29 (by decide) ?_
          refine lv_iadd hx hb dX7_pieces_33 ?_
          refine lv_istore_n (lv' := [(1, .int (x1 + 1)), (2, .int x2), (0, .ref mo)]) hx hb dX7_pieces_34 rfl hl (by decide) rfl (fun ls hl => ?_)
          refine lv_iinc (v := (x2 + 1)) (lv' := [(2, .int (x2 + 1)), (1, .int (x1 + 1)), (0, .ref mo)]) hx hb dX7_pieces_35 hl (k := 1) rfl rfl (by decide) rfl (fun ls hl => ?_)
          refine lv_goto (tgt := 11) hx hb dX7_pieces_38 (by decide) ?_
          exact ih11 (k11 + 1) (x2 + 1) (x1 + 1) w2f _ _ _ (by omega) (by omega) (by rw [ex11]; exact nI_1 _)  hq_2 hP hD hS (lv_sub hl [0, 1, 2] rfl)
  exact hloop11 49 0 (0 : Int32) (0 : Int32) r_1 _ _ _ (by omega) (by omega) nI_0.symm  hq_2 hP hD hS (lv_sub hl [0, 1, 2] rfl)
theorem iX7_winner_X7 : ∀ w ∈ u_ws RX7 TX7 9, w ∈ wsX7_winner := by decide +kernel
theorem kX7_winner_7 : Cond.fieldLink RX7 7 "TailorChalksModel" "s" "[I" ∈ wsX7_winner := by decide +kernel
def F_Model_winner (vs : Nat → Int32) : Int32 := (bnd (F_Model_at (0 : Int32) (0 : Int32)) (fun r_1 => (bnd (F_Model_at (1 : Int32) (0 : Int32)) (fun r_2 => (bnd (F_Model_isOver vs) (fun r_3 => (if r_3 = 0 then (-6) else (if ((vs r_1.toNatClampNeg) - (vs r_2.toNatClampNeg)) ≤ 0 then (if (0 : Int32) ≤ ((vs r_1.toNatClampNeg) - (vs r_2.toNatClampNeg)) then 2 else 1) else 0))))))))
set_option maxHeartbeats 4000000 in
set_option maxRecDepth 100000 in
theorem c_Model_winner (l : Launch) (dC : Nat → ClassId) (dI : Nat → Nat → Nat) (cI cC cG cZ : ClassId) (mo ms mah mhi msl msv mpd mlb : Nat) (vkp : Int32) (vln : Int32) (vs : Nat → Int32) (res : Int32) (hres : res = F_Model_winner vs) : Met l yX7_winner wsX7_winner ({ frames := 3, cells := 0, slots := 0, locals := 63 }) (va_Pc [.ref mo] (ro_P (dC, dI) vwCl (tyL cI cC cG cZ) [(mo, .inr (7, [.ref ms, .ref mah, .ref mhi, .int vkp, .ref msl, .ref msv, .ref mpd, .int vln, .ref mlb])), (ms, .inl (cI, 246, .inl vs))])) (va_Qi (fun r (_ : Unit) => r = res) (fun _ _ => True) ro_F) 0 0 ro_F := by
  refine Met.ofW (cc := cX7_winner) (maxL := 2) (ret := (some .int)) (by decide) rfl ?_
  intro p e s m args below meth c s₁ B hml hv
  obtain ⟨rfl, hP, hK⟩ := hv
  have hx := B.exec
  have hb := B.bytes
  have hr := B.returns
  have hts := atoms_spec (ws := wsX7_winner) B.pre
  have hown : s.vm.findClass RX7 = some m.cls := findClass_of_methodNamed B.named
  have hlocks := B.notSynchronized
  have hS : va_S ro_F s.heap s.heap [] := va_S.rf
  have hl := lv_entry ([.ref mo]) (n := 2) (Nat.le_of_ble_eq_true rfl)
  rw [lg_entry_eq]
  generalize (lg_sl ([.ref mo]) ++ List.replicate (2 - (lg_sl ([.ref mo])).length) Slot.unset).toArray = ls at hl ⊢
  have hl : lv_has ls 2 [(0, .ref mo)] := hl
  rw [F_Model_winner] at hres
  refine lv_aload_n hx hb dX7_winner_0 rfl (lv_at hl 0 rfl) ?_
  refine va_get (D := (dC, dI)) (ci := 7) (v := .ref ms) (C := RX7) (T := TX7) (N := 9) hx hb hts iX7_winner_X7 hown hK hP 0 rfl rfl 0 (by decide) (hts (.fieldLink RX7 7 "TailorChalksModel" "s" "[I") kX7_winner_7) (fun _ h9 => h9) rfl dX7_winner_1 ?_
  refine lv_iconst (v := 0) hx hb dX7_winner_4 (by decide) ?_
  refine lv_iconst (v := 0) hx hb dX7_winner_5 (by decide) ?_
  obtain ⟨r_1, hr_1⟩ : ∃ z, z = F_Model_at (0 : Int32) (0 : Int32) := ⟨_, rfl⟩
  rw [bnd_e hr_1] at hres
  refine ro_calli (va_runS (As := [.int 0, .int 0]) (rest := [.ref ms]) ⟨hx, hb, hml, hown, hts⟩ (c_Model_at l dC dI cI cC cG cZ  (0 : Int32) (0 : Int32)  r_1 hr_1) (va_cwS 2 hts gX7_winner_X7_at rfl rfl rfl (by decide +kernel) ⟨Nat.le_of_ble_eq_true rfl, Nat.le_of_ble_eq_true rfl⟩) (ro_preS (hP.sub (ws' := []) [] rfl) hK) rfl rfl hl.1 rfl (lv_room (Nat.le_of_ble_eq_true rfl)) dX7_winner_6 ⟨Nat.zero_le _, Nat.zero_le _⟩) hP hS (fun H locs hP hS => ?_)
  refine va_iald hx hb hK hP 1 0 rfl rfl (by rw [hr_1]; exact at_in p01_0 (by decide) (by decide)) dX7_winner_9 ?_
  refine lv_aload_n hx hb dX7_winner_10 rfl (lv_at hl 0 rfl) ?_
  refine va_get (D := (dC, dI)) (ci := 7) (v := .ref ms) (C := RX7) (T := TX7) (N := 9) hx hb hts iX7_winner_X7 hown hK hP 0 rfl rfl 0 (by decide) (hts (.fieldLink RX7 7 "TailorChalksModel" "s" "[I") kX7_winner_7) (fun _ h9 => h9) rfl dX7_winner_11 ?_
  refine lv_iconst (v := 1) hx hb dX7_winner_14 (by decide) ?_
  refine lv_iconst (v := 0) hx hb dX7_winner_15 (by decide) ?_
  obtain ⟨r_2, hr_2⟩ : ∃ z, z = F_Model_at (1 : Int32) (0 : Int32) := ⟨_, rfl⟩
  rw [bnd_e hr_2] at hres
  refine ro_calli (va_runS (As := [.int 1, .int 0]) (rest := [.ref ms, .int (vs r_1.toNatClampNeg)]) ⟨hx, hb, hml, hown, hts⟩ (c_Model_at l dC dI cI cC cG cZ  (1 : Int32) (0 : Int32)  r_2 hr_2) (va_cwS 2 hts gX7_winner_X7_at rfl rfl rfl (by decide +kernel) ⟨Nat.le_of_ble_eq_true rfl, Nat.le_of_ble_eq_true rfl⟩) (ro_preS (hP.sub (ws' := []) [] rfl) hK) rfl rfl hl.1 rfl (lv_room (Nat.le_of_ble_eq_true rfl)) dX7_winner_16 ⟨Nat.zero_le _, Nat.zero_le _⟩) hP hS (fun H locs hP hS => ?_)
  refine va_iald hx hb hK hP 1 0 rfl rfl (by rw [hr_2]; exact at_in p01_1 (by decide) (by decide)) dX7_winner_19 ?_
  refine lv_isub hx hb dX7_winner_20 ?_
  refine lv_istore_n (lv' := [(1, .int ((vs r_1.toNatClampNeg) - (vs r_2.toNatClampNeg))), (0, .ref mo)]) hx hb dX7_winner_21 rfl hl (by decide) rfl (fun ls hl => ?_)
  refine lv_aload_n hx hb dX7_winner_22 rfl (lv_at hl 1 rfl) ?_
  obtain ⟨r_3, hr_3⟩ : ∃ z, z = F_Model_isOver vs := ⟨_, rfl⟩
  rw [bnd_e hr_3] at hres
  refine ro_calli (va_runV (As := []) (rest := []) ⟨hx, hb, hml, hown, hts⟩ (c_Model_isOver l dC dI cI cC cG cZ mo ms mah mhi msl msv mpd mlb vkp vln vs  r_3 hr_3) (cwV 0 hts gX7_winner_X7_isOver rfl rfl rfl (by decide +kernel) ⟨Nat.le_of_ble_eq_true rfl, Nat.le_of_ble_eq_true rfl⟩) (ro_preV (hP.sub (ws' := [(mo, .inr (7, [.ref ms, .ref mah, .ref mhi, .int vkp, .ref msl, .ref msv, .ref mpd, .int vln, .ref mlb])), (ms, .inl (cI, 246, .inl vs))]) [0, 1] rfl) hK (ci := 7) (q0 := 0) rfl rfl) rfl rfl hl.1 rfl (lv_room (Nat.le_of_ble_eq_true rfl)) dX7_winner_23 ⟨Nat.zero_le _, Nat.zero_le _⟩) hP hS (fun H locs hP hS => ?_)
  refine lv_if_ne (tgt := 34) hx hb dX7_winner_26 (by decide) (fun c_4 => ?_) (fun c_4 => ?_)
  · rw [if_neg c_4] at hres
    refine lv_iload_n hx hb dX7_winner_34 rfl (lv_at hl 0 rfl) ?_
    refine lv_if_le (tgt := 42) hx hb dX7_winner_35 (by decide) (fun c_5 => ?_) (fun c_5 => ?_)
    · rw [if_pos c_5] at hres
      refine lv_iload_n hx hb dX7_winner_42 rfl (lv_at hl 0 rfl) ?_
      refine lv_if_ge (tgt := 50) hx hb dX7_winner_43 (by decide) (fun c_6 => ?_) (fun c_6 => ?_)
      · rw [if_pos c_6] at hres
        refine lv_iconst (v := 2) hx hb dX7_winner_50 (by decide) ?_
        exact W.iret (v := 2) hx hb hr (fun t ht hW => ⟨⟨2, (), rfl, hres.symm, trivial⟩, hS.F ht⟩) hS.2.2 dX7_winner_51
      · rw [if_neg c_6] at hres
        refine lv_iconst (v := 1) hx hb dX7_winner_46 (by decide) ?_
        refine lv_goto (tgt := 51) hx hb dX7_winner_47 (by decide) ?_
        exact W.iret (v := 1) hx hb hr (fun t ht hW => ⟨⟨1, (), rfl, hres.symm, trivial⟩, hS.F ht⟩) hS.2.2 dX7_winner_51
    · rw [if_neg c_5] at hres
      refine lv_iconst (v := 0) hx hb dX7_winner_38 (by decide) ?_
      refine lv_goto (tgt := 51) hx hb dX7_winner_39 (by decide) ?_
      exact W.iret (v := 0) hx hb hr (fun t ht hW => ⟨⟨0, (), rfl, hres.symm, trivial⟩, hS.F ht⟩) hS.2.2 dX7_winner_51
  · rw [if_pos c_4] at hres
    refine lv_bipush (v := (-6)) hx hb dX7_winner_29 (by decide) ?_
    refine lv_goto (tgt := 51) hx hb dX7_winner_31 (by decide) ?_
    exact W.iret (v := (-6)) hx hb hr (fun t ht hW => ⟨⟨(-6), (), rfl, hres.symm, trivial⟩, hS.F ht⟩) hS.2.2 dX7_winner_51
theorem iX7_count_X7 : ∀ w ∈ u_ws RX7 TX7 9, w ∈ wsX7_count := by decide +kernel
theorem kX7_count_153 : Cond.fieldLink RX7 153 "TailorChalksModel" "length" "I" ∈ wsX7_count := by decide +kernel
theorem kX7_count_54 : Cond.fieldLink RX7 54 "TailorChalksModel" "kept" "I" ∈ wsX7_count := by decide +kernel
theorem kX7_count_7 : Cond.fieldLink RX7 7 "TailorChalksModel" "s" "[I" ∈ wsX7_count := by decide +kernel
def F_Model_count (what : Int32) (vkp : Int32) (vln : Int32) (vs : Nat → Int32) (vlb : Nat → Int32) : Int32 × (Nat → Int32) := (if what = 0 then ((vs ((244 : Int32) + what).toNatClampNeg), vlb) else (if what = 1 then ((vs ((244 : Int32) + what).toNatClampNeg), vlb) else (if what = 2 then (bnd (F_Model_isOver vs) (fun r_4 => (if r_4 = 0 then (0, vlb) else (1, vlb)))) else (if what = 3 then (bnd (F_Model_winner vs) (fun r_7 => (r_7, vlb))) else (if what = 4 then (bnd (F_Model_left vs) (fun r_9 => (r_9, vlb))) else (if what = 5 then (bnd (F_Model_pieces vs vlb) (fun r_11 => (r_11.1, r_11.2))) else (if what = 6 then (bnd (F_Model_many (what - 5) vs) (fun r_13 => (r_13, vlb))) else (if what = 7 then (bnd (F_Model_many (what - 5) vs) (fun r_15 => (r_15, vlb))) else (if what = 8 then (bnd (F_Model_many (what - 5) vs) (fun r_17 => (r_17, vlb))) else (if what = 9 then (vln, vlb) else (if what = 10 then (vkp, vlb) else ((-2), vlb))))))))))))
set_option maxHeartbeats 4000000 in
set_option maxRecDepth 100000 in
theorem c_Model_count (l : Launch) (dC : Nat → ClassId) (dI : Nat → Nat → Nat) (cI cC cG cZ : ClassId) (mo ms mah mhi msl msv mpd mlb : Nat) (what : Int32) (vkp : Int32) (vln : Int32) (vs : Nat → Int32) (vlb : Nat → Int32) (res : Int32 × (Nat → Int32)) (hres : res = F_Model_count what vkp vln vs vlb) : Met l yX7_count wsX7_count ({ frames := 6, cells := 0, slots := 0, locals := 131 }) (va_Pc [.ref mo, .int what] (wr_P (dC, dI) vwCl (tyL cI cC cG cZ) [(mo, .inr (7, [.ref ms, .ref mah, .ref mhi, .int vkp, .ref msl, .ref msv, .ref mpd, .int vln, .ref mlb])), (ms, .inl (cI, 246, .inl vs)), (mlb, .inl (cI, 48, .inl vlb))])) (va_Qi (fun r (_ : Unit) => r = res.1) (fun _ zt => va_P (dC, dI) vwCl [(mo, .inr (7, [.ref ms, .ref mah, .ref mhi, .int vkp, .ref msl, .ref msv, .ref mpd, .int vln, .ref mlb])), (ms, .inl (cI, 246, .inl vs)), (mlb, .inl (cI, 48, .inl res.2))] zt.heap) (wr_A [(mo, .inr (7, [.ref ms, .ref mah, .ref mhi, .int vkp, .ref msl, .ref msv, .ref mpd, .int vln, .ref mlb])), (ms, .inl (cI, 246, .inl vs)), (mlb, .inl (cI, 48, .inl vlb))])) 0 0 (wr_A [(mo, .inr (7, [.ref ms, .ref mah, .ref mhi, .int vkp, .ref msl, .ref msv, .ref mpd, .int vln, .ref mlb])), (ms, .inl (cI, 246, .inl vs)), (mlb, .inl (cI, 48, .inl vlb))]) := by
  refine Met.ofW (cc := cX7_count) (maxL := 2) (ret := (some .int)) (by decide) rfl ?_
  intro p e s m args below meth c s₁ B hml hv
  obtain ⟨rfl, hP, hK, hD0⟩ := hv
  have hx := B.exec
  have hb := B.bytes
  have hr := B.returns
  have hts := atoms_spec (ws := wsX7_count) B.pre
  have hown : s.vm.findClass RX7 = some m.cls := findClass_of_methodNamed B.named
  have hlocks := B.notSynchronized
  have hD := wr_self hD0
  generalize hAe : wr_A [(mo, .inr (7, [.ref ms, .ref mah, .ref mhi, .int vkp, .ref msl, .ref msv, .ref mpd, .int vln, .ref mlb])), (ms, .inl (cI, 246, .inl vs)), (mlb, .inl (cI, 48, .inl vlb))] = A at hD ⊢
  have hS : va_S A s.heap s.heap [] := va_S.rf
  have hP : va_P (dC, dI) vwCl [(mo, .inr (7, [.ref ms, .ref mah, .ref mhi, .int vkp, .ref msl, .ref msv, .ref mpd, .int vln, .ref mlb])), (ms, .inl (cI, 246, .inl vs)), (mlb, .inl (cI, 48, .inl vlb))] s.heap := hP
  have hl := lv_entry ([.ref mo, .int what]) (n := 2) (Nat.le_of_ble_eq_true rfl)
  rw [lg_entry_eq]
  generalize (lg_sl ([.ref mo, .int what]) ++ List.replicate (2 - (lg_sl ([.ref mo, .int what])).length) Slot.unset).toArray = ls at hl ⊢
  have hl : lv_has ls 2 [(0, .ref mo), (1, .int what)] := hl
  rw [F_Model_count] at hres
  refine lv_iload_n hx hb dX7_count_0 rfl (lv_at hl 1 rfl) ?_
  by_cases c_1 : what = 0
  · rw [if_pos c_1] at hres
    refine lv_tableIn (off := 59) (tgt := 60) hx hb dX7_count_1 (by rw [c_1]; decide) (by rw [c_1]; decide) (by rw [c_1]; rfl) (by decide) ?_
    refine lv_aload_n hx hb dX7_count_60 rfl (lv_at hl 0 rfl) ?_
    refine va_get (D := (dC, dI)) (ci := 7) (v := .ref ms) (C := RX7) (T := TX7) (N := 9) hx hb hts iX7_count_X7 hown hK hP 0 rfl rfl 0 (by decide) (hts (.fieldLink RX7 7 "TailorChalksModel" "s" "[I") kX7_count_7) (fun _ h9 => h9) rfl dX7_count_61 ?_
    refine lv_sipush (v := 244) hx hb dX7_count_64 (by decide) ?_
    refine lv_iload_n hx hb dX7_count_67 rfl (lv_at hl 1 rfl) ?_
    refine lv_iadd hx hb dX7_count_68 ?_
    refine va_iald hx hb hK hP 1 0 rfl rfl (by rw [c_1]; exact vp_in_iff.mpr (by decide +kernel)) dX7_count_69 ?_
    subst hres
    exact W.iret (v := (vs ((244 : Int32) + what).toNatClampNeg)) hx hb hr (fun t ht hW => ⟨⟨(vs ((244 : Int32) + what).toNatClampNeg), (), rfl, rfl, (by show va_P _ _ _ t.heap; rw [ht]; exact hP)⟩, hS.F ht⟩) hS.2.2 dX7_count_70
  · rw [if_neg c_1] at hres
    by_cases c_2 : what = 1
    · rw [if_pos c_2] at hres
      refine lv_tableIn (off := 59) (tgt := 60) hx hb dX7_count_1 (by rw [c_2]; decide) (by rw [c_2]; decide) (by rw [c_2]; rfl) (by decide) ?_
      refine lv_aload_n hx hb dX7_count_60 rfl (lv_at hl 0 rfl) ?_
      refine va_get (D := (dC, dI)) (ci := 7) (v := .ref ms) (C := RX7) (T := TX7) (N := 9) hx hb hts iX7_count_X7 hown hK hP 0 rfl rfl 0 (by decide) (hts (.fieldLink RX7 7 "TailorChalksModel" "s" "[I") kX7_count_7) (fun _ h9 => h9) rfl dX7_count_61 ?_
      refine lv_sipush (v := 244) hx hb dX7_count_64 (by decide) ?_
      refine lv_iload_n hx hb dX7_count_67 rfl (lv_at hl 1 rfl) ?_
      refine lv_iadd hx hb dX7_count_68 ?_
      refine va_iald hx hb hK hP 1 0 rfl rfl (by rw [c_2]; exact vp_in_iff.mpr (by decide +kernel)) dX7_count_69 ?_
      subst hres
      exact W.iret (v := (vs ((244 : Int32) + what).toNatClampNeg)) hx hb hr (fun t ht hW => ⟨⟨(vs ((244 : Int32) + what).toNatClampNeg), (), rfl, rfl, (by show va_P _ _ _ t.heap; rw [ht]; exact hP)⟩, hS.F ht⟩) hS.2.2 dX7_count_70
    · rw [if_neg c_2] at hres
      by_cases c_3 : what = 2
      · rw [if_pos c_3] at hres
        refine lv_tableIn (off := 70) (tgt := 71) hx hb dX7_count_1 (by rw [c_3]; decide) (by rw [c_3]; decide) (by rw [c_3]; rfl) (by decide) ?_
        refine lv_aload_n hx hb dX7_count_71 rfl (lv_at hl 0 rfl) ?_
        obtain ⟨r_4, hr_4⟩ : ∃ z, z = F_Model_isOver vs := ⟨_, rfl⟩
        rw [bnd_e hr_4] at hres
        refine ro_calli (va_runV (As := []) (rest := []) ⟨hx, hb, hml, hown, hts⟩ (c_Model_isOver l dC dI cI cC cG cZ mo ms mah mhi msl msv mpd mlb vkp vln vs  r_4 hr_4) (cwV 0 hts gX7_count_X7_isOver rfl rfl rfl (by decide +kernel) ⟨Nat.le_of_ble_eq_true rfl, Nat.le_of_ble_eq_true rfl⟩) (ro_preV (hP.sub (ws' := [(mo, .inr (7, [.ref ms, .ref mah, .ref mhi, .int vkp, .ref msl, .ref msv, .ref mpd, .int vln, .ref mlb])), (ms, .inl (cI, 246, .inl vs))]) [0, 1] rfl) hK (ci := 7) (q0 := 0) rfl rfl) rfl rfl hl.1 rfl (lv_room (Nat.le_of_ble_eq_true rfl)) dX7_count_72 ⟨Nat.zero_le _, Nat.zero_le _⟩) hP hS (fun H locs hP hS => ?_)
        refine lv_if_eq (tgt := 82) hx hb dX7_count_75 (by decide) (fun c_5 => ?_) (fun c_5 => ?_)
        · rw [if_pos c_5] at hres
          refine lv_iconst (v := 0) hx hb dX7_count_82 (by decide) ?_
          subst hres
          exact W.iret (v := 0) hx hb hr (fun t ht hW => ⟨⟨0, (), rfl, rfl, (by show va_P _ _ _ t.heap; rw [ht]; exact hP)⟩, hS.F ht⟩) hS.2.2 dX7_count_83
        · rw [if_neg c_5] at hres
          refine lv_iconst (v := 1) hx hb dX7_count_78 (by decide) ?_
          refine lv_goto (tgt := 83) hx hb dX7_count_79 (by decide) ?_
          subst hres
          exact W.iret (v := 1) hx hb hr (fun t ht hW => ⟨⟨1, (), rfl, rfl, (by show va_P _ _ _ t.heap; rw [ht]; exact hP)⟩, hS.F ht⟩) hS.2.2 dX7_count_83
      · rw [if_neg c_3] at hres
        by_cases c_6 : what = 3
        · rw [if_pos c_6] at hres
          refine lv_tableIn (off := 83) (tgt := 84) hx hb dX7_count_1 (by rw [c_6]; decide) (by rw [c_6]; decide) (by rw [c_6]; rfl) (by decide) ?_
          refine lv_aload_n hx hb dX7_count_84 rfl (lv_at hl 0 rfl) ?_
          obtain ⟨r_7, hr_7⟩ : ∃ z, z = F_Model_winner vs := ⟨_, rfl⟩
          rw [bnd_e hr_7] at hres
          refine ro_calli (va_runV (As := []) (rest := []) ⟨hx, hb, hml, hown, hts⟩ (c_Model_winner l dC dI cI cC cG cZ mo ms mah mhi msl msv mpd mlb vkp vln vs  r_7 hr_7) (cwV 0 hts gX7_count_X7_winner rfl rfl rfl (by decide +kernel) ⟨Nat.le_of_ble_eq_true rfl, Nat.le_of_ble_eq_true rfl⟩) (ro_preV (hP.sub (ws' := [(mo, .inr (7, [.ref ms, .ref mah, .ref mhi, .int vkp, .ref msl, .ref msv, .ref mpd, .int vln, .ref mlb])), (ms, .inl (cI, 246, .inl vs))]) [0, 1] rfl) hK (ci := 7) (q0 := 0) rfl rfl) rfl rfl hl.1 rfl (lv_room (Nat.le_of_ble_eq_true rfl)) dX7_count_85 ⟨Nat.zero_le _, Nat.zero_le _⟩) hP hS (fun H locs hP hS => ?_)
          subst hres
          exact W.iret (v := r_7) hx hb hr (fun t ht hW => ⟨⟨r_7, (), rfl, rfl, (by show va_P _ _ _ t.heap; rw [ht]; exact hP)⟩, hS.F ht⟩) hS.2.2 dX7_count_88
        · rw [if_neg c_6] at hres
          by_cases c_8 : what = 4
          · rw [if_pos c_8] at hres
            refine lv_tableIn (off := 88) (tgt := 89) hx hb dX7_count_1 (by rw [c_8]; decide) (by rw [c_8]; decide) (by rw [c_8]; rfl) (by decide) ?_
            refine lv_aload_n hx hb dX7_count_89 rfl (lv_at hl 0 rfl) ?_
            obtain ⟨r_9, hr_9⟩ : ∃ z, z = F_Model_left vs := ⟨_, rfl⟩
            rw [bnd_e hr_9] at hres
            refine ro_calli (va_runV (As := []) (rest := []) ⟨hx, hb, hml, hown, hts⟩ (c_Model_left l dC dI cI cC cG cZ mo ms mah mhi msl msv mpd mlb vkp vln vs  r_9 hr_9) (cwV 0 hts gX7_count_X7_left rfl rfl rfl (by decide +kernel) ⟨Nat.le_of_ble_eq_true rfl, Nat.le_of_ble_eq_true rfl⟩) (ro_preV (hP.sub (ws' := [(mo, .inr (7, [.ref ms, .ref mah, .ref mhi, .int vkp, .ref msl, .ref msv, .ref mpd, .int vln, .ref mlb])), (ms, .inl (cI, 246, .inl vs))]) [0, 1] rfl) hK (ci := 7) (q0 := 0) rfl rfl) rfl rfl hl.1 rfl (lv_room (Nat.le_of_ble_eq_true rfl)) dX7_count_90 ⟨Nat.zero_le _, Nat.zero_le _⟩) hP hS (fun H locs hP hS => ?_)
            subst hres
            exact W.iret (v := r_9) hx hb hr (fun t ht hW => ⟨⟨r_9, (), rfl, rfl, (by show va_P _ _ _ t.heap; rw [ht]; exact hP)⟩, hS.F ht⟩) hS.2.2 dX7_count_93
          · rw [if_neg c_8] at hres
            by_cases c_10 : what = 5
            · rw [if_pos c_10] at hres
              refine lv_tableIn (off := 93) (tgt := 94) hx hb dX7_count_1 (by rw [c_10]; decide) (by rw [c_10]; decide) (by rw [c_10]; rfl) (by decide) ?_
              refine lv_aload_n hx hb dX7_count_94 rfl (lv_at hl 0 rfl) ?_
              obtain ⟨r_11, hr_11⟩ : ∃ z, z = F_Model_pieces vs vlb := ⟨_, rfl⟩
              rw [bnd_e hr_11] at hres
              refine wr_calli (w1 := [(mo, .inr (7, [.ref ms, .ref mah, .ref mhi, .int vkp, .ref msl, .ref msv, .ref mpd, .int vln, .ref mlb])), (ms, .inl (cI, 246, .inl vs)), (mlb, .inl (cI, 48, .inl r_11.2))]) (is := [0, 1, 2]) (va_runV (As := []) (rest := []) ⟨hx, hb, hml, hown, hts⟩ (c_Model_pieces l dC dI cI cC cG cZ mo ms mah mhi msl msv mpd mlb vkp vln vs vlb  r_11 hr_11) (cwV 0 hts gX7_count_X7_pieces rfl rfl rfl (by decide +kernel) ⟨Nat.le_of_ble_eq_true rfl, Nat.le_of_ble_eq_true rfl⟩) (wr_preV (hP.sub (ws' := [(mo, .inr (7, [.ref ms, .ref mah, .ref mhi, .int vkp, .ref msl, .ref msv, .ref mpd, .int vln, .ref mlb])), (ms, .inl (cI, 246, .inl vs)), (mlb, .inl (cI, 48, .inl vlb))]) [0, 1, 2] rfl) hK (hD.sub (ws' := [(mo, .inr (7, [.ref ms, .ref mah, .ref mhi, .int vkp, .ref msl, .ref msv, .ref mpd, .int vln, .ref mlb])), (ms, .inl (cI, 246, .inl vs)), (mlb, .inl (cI, 48, .inl vlb))]) [0, 1, 2] (by decide) rfl) (ci := 7) (q0 := 0) rfl rfl) rfl rfl hl.1 rfl (lv_room (Nat.le_of_ble_eq_true rfl)) dX7_count_95 ⟨Nat.zero_le _, Nat.zero_le _⟩) hP hD hS rfl rfl rfl (fun H locs hP hD hS => ?_)
              have hP : va_P (dC, dI) vwCl [(mo, .inr (7, [.ref ms, .ref mah, .ref mhi, .int vkp, .ref msl, .ref msv, .ref mpd, .int vln, .ref mlb])), (ms, .inl (cI, 246, .inl vs)), (mlb, .inl (cI, 48, .inl r_11.2))] H := hP
              have hD : va_D A [(mo, .inr (7, [.ref ms, .ref mah, .ref mhi, .int vkp, .ref msl, .ref msv, .ref mpd, .int vln, .ref mlb])), (ms, .inl (cI, 246, .inl vs)), (mlb, .inl (cI, 48, .inl r_11.2))] := hD
              subst hres
              exact W.iret (v := r_11.1) hx hb hr (fun t ht hW => ⟨⟨r_11.1, (), rfl, rfl, (by show va_P _ _ _ t.heap; rw [ht]; exact hP)⟩, hS.F ht⟩) hS.2.2 dX7_count_98
            · rw [if_neg c_10] at hres
              by_cases c_12 : what = 6
              · rw [if_pos c_12] at hres
                refine lv_tableIn (off := 98) (tgt := 99) hx hb dX7_count_1 (by rw [c_12]; decide) (by rw [c_12]; decide) (by rw [c_12]; rfl) (by decide) ?_
                refine lv_aload_n hx hb dX7_count_99 rfl (lv_at hl 0 rfl) ?_
                refine lv_iload_n hx hb dX7_count_100 rfl (lv_at hl 1 rfl) ?_
                refine lv_iconst (v := 5) hx hb dX7_count_101 (by decide) ?_
                refine lv_isub hx hb dX7_count_102 ?_
                obtain ⟨r_13, hr_13⟩ : ∃ z, z = F_Model_many (what - 5) vs := ⟨_, rfl⟩
                rw [bnd_e hr_13] at hres
                refine ro_calli (va_runV (As := [.int (what - 5)]) (rest := []) ⟨hx, hb, hml, hown, hts⟩ (c_Model_many l dC dI cI cC cG cZ mo ms mah mhi msl msv mpd mlb (what - 5) vkp vln vs  r_13 hr_13) (cwV 1 hts gX7_count_X7_many rfl rfl rfl (by decide +kernel) ⟨Nat.le_of_ble_eq_true rfl, Nat.le_of_ble_eq_true rfl⟩) (ro_preV (hP.sub (ws' := [(mo, .inr (7, [.ref ms, .ref mah, .ref mhi, .int vkp, .ref msl, .ref msv, .ref mpd, .int vln, .ref mlb])), (ms, .inl (cI, 246, .inl vs))]) [0, 1] rfl) hK (ci := 7) (q0 := 0) rfl rfl) rfl rfl hl.1 rfl (lv_room (Nat.le_of_ble_eq_true rfl)) dX7_count_103 ⟨Nat.zero_le _, Nat.zero_le _⟩) hP hS (fun H locs hP hS => ?_)
                subst hres
                exact W.iret (v := r_13) hx hb hr (fun t ht hW => ⟨⟨r_13, (), rfl, rfl, (by show va_P _ _ _ t.heap; rw [ht]; exact hP)⟩, hS.F ht⟩) hS.2.2 dX7_count_106
              · rw [if_neg c_12] at hres
                by_cases c_14 : what = 7
                · rw [if_pos c_14] at hres
                  refine lv_tableIn (off := 98) (tgt := 99) hx hb dX7_count_1 (by rw [c_14]; decide) (by rw [c_14]; decide) (by rw [c_14]; rfl) (by decide) ?_
                  refine lv_aload_n hx hb dX7_count_99 rfl (lv_at hl 0 rfl) ?_
                  refine lv_iload_n hx hb dX7_count_100 rfl (lv_at hl 1 rfl) ?_
                  refine lv_iconst (v := 5) hx hb dX7_count_101 (by decide) ?_
                  refine lv_isub hx hb dX7_count_102 ?_
                  obtain ⟨r_15, hr_15⟩ : ∃ z, z = F_Model_many (what - 5) vs := ⟨_, rfl⟩
                  rw [bnd_e hr_15] at hres
                  refine ro_calli (va_runV (As := [.int (what - 5)]) (rest := []) ⟨hx, hb, hml, hown, hts⟩ (c_Model_many l dC dI cI cC cG cZ mo ms mah mhi msl msv mpd mlb (what - 5) vkp vln vs  r_15 hr_15) (cwV 1 hts gX7_count_X7_many rfl rfl rfl (by decide +kernel) ⟨Nat.le_of_ble_eq_true rfl, Nat.le_of_ble_eq_true rfl⟩) (ro_preV (hP.sub (ws' := [(mo, .inr (7, [.ref ms, .ref mah, .ref mhi, .int vkp, .ref msl, .ref msv, .ref mpd, .int vln, .ref mlb])), (ms, .inl (cI, 246, .inl vs))]) [0, 1] rfl) hK (ci := 7) (q0 := 0) rfl rfl) rfl rfl hl.1 rfl (lv_room (Nat.le_of_ble_eq_true rfl)) dX7_count_103 ⟨Nat.zero_le _, Nat.zero_le _⟩) hP hS (fun H locs hP hS => ?_)
                  subst hres
                  exact W.iret (v := r_15) hx hb hr (fun t ht hW => ⟨⟨r_15, (), rfl, rfl, (by show va_P _ _ _ t.heap; rw [ht]; exact hP)⟩, hS.F ht⟩) hS.2.2 dX7_count_106
                · rw [if_neg c_14] at hres
                  by_cases c_16 : what = 8
                  · rw [if_pos c_16] at hres
                    refine lv_tableIn (off := 98) (tgt := 99) hx hb dX7_count_1 (by rw [c_16]; decide) (by rw [c_16]; decide) (by rw [c_16]; rfl) (by decide) ?_
                    refine lv_aload_n hx hb dX7_count_99 rfl (lv_at hl 0 rfl) ?_
                    refine lv_iload_n hx hb dX7_count_100 rfl (lv_at hl 1 rfl) ?_
                    refine lv_iconst (v := 5) hx hb dX7_count_101 (by decide) ?_
                    refine lv_isub hx hb dX7_count_102 ?_
                    obtain ⟨r_17, hr_17⟩ : ∃ z, z = F_Model_many (what - 5) vs := ⟨_, rfl⟩
                    rw [bnd_e hr_17] at hres
                    refine ro_calli (va_runV (As := [.int (what - 5)]) (rest := []) ⟨hx, hb, hml, hown, hts⟩ (c_Model_many l dC dI cI cC cG cZ mo ms mah mhi msl msv mpd mlb (what - 5) vkp vln vs  r_17 hr_17) (cwV 1 hts gX7_count_X7_many rfl rfl rfl (by decide +kernel) ⟨Nat.le_of_ble_eq_true rfl, Nat.le_of_ble_eq_true rfl⟩) (ro_preV (hP.sub (ws' := [(mo, .inr (7, [.ref ms, .ref mah, .ref mhi, .int vkp, .ref msl, .ref msv, .ref mpd, .int vln, .ref mlb])), (ms, .inl (cI, 246, .inl vs))]) [0, 1] rfl) hK (ci := 7) (q0 := 0) rfl rfl) rfl rfl hl.1 rfl (lv_room (Nat.le_of_ble_eq_true rfl)) dX7_count_103 ⟨Nat.zero_le _, Nat.zero_le _⟩) hP hS (fun H locs hP hS => ?_)
                    subst hres
                    exact W.iret (v := r_17) hx hb hr (fun t ht hW => ⟨⟨r_17, (), rfl, rfl, (by show va_P _ _ _ t.heap; rw [ht]; exact hP)⟩, hS.F ht⟩) hS.2.2 dX7_count_106
                  · rw [if_neg c_16] at hres
                    by_cases c_18 : what = 9
                    · rw [if_pos c_18] at hres
                      refine lv_tableIn (off := 106) (tgt := 107) hx hb dX7_count_1 (by rw [c_18]; decide) (by rw [c_18]; decide) (by rw [c_18]; rfl) (by decide) ?_
                      refine lv_aload_n hx hb dX7_count_107 rfl (lv_at hl 0 rfl) ?_
                      refine va_get (D := (dC, dI)) (ci := 7) (v := .int vln) (C := RX7) (T := TX7) (N := 9) hx hb hts iX7_count_X7 hown hK hP 0 rfl rfl 7 (by decide) (hts (.fieldLink RX7 153 "TailorChalksModel" "length" "I") kX7_count_153) (fun _ h9 => h9) rfl dX7_count_108 ?_
                      subst hres
                      exact W.iret (v := vln) hx hb hr (fun t ht hW => ⟨⟨vln, (), rfl, rfl, (by show va_P _ _ _ t.heap; rw [ht]; exact hP)⟩, hS.F ht⟩) hS.2.2 dX7_count_111
                    · rw [if_neg c_18] at hres
                      by_cases c_19 : what = 10
                      · rw [if_pos c_19] at hres
                        refine lv_tableIn (off := 111) (tgt := 112) hx hb dX7_count_1 (by rw [c_19]; decide) (by rw [c_19]; decide) (by rw [c_19]; rfl) (by decide) ?_
                        refine lv_aload_n hx hb dX7_count_112 rfl (lv_at hl 0 rfl) ?_
                        refine va_get (D := (dC, dI)) (ci := 7) (v := .int vkp) (C := RX7) (T := TX7) (N := 9) hx hb hts iX7_count_X7 hown hK hP 0 rfl rfl 3 (by decide) (hts (.fieldLink RX7 54 "TailorChalksModel" "kept" "I") kX7_count_54) (fun _ h9 => h9) rfl dX7_count_113 ?_
                        subst hres
                        exact W.iret (v := vkp) hx hb hr (fun t ht hW => ⟨⟨vkp, (), rfl, rfl, (by show va_P _ _ _ t.heap; rw [ht]; exact hP)⟩, hS.F ht⟩) hS.2.2 dX7_count_116
                      · rw [if_neg c_19] at hres
                        refine lv_tableOut (tgt := 117) hx hb dX7_count_1 (by have o_20_0 := lv_neT (a := 0) c_1 rfl; have o_20_1 := lv_neT (a := 1) c_2 rfl; have o_20_2 := lv_neT (a := 2) c_3 rfl; have o_20_3 := lv_neT (a := 3) c_6 rfl; have o_20_4 := lv_neT (a := 4) c_8 rfl; have o_20_5 := lv_neT (a := 5) c_10 rfl; have o_20_6 := lv_neT (a := 6) c_12 rfl; have o_20_7 := lv_neT (a := 7) c_14 rfl; have o_20_8 := lv_neT (a := 8) c_16 rfl; have o_20_9 := lv_neT (a := 9) c_18 rfl; have o_20_10 := lv_neT (a := 10) c_19 rfl; omega) (by decide) ?_
                        refine lv_bipush (v := (-2)) hx hb dX7_count_117 (by decide) ?_
                        subst hres
                        exact W.iret (v := (-2)) hx hb hr (fun t ht hW => ⟨⟨(-2), (), rfl, rfl, (by show va_P _ _ _ t.heap; rw [ht]; exact hP)⟩, hS.F ht⟩) hS.2.2 dX7_count_119
def F_Model_why (joint : Int32) (vs : Nat → Int32) : Int32 := (bnd (F_Model_isJoint joint) (fun r_1 => (if r_1 = 0 then (-1) else (bnd (F_Model_reason joint vs) (fun r_3 => r_3)))))
set_option maxHeartbeats 4000000 in
set_option maxRecDepth 100000 in
theorem c_Model_why (l : Launch) (dC : Nat → ClassId) (dI : Nat → Nat → Nat) (cI cC cG cZ : ClassId) (mo ms mah mhi msl msv mpd mlb : Nat) (joint : Int32) (vkp : Int32) (vln : Int32) (vs : Nat → Int32) (res : Int32) (hres : res = F_Model_why joint vs) : Met l yX7_why wsX7_why ({ frames := 4, cells := 0, slots := 0, locals := 84 }) (va_Pc [.ref mo, .int joint] (ro_P (dC, dI) vwCl (tyL cI cC cG cZ) [(mo, .inr (7, [.ref ms, .ref mah, .ref mhi, .int vkp, .ref msl, .ref msv, .ref mpd, .int vln, .ref mlb])), (ms, .inl (cI, 246, .inl vs))])) (va_Qi (fun r (_ : Unit) => r = res) (fun _ _ => True) ro_F) 0 0 ro_F := by
  refine Met.ofW (cc := cX7_why) (maxL := 2) (ret := (some .int)) (by decide) rfl ?_
  intro p e s m args below meth c s₁ B hml hv
  obtain ⟨rfl, hP, hK⟩ := hv
  have hx := B.exec
  have hb := B.bytes
  have hr := B.returns
  have hts := atoms_spec (ws := wsX7_why) B.pre
  have hown : s.vm.findClass RX7 = some m.cls := findClass_of_methodNamed B.named
  have hlocks := B.notSynchronized
  have hS : va_S ro_F s.heap s.heap [] := va_S.rf
  have hl := lv_entry ([.ref mo, .int joint]) (n := 2) (Nat.le_of_ble_eq_true rfl)
  rw [lg_entry_eq]
  generalize (lg_sl ([.ref mo, .int joint]) ++ List.replicate (2 - (lg_sl ([.ref mo, .int joint])).length) Slot.unset).toArray = ls at hl ⊢
  have hl : lv_has ls 2 [(0, .ref mo), (1, .int joint)] := hl
  rw [F_Model_why] at hres
  refine lv_iload_n hx hb dX7_why_0 rfl (lv_at hl 1 rfl) ?_
  obtain ⟨r_1, hr_1⟩ : ∃ z, z = F_Model_isJoint joint := ⟨_, rfl⟩
  rw [bnd_e hr_1] at hres
  refine ro_calli (va_runS (As := [.int joint]) (rest := []) ⟨hx, hb, hml, hown, hts⟩ (c_Model_isJoint l dC dI cI cC cG cZ  joint  r_1 hr_1) (va_cwS 1 hts gX7_why_X7_isJoint rfl rfl rfl (by decide +kernel) ⟨Nat.le_of_ble_eq_true rfl, Nat.le_of_ble_eq_true rfl⟩) (ro_preS (hP.sub (ws' := []) [] rfl) hK) rfl rfl hl.1 rfl (lv_room (Nat.le_of_ble_eq_true rfl)) dX7_why_1 ⟨Nat.zero_le _, Nat.zero_le _⟩) hP hS (fun H locs hP hS => ?_)
  refine lv_if_eq (tgt := 15) hx hb dX7_why_4 (by decide) (fun c_2 => ?_) (fun c_2 => ?_)
  · rw [if_pos c_2] at hres
    refine lv_iconst (v := (-1)) hx hb dX7_why_15 (by decide) ?_
    exact W.iret (v := (-1)) hx hb hr (fun t ht hW => ⟨⟨(-1), (), rfl, hres.symm, trivial⟩, hS.F ht⟩) hS.2.2 dX7_why_16
  · rw [if_neg c_2] at hres
    refine lv_aload_n hx hb dX7_why_7 rfl (lv_at hl 0 rfl) ?_
    refine lv_iload_n hx hb dX7_why_8 rfl (lv_at hl 1 rfl) ?_
    obtain ⟨r_3, hr_3⟩ : ∃ z, z = F_Model_reason joint vs := ⟨_, rfl⟩
    rw [bnd_e hr_3] at hres
    refine ro_calli (va_runV (As := [.int joint]) (rest := []) ⟨hx, hb, hml, hown, hts⟩ (c_Model_reason l dC dI cI cC cG cZ mo ms mah mhi msl msv mpd mlb joint vkp vln vs (mjt_in (by rw [← hr_1]; exact c_2)) r_3 hr_3) (cwV 1 hts gX7_why_X7_reason rfl rfl rfl (by decide +kernel) ⟨Nat.le_of_ble_eq_true rfl, Nat.le_of_ble_eq_true rfl⟩) (ro_preV (hP.sub (ws' := [(mo, .inr (7, [.ref ms, .ref mah, .ref mhi, .int vkp, .ref msl, .ref msv, .ref mpd, .int vln, .ref mlb])), (ms, .inl (cI, 246, .inl vs))]) [0, 1] rfl) hK (ci := 7) (q0 := 0) rfl rfl) rfl rfl hl.1 rfl (lv_room (Nat.le_of_ble_eq_true rfl)) dX7_why_9 ⟨Nat.zero_le _, Nat.zero_le _⟩) hP hS (fun H locs hP hS => ?_)
    refine lv_goto (tgt := 16) hx hb dX7_why_12 (by decide) ?_
    exact W.iret (v := r_3) hx hb hr (fun t ht hW => ⟨⟨r_3, (), rfl, hres.symm, trivial⟩, hS.F ht⟩) hS.2.2 dX7_why_16
def F_Model_ifSnipped (joint : Int32) (vs : Nat → Int32) (vlb : Nat → Int32) : Int32 × (Nat → Int32) := (bnd (F_Model_isJoint joint) (fun r_1 => (if r_1 = 0 then ((-1), vlb) else (bnd (F_Model_reason joint vs) (fun r_3 => (if r_3 ≤ 0 then (bnd (F_Model_cellsBy joint vs vlb) (fun r_5 => (r_5.1, r_5.2))) else ((-5), vlb)))))))
set_option maxHeartbeats 4000000 in
set_option maxRecDepth 100000 in
theorem c_Model_ifSnipped (l : Launch) (dC : Nat → ClassId) (dI : Nat → Nat → Nat) (cI cC cG cZ : ClassId) (mo ms mah mhi msl msv mpd mlb : Nat) (joint : Int32) (vkp : Int32) (vln : Int32) (vs : Nat → Int32) (vlb : Nat → Int32) (res : Int32 × (Nat → Int32)) (hres : res = F_Model_ifSnipped joint vs vlb) : Met l yX7_ifSnipped wsX7_ifSnipped ({ frames := 7, cells := 0, slots := 0, locals := 155 }) (va_Pc [.ref mo, .int joint] (wr_P (dC, dI) vwCl (tyL cI cC cG cZ) [(mo, .inr (7, [.ref ms, .ref mah, .ref mhi, .int vkp, .ref msl, .ref msv, .ref mpd, .int vln, .ref mlb])), (ms, .inl (cI, 246, .inl vs)), (mlb, .inl (cI, 48, .inl vlb))])) (va_Qi (fun r (_ : Unit) => r = res.1) (fun _ zt => va_P (dC, dI) vwCl [(mo, .inr (7, [.ref ms, .ref mah, .ref mhi, .int vkp, .ref msl, .ref msv, .ref mpd, .int vln, .ref mlb])), (ms, .inl (cI, 246, .inl vs)), (mlb, .inl (cI, 48, .inl res.2))] zt.heap) (wr_A [(mo, .inr (7, [.ref ms, .ref mah, .ref mhi, .int vkp, .ref msl, .ref msv, .ref mpd, .int vln, .ref mlb])), (ms, .inl (cI, 246, .inl vs)), (mlb, .inl (cI, 48, .inl vlb))])) 0 0 (wr_A [(mo, .inr (7, [.ref ms, .ref mah, .ref mhi, .int vkp, .ref msl, .ref msv, .ref mpd, .int vln, .ref mlb])), (ms, .inl (cI, 246, .inl vs)), (mlb, .inl (cI, 48, .inl vlb))]) := by
  refine Met.ofW (cc := cX7_ifSnipped) (maxL := 2) (ret := (some .int)) (by decide) rfl ?_
  intro p e s m args below meth c s₁ B hml hv
  obtain ⟨rfl, hP, hK, hD0⟩ := hv
  have hx := B.exec
  have hb := B.bytes
  have hr := B.returns
  have hts := atoms_spec (ws := wsX7_ifSnipped) B.pre
  have hown : s.vm.findClass RX7 = some m.cls := findClass_of_methodNamed B.named
  have hlocks := B.notSynchronized
  have hD := wr_self hD0
  generalize hAe : wr_A [(mo, .inr (7, [.ref ms, .ref mah, .ref mhi, .int vkp, .ref msl, .ref msv, .ref mpd, .int vln, .ref mlb])), (ms, .inl (cI, 246, .inl vs)), (mlb, .inl (cI, 48, .inl vlb))] = A at hD ⊢
  have hS : va_S A s.heap s.heap [] := va_S.rf
  have hP : va_P (dC, dI) vwCl [(mo, .inr (7, [.ref ms, .ref mah, .ref mhi, .int vkp, .ref msl, .ref msv, .ref mpd, .int vln, .ref mlb])), (ms, .inl (cI, 246, .inl vs)), (mlb, .inl (cI, 48, .inl vlb))] s.heap := hP
  have hl := lv_entry ([.ref mo, .int joint]) (n := 2) (Nat.le_of_ble_eq_true rfl)
  rw [lg_entry_eq]
  generalize (lg_sl ([.ref mo, .int joint]) ++ List.replicate (2 - (lg_sl ([.ref mo, .int joint])).length) Slot.unset).toArray = ls at hl ⊢
  have hl : lv_has ls 2 [(0, .ref mo), (1, .int joint)] := hl
  rw [F_Model_ifSnipped] at hres
  refine lv_iload_n hx hb dX7_ifSnipped_0 rfl (lv_at hl 1 rfl) ?_
  obtain ⟨r_1, hr_1⟩ : ∃ z, z = F_Model_isJoint joint := ⟨_, rfl⟩
  rw [bnd_e hr_1] at hres
  refine ro_calli (va_runS (As := [.int joint]) (rest := []) ⟨hx, hb, hml, hown, hts⟩ (c_Model_isJoint l dC dI cI cC cG cZ  joint  r_1 hr_1) (va_cwS 1 hts gX7_ifSnipped_X7_isJoint rfl rfl rfl (by decide +kernel) ⟨Nat.le_of_ble_eq_true rfl, Nat.le_of_ble_eq_true rfl⟩) (ro_preS (hP.sub (ws' := []) [] rfl) hK) rfl rfl hl.1 rfl (lv_room (Nat.le_of_ble_eq_true rfl)) dX7_ifSnipped_1 ⟨Nat.zero_le _, Nat.zero_le _⟩) hP hS (fun H locs hP hS => ?_)
  refine lv_if_ne (tgt := 11) hx hb dX7_ifSnipped_4 (by decide) (fun c_2 => ?_) (fun c_2 => ?_)
  · rw [if_neg c_2] at hres
    refine lv_aload_n hx hb dX7_ifSnipped_11 rfl (lv_at hl 0 rfl) ?_
    refine lv_iload_n hx hb dX7_ifSnipped_12 rfl (lv_at hl 1 rfl) ?_
    obtain ⟨r_3, hr_3⟩ : ∃ z, z = F_Model_reason joint vs := ⟨_, rfl⟩
    rw [bnd_e hr_3] at hres
    refine ro_calli (va_runV (As := [.int joint]) (rest := []) ⟨hx, hb, hml, hown, hts⟩ (c_Model_reason l dC dI cI cC cG cZ mo ms mah mhi msl msv mpd mlb joint vkp vln vs (mjt_in (by rw [← hr_1]; exact c_2)) r_3 hr_3) (cwV 1 hts gX7_ifSnipped_X7_reason rfl rfl rfl (by decide +kernel) ⟨Nat.le_of_ble_eq_true rfl, Nat.le_of_ble_eq_true rfl⟩) (ro_preV (hP.sub (ws' := [(mo, .inr (7, [.ref ms, .ref mah, .ref mhi, .int vkp, .ref msl, .ref msv, .ref mpd, .int vln, .ref mlb])), (ms, .inl (cI, 246, .inl vs))]) [0, 1] rfl) hK (ci := 7) (q0 := 0) rfl rfl) rfl rfl hl.1 rfl (lv_room (Nat.le_of_ble_eq_true rfl)) dX7_ifSnipped_13 ⟨Nat.zero_le _, Nat.zero_le _⟩) hP hS (fun H locs hP hS => ?_)
    refine lv_if_le (tgt := 24) hx hb dX7_ifSnipped_16 (by decide) (fun c_4 => ?_) (fun c_4 => ?_)
    · rw [if_pos c_4] at hres
      refine lv_aload_n hx hb dX7_ifSnipped_24 rfl (lv_at hl 0 rfl) ?_
      refine lv_iload_n hx hb dX7_ifSnipped_25 rfl (lv_at hl 1 rfl) ?_
      obtain ⟨r_5, hr_5⟩ : ∃ z, z = F_Model_cellsBy joint vs vlb := ⟨_, rfl⟩
      rw [bnd_e hr_5] at hres
      refine wr_calli (w1 := [(mo, .inr (7, [.ref ms, .ref mah, .ref mhi, .int vkp, .ref msl, .ref msv, .ref mpd, .int vln, .ref mlb])), (ms, .inl (cI, 246, .inl vs)), (mlb, .inl (cI, 48, .inl r_5.2))]) (is := [0, 1, 2]) (va_runV (As := [.int joint]) (rest := []) ⟨hx, hb, hml, hown, hts⟩ (c_Model_cellsBy l dC dI cI cC cG cZ mo ms mah mhi msl msv mpd mlb joint vkp vln vs vlb (mjt_in (by rw [← hr_1]; exact c_2)) r_5 hr_5) (cwV 1 hts gX7_ifSnipped_X7_cellsBy rfl rfl rfl (by decide +kernel) ⟨Nat.le_of_ble_eq_true rfl, Nat.le_of_ble_eq_true rfl⟩) (wr_preV (hP.sub (ws' := [(mo, .inr (7, [.ref ms, .ref mah, .ref mhi, .int vkp, .ref msl, .ref msv, .ref mpd, .int vln, .ref mlb])), (ms, .inl (cI, 246, .inl vs)), (mlb, .inl (cI, 48, .inl vlb))]) [0, 1, 2] rfl) hK (hD.sub (ws' := [(mo, .inr (7, [.ref ms, .ref mah, .ref mhi, .int vkp, .ref msl, .ref msv, .ref mpd, .int vln, .ref mlb])), (ms, .inl (cI, 246, .inl vs)), (mlb, .inl (cI, 48, .inl vlb))]) [0, 1, 2] (by decide) rfl) (ci := 7) (q0 := 0) rfl rfl) rfl rfl hl.1 rfl (lv_room (Nat.le_of_ble_eq_true rfl)) dX7_ifSnipped_26 ⟨Nat.zero_le _, Nat.zero_le _⟩) hP hD hS rfl rfl rfl (fun H locs hP hD hS => ?_)
      have hP : va_P (dC, dI) vwCl [(mo, .inr (7, [.ref ms, .ref mah, .ref mhi, .int vkp, .ref msl, .ref msv, .ref mpd, .int vln, .ref mlb])), (ms, .inl (cI, 246, .inl vs)), (mlb, .inl (cI, 48, .inl r_5.2))] H := hP
      have hD : va_D A [(mo, .inr (7, [.ref ms, .ref mah, .ref mhi, .int vkp, .ref msl, .ref msv, .ref mpd, .int vln, .ref mlb])), (ms, .inl (cI, 246, .inl vs)), (mlb, .inl (cI, 48, .inl r_5.2))] := hD
      subst hres
      exact W.iret (v := r_5.1) hx hb hr (fun t ht hW => ⟨⟨r_5.1, (), rfl, rfl, (by show va_P _ _ _ t.heap; rw [ht]; exact hP)⟩, hS.F ht⟩) hS.2.2 dX7_ifSnipped_29
    · rw [if_neg c_4] at hres
      refine lv_bipush (v := (-5)) hx hb dX7_ifSnipped_19 (by decide) ?_
      refine lv_goto (tgt := 29) hx hb dX7_ifSnipped_21 (by decide) ?_
      subst hres
      exact W.iret (v := (-5)) hx hb hr (fun t ht hW => ⟨⟨(-5), (), rfl, rfl, (by show va_P _ _ _ t.heap; rw [ht]; exact hP)⟩, hS.F ht⟩) hS.2.2 dX7_ifSnipped_29
  · rw [if_pos c_2] at hres
    refine lv_iconst (v := (-1)) hx hb dX7_ifSnipped_7 (by decide) ?_
    refine lv_goto (tgt := 29) hx hb dX7_ifSnipped_8 (by decide) ?_
    subst hres
    exact W.iret (v := (-1)) hx hb hr (fun t ht hW => ⟨⟨(-1), (), rfl, rfl, (by show va_P _ _ _ t.heap; rw [ht]; exact hP)⟩, hS.F ht⟩) hS.2.2 dX7_ifSnipped_29
theorem iX7_bestSnip_X7 : ∀ w ∈ u_ws RX7 TX7 9, w ∈ wsX7_bestSnip := by decide +kernel
theorem kX7_bestSnip_7 : Cond.fieldLink RX7 7 "TailorChalksModel" "s" "[I" ∈ wsX7_bestSnip := by decide +kernel
def F_Model_bestSnip_L21 (what : Int32) (vs : Nat → Int32) (vlb : Nat → Int32) : Nat → Int32 → Int32 → Int32 → (Nat → Int32) → Int32 × Int32 × Int32 × (Nat → Int32)
  | 0, x4, x3, x2, w2f => (x4, x3, x2, w2f)
  | n + 1, x4, x3, x2, w2f => (if (82 : Int32) ≤ x4 then (x4, x3, x2, w2f) else (bnd (F_Model_reason x4 vs) (fun r_6 => (if r_6 = 0 then (bnd (F_Model_cellsBy x4 vs w2f) (fun r_8 => (bnd (F_Model_hasChalk (vs (245 : Int32).toNatClampNeg) x4 vs) (fun r_9 => (if r_9 = 0 then (if (r_8.1 + 0) ≤ x3 then (F_Model_bestSnip_L21 what vs vlb n (x4 + 1) x3 x2 r_8.2) else (F_Model_bestSnip_L21 what vs vlb n (x4 + 1) (r_8.1 + 0) x4 r_8.2)) else (if (r_8.1 + 1) ≤ x3 then (F_Model_bestSnip_L21 what vs vlb n (x4 + 1) x3 x2 r_8.2) else (F_Model_bestSnip_L21 what vs vlb n (x4 + 1) (r_8.1 + 1) x4 r_8.2))))))) else (F_Model_bestSnip_L21 what vs vlb n (x4 + 1) x3 x2 w2f)))))
def F_Model_bestSnip (what : Int32) (vs : Nat → Int32) (vlb : Nat → Int32) : Int32 × (Nat → Int32) := (bnd (F_Model_in what (0 : Int32) (1 : Int32)) (fun r_1 => (if r_1 = 0 then ((-2), vlb) else (bnd (F_Model_bestSnip_L21 what vs vlb 83 (0 : Int32) (-6 : Int32) (-6 : Int32) vlb) (fun q_3 => (if what = 0 then (q_3.2.2.1, q_3.2.2.2) else (q_3.2.1, q_3.2.2.2)))))))
set_option maxHeartbeats 4000000 in
set_option maxRecDepth 100000 in
theorem c_Model_bestSnip (l : Launch) (dC : Nat → ClassId) (dI : Nat → Nat → Nat) (cI cC cG cZ : ClassId) (mo ms mah mhi msl msv mpd mlb : Nat) (what : Int32) (vkp : Int32) (vln : Int32) (vs : Nat → Int32) (vlb : Nat → Int32) (hMI : MI vs) (res : Int32 × (Nat → Int32)) (hres : res = F_Model_bestSnip what vs vlb) : Met l yX7_bestSnip wsX7_bestSnip ({ frames := 7, cells := 0, slots := 0, locals := 155 }) (va_Pc [.ref mo, .int what] (wr_P (dC, dI) vwCl (tyL cI cC cG cZ) [(mo, .inr (7, [.ref ms, .ref mah, .ref mhi, .int vkp, .ref msl, .ref msv, .ref mpd, .int vln, .ref mlb])), (ms, .inl (cI, 246, .inl vs)), (mlb, .inl (cI, 48, .inl vlb))])) (va_Qi (fun r (_ : Unit) => r = res.1) (fun _ zt => va_P (dC, dI) vwCl [(mo, .inr (7, [.ref ms, .ref mah, .ref mhi, .int vkp, .ref msl, .ref msv, .ref mpd, .int vln, .ref mlb])), (ms, .inl (cI, 246, .inl vs)), (mlb, .inl (cI, 48, .inl res.2))] zt.heap) (wr_A [(mo, .inr (7, [.ref ms, .ref mah, .ref mhi, .int vkp, .ref msl, .ref msv, .ref mpd, .int vln, .ref mlb])), (ms, .inl (cI, 246, .inl vs)), (mlb, .inl (cI, 48, .inl vlb))])) 0 0 (wr_A [(mo, .inr (7, [.ref ms, .ref mah, .ref mhi, .int vkp, .ref msl, .ref msv, .ref mpd, .int vln, .ref mlb])), (ms, .inl (cI, 246, .inl vs)), (mlb, .inl (cI, 48, .inl vlb))]) := by
  refine Met.ofW (cc := cX7_bestSnip) (maxL := 6) (ret := (some .int)) (by decide) rfl ?_
  intro p e s m args below meth c s₁ B hml hv
  obtain ⟨rfl, hP, hK, hD0⟩ := hv
  have hx := B.exec
  have hb := B.bytes
  have hr := B.returns
  have hts := atoms_spec (ws := wsX7_bestSnip) B.pre
  have hown : s.vm.findClass RX7 = some m.cls := findClass_of_methodNamed B.named
  have hlocks := B.notSynchronized
  have hD := wr_self hD0
  generalize hAe : wr_A [(mo, .inr (7, [.ref ms, .ref mah, .ref mhi, .int vkp, .ref msl, .ref msv, .ref mpd, .int vln, .ref mlb])), (ms, .inl (cI, 246, .inl vs)), (mlb, .inl (cI, 48, .inl vlb))] = A at hD ⊢
  have hS : va_S A s.heap s.heap [] := va_S.rf
  have hP : va_P (dC, dI) vwCl [(mo, .inr (7, [.ref ms, .ref mah, .ref mhi, .int vkp, .ref msl, .ref msv, .ref mpd, .int vln, .ref mlb])), (ms, .inl (cI, 246, .inl vs)), (mlb, .inl (cI, 48, .inl vlb))] s.heap := hP
  have hl := lv_entry ([.ref mo, .int what]) (n := 6) (Nat.le_of_ble_eq_true rfl)
  rw [lg_entry_eq]
  generalize (lg_sl ([.ref mo, .int what]) ++ List.replicate (6 - (lg_sl ([.ref mo, .int what])).length) Slot.unset).toArray = ls at hl ⊢
  have hl : lv_has ls 6 [(0, .ref mo), (1, .int what)] := hl
  rw [F_Model_bestSnip] at hres
  refine lv_iload_n hx hb dX7_bestSnip_0 rfl (lv_at hl 1 rfl) ?_
  refine lv_iconst (v := 0) hx hb dX7_bestSnip_1 (by decide) ?_
  refine lv_iconst (v := 1) hx hb dX7_bestSnip_2 (by decide) ?_
  obtain ⟨r_1, hr_1⟩ : ∃ z, z = F_Model_in what (0 : Int32) (1 : Int32) := ⟨_, rfl⟩
  rw [bnd_e hr_1] at hres
  refine ro_calli (va_runS (As := [.int what, .int 0, .int 1]) (rest := []) ⟨hx, hb, hml, hown, hts⟩ (c_Model_in l dC dI cI cC cG cZ  what (0 : Int32) (1 : Int32)  r_1 hr_1) (va_cwS 3 hts gX7_bestSnip_X7_in rfl rfl rfl (by decide +kernel) ⟨Nat.le_of_ble_eq_true rfl, Nat.le_of_ble_eq_true rfl⟩) (ro_preS (hP.sub (ws' := []) [] rfl) hK) rfl rfl hl.1 rfl (lv_room (Nat.le_of_ble_eq_true rfl)) dX7_bestSnip_3 ⟨Nat.zero_le _, Nat.zero_le _⟩) hP hS (fun H locs hP hS => ?_)
  refine lv_if_ne (tgt := 12) hx hb dX7_bestSnip_6 (by decide) (fun c_2 => ?_) (fun c_2 => ?_)
  · rw [if_neg c_2] at hres
    refine lv_bipush (v := (-6)) hx hb dX7_bestSnip_12 (by decide) ?_
    refine lv_istore_n (lv' := [(2, .int (-6)), (0, .ref mo), (1, .int what)]) hx hb dX7_bestSnip_14 rfl hl (by decide) rfl (fun ls hl => ?_)
    refine lv_bipush (v := (-6)) hx hb dX7_bestSnip_15 (by decide) ?_
    refine lv_istore_n (lv' := [(3, .int (-6)), (2, .int (-6)), (0, .ref mo), (1, .int what)]) hx hb dX7_bestSnip_17 rfl hl (by decide) rfl (fun ls hl => ?_)
    refine lv_iconst (v := 0) hx hb dX7_bestSnip_18 (by decide) ?_
    refine lv_istore (lv' := [(4, .int 0), (3, .int (-6)), (2, .int (-6)), (0, .ref mo), (1, .int what)]) hx hb dX7_bestSnip_19 hl (by decide) rfl (fun ls hl => ?_)
    obtain ⟨q_3, hq_3⟩ : ∃ z, z = F_Model_bestSnip_L21 what vs vlb 83 (0 : Int32) (-6 : Int32) (-6 : Int32) vlb := ⟨_, rfl⟩
    rw [bnd_e hq_3] at hres
    have hexit21 : ∀ (H : Heap) (locs : List Loc) (ls : Array Slot), va_P (dC, dI) vwCl [(mo, .inr (7, [.ref ms, .ref mah, .ref mhi, .int vkp, .ref msl, .ref msv, .ref mpd, .int vln, .ref mlb])), (ms, .inl (cI, 246, .inl vs)), (mlb, .inl (cI, 48, .inl q_3.2.2.2))] H → va_D A [(mo, .inr (7, [.ref ms, .ref mah, .ref mhi, .int vkp, .ref msl, .ref msv, .ref mpd, .int vln, .ref mlb])), (ms, .inl (cI, 246, .inl vs)), (mlb, .inl (cI, 48, .inl q_3.2.2.2))] → va_S A s.heap H locs → lv_has ls 6 [(4, .int q_3.1), (3, .int q_3.2.1), (2, .int q_3.2.2.1), (0, .ref mo), (1, .int what)] → W p l e (headSpec wsX7_bestSnip ({ frames := 7, cells := 0, slots := 0, locals := 155 })).room s m ([.ref mo, .int what] : List Value).toArray below meth c H locs 0 0 (MQ below (va_Qi (fun r (_ : Unit) => r = res.1) (fun _ zt => va_P (dC, dI) vwCl [(mo, .inr (7, [.ref ms, .ref mah, .ref mhi, .int vkp, .ref msl, .ref msv, .ref mpd, .int vln, .ref mlb])), (ms, .inl (cI, 246, .inl vs)), (mlb, .inl (cI, 48, .inl res.2))] zt.heap) A) ([.ref mo, .int what] : List Value).toArray s 0 0 A) (F0 m 100 ls []) := by
      intro H locs ls  hP hD hS hl
      refine lv_iload_n hx hb dX7_bestSnip_100 rfl (lv_at hl 4 rfl) ?_
      refine lv_if_ne (tgt := 108) hx hb dX7_bestSnip_101 (by decide) (fun c_4 => ?_) (fun c_4 => ?_)
      · rw [if_neg c_4] at hres
        refine lv_iload_n hx hb dX7_bestSnip_108 rfl (lv_at hl 1 rfl) ?_
        subst hres
        exact W.iret (v := q_3.2.1) hx hb hr (fun t ht hW => ⟨⟨q_3.2.1, (), rfl, rfl, (by show va_P _ _ _ t.heap; rw [ht]; exact hP)⟩, hS.F ht⟩) hS.2.2 dX7_bestSnip_109
      · rw [if_pos c_4] at hres
        refine lv_iload_n hx hb dX7_bestSnip_104 rfl (lv_at hl 2 rfl) ?_
        refine lv_goto (tgt := 109) hx hb dX7_bestSnip_105 (by decide) ?_
        subst hres
        exact W.iret (v := q_3.2.2.1) hx hb hr (fun t ht hW => ⟨⟨q_3.2.2.1, (), rfl, rfl, (by show va_P _ _ _ t.heap; rw [ht]; exact hP)⟩, hS.F ht⟩) hS.2.2 dX7_bestSnip_109
    have hloop21 : ∀ (n k21 : Nat) (x4 : Int32) (x3 : Int32) (x2 : Int32) (w2f : Nat → Int32) (H : Heap) (locs : List Loc) (ls : Array Slot), k21 ≤ 82 → 82 - k21 < n → x4 = nI k21 → q_3 = F_Model_bestSnip_L21 what vs vlb n x4 x3 x2 w2f → va_P (dC, dI) vwCl [(mo, .inr (7, [.ref ms, .ref mah, .ref mhi, .int vkp, .ref msl, .ref msv, .ref mpd, .int vln, .ref mlb])), (ms, .inl (cI, 246, .inl vs)), (mlb, .inl (cI, 48, .inl w2f))] H → va_D A [(mo, .inr (7, [.ref ms, .ref mah, .ref mhi, .int vkp, .ref msl, .ref msv, .ref mpd, .int vln, .ref mlb])), (ms, .inl (cI, 246, .inl vs)), (mlb, .inl (cI, 48, .inl w2f))] → va_S A s.heap H locs → lv_has ls 6 [(4, .int x4), (3, .int x3), (2, .int x2), (0, .ref mo), (1, .int what)] → W p l e (headSpec wsX7_bestSnip ({ frames := 7, cells := 0, slots := 0, locals := 155 })).room s m ([.ref mo, .int what] : List Value).toArray below meth c H locs 0 0 (MQ below (va_Qi (fun r (_ : Unit) => r = res.1) (fun _ zt => va_P (dC, dI) vwCl [(mo, .inr (7, [.ref ms, .ref mah, .ref mhi, .int vkp, .ref msl, .ref msv, .ref mpd, .int vln, .ref mlb])), (ms, .inl (cI, 246, .inl vs)), (mlb, .inl (cI, 48, .inl res.2))] zt.heap) A) ([.ref mo, .int what] : List Value).toArray s 0 0 A) (F0 m 21 ls []) := by
      intro n
      induction n with
      | zero => intro k21 x4 x3 x2 w2f _ _ _ _ hm; exact absurd hm (Nat.not_lt_zero _)
      | succ n ih21 =>
        intro k21 x4 x3 x2 w2f H locs ls hk21 hm21 ex21  hq_3 hP hD hS hl
        rw [F_Model_bestSnip_L21] at hq_3
        refine lv_iload hx hb dX7_bestSnip_21 (lv_at hl 0 rfl) ?_
        refine lv_bipush (v := 82) hx hb dX7_bestSnip_23 (by decide) ?_
        refine lv_icmp_ge (tgt := 100) hx hb dX7_bestSnip_25 (by decide) (fun c_5 => ?_) (fun c_5 => ?_)
        · rw [if_pos c_5] at hq_3
          subst hq_3
          exact hexit21 _ _ _  hP hD hS (lv_sub hl [0, 1, 2, 3, 4] rfl)
        · rw [if_neg c_5] at hq_3
          have hlt_k21 : k21 < 82 := lp_lt rfl ex21 hk21 c_5
          refine lv_aload_n hx hb dX7_bestSnip_28 rfl (lv_at hl 3 rfl) ?_
          refine lv_iload hx hb dX7_bestSnip_29 (lv_at hl 0 rfl) ?_
          obtain ⟨r_6, hr_6⟩ : ∃ z, z = F_Model_reason x4 vs := ⟨_, rfl⟩
          rw [bnd_e hr_6] at hq_3
          refine ro_calli (va_runV (As := [.int x4]) (rest := []) ⟨hx, hb, hml, hown, hts⟩ (c_Model_reason l dC dI cI cC cG cZ mo ms mah mhi msl msv mpd mlb x4 vkp vln vs (by rw [ex21]; exact vp_in_nI (by omega) (by decide)) r_6 hr_6) (cwV 1 hts gX7_bestSnip_X7_reason rfl rfl rfl (by decide +kernel) ⟨Nat.le_of_ble_eq_true rfl, Nat.le_of_ble_eq_true rfl⟩) (ro_preV (hP.sub (ws' := [(mo, .inr (7, [.ref ms, .ref mah, .ref mhi, .int vkp, .ref msl, .ref msv, .ref mpd, .int vln, .ref mlb])), (ms, .inl (cI, 246, .inl vs))]) [0, 1] rfl) hK (ci := 7) (q0 := 0) rfl rfl) rfl rfl hl.1 rfl (lv_room (Nat.le_of_ble_eq_true rfl)) dX7_bestSnip_31 ⟨Nat.zero_le _, Nat.zero_le _⟩) hP hS (fun H locs hP hS => ?_)
          refine lv_if_ne (tgt := 94) hx hb dX7_bestSnip_34 (by decide) (fun c_7 => ?_) (fun c_7 => ?_)
          · rw [if_neg c_7] at hq_3
            refine lv_iinc (v := (x4 + 1)) (lv' := [(4, .int (x4 + 1)), (3, .int x3), (2, .int x2), (0, .ref mo), (1, .int what)]) hx hb dX7_bestSnip_94 hl (k := 0) rfl rfl (by decide) rfl (fun ls hl => ?_)
            refine lv_goto (tgt := 21) hx hb dX7_bestSnip_97 (by decide) ?_
            exact ih21 (k21 + 1) (x4 + 1) x3 x2 w2f _ _ _ (by omega) (by omega) (by rw [ex21]; exact nI_1 _)  hq_3 hP hD hS (lv_sub hl [0, 1, 2, 3, 4] rfl)
          · rw [if_pos c_7] at hq_3
            refine lv_aload_n hx hb dX7_bestSnip_37 rfl (lv_at hl 3 rfl) ?_
            refine lv_iload hx hb dX7_bestSnip_38 (lv_at hl 0 rfl) ?_
            obtain ⟨r_8, hr_8⟩ : ∃ z, z = F_Model_cellsBy x4 vs w2f := ⟨_, rfl⟩
            rw [bnd_e hr_8] at hq_3
            refine wr_calli (w1 := [(mo, .inr (7, [.ref ms, .ref mah, .ref mhi, .int vkp, .ref msl, .ref msv, .ref mpd, .int vln, .ref mlb])), (ms, .inl (cI, 246, .inl vs)), (mlb, .inl (cI, 48, .inl r_8.2))]) (is := [0, 1, 2]) (va_runV (As := [.int x4]) (rest := []) ⟨hx, hb, hml, hown, hts⟩ (c_Model_cellsBy l dC dI cI cC cG cZ mo ms mah mhi msl msv mpd mlb x4 vkp vln vs w2f (by rw [ex21]; exact vp_in_nI (by omega) (by decide)) r_8 hr_8) (cwV 1 hts gX7_bestSnip_X7_cellsBy rfl rfl rfl (by decide +kernel) ⟨Nat.le_of_ble_eq_true rfl, Nat.le_of_ble_eq_true rfl⟩) (wr_preV (hP.sub (ws' := [(mo, .inr (7, [.ref ms, .ref mah, .ref mhi, .int vkp, .ref msl, .ref msv, .ref mpd, .int vln, .ref mlb])), (ms, .inl (cI, 246, .inl vs)), (mlb, .inl (cI, 48, .inl w2f))]) [0, 1, 2] rfl) hK (hD.sub (ws' := [(mo, .inr (7, [.ref ms, .ref mah, .ref mhi, .int vkp, .ref msl, .ref msv, .ref mpd, .int vln, .ref mlb])), (ms, .inl (cI, 246, .inl vs)), (mlb, .inl (cI, 48, .inl w2f))]) [0, 1, 2] (by decide) rfl) (ci := 7) (q0 := 0) rfl rfl) rfl rfl hl.1 rfl (lv_room (Nat.le_of_ble_eq_true rfl)) dX7_bestSnip_40 ⟨Nat.zero_le _, Nat.zero_le _⟩) hP hD hS rfl rfl rfl (fun H locs hP hD hS => ?_)
            have hP : va_P (dC, dI) vwCl [(mo, .inr (7, [.ref ms, .ref mah, .ref mhi, .int vkp, .ref msl, .ref msv, .ref mpd, .int vln, .ref mlb])), (ms, .inl (cI, 246, .inl vs)), (mlb, .inl (cI, 48, .inl r_8.2))] H := hP
            have hD : va_D A [(mo, .inr (7, [.ref ms, .ref mah, .ref mhi, .int vkp, .ref msl, .ref msv, .ref mpd, .int vln, .ref mlb])), (ms, .inl (cI, 246, .inl vs)), (mlb, .inl (cI, 48, .inl r_8.2))] := hD
            refine lv_aload_n hx hb dX7_bestSnip_43 rfl (lv_at hl 3 rfl) ?_
            refine lv_aload_n hx hb dX7_bestSnip_44 rfl (lv_at hl 3 rfl) ?_
            refine va_get (D := (dC, dI)) (ci := 7) (v := .ref ms) (C := RX7) (T := TX7) (N := 9) hx hb hts iX7_bestSnip_X7 hown hK hP 0 rfl rfl 0 (by decide) (hts (.fieldLink RX7 7 "TailorChalksModel" "s" "[I") kX7_bestSnip_7) (fun _ h9 => h9) rfl dX7_bestSnip_45 ?_
            refine lv_sipush (v := 245) hx hb dX7_bestSnip_48 (by decide) ?_
            refine va_iald hx hb hK hP 1 0 rfl rfl (vp_in_iff.mpr (by decide +kernel)) dX7_bestSnip_51 ?_
            refine lv_iload hx hb dX7_bestSnip_52 (lv_at hl 0 rfl) ?_
            obtain ⟨r_9, hr_9⟩ : ∃ z, z = F_Model_hasChalk (vs (245 : Int32).toNatClampNeg) x4 vs := ⟨_, rfl⟩
            rw [bnd_e hr_9] at hq_3
            refine ro_calli (va_runV (As := [.int (vs (245 : Int32).toNatClampNeg), .int x4]) (rest := [.int r_8.1]) ⟨hx, hb, hml, hown, hts⟩ (c_Model_hasChalk l dC dI cI cC cG cZ mo ms mah mhi msl msv mpd mlb (vs (245 : Int32).toNatClampNeg) x4 vkp vln vs (mi_next hMI) hMI r_9 hr_9) (cwV 2 hts gX7_bestSnip_X7_hasChalk rfl rfl rfl (by decide +kernel) ⟨Nat.le_of_ble_eq_true rfl, Nat.le_of_ble_eq_true rfl⟩) (ro_preV (hP.sub (ws' := [(mo, .inr (7, [.ref ms, .ref mah, .ref mhi, .int vkp, .ref msl, .ref msv, .ref mpd, .int vln, .ref mlb])), (ms, .inl (cI, 246, .inl vs))]) [0, 1] rfl) hK (ci := 7) (q0 := 0) rfl rfl) rfl rfl hl.1 rfl (lv_room (Nat.le_of_ble_eq_true rfl)) dX7_bestSnip_54 ⟨Nat.zero_le _, Nat.zero_le _⟩) hP hS (fun H locs hP hS => ?_)
            refine lv_if_eq (tgt := 64) hx hb dX7_bestSnip_57 (by decide) (fun c_10 => ?_) (fun c_10 => ?_)
            · rw [if_pos c_10] at hq_3
              refine lv_iconst (v := 0) hx hb dX7_bestSnip_64 (by decide) ?_
              refine lv_iadd hx hb dX7_bestSnip_65 ?_
              refine lv_istore (lv' := [(5, .int (r_8.1 + 0)), (4, .int x4), (3, .int x3), (2, .int x2), (0, .ref mo), (1, .int what)]) hx hb dX7_bestSnip_66 hl (by decide) rfl (fun ls hl => ?_)
              refine lv_iload hx hb dX7_bestSnip_68 (lv_at hl 0 rfl) ?_
              refine lv_iload_n hx hb dX7_bestSnip_70 rfl (lv_at hl 2 rfl) ?_
              refine lv_icmp_le (tgt := 79) hx hb dX7_bestSnip_71 (by decide) (fun c_11 => ?_) (fun c_11 => ?_)
              · rw [if_pos c_11] at hq_3
                refine lv_iload_n hx hb dX7_bestSnip_79 rfl (lv_at hl 3 rfl) ?_
                refine lv_istore_n (lv' := [(2, .int x2), (5, .int (r_8.1 + 0)), (4, .int x4), (3, .int x3), (0, .ref mo), (1, .int what)]) hx hb dX7_bestSnip_80 rfl hl (by decide) rfl (fun ls hl => ?_)
                refine lv_iload hx hb dX7_bestSnip_81 (lv_at hl 1 rfl) ?_
                refine lv_iload_n hx hb dX7_bestSnip_83 rfl (lv_at hl 3 rfl) ?_
                refine lv_icmp_le (tgt := 92) hx hb dX7_bestSnip_84 (by decide) (fun c_12 => ?_) (fun c_12 => ?_)
                rotate_left
                · exact absurd c_11 c_12
                refine lv_iload_n hx hb dX7_bestSnip_92 rfl (lv_at hl 3 rfl) ?_
                refine lv_istore_n (lv' := [(3, .int x3), (2, .int x2), (5, .int (r_8.1 + 0)), (4, .int x4), (0, .ref mo), (1, .int what)]) hx hb dX7_bestSnip_93 rfl hl (by decide) rfl (fun ls hl => ?_)
                refine lv_iinc (v := (x4 + 1)) (lv' := [(4, .int (x4 + 1)), (3, .int x3), (2, .int x2), (5, .int (r_8.1 + 0)), (0, .ref mo), (1, .int what)]) hx hb dX7_bestSnip_94 hl (k := 3) rfl rfl (by decide) rfl (fun ls hl => ?_)
                refine lv_goto (tgt := 21) hx hb dX7_bestSnip_97 (by decide) ?_
                exact ih21 (k21 + 1) (x4 + 1) x3 x2 r_8.2 _ _ _ (by omega) (by omega) (by rw [ex21]; exact nI_1 _)  hq_3 hP hD hS (lv_sub hl [0, 1, 2, 4, 5] rfl)
              · rw [if_neg c_11] at hq_3
                refine lv_iload hx hb dX7_bestSnip_74 (lv_at hl 1 rfl) ?_
                refine lv_goto (tgt := 80) hx hb dX7_bestSnip_76 (by decide) ?_
                refine lv_istore_n (lv' := [(2, .int x4), (5, .int (r_8.1 + 0)), (4, .int x4), (3, .int x3), (0, .ref mo), (1, .int what)]) hx hb dX7_bestSnip_80 rfl hl (by decide) rfl (fun ls hl => ?_)
                refine lv_iload hx hb dX7_bestSnip_81 (lv_at hl 1 rfl) ?_
                refine lv_iload_n hx hb dX7_bestSnip_83 rfl (lv_at hl 3 rfl) ?_
                refine lv_icmp_le (tgt := 92) hx hb dX7_bestSnip_84 (by decide) (fun c_13 => ?_) (fun c_13 => ?_)
                · exact absurd c_13 c_11
                refine lv_iload hx hb dX7_bestSnip_87 (lv_at hl 1 rfl) ?_
                refine lv_goto (tgt := 93) hx hb dX7_bestSnip_89 (by decide) ?_
                refine lv_istore_n (lv' := [(3, .int (r_8.1 + 0)), (2, .int x4), (5, .int (r_8.1 + 0)), (4, .int x4), (0, .ref mo), (1, .int what)]) hx hb dX7_bestSnip_93 rfl hl (by decide) rfl (fun ls hl => ?_)
                refine lv_iinc (v := (x4 + 1)) (lv' := [(4, .int (x4 + 1)), (3, .int (r_8.1 + 0)), (2, .int x4), (5, .int (r_8.1 + 0)), (0, .ref mo), (1, .int what)]) hx hb dX7_bestSnip_94 hl (k := 3) rfl rfl (by decide) rfl (fun ls hl => ?_)
                refine lv_goto (tgt := 21) hx hb dX7_bestSnip_97 (by decide) ?_
                exact ih21 (k21 + 1) (x4 + 1) (r_8.1 + 0) x4 r_8.2 _ _ _ (by omega) (by omega) (by rw [ex21]; exact nI_1 _)  hq_3 hP hD hS (lv_sub hl [0, 1, 2, 4, 5] rfl)
            · rw [if_neg c_10] at hq_3
              refine lv_iconst (v := 1) hx hb dX7_bestSnip_60 (by decide) ?_
              refine lv_goto (tgt := 65) hx hb dX7_bestSnip_61 (by decide) ?_
              refine lv_iadd hx hb dX7_bestSnip_65 ?_
              refine lv_istore (lv' := [(5, .int (r_8.1 + 1)), (4, .int x4), (3, .int x3), (2, .int x2), (0, .ref mo), (1, .int what)]) hx hb dX7_bestSnip_66 hl (by decide) rfl (fun ls hl => ?_)
              refine lv_iload hx hb dX7_bestSnip_68 (lv_at hl 0 rfl) ?_
              refine lv_iload_n hx hb dX7_bestSnip_70 rfl (lv_at hl 2 rfl) ?_
              refine lv_icmp_le (tgt := 79) hx hb dX7_bestSnip_71 (by decide) (fun c_14 => ?_) (fun c_14 => ?_)
              · rw [if_pos c_14] at hq_3
                refine lv_iload_n hx hb dX7_bestSnip_79 rfl (lv_at hl 3 rfl) ?_
                refine lv_istore_n (lv' := [(2, .int x2), (5, .int (r_8.1 + 1)), (4, .int x4), (3, .int x3), (0, .ref mo), (1, .int what)]) hx hb dX7_bestSnip_80 rfl hl (by decide) rfl (fun ls hl => ?_)
                refine lv_iload hx hb dX7_bestSnip_81 (lv_at hl 1 rfl) ?_
                refine lv_iload_n hx hb dX7_bestSnip_83 rfl (lv_at hl 3 rfl) ?_
                refine lv_icmp_le (tgt := 92) hx hb dX7_bestSnip_84 (by decide) (fun c_15 => ?_) (fun c_15 => ?_)
                rotate_left
                · exact absurd c_14 c_15
                refine lv_iload_n hx hb dX7_bestSnip_92 rfl (lv_at hl 3 rfl) ?_
                refine lv_istore_n (lv' := [(3, .int x3), (2, .int x2), (5, .int (r_8.1 + 1)), (4, .int x4), (0, .ref mo), (1, .int what)]) hx hb dX7_bestSnip_93 rfl hl (by decide) rfl (fun ls hl => ?_)
                refine lv_iinc (v := (x4 + 1)) (lv' := [(4, .int (x4 + 1)), (3, .int x3), (2, .int x2), (5, .int (r_8.1 + 1)), (0, .ref mo), (1, .int what)]) hx hb dX7_bestSnip_94 hl (k := 3) rfl rfl (by decide) rfl (fun ls hl => ?_)
                refine lv_goto (tgt := 21) hx hb dX7_bestSnip_97 (by decide) ?_
                exact ih21 (k21 + 1) (x4 + 1) x3 x2 r_8.2 _ _ _ (by omega) (by omega) (by rw [ex21]; exact nI_1 _)  hq_3 hP hD hS (lv_sub hl [0, 1, 2, 4, 5] rfl)
              · rw [if_neg c_14] at hq_3
                refine lv_iload hx hb dX7_bestSnip_74 (lv_at hl 1 rfl) ?_
                refine lv_goto (tgt := 80) hx hb dX7_bestSnip_76 (by decide) ?_
                refine lv_istore_n (lv' := [(2, .int x4), (5, .int (r_8.1 + 1)), (4, .int x4), (3, .int x3), (0, .ref mo), (1, .int what)]) hx hb dX7_bestSnip_80 rfl hl (by decide) rfl (fun ls hl => ?_)
                refine lv_iload hx hb dX7_bestSnip_81 (lv_at hl 1 rfl) ?_
                refine lv_iload_n hx hb dX7_bestSnip_83 rfl (lv_at hl 3 rfl) ?_
                refine lv_icmp_le (tgt := 92) hx hb dX7_bestSnip_84 (by decide) (fun c_16 => ?_) (fun c_16 => ?_)
                · exact absurd c_16 c_14
                refine lv_iload hx hb dX7_bestSnip_87 (lv_at hl 1 rfl) ?_
                refine lv_goto (tgt := 93) hx hb dX7_bestSnip_89 (by decide) ?_
                refine lv_istore_n (lv' := [(3, .int (r_8.1 + 1)), (2, .int x4), (5, .int (r_8.1 + 1)), (4, .int x4), (0, .ref mo), (1, .int what)]) hx hb dX7_bestSnip_93 rfl hl (by decide) rfl (fun ls hl => ?_)
                refine lv_iinc (v := (x4 + 1)) (lv' := [(4, .int (x4 + 1)), (3, .int (r_8.1 + 1)), (2, .int x4), (5, .int (r_8.1 + 1)), (0, .ref mo), (1, .int what)]) hx hb dX7_bestSnip_94 hl (k := 3) rfl rfl (by decide) rfl (fun ls hl => ?_)
                refine lv_goto (tgt := 21) hx hb dX7_bestSnip_97 (by decide) ?_
                exact ih21 (k21 + 1) (x4 + 1) (r_8.1 + 1) x4 r_8.2 _ _ _ (by omega) (by omega) (by rw [ex21]; exact nI_1 _)  hq_3 hP hD hS (lv_sub hl [0, 1, 2, 4, 5] rfl)
    exact hloop21 83 0 (0 : Int32) (-6 : Int32) (-6 : Int32) vlb _ _ _ (by omega) (by omega) nI_0.symm  hq_3 hP hD hS (lv_sub hl [0, 1, 2, 3, 4] rfl)
  · rw [if_pos c_2] at hres
    refine lv_bipush (v := (-2)) hx hb dX7_bestSnip_9 (by decide) ?_
    subst hres
    exact W.iret (v := (-2)) hx hb hr (fun t ht hW => ⟨⟨(-2), (), rfl, rfl, (by show va_P _ _ _ t.heap; rw [ht]; exact hP)⟩, hS.F ht⟩) hS.2.2 dX7_bestSnip_11
def F_Model_weak_L4 (vs : Nat → Int32) (vlb : Nat → Int32) : Nat → Int32 → Int32 → (Nat → Int32) → Int32 × Int32 × (Nat → Int32)
  | 0, x2, x1, w2f => (x2, x1, w2f)
  | n + 1, x2, x1, w2f => (if (82 : Int32) ≤ x2 then (x2, x1, w2f) else (bnd (F_Model_isOver vs) (fun r_3 => (if r_3 = 0 then (bnd (F_Model_holds x2 vs) (fun r_5 => (if r_5 = 0 then (F_Model_weak_L4 vs vlb n (x2 + 1) (x1 + 0) w2f) else (bnd (F_Model_cellsBy x2 vs w2f) (fun r_7 => (if r_7.1 ≤ 0 then (F_Model_weak_L4 vs vlb n (x2 + 1) (x1 + 0) r_7.2) else (F_Model_weak_L4 vs vlb n (x2 + 1) (x1 + 1) r_7.2))))))) else (x2, x1, w2f)))))
def F_Model_weak (vs : Nat → Int32) (vlb : Nat → Int32) : Int32 × (Nat → Int32) := (bnd (F_Model_weak_L4 vs vlb 83 (0 : Int32) (0 : Int32) vlb) (fun q_1 => (q_1.2.1, q_1.2.2)))
set_option maxHeartbeats 4000000 in
set_option maxRecDepth 100000 in
theorem c_Model_weak (l : Launch) (dC : Nat → ClassId) (dI : Nat → Nat → Nat) (cI cC cG cZ : ClassId) (mo ms mah mhi msl msv mpd mlb : Nat) (vkp : Int32) (vln : Int32) (vs : Nat → Int32) (vlb : Nat → Int32) (res : Int32 × (Nat → Int32)) (hres : res = F_Model_weak vs vlb) : Met l yX7_weak wsX7_weak ({ frames := 7, cells := 0, slots := 0, locals := 155 }) (va_Pc [.ref mo] (wr_P (dC, dI) vwCl (tyL cI cC cG cZ) [(mo, .inr (7, [.ref ms, .ref mah, .ref mhi, .int vkp, .ref msl, .ref msv, .ref mpd, .int vln, .ref mlb])), (ms, .inl (cI, 246, .inl vs)), (mlb, .inl (cI, 48, .inl vlb))])) (va_Qi (fun r (_ : Unit) => r = res.1) (fun _ zt => va_P (dC, dI) vwCl [(mo, .inr (7, [.ref ms, .ref mah, .ref mhi, .int vkp, .ref msl, .ref msv, .ref mpd, .int vln, .ref mlb])), (ms, .inl (cI, 246, .inl vs)), (mlb, .inl (cI, 48, .inl res.2))] zt.heap) (wr_A [(mo, .inr (7, [.ref ms, .ref mah, .ref mhi, .int vkp, .ref msl, .ref msv, .ref mpd, .int vln, .ref mlb])), (ms, .inl (cI, 246, .inl vs)), (mlb, .inl (cI, 48, .inl vlb))])) 0 0 (wr_A [(mo, .inr (7, [.ref ms, .ref mah, .ref mhi, .int vkp, .ref msl, .ref msv, .ref mpd, .int vln, .ref mlb])), (ms, .inl (cI, 246, .inl vs)), (mlb, .inl (cI, 48, .inl vlb))]) := by
  refine Met.ofW (cc := cX7_weak) (maxL := 3) (ret := (some .int)) (by decide) rfl ?_
  intro p e s m args below meth c s₁ B hml hv
  obtain ⟨rfl, hP, hK, hD0⟩ := hv
  have hx := B.exec
  have hb := B.bytes
  have hr := B.returns
  have hts := atoms_spec (ws := wsX7_weak) B.pre
  have hown : s.vm.findClass RX7 = some m.cls := findClass_of_methodNamed B.named
  have hlocks := B.notSynchronized
  have hD := wr_self hD0
  generalize hAe : wr_A [(mo, .inr (7, [.ref ms, .ref mah, .ref mhi, .int vkp, .ref msl, .ref msv, .ref mpd, .int vln, .ref mlb])), (ms, .inl (cI, 246, .inl vs)), (mlb, .inl (cI, 48, .inl vlb))] = A at hD ⊢
  have hS : va_S A s.heap s.heap [] := va_S.rf
  have hP : va_P (dC, dI) vwCl [(mo, .inr (7, [.ref ms, .ref mah, .ref mhi, .int vkp, .ref msl, .ref msv, .ref mpd, .int vln, .ref mlb])), (ms, .inl (cI, 246, .inl vs)), (mlb, .inl (cI, 48, .inl vlb))] s.heap := hP
  have hl := lv_entry ([.ref mo]) (n := 3) (Nat.le_of_ble_eq_true rfl)
  rw [lg_entry_eq]
  generalize (lg_sl ([.ref mo]) ++ List.replicate (3 - (lg_sl ([.ref mo])).length) Slot.unset).toArray = ls at hl ⊢
  have hl : lv_has ls 3 [(0, .ref mo)] := hl
  rw [F_Model_weak] at hres
  refine lv_iconst (v := 0) hx hb dX7_weak_0 (by decide) ?_
  refine lv_istore_n (lv' := [(1, .int 0), (0, .ref mo)]) hx hb dX7_weak_1 rfl hl (by decide) rfl (fun ls hl => ?_)
  refine lv_iconst (v := 0) hx hb dX7_weak_2 (by decide) ?_
  refine lv_istore_n (lv' := [(2, .int 0), (1, .int 0), (0, .ref mo)]) hx hb dX7_weak_3 rfl hl (by decide) rfl (fun ls hl => ?_)
  obtain ⟨q_1, hq_1⟩ : ∃ z, z = F_Model_weak_L4 vs vlb 83 (0 : Int32) (0 : Int32) vlb := ⟨_, rfl⟩
  rw [bnd_e hq_1] at hres
  have hexit4 : ∀ (H : Heap) (locs : List Loc) (ls : Array Slot), va_P (dC, dI) vwCl [(mo, .inr (7, [.ref ms, .ref mah, .ref mhi, .int vkp, .ref msl, .ref msv, .ref mpd, .int vln, .ref mlb])), (ms, .inl (cI, 246, .inl vs)), (mlb, .inl (cI, 48, .inl q_1.2.2))] H → va_D A [(mo, .inr (7, [.ref ms, .ref mah, .ref mhi, .int vkp, .ref msl, .ref msv, .ref mpd, .int vln, .ref mlb])), (ms, .inl (cI, 246, .inl vs)), (mlb, .inl (cI, 48, .inl q_1.2.2))] → va_S A s.heap H locs → lv_has ls 3 [(2, .int q_1.1), (1, .int q_1.2.1), (0, .ref mo)] → W p l e (headSpec wsX7_weak ({ frames := 7, cells := 0, slots := 0, locals := 155 })).room s m ([.ref mo] : List Value).toArray below meth c H locs 0 0 (MQ below (va_Qi (fun r (_ : Unit) => r = res.1) (fun _ zt => va_P (dC, dI) vwCl [(mo, .inr (7, [.ref ms, .ref mah, .ref mhi, .int vkp, .ref msl, .ref msv, .ref mpd, .int vln, .ref mlb])), (ms, .inl (cI, 246, .inl vs)), (mlb, .inl (cI, 48, .inl res.2))] zt.heap) A) ([.ref mo] : List Value).toArray s 0 0 A) (F0 m 47 ls []) := by
    intro H locs ls  hP hD hS hl
    refine lv_iload_n hx hb dX7_weak_47 rfl (lv_at hl 1 rfl) ?_
    subst hres
    exact W.iret (v := q_1.2.1) hx hb hr (fun t ht hW => ⟨⟨q_1.2.1, (), rfl, rfl, (by show va_P _ _ _ t.heap; rw [ht]; exact hP)⟩, hS.F ht⟩) hS.2.2 dX7_weak_48
  have hloop4 : ∀ (n k4 : Nat) (x2 : Int32) (x1 : Int32) (w2f : Nat → Int32) (H : Heap) (locs : List Loc) (ls : Array Slot), k4 ≤ 82 → 82 - k4 < n → x2 = nI k4 → q_1 = F_Model_weak_L4 vs vlb n x2 x1 w2f → va_P (dC, dI) vwCl [(mo, .inr (7, [.ref ms, .ref mah, .ref mhi, .int vkp, .ref msl, .ref msv, .ref mpd, .int vln, .ref mlb])), (ms, .inl (cI, 246, .inl vs)), (mlb, .inl (cI, 48, .inl w2f))] H → va_D A [(mo, .inr (7, [.ref ms, .ref mah, .ref mhi, .int vkp, .ref msl, .ref msv, .ref mpd, .int vln, .ref mlb])), (ms, .inl (cI, 246, .inl vs)), (mlb, .inl (cI, 48, .inl w2f))] → va_S A s.heap H locs → lv_has ls 3 [(2, .int x2), (1, .int x1), (0, .ref mo)] → W p l e (headSpec wsX7_weak ({ frames := 7, cells := 0, slots := 0, locals := 155 })).room s m ([.ref mo] : List Value).toArray below meth c H locs 0 0 (MQ below (va_Qi (fun r (_ : Unit) => r = res.1) (fun _ zt => va_P (dC, dI) vwCl [(mo, .inr (7, [.ref ms, .ref mah, .ref mhi, .int vkp, .ref msl, .ref msv, .ref mpd, .int vln, .ref mlb])), (ms, .inl (cI, 246, .inl vs)), (mlb, .inl (cI, 48, .inl res.2))] zt.heap) A) ([.ref mo] : List Value).toArray s 0 0 A) (F0 m 4 ls []) := by
    intro n
    induction n with
    | zero => intro k4 x2 x1 w2f _ _ _ _ hm; exact absurd hm (Nat.not_lt_zero _)
    | succ n ih4 =>
      intro k4 x2 x1 w2f H locs ls hk4 hm4 ex4  hq_1 hP hD hS hl
      rw [F_Model_weak_L4] at hq_1
      refine lv_iload_n hx hb dX7_weak_4 rfl (lv_at hl 0 rfl) ?_
      refine lv_bipush (v := 82) hx hb dX7_weak_5 (by decide) ?_
      refine lv_icmp_ge (tgt := 47) hx hb dX7_weak_7 (by decide) (fun c_2 => ?_) (fun c_2 => ?_)
      · rw [if_pos c_2] at hq_1
        subst hq_1
        exact hexit4 _ _ _  hP hD hS (lv_sub hl [0, 1, 2] rfl)
      · rw [if_neg c_2] at hq_1
        have hlt_k4 : k4 < 82 := lp_lt rfl ex4 hk4 c_2
        refine lv_aload_n hx hb dX7_weak_10 rfl (lv_at hl 2 rfl) ?_
        obtain ⟨r_3, hr_3⟩ : ∃ z, z = F_Model_isOver vs := ⟨_, rfl⟩
        rw [bnd_e hr_3] at hq_1
        refine ro_calli (va_runV (As := []) (rest := []) ⟨hx, hb, hml, hown, hts⟩ (c_Model_isOver l dC dI cI cC cG cZ mo ms mah mhi msl msv mpd mlb vkp vln vs  r_3 hr_3) (cwV 0 hts gX7_weak_X7_isOver rfl rfl rfl (by decide +kernel) ⟨Nat.le_of_ble_eq_true rfl, Nat.le_of_ble_eq_true rfl⟩) (ro_preV (hP.sub (ws' := [(mo, .inr (7, [.ref ms, .ref mah, .ref mhi, .int vkp, .ref msl, .ref msv, .ref mpd, .int vln, .ref mlb])), (ms, .inl (cI, 246, .inl vs))]) [0, 1] rfl) hK (ci := 7) (q0 := 0) rfl rfl) rfl rfl hl.1 rfl (lv_room (Nat.le_of_ble_eq_true rfl)) dX7_weak_11 ⟨Nat.zero_le _, Nat.zero_le _⟩) hP hS (fun H locs hP hS => ?_)
        refine lv_if_ne (tgt := 47) hx hb dX7_weak_14 (by decide) (fun c_4 => ?_) (fun c_4 => ?_)
        · rw [if_neg c_4] at hq_1
          subst hq_1
          exact hexit4 _ _ _  hP hD hS (lv_sub hl [0, 1, 2] rfl)
        · rw [if_pos c_4] at hq_1
          refine lv_iload_n hx hb dX7_weak_17 rfl (lv_at hl 1 rfl) ?_
          refine lv_aload_n hx hb dX7_weak_18 rfl (lv_at hl 2 rfl) ?_
          refine lv_iload_n hx hb dX7_weak_19 rfl (lv_at hl 0 rfl) ?_
          obtain ⟨r_5, hr_5⟩ : ∃ z, z = F_Model_holds x2 vs := ⟨_, rfl⟩
          rw [bnd_e hr_5] at hq_1
          refine ro_calli (va_runV (As := [.int x2]) (rest := [.int x1]) ⟨hx, hb, hml, hown, hts⟩ (c_Model_holds l dC dI cI cC cG cZ mo ms mah mhi msl msv mpd mlb x2 vkp vln vs (by rw [ex4]; exact vp_in_nI (by omega) (by decide)) r_5 hr_5) (cwV 1 hts gX7_weak_X7_holds rfl rfl rfl (by decide +kernel) ⟨Nat.le_of_ble_eq_true rfl, Nat.le_of_ble_eq_true rfl⟩) (ro_preV (hP.sub (ws' := [(mo, .inr (7, [.ref ms, .ref mah, .ref mhi, .int vkp, .ref msl, .ref msv, .ref mpd, .int vln, .ref mlb])), (ms, .inl (cI, 246, .inl vs))]) [0, 1] rfl) hK (ci := 7) (q0 := 0) rfl rfl) rfl rfl hl.1 rfl (lv_room (Nat.le_of_ble_eq_true rfl)) dX7_weak_20 ⟨Nat.zero_le _, Nat.zero_le _⟩) hP hS (fun H locs hP hS => ?_)
          refine lv_if_eq (tgt := 38) hx hb dX7_weak_23 (by decide) (fun c_6 => ?_) (fun c_6 => ?_)
          · rw [if_pos c_6] at hq_1
            refine lv_iconst (v := 0) hx hb dX7_weak_38 (by decide) ?_
            refine lv_iadd hx hb dX7_weak_39 ?_
            refine lv_istore_n (lv' := [(1, .int (x1 + 0)), (2, .int x2), (0, .ref mo)]) hx hb dX7_weak_40 rfl hl (by decide) rfl (fun ls hl => ?_)
            refine lv_iinc (v := (x2 + 1)) (lv' := [(2, .int (x2 + 1)), (1, .int (x1 + 0)), (0, .ref mo)]) hx hb dX7_weak_41 hl (k := 1) rfl rfl (by decide) rfl (fun ls hl => ?_)
            refine lv_goto (tgt := 4) hx hb dX7_weak_44 (by decide) ?_
            exact ih4 (k4 + 1) (x2 + 1) (x1 + 0) w2f _ _ _ (by omega) (by omega) (by rw [ex4]; exact nI_1 _)  hq_1 hP hD hS (lv_sub hl [0, 1, 2] rfl)
          · rw [if_neg c_6] at hq_1
            refine lv_aload_n hx hb dX7_weak_26 rfl (lv_at hl 2 rfl) ?_
            refine lv_iload_n hx hb dX7_weak_27 rfl (lv_at hl 0 rfl) ?_
            obtain ⟨r_7, hr_7⟩ : ∃ z, z = F_Model_cellsBy x2 vs w2f := ⟨_, rfl⟩
            rw [bnd_e hr_7] at hq_1
            refine wr_calli (w1 := [(mo, .inr (7, [.ref ms, .ref mah, .ref mhi, .int vkp, .ref msl, .ref msv, .ref mpd, .int vln, .ref mlb])), (ms, .inl (cI, 246, .inl vs)), (mlb, .inl (cI, 48, .inl r_7.2))]) (is := [0, 1, 2]) (va_runV (As := [.int x2]) (rest := [.int x1]) ⟨hx, hb, hml, hown, hts⟩ (c_Model_cellsBy l dC dI cI cC cG cZ mo ms mah mhi msl msv mpd mlb x2 vkp vln vs w2f (by rw [ex4]; exact vp_in_nI (by omega) (by decide)) r_7 hr_7) (cwV 1 hts gX7_weak_X7_cellsBy rfl rfl rfl (by decide +kernel) ⟨Nat.le_of_ble_eq_true rfl, Nat.le_of_ble_eq_true rfl⟩) (wr_preV (hP.sub (ws' := [(mo, .inr (7, [.ref ms, .ref mah, .ref mhi, .int vkp, .ref msl, .ref msv, .ref mpd, .int vln, .ref mlb])), (ms, .inl (cI, 246, .inl vs)), (mlb, .inl (cI, 48, .inl w2f))]) [0, 1, 2] rfl) hK (hD.sub (ws' := [(mo, .inr (7, [.ref ms, .ref mah, .ref mhi, .int vkp, .ref msl, .ref msv, .ref mpd, .int vln, .ref mlb])), (ms, .inl (cI, 246, .inl vs)), (mlb, .inl (cI, 48, .inl w2f))]) [0, 1, 2] (by decide) rfl) (ci := 7) (q0 := 0) rfl rfl) rfl rfl hl.1 rfl (lv_room (Nat.le_of_ble_eq_true rfl)) dX7_weak_28 ⟨Nat.zero_le _, Nat.zero_le _⟩) hP hD hS rfl rfl rfl (fun H locs hP hD hS => ?_)
            have hP : va_P (dC, dI) vwCl [(mo, .inr (7, [.ref ms, .ref mah, .ref mhi, .int vkp, .ref msl, .ref msv, .ref mpd, .int vln, .ref mlb])), (ms, .inl (cI, 246, .inl vs)), (mlb, .inl (cI, 48, .inl r_7.2))] H := hP
            have hD : va_D A [(mo, .inr (7, [.ref ms, .ref mah, .ref mhi, .int vkp, .ref msl, .ref msv, .ref mpd, .int vln, .ref mlb])), (ms, .inl (cI, 246, .inl vs)), (mlb, .inl (cI, 48, .inl r_7.2))] := hD
            refine lv_if_le (tgt := 38) hx hb dX7_weak_31 (by decide) (fun c_8 => ?_) (fun c_8 => ?_)
            · rw [if_pos c_8] at hq_1
              refine lv_iconst (v := 0) hx hb dX7_weak_38 (by decide) ?_
              refine lv_iadd hx hb dX7_weak_39 ?_
              refine lv_istore_n (lv' := [(1, .int (x1 + 0)), (2, .int x2), (0, .ref mo)]) hx hb dX7_weak_40 rfl hl (by decide) rfl (fun ls hl => ?_)
              refine lv_iinc (v := (x2 + 1)) (lv' := [(2, .int (x2 + 1)), (1, .int (x1 + 0)), (0, .ref mo)]) hx hb dX7_weak_41 hl (k := 1) rfl rfl (by decide) rfl (fun ls hl => ?_)
              refine lv_goto (tgt := 4) hx hb dX7_weak_44 (by decide) ?_
              exact ih4 (k4 + 1) (x2 + 1) (x1 + 0) r_7.2 _ _ _ (by omega) (by omega) (by rw [ex4]; exact nI_1 _)  hq_1 hP hD hS (lv_sub hl [0, 1, 2] rfl)
            · rw [if_neg c_8] at hq_1
              refine lv_iconst (v := 1) hx hb dX7_weak_34 (by decide) ?_
              refine lv_goto (tgt := 39) hx hb dX7_weak_35 (by decide) ?_
              refine lv_iadd hx hb dX7_weak_39 ?_
              refine lv_istore_n (lv' := [(1, .int (x1 + 1)), (2, .int x2), (0, .ref mo)]) hx hb dX7_weak_40 rfl hl (by decide) rfl (fun ls hl => ?_)
              refine lv_iinc (v := (x2 + 1)) (lv' := [(2, .int (x2 + 1)), (1, .int (x1 + 1)), (0, .ref mo)]) hx hb dX7_weak_41 hl (k := 1) rfl rfl (by decide) rfl (fun ls hl => ?_)
              refine lv_goto (tgt := 4) hx hb dX7_weak_44 (by decide) ?_
              exact ih4 (k4 + 1) (x2 + 1) (x1 + 1) r_7.2 _ _ _ (by omega) (by omega) (by rw [ex4]; exact nI_1 _)  hq_1 hP hD hS (lv_sub hl [0, 1, 2] rfl)
  exact hloop4 83 0 (0 : Int32) (0 : Int32) vlb _ _ _ (by omega) (by omega) nI_0.symm  hq_1 hP hD hS (lv_sub hl [0, 1, 2] rfl)
theorem iX7_together_X7 : ∀ w ∈ u_ws RX7 TX7 9, w ∈ wsX7_together := by decide +kernel
theorem kX7_together_29 : Cond.fieldLink RX7 29 "TailorChalksModel" "label" "[I" ∈ wsX7_together := by decide +kernel
def F_Model_together (cell : Int32) (other : Int32) (way : Int32) (vs : Nat → Int32) (vlb : Nat → Int32) : Int32 × (Nat → Int32) := (bnd (F_Model_isCell cell) (fun r_1 => (if r_1 = 0 then ((-1), vlb) else (bnd (F_Model_isCell other) (fun r_3 => (if r_3 = 0 then ((-1), vlb) else (bnd (F_Model_in way (0 : Int32) (1 : Int32)) (fun r_5 => (if r_5 = 0 then ((-2), vlb) else (bnd (F_Model_isGone cell vs) (fun r_7 => (if r_7 = 0 then (bnd (F_Model_isGone other vs) (fun r_9 => (if r_9 = 0 then (if way = 1 then (bnd (F_Model_layPieces (-6 : Int32) (1 : Int32) vs vlb) (fun r_14 => (if (r_14 cell.toNatClampNeg) = (r_14 other.toNatClampNeg) then (1, r_14) else (0, r_14)))) else (bnd (F_Model_layPieces (-6 : Int32) (0 : Int32) vs vlb) (fun r_12 => (if (r_12 cell.toNatClampNeg) = (r_12 other.toNatClampNeg) then (1, r_12) else (0, r_12))))) else ((-5), vlb)))) else ((-5), vlb)))))))))))))
set_option maxHeartbeats 4000000 in
set_option maxRecDepth 100000 in
theorem c_Model_together (l : Launch) (dC : Nat → ClassId) (dI : Nat → Nat → Nat) (cI cC cG cZ : ClassId) (mo ms mah mhi msl msv mpd mlb : Nat) (cell : Int32) (other : Int32) (way : Int32) (vkp : Int32) (vln : Int32) (vs : Nat → Int32) (vlb : Nat → Int32) (res : Int32 × (Nat → Int32)) (hres : res = F_Model_together cell other way vs vlb) : Met l yX7_together wsX7_together ({ frames := 5, cells := 0, slots := 0, locals := 109 }) (va_Pc [.ref mo, .int cell, .int other, .int way] (wr_P (dC, dI) vwCl (tyL cI cC cG cZ) [(mo, .inr (7, [.ref ms, .ref mah, .ref mhi, .int vkp, .ref msl, .ref msv, .ref mpd, .int vln, .ref mlb])), (ms, .inl (cI, 246, .inl vs)), (mlb, .inl (cI, 48, .inl vlb))])) (va_Qi (fun r (_ : Unit) => r = res.1) (fun _ zt => va_P (dC, dI) vwCl [(mo, .inr (7, [.ref ms, .ref mah, .ref mhi, .int vkp, .ref msl, .ref msv, .ref mpd, .int vln, .ref mlb])), (ms, .inl (cI, 246, .inl vs)), (mlb, .inl (cI, 48, .inl res.2))] zt.heap) (wr_A [(mo, .inr (7, [.ref ms, .ref mah, .ref mhi, .int vkp, .ref msl, .ref msv, .ref mpd, .int vln, .ref mlb])), (ms, .inl (cI, 246, .inl vs)), (mlb, .inl (cI, 48, .inl vlb))])) 0 0 (wr_A [(mo, .inr (7, [.ref ms, .ref mah, .ref mhi, .int vkp, .ref msl, .ref msv, .ref mpd, .int vln, .ref mlb])), (ms, .inl (cI, 246, .inl vs)), (mlb, .inl (cI, 48, .inl vlb))]) := by
  refine Met.ofW (cc := cX7_together) (maxL := 4) (ret := (some .int)) (by decide) rfl ?_
  intro p e s m args below meth c s₁ B hml hv
  obtain ⟨rfl, hP, hK, hD0⟩ := hv
  have hx := B.exec
  have hb := B.bytes
  have hr := B.returns
  have hts := atoms_spec (ws := wsX7_together) B.pre
  have hown : s.vm.findClass RX7 = some m.cls := findClass_of_methodNamed B.named
  have hlocks := B.notSynchronized
  have hD := wr_self hD0
  generalize hAe : wr_A [(mo, .inr (7, [.ref ms, .ref mah, .ref mhi, .int vkp, .ref msl, .ref msv, .ref mpd, .int vln, .ref mlb])), (ms, .inl (cI, 246, .inl vs)), (mlb, .inl (cI, 48, .inl vlb))] = A at hD ⊢
  have hS : va_S A s.heap s.heap [] := va_S.rf
  have hP : va_P (dC, dI) vwCl [(mo, .inr (7, [.ref ms, .ref mah, .ref mhi, .int vkp, .ref msl, .ref msv, .ref mpd, .int vln, .ref mlb])), (ms, .inl (cI, 246, .inl vs)), (mlb, .inl (cI, 48, .inl vlb))] s.heap := hP
  have hl := lv_entry ([.ref mo, .int cell, .int other, .int way]) (n := 4) (Nat.le_of_ble_eq_true rfl)
  rw [lg_entry_eq]
  generalize (lg_sl ([.ref mo, .int cell, .int other, .int way]) ++ List.replicate (4 - (lg_sl ([.ref mo, .int cell, .int other, .int way])).length) Slot.unset).toArray = ls at hl ⊢
  have hl : lv_has ls 4 [(0, .ref mo), (1, .int cell), (2, .int other), (3, .int way)] := hl
  rw [F_Model_together] at hres
  refine lv_iload_n hx hb dX7_together_0 rfl (lv_at hl 1 rfl) ?_
  obtain ⟨r_1, hr_1⟩ : ∃ z, z = F_Model_isCell cell := ⟨_, rfl⟩
  rw [bnd_e hr_1] at hres
  refine ro_calli (va_runS (As := [.int cell]) (rest := []) ⟨hx, hb, hml, hown, hts⟩ (c_Model_isCell l dC dI cI cC cG cZ  cell  r_1 hr_1) (va_cwS 1 hts gX7_together_X7_isCell rfl rfl rfl (by decide +kernel) ⟨Nat.le_of_ble_eq_true rfl, Nat.le_of_ble_eq_true rfl⟩) (ro_preS (hP.sub (ws' := []) [] rfl) hK) rfl rfl hl.1 rfl (lv_room (Nat.le_of_ble_eq_true rfl)) dX7_together_1 ⟨Nat.zero_le _, Nat.zero_le _⟩) hP hS (fun H locs hP hS => ?_)
  refine lv_if_eq (tgt := 14) hx hb dX7_together_4 (by decide) (fun c_2 => ?_) (fun c_2 => ?_)
  · rw [if_pos c_2] at hres
    refine lv_iconst (v := (-1)) hx hb dX7_together_14 (by decide) ?_
    subst hres
    exact W.iret (v := (-1)) hx hb hr (fun t ht hW => ⟨⟨(-1), (), rfl, rfl, (by show va_P _ _ _ t.heap; rw [ht]; exact hP)⟩, hS.F ht⟩) hS.2.2 dX7_together_15
  · rw [if_neg c_2] at hres
    refine lv_iload_n hx hb dX7_together_7 rfl (lv_at hl 2 rfl) ?_
    obtain ⟨r_3, hr_3⟩ : ∃ z, z = F_Model_isCell other := ⟨_, rfl⟩
    rw [bnd_e hr_3] at hres
    refine ro_calli (va_runS (As := [.int other]) (rest := []) ⟨hx, hb, hml, hown, hts⟩ (c_Model_isCell l dC dI cI cC cG cZ  other  r_3 hr_3) (va_cwS 1 hts gX7_together_X7_isCell rfl rfl rfl (by decide +kernel) ⟨Nat.le_of_ble_eq_true rfl, Nat.le_of_ble_eq_true rfl⟩) (ro_preS (hP.sub (ws' := []) [] rfl) hK) rfl rfl hl.1 rfl (lv_room (Nat.le_of_ble_eq_true rfl)) dX7_together_8 ⟨Nat.zero_le _, Nat.zero_le _⟩) hP hS (fun H locs hP hS => ?_)
    refine lv_if_ne (tgt := 16) hx hb dX7_together_11 (by decide) (fun c_4 => ?_) (fun c_4 => ?_)
    · rw [if_neg c_4] at hres
      refine lv_iload_n hx hb dX7_together_16 rfl (lv_at hl 3 rfl) ?_
      refine lv_iconst (v := 0) hx hb dX7_together_17 (by decide) ?_
      refine lv_iconst (v := 1) hx hb dX7_together_18 (by decide) ?_
      obtain ⟨r_5, hr_5⟩ : ∃ z, z = F_Model_in way (0 : Int32) (1 : Int32) := ⟨_, rfl⟩
      rw [bnd_e hr_5] at hres
      refine ro_calli (va_runS (As := [.int way, .int 0, .int 1]) (rest := []) ⟨hx, hb, hml, hown, hts⟩ (c_Model_in l dC dI cI cC cG cZ  way (0 : Int32) (1 : Int32)  r_5 hr_5) (va_cwS 3 hts gX7_together_X7_in rfl rfl rfl (by decide +kernel) ⟨Nat.le_of_ble_eq_true rfl, Nat.le_of_ble_eq_true rfl⟩) (ro_preS (hP.sub (ws' := []) [] rfl) hK) rfl rfl hl.1 rfl (lv_room (Nat.le_of_ble_eq_true rfl)) dX7_together_19 ⟨Nat.zero_le _, Nat.zero_le _⟩) hP hS (fun H locs hP hS => ?_)
      refine lv_if_ne (tgt := 28) hx hb dX7_together_22 (by decide) (fun c_6 => ?_) (fun c_6 => ?_)
      · rw [if_neg c_6] at hres
        refine lv_aload_n hx hb dX7_together_28 rfl (lv_at hl 0 rfl) ?_
        refine lv_iload_n hx hb dX7_together_29 rfl (lv_at hl 1 rfl) ?_
        obtain ⟨r_7, hr_7⟩ : ∃ z, z = F_Model_isGone cell vs := ⟨_, rfl⟩
        rw [bnd_e hr_7] at hres
        refine ro_calli (va_runV (As := [.int cell]) (rest := []) ⟨hx, hb, hml, hown, hts⟩ (c_Model_isGone l dC dI cI cC cG cZ mo ms mah mhi msl msv mpd mlb cell vkp vln vs (mcl_in (by rw [← hr_1]; exact c_2)) r_7 hr_7) (cwV 1 hts gX7_together_X7_isGone rfl rfl rfl (by decide +kernel) ⟨Nat.le_of_ble_eq_true rfl, Nat.le_of_ble_eq_true rfl⟩) (ro_preV (hP.sub (ws' := [(mo, .inr (7, [.ref ms, .ref mah, .ref mhi, .int vkp, .ref msl, .ref msv, .ref mpd, .int vln, .ref mlb])), (ms, .inl (cI, 246, .inl vs))]) [0, 1] rfl) hK (ci := 7) (q0 := 0) rfl rfl) rfl rfl hl.1 rfl (lv_room (Nat.le_of_ble_eq_true rfl)) dX7_together_30 ⟨Nat.zero_le _, Nat.zero_le _⟩) hP hS (fun H locs hP hS => ?_)
        refine lv_if_ne (tgt := 44) hx hb dX7_together_33 (by decide) (fun c_8 => ?_) (fun c_8 => ?_)
        · rw [if_neg c_8] at hres
          refine lv_bipush (v := (-5)) hx hb dX7_together_44 (by decide) ?_
          subst hres
          exact W.iret (v := (-5)) hx hb hr (fun t ht hW => ⟨⟨(-5), (), rfl, rfl, (by show va_P _ _ _ t.heap; rw [ht]; exact hP)⟩, hS.F ht⟩) hS.2.2 dX7_together_46
        · rw [if_pos c_8] at hres
          refine lv_aload_n hx hb dX7_together_36 rfl (lv_at hl 0 rfl) ?_
          refine lv_iload_n hx hb dX7_together_37 rfl (lv_at hl 2 rfl) ?_
          obtain ⟨r_9, hr_9⟩ : ∃ z, z = F_Model_isGone other vs := ⟨_, rfl⟩
          rw [bnd_e hr_9] at hres
          refine ro_calli (va_runV (As := [.int other]) (rest := []) ⟨hx, hb, hml, hown, hts⟩ (c_Model_isGone l dC dI cI cC cG cZ mo ms mah mhi msl msv mpd mlb other vkp vln vs (mcl_in (by rw [← hr_3]; exact c_4)) r_9 hr_9) (cwV 1 hts gX7_together_X7_isGone rfl rfl rfl (by decide +kernel) ⟨Nat.le_of_ble_eq_true rfl, Nat.le_of_ble_eq_true rfl⟩) (ro_preV (hP.sub (ws' := [(mo, .inr (7, [.ref ms, .ref mah, .ref mhi, .int vkp, .ref msl, .ref msv, .ref mpd, .int vln, .ref mlb])), (ms, .inl (cI, 246, .inl vs))]) [0, 1] rfl) hK (ci := 7) (q0 := 0) rfl rfl) rfl rfl hl.1 rfl (lv_room (Nat.le_of_ble_eq_true rfl)) dX7_together_38 ⟨Nat.zero_le _, Nat.zero_le _⟩) hP hS (fun H locs hP hS => ?_)
          refine lv_if_eq (tgt := 47) hx hb dX7_together_41 (by decide) (fun c_10 => ?_) (fun c_10 => ?_)
          · rw [if_pos c_10] at hres
            refine lv_aload_n hx hb dX7_together_47 rfl (lv_at hl 0 rfl) ?_
            refine lv_bipush (v := (-6)) hx hb dX7_together_48 (by decide) ?_
            refine lv_iload_n hx hb dX7_together_50 rfl (lv_at hl 3 rfl) ?_
            refine lv_iconst (v := 1) hx hb dX7_together_51 (by decide) ?_
            refine lv_icmp_ne (tgt := 59) hx hb dX7_together_52 (by decide) (fun c_11 => ?_) (fun c_11 => ?_)
            · rw [if_neg c_11] at hres
              refine lv_iconst (v := 0) hx hb dX7_together_59 (by decide) ?_
              obtain ⟨r_12, hr_12⟩ : ∃ z, z = F_Model_layPieces (-6 : Int32) (0 : Int32) vs vlb := ⟨_, rfl⟩
              rw [bnd_e hr_12] at hres
              refine wr_callv (w1 := [(mo, .inr (7, [.ref ms, .ref mah, .ref mhi, .int vkp, .ref msl, .ref msv, .ref mpd, .int vln, .ref mlb])), (ms, .inl (cI, 246, .inl vs)), (mlb, .inl (cI, 48, .inl r_12))]) (is := [0, 1, 2]) (va_runV (As := [.int (-6), .int 0]) (rest := []) ⟨hx, hb, hml, hown, hts⟩ (c_Model_layPieces l dC dI cI cC cG cZ mo ms mah mhi msl msv mpd mlb (-6 : Int32) (0 : Int32) vkp vln vs vlb  r_12 hr_12) (cwV 2 hts gX7_together_X7_layPieces rfl rfl rfl (by decide +kernel) ⟨Nat.le_of_ble_eq_true rfl, Nat.le_of_ble_eq_true rfl⟩) (wr_preV (hP.sub (ws' := [(mo, .inr (7, [.ref ms, .ref mah, .ref mhi, .int vkp, .ref msl, .ref msv, .ref mpd, .int vln, .ref mlb])), (ms, .inl (cI, 246, .inl vs)), (mlb, .inl (cI, 48, .inl vlb))]) [0, 1, 2] rfl) hK (hD.sub (ws' := [(mo, .inr (7, [.ref ms, .ref mah, .ref mhi, .int vkp, .ref msl, .ref msv, .ref mpd, .int vln, .ref mlb])), (ms, .inl (cI, 246, .inl vs)), (mlb, .inl (cI, 48, .inl vlb))]) [0, 1, 2] (by decide) rfl) (ci := 7) (q0 := 0) rfl rfl) rfl rfl hl.1 rfl (lv_room (Nat.le_of_ble_eq_true rfl)) dX7_together_60 ⟨Nat.zero_le _, Nat.zero_le _⟩) hP hD hS rfl rfl rfl (fun H locs hP hD hS => ?_)
              have hP : va_P (dC, dI) vwCl [(mo, .inr (7, [.ref ms, .ref mah, .ref mhi, .int vkp, .ref msl, .ref msv, .ref mpd, .int vln, .ref mlb])), (ms, .inl (cI, 246, .inl vs)), (mlb, .inl (cI, 48, .inl r_12))] H := hP
              have hD : va_D A [(mo, .inr (7, [.ref ms, .ref mah, .ref mhi, .int vkp, .ref msl, .ref msv, .ref mpd, .int vln, .ref mlb])), (ms, .inl (cI, 246, .inl vs)), (mlb, .inl (cI, 48, .inl r_12))] := hD
              refine lv_aload_n hx hb dX7_together_63 rfl (lv_at hl 0 rfl) ?_
              refine va_get (D := (dC, dI)) (ci := 7) (v := .ref mlb) (C := RX7) (T := TX7) (N := 9) hx hb hts iX7_together_X7 hown hK hP 0 rfl rfl 8 (by decide) (hts (.fieldLink RX7 29 "TailorChalksModel" "label" "[I") kX7_together_29) (fun _ h9 => h9) rfl dX7_together_64 ?_
              refine lv_iload_n hx hb dX7_together_67 rfl (lv_at hl 1 rfl) ?_
              refine va_iald hx hb hK hP 2 0 rfl rfl (mcl_in (by rw [← hr_1]; exact c_2)) dX7_together_68 ?_
              refine lv_aload_n hx hb dX7_together_69 rfl (lv_at hl 0 rfl) ?_
              refine va_get (D := (dC, dI)) (ci := 7) (v := .ref mlb) (C := RX7) (T := TX7) (N := 9) hx hb hts iX7_together_X7 hown hK hP 0 rfl rfl 8 (by decide) (hts (.fieldLink RX7 29 "TailorChalksModel" "label" "[I") kX7_together_29) (fun _ h9 => h9) rfl dX7_together_70 ?_
              refine lv_iload_n hx hb dX7_together_73 rfl (lv_at hl 2 rfl) ?_
              refine va_iald hx hb hK hP 2 0 rfl rfl (mcl_in (by rw [← hr_3]; exact c_4)) dX7_together_74 ?_
              refine lv_icmp_ne (tgt := 82) hx hb dX7_together_75 (by decide) (fun c_13 => ?_) (fun c_13 => ?_)
              · rw [if_neg c_13] at hres
                refine lv_iconst (v := 0) hx hb dX7_together_82 (by decide) ?_
                subst hres
                exact W.iret (v := 0) hx hb hr (fun t ht hW => ⟨⟨0, (), rfl, rfl, (by show va_P _ _ _ t.heap; rw [ht]; exact hP)⟩, hS.F ht⟩) hS.2.2 dX7_together_83
              · rw [if_pos c_13] at hres
                refine lv_iconst (v := 1) hx hb dX7_together_78 (by decide) ?_
                refine lv_goto (tgt := 83) hx hb dX7_together_79 (by decide) ?_
                subst hres
                exact W.iret (v := 1) hx hb hr (fun t ht hW => ⟨⟨1, (), rfl, rfl, (by show va_P _ _ _ t.heap; rw [ht]; exact hP)⟩, hS.F ht⟩) hS.2.2 dX7_together_83
            · rw [if_pos c_11] at hres
              refine lv_iconst (v := 1) hx hb dX7_together_55 (by decide) ?_
              refine lv_goto (tgt := 60) hx hb dX7_together_56 (by decide) ?_
              obtain ⟨r_14, hr_14⟩ : ∃ z, z = F_Model_layPieces (-6 : Int32) (1 : Int32) vs vlb := ⟨_, rfl⟩
              rw [bnd_e hr_14] at hres
              refine wr_callv (w1 := [(mo, .inr (7, [.ref ms, .ref mah, .ref mhi, .int vkp, .ref msl, .ref msv, .ref mpd, .int vln, .ref mlb])), (ms, .inl (cI, 246, .inl vs)), (mlb, .inl (cI, 48, .inl r_14))]) (is := [0, 1, 2]) (va_runV (As := [.int (-6), .int 1]) (rest := []) ⟨hx, hb, hml, hown, hts⟩ (c_Model_layPieces l dC dI cI cC cG cZ mo ms mah mhi msl msv mpd mlb (-6 : Int32) (1 : Int32) vkp vln vs vlb  r_14 hr_14) (cwV 2 hts gX7_together_X7_layPieces rfl rfl rfl (by decide +kernel) ⟨Nat.le_of_ble_eq_true rfl, Nat.le_of_ble_eq_true rfl⟩) (wr_preV (hP.sub (ws' := [(mo, .inr (7, [.ref ms, .ref mah, .ref mhi, .int vkp, .ref msl, .ref msv, .ref mpd, .int vln, .ref mlb])), (ms, .inl (cI, 246, .inl vs)), (mlb, .inl (cI, 48, .inl vlb))]) [0, 1, 2] rfl) hK (hD.sub (ws' := [(mo, .inr (7, [.ref ms, .ref mah, .ref mhi, .int vkp, .ref msl, .ref msv, .ref mpd, .int vln, .ref mlb])), (ms, .inl (cI, 246, .inl vs)), (mlb, .inl (cI, 48, .inl vlb))]) [0, 1, 2] (by decide) rfl) (ci := 7) (q0 := 0) rfl rfl) rfl rfl hl.1 rfl (lv_room (Nat.le_of_ble_eq_true rfl)) dX7_together_60 ⟨Nat.zero_le _, Nat.zero_le _⟩) hP hD hS rfl rfl rfl (fun H locs hP hD hS => ?_)
              have hP : va_P (dC, dI) vwCl [(mo, .inr (7, [.ref ms, .ref mah, .ref mhi, .int vkp, .ref msl, .ref msv, .ref mpd, .int vln, .ref mlb])), (ms, .inl (cI, 246, .inl vs)), (mlb, .inl (cI, 48, .inl r_14))] H := hP
              have hD : va_D A [(mo, .inr (7, [.ref ms, .ref mah, .ref mhi, .int vkp, .ref msl, .ref msv, .ref mpd, .int vln, .ref mlb])), (ms, .inl (cI, 246, .inl vs)), (mlb, .inl (cI, 48, .inl r_14))] := hD
              refine lv_aload_n hx hb dX7_together_63 rfl (lv_at hl 0 rfl) ?_
              refine va_get (D := (dC, dI)) (ci := 7) (v := .ref mlb) (C := RX7) (T := TX7) (N := 9) hx hb hts iX7_together_X7 hown hK hP 0 rfl rfl 8 (by decide) (hts (.fieldLink RX7 29 "TailorChalksModel" "label" "[I") kX7_together_29) (fun _ h9 => h9) rfl dX7_together_64 ?_
              refine lv_iload_n hx hb dX7_together_67 rfl (lv_at hl 1 rfl) ?_
              refine va_iald hx hb hK hP 2 0 rfl rfl (mcl_in (by rw [← hr_1]; exact c_2)) dX7_together_68 ?_
              refine lv_aload_n hx hb dX7_together_69 rfl (lv_at hl 0 rfl) ?_
              refine va_get (D := (dC, dI)) (ci := 7) (v := .ref mlb) (C := RX7) (T := TX7) (N := 9) hx hb hts iX7_together_X7 hown hK hP 0 rfl rfl 8 (by decide) (hts (.fieldLink RX7 29 "TailorChalksModel" "label" "[I") kX7_together_29) (fun _ h9 => h9) rfl dX7_together_70 ?_
              refine lv_iload_n hx hb dX7_together_73 rfl (lv_at hl 2 rfl) ?_
              refine va_iald hx hb hK hP 2 0 rfl rfl (mcl_in (by rw [← hr_3]; exact c_4)) dX7_together_74 ?_
              refine lv_icmp_ne (tgt := 82) hx hb dX7_together_75 (by decide) (fun c_15 => ?_) (fun c_15 => ?_)
              · rw [if_neg c_15] at hres
                refine lv_iconst (v := 0) hx hb dX7_together_82 (by decide) ?_
                subst hres
                exact W.iret (v := 0) hx hb hr (fun t ht hW => ⟨⟨0, (), rfl, rfl, (by show va_P _ _ _ t.heap; rw [ht]; exact hP)⟩, hS.F ht⟩) hS.2.2 dX7_together_83
              · rw [if_pos c_15] at hres
                refine lv_iconst (v := 1) hx hb dX7_together_78 (by decide) ?_
                refine lv_goto (tgt := 83) hx hb dX7_together_79 (by decide) ?_
                subst hres
                exact W.iret (v := 1) hx hb hr (fun t ht hW => ⟨⟨1, (), rfl, rfl, (by show va_P _ _ _ t.heap; rw [ht]; exact hP)⟩, hS.F ht⟩) hS.2.2 dX7_together_83
          · rw [if_neg c_10] at hres
            refine lv_bipush (v := (-5)) hx hb dX7_together_44 (by decide) ?_
            subst hres
            exact W.iret (v := (-5)) hx hb hr (fun t ht hW => ⟨⟨(-5), (), rfl, rfl, (by show va_P _ _ _ t.heap; rw [ht]; exact hP)⟩, hS.F ht⟩) hS.2.2 dX7_together_46
      · rw [if_pos c_6] at hres
        refine lv_bipush (v := (-2)) hx hb dX7_together_25 (by decide) ?_
        subst hres
        exact W.iret (v := (-2)) hx hb hr (fun t ht hW => ⟨⟨(-2), (), rfl, rfl, (by show va_P _ _ _ t.heap; rw [ht]; exact hP)⟩, hS.F ht⟩) hS.2.2 dX7_together_27
    · rw [if_pos c_4] at hres
      refine lv_iconst (v := (-1)) hx hb dX7_together_14 (by decide) ?_
      subst hres
      exact W.iret (v := (-1)) hx hb hr (fun t ht hW => ⟨⟨(-1), (), rfl, rfl, (by show va_P _ _ _ t.heap; rw [ht]; exact hP)⟩, hS.F ht⟩) hS.2.2 dX7_together_15
