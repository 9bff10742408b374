theorem iX6_put_X6 : ∀ w ∈ u_ws RX6 TX6 5, w ∈ wsX6_put := by decide +kernel
theorem kX6_put_36 : Cond.fieldLink RX6 36 "TailorChalks" "pad" "LTailorChalks$Pad;" ∈ wsX6_put := by decide +kernel
def F_TC_put (characters : Int64) (ln : Int32) (fsg : Nat → Int32) : Int32 × Int32 × (Nat → Int32) := (bnd (F_Pad_append characters ln fsg) (fun r_1 => (r_1.1, r_1.2.1, r_1.2.2)))
set_option maxHeartbeats 4000000 in
set_option maxRecDepth 100000 in
theorem c_TC_put (l : Launch) (dC : Nat → ClassId) (dI : Nat → Nat → Nat) (cI cC cG cZ : ClassId) (tc g h s0 s1 pd sg : Nat) (characters : Int64) (ln : Int32) (fsg : Nat → Int32) (hln : tm_ok 80 ln) (res : Int32 × Int32 × (Nat → Int32)) (hres : res = F_TC_put characters ln fsg) : Met l yX6_put wsX6_put ({ frames := 2, cells := 0, slots := 0, locals := 50 }) (va_Pc [.ref tc, .long characters] (wr_P (dC, dI) vwCl (tyL cI cC cG cZ) [(tc, .inr (6, [.ref g, .ref h, .ref s0, .ref s1, .ref pd])), (pd, .inr (3, [.ref sg, .int ln])), (sg, .inl (cC, 80, .inl fsg))])) (va_Qi (fun r (_ : Unit) => r = res.1) (fun _ zt => va_P (dC, dI) vwCl [(tc, .inr (6, [.ref g, .ref h, .ref s0, .ref s1, .ref pd])), (pd, .inr (3, [.ref sg, .int res.2.1])), (sg, .inl (cC, 80, .inl res.2.2))] zt.heap) (wr_A [(tc, .inr (6, [.ref g, .ref h, .ref s0, .ref s1, .ref pd])), (pd, .inr (3, [.ref sg, .int ln])), (sg, .inl (cC, 80, .inl fsg))])) 0 0 (wr_A [(tc, .inr (6, [.ref g, .ref h, .ref s0, .ref s1, .ref pd])), (pd, .inr (3, [.ref sg, .int ln])), (sg, .inl (cC, 80, .inl fsg))]) := by
  refine Met.ofW (cc := cX6_put) (maxL := 3) (ret := (some .int)) (by decide) rfl ?_
  intro p e s m args below meth c s₁ B hml hv
  obtain ⟨rfl, hP, hK, hD0⟩ := hv
  have hx := B.exec
  have hb := B.bytes
  have hr := B.returns
  have hts := atoms_spec (ws := wsX6_put) B.pre
  have hown : s.vm.findClass RX6 = some m.cls := findClass_of_methodNamed B.named
  have hlocks := B.notSynchronized
  have hD := wr_self hD0
  generalize hAe : wr_A [(tc, .inr (6, [.ref g, .ref h, .ref s0, .ref s1, .ref pd])), (pd, .inr (3, [.ref sg, .int ln])), (sg, .inl (cC, 80, .inl fsg))] = A at hD ⊢
  have hS : va_S A s.heap s.heap [] := va_S.rf
  have hP : va_P (dC, dI) vwCl [(tc, .inr (6, [.ref g, .ref h, .ref s0, .ref s1, .ref pd])), (pd, .inr (3, [.ref sg, .int ln])), (sg, .inl (cC, 80, .inl fsg))] s.heap := hP
  have hl := lv_entry ([.ref tc, .long characters]) (n := 3) (Nat.le_of_ble_eq_true rfl)
  rw [lg_entry_eq]
  generalize (lg_sl ([.ref tc, .long characters]) ++ List.replicate (3 - (lg_sl ([.ref tc, .long characters])).length) Slot.unset).toArray = ls at hl ⊢
  have hl : lv_has ls 3 [(0, .ref tc), (1, .long characters)] := hl
  rw [F_TC_put] at hres
  refine lv_aload_n hx hb dX6_put_0 rfl (lv_at hl 0 rfl) ?_
  refine va_get (D := (dC, dI)) (ci := 6) (v := .ref pd) (C := RX6) (T := TX6) (N := 5) hx hb hts iX6_put_X6 hown hK hP 0 rfl rfl 4 (by decide) (hts (.fieldLink RX6 36 "TailorChalks" "pad" "LTailorChalks$Pad;") kX6_put_36) (fun _ h9 => h9) rfl dX6_put_1 ?_
  refine lv_lload_n hx hb dX6_put_4 rfl (lv_at hl 1 rfl) ?_
  obtain ⟨r_1, hr_1⟩ : ∃ z, z = F_Pad_append characters ln fsg := ⟨_, rfl⟩
  rw [bnd_e hr_1] at hres
  refine wr_calli (w1 := [(pd, .inr (3, [.ref sg, .int r_1.2.1])), (sg, .inl (cC, 80, .inl r_1.2.2))]) (is := [1, 2]) (va_runV (As := [.long characters]) (rest := []) ⟨hx, hb, hml, hown, hts⟩ (c_Pad_append l dC dI cI cC cG cZ pd sg characters ln fsg hln r_1 hr_1) (cwV 1 hts gX6_put_X3_append rfl rfl rfl (by decide +kernel) ⟨Nat.le_of_ble_eq_true rfl, Nat.le_of_ble_eq_true rfl⟩) (wr_preV (hP.sub (ws' := [(pd, .inr (3, [.ref sg, .int ln])), (sg, .inl (cC, 80, .inl fsg))]) [1, 2] rfl) hK (hD.sub (ws' := [(pd, .inr (3, [.ref sg, .int ln])), (sg, .inl (cC, 80, .inl fsg))]) [1, 2] (by decide) rfl) (ci := 3) (q0 := 0) rfl rfl) rfl rfl hl.1 rfl (lv_room (Nat.le_of_ble_eq_true rfl)) dX6_put_5 ⟨Nat.zero_le _, Nat.zero_le _⟩) hP hD hS rfl rfl rfl (fun H locs hP hD hS => ?_)
  have hP : va_P (dC, dI) vwCl [(tc, .inr (6, [.ref g, .ref h, .ref s0, .ref s1, .ref pd])), (pd, .inr (3, [.ref sg, .int r_1.2.1])), (sg, .inl (cC, 80, .inl r_1.2.2))] H := hP
  have hD : va_D A [(tc, .inr (6, [.ref g, .ref h, .ref s0, .ref s1, .ref pd])), (pd, .inr (3, [.ref sg, .int r_1.2.1])), (sg, .inl (cC, 80, .inl r_1.2.2))] := hD
  subst hres
  exact W.iret (v := r_1.1) hx hb hr (fun t ht hW => ⟨⟨r_1.1, (), rfl, rfl, (by show va_P _ _ _ t.heap; rw [ht]; exact hP)⟩, hS.F ht⟩) hS.2.2 dX6_put_8
theorem iX6_wipe_X6 : ∀ w ∈ u_ws RX6 TX6 5, w ∈ wsX6_wipe := by decide +kernel
theorem kX6_wipe_36 : Cond.fieldLink RX6 36 "TailorChalks" "pad" "LTailorChalks$Pad;" ∈ wsX6_wipe := by decide +kernel
def F_TC_wipe (ln : Int32) : Int32 × Int32 := (bnd (F_Pad_clear ln) (fun r_1 => (r_1.1, r_1.2)))
set_option maxHeartbeats 4000000 in
set_option maxRecDepth 100000 in
theorem c_TC_wipe (l : Launch) (dC : Nat → ClassId) (dI : Nat → Nat → Nat) (cI cC cG cZ : ClassId) (tc g h s0 s1 pd sg : Nat) (ln : Int32) (res : Int32 × Int32) (hres : res = F_TC_wipe ln) : Met l yX6_wipe wsX6_wipe ({ frames := 1, cells := 0, slots := 0, locals := 21 }) (va_Pc [.ref tc] (wr_P (dC, dI) vwCl (tyL cI cC cG cZ) [(tc, .inr (6, [.ref g, .ref h, .ref s0, .ref s1, .ref pd])), (pd, .inr (3, [.ref sg, .int ln]))])) (va_Qi (fun r (_ : Unit) => r = res.1) (fun _ zt => va_P (dC, dI) vwCl [(tc, .inr (6, [.ref g, .ref h, .ref s0, .ref s1, .ref pd])), (pd, .inr (3, [.ref sg, .int res.2]))] zt.heap) (wr_A [(tc, .inr (6, [.ref g, .ref h, .ref s0, .ref s1, .ref pd])), (pd, .inr (3, [.ref sg, .int ln]))])) 0 0 (wr_A [(tc, .inr (6, [.ref g, .ref h, .ref s0, .ref s1, .ref pd])), (pd, .inr (3, [.ref sg, .int ln]))]) := by
  refine Met.ofW (cc := cX6_wipe) (maxL := 1) (ret := (some .int)) (by decide) rfl ?_
  intro p e s m args below meth c s₁ B hml hv
  obtain ⟨rfl, hP, hK, hD0⟩ := hv
  have hx := B.exec
  have hb := B.bytes
  have hr := B.returns
  have hts := atoms_spec (ws := wsX6_wipe) B.pre
  have hown : s.vm.findClass RX6 = some m.cls := findClass_of_methodNamed B.named
  have hlocks := B.notSynchronized
  have hD := wr_self hD0
  generalize hAe : wr_A [(tc, .inr (6, [.ref g, .ref h, .ref s0, .ref s1, .ref pd])), (pd, .inr (3, [.ref sg, .int ln]))] = A at hD ⊢
  have hS : va_S A s.heap s.heap [] := va_S.rf
  have hP : va_P (dC, dI) vwCl [(tc, .inr (6, [.ref g, .ref h, .ref s0, .ref s1, .ref pd])), (pd, .inr (3, [.ref sg, .int ln]))] s.heap := hP
  have hl := lv_entry ([.ref tc]) (n := 1) (Nat.le_of_ble_eq_true rfl)
  rw [lg_entry_eq]
  generalize (lg_sl ([.ref tc]) ++ List.replicate (1 - (lg_sl ([.ref tc])).length) Slot.unset).toArray = ls at hl ⊢
  have hl : lv_has ls 1 [(0, .ref tc)] := hl
  rw [F_TC_wipe] at hres
  refine lv_aload_n hx hb dX6_wipe_0 rfl (lv_at hl 0 rfl) ?_
  refine va_get (D := (dC, dI)) (ci := 6) (v := .ref pd) (C := RX6) (T := TX6) (N := 5) hx hb hts iX6_wipe_X6 hown hK hP 0 rfl rfl 4 (by decide) (hts (.fieldLink RX6 36 "TailorChalks" "pad" "LTailorChalks$Pad;") kX6_wipe_36) (fun _ h9 => h9) rfl dX6_wipe_1 ?_
  obtain ⟨r_1, hr_1⟩ : ∃ z, z = F_Pad_clear ln := ⟨_, rfl⟩
  rw [bnd_e hr_1] at hres
  refine wr_calli (w1 := [(pd, .inr (3, [.ref sg, .int r_1.2]))]) (is := [1]) (va_runV (As := []) (rest := []) ⟨hx, hb, hml, hown, hts⟩ (c_Pad_clear l dC dI cI cC cG cZ pd sg ln  r_1 hr_1) (cwV 0 hts gX6_wipe_X3_clear rfl rfl rfl (by decide +kernel) ⟨Nat.le_of_ble_eq_true rfl, Nat.le_of_ble_eq_true rfl⟩) (wr_preV (hP.sub (ws' := [(pd, .inr (3, [.ref sg, .int ln]))]) [1] rfl) hK (hD.sub (ws' := [(pd, .inr (3, [.ref sg, .int ln]))]) [1] (by decide) rfl) (ci := 3) (q0 := 0) rfl rfl) rfl rfl hl.1 rfl (lv_room (Nat.le_of_ble_eq_true rfl)) dX6_wipe_4 ⟨Nat.zero_le _, Nat.zero_le _⟩) hP hD hS rfl rfl rfl (fun H locs hP hD hS => ?_)
  have hP : va_P (dC, dI) vwCl [(tc, .inr (6, [.ref g, .ref h, .ref s0, .ref s1, .ref pd])), (pd, .inr (3, [.ref sg, .int r_1.2]))] H := hP
  have hD : va_D A [(tc, .inr (6, [.ref g, .ref h, .ref s0, .ref s1, .ref pd])), (pd, .inr (3, [.ref sg, .int r_1.2]))] := hD
  subst hres
  exact W.iret (v := r_1.1) hx hb hr (fun t ht hW => ⟨⟨r_1.1, (), rfl, rfl, (by show va_P _ _ _ t.heap; rw [ht]; exact hP)⟩, hS.F ht⟩) hS.2.2 dX6_wipe_7
theorem iX6_fault_X6 : ∀ w ∈ u_ws RX6 TX6 5, w ∈ wsX6_fault := by decide +kernel
theorem kX6_fault_36 : Cond.fieldLink RX6 36 "TailorChalks" "pad" "LTailorChalks$Pad;" ∈ wsX6_fault := by decide +kernel
def F_TC_fault (ln : Int32) (fsg : Nat → Int32) : Int32 := (bnd (F_Pad_firstFault ln fsg) (fun r_1 => r_1))
set_option maxHeartbeats 4000000 in
set_option maxRecDepth 100000 in
theorem c_TC_fault (l : Launch) (dC : Nat → ClassId) (dI : Nat → Nat → Nat) (cI cC cG cZ : ClassId) (tc g h s0 s1 pd sg : Nat) (ln : Int32) (fsg : Nat → Int32) (hln : tm_ok 80 ln) (res : Int32) (hres : res = F_TC_fault ln fsg) : Met l yX6_fault wsX6_fault ({ frames := 3, cells := 0, slots := 0, locals := 64 }) (va_Pc [.ref tc] (ro_P (dC, dI) vwCl (tyL cI cC cG cZ) [(tc, .inr (6, [.ref g, .ref h, .ref s0, .ref s1, .ref pd])), (pd, .inr (3, [.ref sg, .int ln])), (sg, .inl (cC, 80, .inl fsg))])) (va_Qi (fun r (_ : Unit) => r = res) (fun _ _ => True) ro_F) 0 0 ro_F := by
  refine Met.ofW (cc := cX6_fault) (maxL := 1) (ret := (some .int)) (by decide) rfl ?_
  intro p e s m args below meth c s₁ B hml hv
  obtain ⟨rfl, hP, hK⟩ := hv
  have hx := B.exec
  have hb := B.bytes
  have hr := B.returns
  have hts := atoms_spec (ws := wsX6_fault) B.pre
  have hown : s.vm.findClass RX6 = some m.cls := findClass_of_methodNamed B.named
  have hlocks := B.notSynchronized
  have hS : va_S ro_F s.heap s.heap [] := va_S.rf
  have hl := lv_entry ([.ref tc]) (n := 1) (Nat.le_of_ble_eq_true rfl)
  rw [lg_entry_eq]
  generalize (lg_sl ([.ref tc]) ++ List.replicate (1 - (lg_sl ([.ref tc])).length) Slot.unset).toArray = ls at hl ⊢
  have hl : lv_has ls 1 [(0, .ref tc)] := hl
  rw [F_TC_fault] at hres
  refine lv_aload_n hx hb dX6_fault_0 rfl (lv_at hl 0 rfl) ?_
  refine va_get (D := (dC, dI)) (ci := 6) (v := .ref pd) (C := RX6) (T := TX6) (N := 5) hx hb hts iX6_fault_X6 hown hK hP 0 rfl rfl 4 (by decide) (hts (.fieldLink RX6 36 "TailorChalks" "pad" "LTailorChalks$Pad;") kX6_fault_36) (fun _ h9 => h9) rfl dX6_fault_1 ?_
  obtain ⟨r_1, hr_1⟩ : ∃ z, z = F_Pad_firstFault ln fsg := ⟨_, rfl⟩
  rw [bnd_e hr_1] at hres
  refine ro_calli (va_runV (As := []) (rest := []) ⟨hx, hb, hml, hown, hts⟩ (c_Pad_firstFault l dC dI cI cC cG cZ pd sg ln fsg hln r_1 hr_1) (cwV 0 hts gX6_fault_X3_firstFault rfl rfl rfl (by decide +kernel) ⟨Nat.le_of_ble_eq_true rfl, Nat.le_of_ble_eq_true rfl⟩) (ro_preV (hP.sub (ws' := [(pd, .inr (3, [.ref sg, .int ln])), (sg, .inl (cC, 80, .inl fsg))]) [1, 2] rfl) hK (ci := 3) (q0 := 0) rfl rfl) rfl rfl hl.1 rfl (lv_room (Nat.le_of_ble_eq_true rfl)) dX6_fault_4 ⟨Nat.zero_le _, Nat.zero_le _⟩) hP hS (fun H locs hP hS => ?_)
  exact W.iret (v := r_1) hx hb hr (fun t ht hW => ⟨⟨r_1, (), rfl, hres.symm, trivial⟩, hS.F ht⟩) hS.2.2 dX6_fault_7
theorem iX6_carryOut_X6 : ∀ w ∈ u_ws RX6 TX6 5, w ∈ wsX6_carryOut := by decide +kernel
theorem kX6_carryOut_36 : Cond.fieldLink RX6 36 "TailorChalks" "pad" "LTailorChalks$Pad;" ∈ wsX6_carryOut := by decide +kernel
def F_TC_carryOut (ln : Int32) (fsg : Nat → Int32) : Int32 := (bnd (F_Pad_firstFault ln fsg) (fun r_1 => (-3)))
set_option maxHeartbeats 4000000 in
set_option maxRecDepth 100000 in
theorem c_TC_carryOut (l : Launch) (dC : Nat → ClassId) (dI : Nat → Nat → Nat) (cI cC cG cZ : ClassId) (tc g h s0 s1 pd sg : Nat) (ln : Int32) (fsg : Nat → Int32) (hln : tm_ok 80 ln) (hbad : ¬ F_Pad_firstFault ln fsg = -6) (res : Int32) (hres : res = F_TC_carryOut ln fsg) : Met l yX6_carryOut wsX6_carryOut ({ frames := 7, cells := 0, slots := 0, locals := 152 }) (va_Pc [.ref tc] (ro_P (dC, dI) vwCl (tyL cI cC cG cZ) [(tc, .inr (6, [.ref g, .ref h, .ref s0, .ref s1, .ref pd])), (pd, .inr (3, [.ref sg, .int ln])), (sg, .inl (cC, 80, .inl fsg))])) (va_Qi (fun r (_ : Unit) => r = res) (fun _ _ => True) ro_F) 0 0 ro_F := by
  refine Met.ofW (cc := cX6_carryOut) (maxL := 2) (ret := (some .int)) (by decide) rfl ?_
  intro p e s m args below meth c s₁ B hml hv
  obtain ⟨rfl, hP, hK⟩ := hv
  have hx := B.exec
  have hb := B.bytes
  have hr := B.returns
  have hts := atoms_spec (ws := wsX6_carryOut) B.pre
  have hown : s.vm.findClass RX6 = some m.cls := findClass_of_methodNamed B.named
  have hlocks := B.notSynchronized
  have hS : va_S ro_F s.heap s.heap [] := va_S.rf
  have hl := lv_entry ([.ref tc]) (n := 2) (Nat.le_of_ble_eq_true rfl)
  rw [lg_entry_eq]
  generalize (lg_sl ([.ref tc]) ++ List.replicate (2 - (lg_sl ([.ref tc])).length) Slot.unset).toArray = ls at hl ⊢
  have hl : lv_has ls 2 [(0, .ref tc)] := hl
  rw [F_TC_carryOut] at hres
  refine lv_aload_n hx hb dX6_carryOut_0 rfl (lv_at hl 0 rfl) ?_
  refine va_get (D := (dC, dI)) (ci := 6) (v := .ref pd) (C := RX6) (T := TX6) (N := 5) hx hb hts iX6_carryOut_X6 hown hK hP 0 rfl rfl 4 (by decide) (hts (.fieldLink RX6 36 "TailorChalks" "pad" "LTailorChalks$Pad;") kX6_carryOut_36) (fun _ h9 => h9) rfl dX6_carryOut_1 ?_
  obtain ⟨r_1, hr_1⟩ : ∃ z, z = F_Pad_firstFault ln fsg := ⟨_, rfl⟩
  rw [bnd_e hr_1] at hres
  refine ro_calli (va_runV (As := []) (rest := []) ⟨hx, hb, hml, hown, hts⟩ (c_Pad_firstFault l dC dI cI cC cG cZ pd sg ln fsg hln r_1 hr_1) (cwV 0 hts gX6_carryOut_X3_firstFault rfl rfl rfl (by decide +kernel) ⟨Nat.le_of_ble_eq_true rfl, Nat.le_of_ble_eq_true rfl⟩) (ro_preV (hP.sub (ws' := [(pd, .inr (3, [.ref sg, .int ln])), (sg, .inl (cC, 80, .inl fsg))]) [1, 2] rfl) hK (ci := 3) (q0 := 0) rfl rfl) rfl rfl hl.1 rfl (lv_room (Nat.le_of_ble_eq_true rfl)) dX6_carryOut_4 ⟨Nat.zero_le _, Nat.zero_le _⟩) hP hS (fun H locs hP hS => ?_)
  refine lv_bipush (v := (-6)) hx hb dX6_carryOut_7 (by decide) ?_
  refine lv_icmp_eq (tgt := 15) hx hb dX6_carryOut_9 (by decide) (fun c_2 => ?_) (fun c_2 => ?_)
  · exact absurd c_2 (by rw [hr_1]; exact hbad)
  refine lv_bipush (v := (-3)) hx hb dX6_carryOut_12 (by decide) ?_
  exact W.iret (v := (-3)) hx hb hr (fun t ht hW => ⟨⟨(-3), (), rfl, hres.symm, trivial⟩, hS.F ht⟩) hS.2.2 dX6_carryOut_14
theorem iX2_goBack_X2 : ∀ w ∈ u_ws RX2 TX2 3, w ∈ wsX2_goBack := by decide +kernel
theorem kX2_goBack_26 : Cond.fieldLink RX2 26 "TailorChalks$History" "kept" "I" ∈ wsX2_goBack := by decide +kernel
def F_History_goBack  : Int32 := (-5)
set_option maxHeartbeats 4000000 in
set_option maxRecDepth 100000 in
theorem c_History_goBack (l : Launch) (dC : Nat → ClassId) (dI : Nat → Nat → Nat) (cI cC cG cZ : ClassId) (h hs go g : Nat) (res : Int32) (hres : res = F_History_goBack ) : Met l yX2_goBack wsX2_goBack ({ frames := 2, cells := 0, slots := 0, locals := 43 }) (va_Pc [.ref h, .ref g] (ro_P (dC, dI) vwCl (tyL cI cC cG cZ) [(h, .inr (2, [.ref hs, .int 0, .ref go]))])) (va_Qi (fun r (_ : Unit) => r = res) (fun _ _ => True) ro_F) 0 0 ro_F := by
  refine Met.ofW (cc := cX2_goBack) (maxL := 2) (ret := (some .int)) (by decide) rfl ?_
  intro p e s m args below meth c s₁ B hml hv
  obtain ⟨rfl, hP, hK⟩ := hv
  have hx := B.exec
  have hb := B.bytes
  have hr := B.returns
  have hts := atoms_spec (ws := wsX2_goBack) B.pre
  have hown : s.vm.findClass RX2 = some m.cls := findClass_of_methodNamed B.named
  have hlocks := B.notSynchronized
  have hS : va_S ro_F s.heap s.heap [] := va_S.rf
  have hl := lv_entry ([.ref h, .ref g]) (n := 2) (Nat.le_of_ble_eq_true rfl)
  rw [lg_entry_eq]
  generalize (lg_sl ([.ref h, .ref g]) ++ List.replicate (2 - (lg_sl ([.ref h, .ref g])).length) Slot.unset).toArray = ls at hl ⊢
  have hl : lv_has ls 2 [(0, .ref h), (1, .ref g)] := hl
  rw [F_History_goBack] at hres
  refine lv_aload_n hx hb dX2_goBack_0 rfl (lv_at hl 0 rfl) ?_
  refine va_get (D := (dC, dI)) (ci := 2) (v := .int 0) (C := RX2) (T := TX2) (N := 3) hx hb hts iX2_goBack_X2 hown hK hP 0 rfl rfl 1 (by decide) (hts (.fieldLink RX2 26 "TailorChalks$History" "kept" "I") kX2_goBack_26) (fun _ h9 => h9) rfl dX2_goBack_1 ?_
  refine lv_if_gt (tgt := 10) hx hb dX2_goBack_4 (by decide) (fun c_1 => ?_) (fun c_1 => ?_)
  · exact absurd c_1 (by decide)
  refine lv_bipush (v := (-5)) hx hb dX2_goBack_7 (by decide) ?_
  exact W.iret (v := (-5)) hx hb hr (fun t ht hW => ⟨⟨(-5), (), rfl, hres.symm, trivial⟩, hS.F ht⟩) hS.2.2 dX2_goBack_9
theorem iX6_undo_X6 : ∀ w ∈ u_ws RX6 TX6 5, w ∈ wsX6_undo := by decide +kernel
theorem kX6_undo_10 : Cond.fieldLink RX6 10 "TailorChalks" "game" "LTailorChalks$Game;" ∈ wsX6_undo := by decide +kernel
theorem kX6_undo_19 : Cond.fieldLink RX6 19 "TailorChalks" "history" "LTailorChalks$History;" ∈ wsX6_undo := by decide +kernel
def F_TC_undo  : Int32 := (bnd (F_History_goBack ) (fun r_1 => r_1))
set_option maxHeartbeats 4000000 in
set_option maxRecDepth 100000 in
theorem c_TC_undo (l : Launch) (dC : Nat → ClassId) (dI : Nat → Nat → Nat) (cI cC cG cZ : ClassId) (tc g h s0 s1 pd hs go cl t0 t1 : Nat) (nx : Int32) (tn : Int32) (res : Int32) (hres : res = F_TC_undo ) : Met l yX6_undo wsX6_undo ({ frames := 3, cells := 0, slots := 0, locals := 64 }) (va_Pc [.ref tc] (ro_P (dC, dI) vwCl (tyL cI cC cG cZ) [(tc, .inr (6, [.ref g, .ref h, .ref s0, .ref s1, .ref pd])), (h, .inr (2, [.ref hs, .int 0, .ref go])), (g, .inr (1, [.ref cl, .ref t0, .ref t1, .int nx, .int tn]))])) (va_Qi (fun r (_ : Unit) => r = res) (fun _ _ => True) ro_F) 0 0 ro_F := by
  refine Met.ofW (cc := cX6_undo) (maxL := 1) (ret := (some .int)) (by decide) rfl ?_
  intro p e s m args below meth c s₁ B hml hv
  obtain ⟨rfl, hP, hK⟩ := hv
  have hx := B.exec
  have hb := B.bytes
  have hr := B.returns
  have hts := atoms_spec (ws := wsX6_undo) B.pre
  have hown : s.vm.findClass RX6 = some m.cls := findClass_of_methodNamed B.named
  have hlocks := B.notSynchronized
  have hS : va_S ro_F s.heap s.heap [] := va_S.rf
  have hl := lv_entry ([.ref tc]) (n := 1) (Nat.le_of_ble_eq_true rfl)
  rw [lg_entry_eq]
  generalize (lg_sl ([.ref tc]) ++ List.replicate (1 - (lg_sl ([.ref tc])).length) Slot.unset).toArray = ls at hl ⊢
  have hl : lv_has ls 1 [(0, .ref tc)] := hl
  rw [F_TC_undo] at hres
  refine lv_aload_n hx hb dX6_undo_0 rfl (lv_at hl 0 rfl) ?_
  refine va_get (D := (dC, dI)) (ci := 6) (v := .ref h) (C := RX6) (T := TX6) (N := 5) hx hb hts iX6_undo_X6 hown hK hP 0 rfl rfl 1 (by decide) (hts (.fieldLink RX6 19 "TailorChalks" "history" "LTailorChalks$History;") kX6_undo_19) (fun _ h9 => h9) rfl dX6_undo_1 ?_
  refine lv_aload_n hx hb dX6_undo_4 rfl (lv_at hl 0 rfl) ?_
  refine va_get (D := (dC, dI)) (ci := 6) (v := .ref g) (C := RX6) (T := TX6) (N := 5) hx hb hts iX6_undo_X6 hown hK hP 0 rfl rfl 0 (by decide) (hts (.fieldLink RX6 10 "TailorChalks" "game" "LTailorChalks$Game;") kX6_undo_10) (fun _ h9 => h9) rfl dX6_undo_5 ?_
  obtain ⟨r_1, hr_1⟩ : ∃ z, z = F_History_goBack  := ⟨_, rfl⟩
  rw [bnd_e hr_1] at hres
  refine ro_calli (va_runV (As := [.ref g]) (rest := []) ⟨hx, hb, hml, hown, hts⟩ (c_History_goBack l dC dI cI cC cG cZ h hs go g   r_1 hr_1) (cwV 1 hts gX6_undo_X2_goBack rfl rfl rfl (by decide +kernel) ⟨Nat.le_of_ble_eq_true rfl, Nat.le_of_ble_eq_true rfl⟩) (ro_preV (hP.sub (ws' := [(h, .inr (2, [.ref hs, .int 0, .ref go]))]) [1] rfl) hK (ci := 2) (q0 := 0) rfl rfl) rfl rfl hl.1 rfl (lv_room (Nat.le_of_ble_eq_true rfl)) dX6_undo_8 ⟨Nat.zero_le _, Nat.zero_le _⟩) hP hS (fun H locs hP hS => ?_)
  exact W.iret (v := r_1) hx hb hr (fun t ht hW => ⟨⟨r_1, (), rfl, hres.symm, trivial⟩, hS.F ht⟩) hS.2.2 dX6_undo_11
