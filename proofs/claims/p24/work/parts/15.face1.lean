def F_TC_asNumber (so : Int32) : Int32 := (if so = 0 then 0 else 1)
set_option maxHeartbeats 4000000 in
set_option maxRecDepth 100000 in
theorem c_TC_asNumber (l : Launch) (dC : Nat → ClassId) (dI : Nat → Nat → Nat) (cI cC cG cZ : ClassId) (so : Int32) (res : Int32) (hres : res = F_TC_asNumber so) : Met l yX6_asNumber wsX6_asNumber ({ frames := 0, cells := 0, slots := 0, locals := 0 }) (va_Pc [.int so] (ro_P (dC, dI) vwCl (tyL cI cC cG cZ) [])) (va_Qi (fun r (_ : Unit) => r = res) (fun _ _ => True) ro_F) 0 0 ro_F := by
  refine Met.ofW (cc := cX6_asNumber) (maxL := 1) (ret := (some .int)) (by decide) rfl ?_
  intro p e s m args below meth c s₁ B hml hv
  obtain ⟨rfl, hP, hK⟩ := hv
  have hx := B.exec
  have hb := B.bytes
  have hr := B.returns
  have hts := atoms_spec (ws := wsX6_asNumber) B.pre
  have hown : s.vm.findClass RX6 = some m.cls := findClass_of_methodNamed B.named
  have hlocks := B.notSynchronized
  have hS : va_S ro_F s.heap s.heap [] := va_S.rf
  have hl := lv_entry ([.int so]) (n := 1) (Nat.le_of_ble_eq_true rfl)
  rw [lg_entry_eq]
  generalize (lg_sl ([.int so]) ++ List.replicate (1 - (lg_sl ([.int so])).length) Slot.unset).toArray = ls at hl ⊢
  have hl : lv_has ls 1 [(0, .int so)] := hl
  rw [F_TC_asNumber] at hres
  refine lv_iload_n hx hb dX6_asNumber_0 rfl (lv_at hl 0 rfl) ?_
  refine lv_if_eq (tgt := 8) hx hb dX6_asNumber_1 (by decide) (fun c_1 => ?_) (fun c_1 => ?_)
  · rw [if_pos c_1] at hres
    refine lv_iconst (v := 0) hx hb dX6_asNumber_8 (by decide) ?_
    exact W.iret (v := 0) hx hb hr (fun t ht hW => ⟨⟨0, (), rfl, hres.symm, trivial⟩, hS.F ht⟩) hS.2.2 dX6_asNumber_9
  · rw [if_neg c_1] at hres
    refine lv_iconst (v := 1) hx hb dX6_asNumber_4 (by decide) ?_
    refine lv_goto (tgt := 9) hx hb dX6_asNumber_5 (by decide) ?_
    exact W.iret (v := 1) hx hb hr (fun t ht hW => ⟨⟨1, (), rfl, hres.symm, trivial⟩, hS.F ht⟩) hS.2.2 dX6_asNumber_9
def F_TC_isSlot (slot : Int32) : Int32 := (if slot = 0 then 1 else (if slot = 1 then 1 else 0))
set_option maxHeartbeats 4000000 in
set_option maxRecDepth 100000 in
theorem c_TC_isSlot (l : Launch) (dC : Nat → ClassId) (dI : Nat → Nat → Nat) (cI cC cG cZ : ClassId) (slot : Int32) (res : Int32) (hres : res = F_TC_isSlot slot) : Met l yX6_isSlot wsX6_isSlot ({ frames := 0, cells := 0, slots := 0, locals := 0 }) (va_Pc [.int slot] (ro_P (dC, dI) vwCl (tyL cI cC cG cZ) [])) (va_Qi (fun r (_ : Unit) => r = res) (fun _ _ => True) ro_F) 0 0 ro_F := by
  refine Met.ofW (cc := cX6_isSlot) (maxL := 1) (ret := (some .boolean)) (by decide) rfl ?_
  intro p e s m args below meth c s₁ B hml hv
  obtain ⟨rfl, hP, hK⟩ := hv
  have hx := B.exec
  have hb := B.bytes
  have hr := B.returns
  have hts := atoms_spec (ws := wsX6_isSlot) B.pre
  have hown : s.vm.findClass RX6 = some m.cls := findClass_of_methodNamed B.named
  have hlocks := B.notSynchronized
  have hS : va_S ro_F s.heap s.heap [] := va_S.rf
  have hl := lv_entry ([.int slot]) (n := 1) (Nat.le_of_ble_eq_true rfl)
  rw [lg_entry_eq]
  generalize (lg_sl ([.int slot]) ++ List.replicate (1 - (lg_sl ([.int slot])).length) Slot.unset).toArray = ls at hl ⊢
  have hl : lv_has ls 1 [(0, .int slot)] := hl
  rw [F_TC_isSlot] at hres
  refine lv_iload_n hx hb dX6_isSlot_0 rfl (lv_at hl 0 rfl) ?_
  refine lv_if_eq (tgt := 9) hx hb dX6_isSlot_1 (by decide) (fun c_1 => ?_) (fun c_1 => ?_)
  · rw [if_pos c_1] at hres
    refine lv_iconst (v := 1) hx hb dX6_isSlot_9 (by decide) ?_
    refine lv_goto (tgt := 14) hx hb dX6_isSlot_10 (by decide) ?_
    exact W.zret (v := 1) hx hb hr rfl (fun t ht hW => ⟨⟨1, (), rfl, hres.symm, trivial⟩, hS.F ht⟩) hS.2.2 dX6_isSlot_14
  · rw [if_neg c_1] at hres
    refine lv_iload_n hx hb dX6_isSlot_4 rfl (lv_at hl 0 rfl) ?_
    refine lv_iconst (v := 1) hx hb dX6_isSlot_5 (by decide) ?_
    refine lv_icmp_ne (tgt := 13) hx hb dX6_isSlot_6 (by decide) (fun c_2 => ?_) (fun c_2 => ?_)
    · rw [if_neg c_2] at hres
      refine lv_iconst (v := 0) hx hb dX6_isSlot_13 (by decide) ?_
      exact W.zret (v := 0) hx hb hr rfl (fun t ht hW => ⟨⟨0, (), rfl, hres.symm, trivial⟩, hS.F ht⟩) hS.2.2 dX6_isSlot_14
    · rw [if_pos c_2] at hres
      refine lv_iconst (v := 1) hx hb dX6_isSlot_9 (by decide) ?_
      refine lv_goto (tgt := 14) hx hb dX6_isSlot_10 (by decide) ?_
      exact W.zret (v := 1) hx hb hr rfl (fun t ht hW => ⟨⟨1, (), rfl, hres.symm, trivial⟩, hS.F ht⟩) hS.2.2 dX6_isSlot_14
theorem F_TC_isSlot_b (slot : Int32) : F_TC_isSlot slot = 0 ∨ F_TC_isSlot slot = 1 := by
  unfold F_TC_isSlot
  try simp only [bnd]
  (repeat' split) <;> first | exact Or.inl rfl | exact Or.inr rfl
theorem iX6_slotOf_X6 : ∀ w ∈ u_ws RX6 TX6 5, w ∈ wsX6_slotOf := by decide +kernel
theorem kX6_slotOf_26 : Cond.fieldLink RX6 26 "TailorChalks" "slotZero" "LTailorChalks$Slot;" ∈ wsX6_slotOf := by decide +kernel
theorem kX6_slotOf_30 : Cond.fieldLink RX6 30 "TailorChalks" "slotOne" "LTailorChalks$Slot;" ∈ wsX6_slotOf := by decide +kernel
set_option maxHeartbeats 4000000 in
set_option maxRecDepth 100000 in
theorem c_TC_slotOf (l : Launch) (dC : Nat → ClassId) (dI : Nat → Nat → Nat) (cI cC cG cZ : ClassId) (tc g h s0 s1 pd : Nat) (slot : Int32) (res : Nat) (hres : res = if slot = 0 then s0 else s1) : Met l yX6_slotOf wsX6_slotOf ({ frames := 0, cells := 0, slots := 0, locals := 0 }) (va_Pc [.ref tc, .int slot] (ro_P (dC, dI) vwCl (tyL cI cC cG cZ) [(tc, .inr (6, [.ref g, .ref h, .ref s0, .ref s1, .ref pd]))])) (va_Qr (fun (_ : Unit) => True) (fun _ b _ => b = res) ro_F) 0 0 ro_F := by
  refine Met.ofW (cc := cX6_slotOf) (maxL := 2) (ret := (some (.object "TailorChalks$Slot"))) (by decide) rfl ?_
  intro p e s m args below meth c s₁ B hml hv
  obtain ⟨rfl, hP, hK⟩ := hv
  have hx := B.exec
  have hb := B.bytes
  have hr := B.returns
  have hts := atoms_spec (ws := wsX6_slotOf) B.pre
  have hown : s.vm.findClass RX6 = some m.cls := findClass_of_methodNamed B.named
  have hlocks := B.notSynchronized
  have hS : va_S ro_F s.heap s.heap [] := va_S.rf
  have hl := lv_entry ([.ref tc, .int slot]) (n := 2) (Nat.le_of_ble_eq_true rfl)
  rw [lg_entry_eq]
  generalize (lg_sl ([.ref tc, .int slot]) ++ List.replicate (2 - (lg_sl ([.ref tc, .int slot])).length) Slot.unset).toArray = ls at hl ⊢
  have hl : lv_has ls 2 [(0, .ref tc), (1, .int slot)] := hl
  refine lv_iload_n hx hb dX6_slotOf_0 rfl (lv_at hl 1 rfl) ?_
  refine lv_if_ne (tgt := 11) hx hb dX6_slotOf_1 (by decide) (fun c_1 => ?_) (fun c_1 => ?_)
  · rw [if_neg c_1] at hres
    refine lv_aload_n hx hb dX6_slotOf_11 rfl (lv_at hl 0 rfl) ?_
    refine va_get (D := (dC, dI)) (ci := 6) (v := .ref s1) (C := RX6) (T := TX6) (N := 5) hx hb hts iX6_slotOf_X6 hown hK hP 0 rfl rfl 3 (by decide) (hts (.fieldLink RX6 30 "TailorChalks" "slotOne" "LTailorChalks$Slot;") kX6_slotOf_30) (fun _ h9 => h9) rfl dX6_slotOf_12 ?_
    exact W.aret (v := .ref s1) hx hb hr (Or.inl ⟨_, rfl⟩) (Or.inr ⟨_, rfl⟩) (fun t ht hW => ⟨⟨(), _, rfl, trivial, hres.symm⟩, hS.F ht⟩) hS.2.2 dX6_slotOf_15
  · rw [if_pos c_1] at hres
    refine lv_aload_n hx hb dX6_slotOf_4 rfl (lv_at hl 0 rfl) ?_
    refine va_get (D := (dC, dI)) (ci := 6) (v := .ref s0) (C := RX6) (T := TX6) (N := 5) hx hb hts iX6_slotOf_X6 hown hK hP 0 rfl rfl 2 (by decide) (hts (.fieldLink RX6 26 "TailorChalks" "slotZero" "LTailorChalks$Slot;") kX6_slotOf_26) (fun _ h9 => h9) rfl dX6_slotOf_5 ?_
    refine lv_goto (tgt := 15) hx hb dX6_slotOf_8 (by decide) ?_
    exact W.aret (v := .ref s0) hx hb hr (Or.inl ⟨_, rfl⟩) (Or.inr ⟨_, rfl⟩) (fun t ht hW => ⟨⟨(), _, rfl, trivial, hres.symm⟩, hS.F ht⟩) hS.2.2 dX6_slotOf_15
