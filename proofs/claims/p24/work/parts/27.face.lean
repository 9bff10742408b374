theorem w_nil (D : va_G) (cl : List vw_C) {H : Heap} : va_P D cl [] H := fun k q hk => by simp at hk
theorem isSlot_of {x : Int32} (h : ¬ (F_TC_isSlot x) = 0) : x = 0 ∨ x = 1 := by
  unfold F_TC_isSlot at h
  by_cases h0 : x = 0
  · exact Or.inl h0
  · by_cases h1 : x = 1
    · exact Or.inr h1
    · rw [if_neg h0, if_neg h1] at h; exact absurd rfl h
def X_takeTurn (order joint : Int32) (x : XS) : Int32 × XS := if (X_obey order joint (X_note x)).1 < 0 then X_obey order joint (X_note x) else ((X_obey order joint (X_note x)).1, X_keep (X_obey order joint (X_note x)).2)
def X_chalk (joint : Int32) (x : XS) : Int32 × XS := X_takeTurn 99 joint x
def X_snip (joint : Int32) (x : XS) : Int32 × XS := X_takeTurn 115 joint x
def X_sew (joint : Int32) (x : XS) : Int32 × XS := X_takeTurn 119 joint x
def X_bluff (joint : Int32) (x : XS) : Int32 × XS := X_takeTurn 98 joint x
def X_doubt (joint : Int32) (x : XS) : Int32 × XS := X_takeTurn 100 joint x
def X_pass (x : XS) : Int32 × XS := X_takeTurn 112 0 x
def X_undo (x : XS) : Int32 × XS := X_goBack x
def X_cells (x : XS) : Int32 × XS := (F_Cloth_cellsLeft (x.1.2.1 0), x)
def X_save (slot : Int32) (x : XS) : Int32 × XS := if (F_TC_isSlot slot) = 0 then (-2, x) else if slot = 0 then X_cells (X_fill0 x) else X_cells (X_fill1 x)
def X_restore (slot : Int32) (x : XS) : Int32 × XS := if (F_TC_isSlot slot) = 0 then (-2, x) else if slot = 0 then (if (x.2.2.2.1 0) = 0 then (-5, x) else X_cells (X_become0 (X_keep (X_note x)))) else (if (x.2.2.2.1 1) = 0 then (-5, x) else X_cells (X_become1 (X_keep (X_note x))))
def X_carryOut (x : XS) : Int32 × XS := if (F_Pad_firstFault x.2.2.2.2.2.1 x.2.2.2.2.2.2) = (-6) then ((X_obeyPad (X_keep (X_note x))).1, X_clear (X_obeyPad (X_keep (X_note x))).2) else (-3, x)
theorem iX6_takeTurn_X6 : ∀ w ∈ u_ws RX6 TX6 5, w ∈ wsX6_takeTurn := by decide +kernel
theorem kX6_takeTurn_10 : Cond.fieldLink RX6 10 "TailorChalks" "game" "LTailorChalks$Game;" ∈ wsX6_takeTurn := by decide +kernel
theorem kX6_takeTurn_19 : Cond.fieldLink RX6 19 "TailorChalks" "history" "LTailorChalks$History;" ∈ wsX6_takeTurn := by decide +kernel
set_option maxHeartbeats 4000000 in
set_option maxRecDepth 100000 in
theorem cu_TC_takeTurn (l : Launch) (dC : Nat → ClassId) (dI : Nat → Nat → Nat) (cI cC cG cZ : ClassId) (ad pa : Nat → Nat → Nat) (x : XS) (order : Int32) (joint : Int32) (hM0 : tm_ok 8 (x.1.1 2)) (hM1 : tm_ok 8 (x.1.1 10)) (hk : x.2.1 ≤ 6) (res : Int32 × XS) (hres : res = X_takeTurn order joint x) : Met l yX6_takeTurn wsX6_takeTurn ({ frames := 6, cells := 0, slots := 0, locals := 127 }) (va_Pc [.ref (ad 0 0), .int order, .int joint] (b_Pre (dC, dI) vwCl (tyL cI cC cG cZ) (xW cI cC cG ad pa x))) (bQi (dC, dI) vwCl res.1 (fun pa => (xW cI cC cG ad pa res.2)) (bA (xW cI cC cG ad pa x))) 0 0 (bA (xW cI cC cG ad pa x)) := by
  refine Met.ofW (cc := cX6_takeTurn) (maxL := 4) (ret := (some .int)) (by decide) rfl ?_
  intro p e s m args below meth c s₁ B hml hv
  obtain ⟨rfl, hP, hK, hD0⟩ := hv
  have hx := B.exec
  have hb := B.bytes
  have hr := B.returns
  have hts := atoms_spec (ws := wsX6_takeTurn) B.pre
  have hown : s.vm.findClass RX6 = some m.cls := findClass_of_methodNamed B.named
  have hlocks := B.notSynchronized
  have hD := hD0.self
  generalize hAe : bA (xW cI cC cG ad pa x) = A at hD ⊢
  have hS : va_S A s.heap s.heap [] := va_S.rf
  have hP : bP (dC, dI) vwCl (xW cI cC cG ad pa x) s.heap := hP
  have hl := lv_entry ([.ref (ad 0 0), .int order, .int joint]) (n := 4) (Nat.le_of_ble_eq_true rfl)
  rw [lg_entry_eq]
  generalize (lg_sl ([.ref (ad 0 0), .int order, .int joint]) ++ List.replicate (4 - (lg_sl ([.ref (ad 0 0), .int order, .int joint])).length) Slot.unset).toArray = ls at hl ⊢
  have hl : lv_has ls 4 [(0, .ref (ad 0 0)), (1, .int order), (2, .int joint)] := hl
  rw [X_takeTurn] at hres
  refine lv_aload_n hx hb dX6_takeTurn_0 rfl (lv_at hl 0 rfl) ?_
  refine va_get (D := (dC, dI)) (ci := 6) (v := .ref (ad 2 0)) (C := RX6) (T := TX6) (N := 5) hx hb hts iX6_takeTurn_X6 hown hK (hP 0 (tcB ad) rfl) 0 rfl rfl 1 (by decide) (hts (.fieldLink RX6 19 "TailorChalks" "history" "LTailorChalks$History;") kX6_takeTurn_19) (fun _ h9 => h9) rfl dX6_takeTurn_1 ?_
  refine lv_aload_n hx hb dX6_takeTurn_4 rfl (lv_at hl 0 rfl) ?_
  refine va_get (D := (dC, dI)) (ci := 6) (v := .ref (ad 1 0)) (C := RX6) (T := TX6) (N := 5) hx hb hts iX6_takeTurn_X6 hown hK (hP 0 (tcB ad) rfl) 0 rfl rfl 0 (by decide) (hts (.fieldLink RX6 10 "TailorChalks" "game" "LTailorChalks$Game;") kX6_takeTurn_10) (fun _ h9 => h9) rfl dX6_takeTurn_5 ?_
  refine b_allv (W1 := fun pa => (xW cI cC cG ad pa (X_note x))) (va_runV (As := [.ref (ad 1 0)]) (rest := []) ⟨hx, hb, hml, hown, hts⟩ (cu_History_note l dC dI cI cC cG cZ ad pa x ) (cwV 1 hts gX6_takeTurn_X2_note rfl rfl rfl (by decide +kernel) ⟨Nat.le_of_ble_eq_true rfl, Nat.le_of_ble_eq_true rfl⟩) (b_preV hP hK hD (ci := 2) (i0 := 3) (q0 := 0) rfl rfl rfl) rfl rfl hl.1 rfl (lv_room (Nat.le_of_ble_eq_true rfl)) dX6_takeTurn_8 ⟨Nat.zero_le _, Nat.zero_le _⟩) hD hS (fun H locs pa hP hD hS => ?_)
  have hP : bP (dC, dI) vwCl (xW cI cC cG ad pa (X_note x)) H := hP
  have hD : bD A (xW cI cC cG ad pa (X_note x)) := hD
  refine lv_aload_n hx hb dX6_takeTurn_11 rfl (lv_at hl 0 rfl) ?_
  refine va_get (D := (dC, dI)) (ci := 6) (v := .ref (ad 1 0)) (C := RX6) (T := TX6) (N := 5) hx hb hts iX6_takeTurn_X6 hown hK (hP 0 (tcB ad) rfl) 0 rfl rfl 0 (by decide) (hts (.fieldLink RX6 10 "TailorChalks" "game" "LTailorChalks$Game;") kX6_takeTurn_10) (fun _ h9 => h9) rfl dX6_takeTurn_12 ?_
  refine lv_iload_n hx hb dX6_takeTurn_15 rfl (lv_at hl 1 rfl) ?_
  refine lv_iload_n hx hb dX6_takeTurn_16 rfl (lv_at hl 2 rfl) ?_
  refine b_alli (W1 := fun pa => (xW cI cC cG ad pa ((X_obey order joint (X_note x)).2))) (va_runV (As := [.int order, .int joint]) (rest := []) ⟨hx, hb, hml, hown, hts⟩ (cu_Game_obey l dC dI cI cC cG cZ ad pa (X_note x) order joint hM0 hM1) (cwV 2 hts gX6_takeTurn_X1_obey rfl rfl rfl (by decide +kernel) ⟨Nat.le_of_ble_eq_true rfl, Nat.le_of_ble_eq_true rfl⟩) (b_preV hP hK hD (ci := 1) (i0 := 1) (q0 := 0) rfl rfl rfl) rfl rfl hl.1 rfl (lv_room (Nat.le_of_ble_eq_true rfl)) dX6_takeTurn_17 ⟨Nat.zero_le _, Nat.zero_le _⟩) hD hS (fun H locs pa hP hD hS => ?_)
  have hP : bP (dC, dI) vwCl (xW cI cC cG ad pa ((X_obey order joint (X_note x)).2)) H := hP
  have hD : bD A (xW cI cC cG ad pa ((X_obey order joint (X_note x)).2)) := hD
  refine lv_istore_n (lv' := [(3, .int ((X_obey order joint (X_note x)).1)), (0, .ref (ad 0 0)), (1, .int order), (2, .int joint)]) hx hb dX6_takeTurn_20 rfl hl (by decide) rfl (fun ls hl => ?_)
  refine lv_iload_n hx hb dX6_takeTurn_21 rfl (lv_at hl 0 rfl) ?_
  refine lv_if_lt (tgt := 32) hx hb dX6_takeTurn_22 (by decide) (fun c_1 => ?_) (fun c_1 => ?_)
  · rw [if_pos c_1] at hres
    refine lv_iload_n hx hb dX6_takeTurn_32 rfl (lv_at hl 0 rfl) ?_
    subst hres
    exact W.iret (v := (X_obey order joint (X_note x)).1) hx hb hr (fun t ht hW => ⟨⟨(X_obey order joint (X_note x)).1, (), rfl, rfl, pa, by show bP _ _ _ t.heap; rw [ht]; exact hP, hD⟩, hS.F ht⟩) hS.2.2 dX6_takeTurn_33
  · rw [if_neg c_1] at hres
    refine lv_aload_n hx hb dX6_takeTurn_25 rfl (lv_at hl 1 rfl) ?_
    refine va_get (D := (dC, dI)) (ci := 6) (v := .ref (ad 2 0)) (C := RX6) (T := TX6) (N := 5) hx hb hts iX6_takeTurn_X6 hown hK (hP 0 (tcB ad) rfl) 0 rfl rfl 1 (by decide) (hts (.fieldLink RX6 19 "TailorChalks" "history" "LTailorChalks$History;") kX6_takeTurn_19) (fun _ h9 => h9) rfl dX6_takeTurn_26 ?_
    refine b_allv (W1 := fun pa => (xW cI cC cG ad pa (X_keep ((X_obey order joint (X_note x)).2)))) (va_runV (As := []) (rest := []) ⟨hx, hb, hml, hown, hts⟩ (cu_History_keepNoted l dC dI cI cC cG cZ ad pa ((X_obey order joint (X_note x)).2) hk) (cwV 0 hts gX6_takeTurn_X2_keepNoted rfl rfl rfl (by decide +kernel) ⟨Nat.le_of_ble_eq_true rfl, Nat.le_of_ble_eq_true rfl⟩) (b_preV hP hK hD (ci := 2) (i0 := 3) (q0 := 0) rfl rfl rfl) rfl rfl hl.1 rfl (lv_room (Nat.le_of_ble_eq_true rfl)) dX6_takeTurn_29 ⟨Nat.zero_le _, Nat.zero_le _⟩) hD hS (fun H locs pa hP hD hS => ?_)
    have hP : bP (dC, dI) vwCl (xW cI cC cG ad pa (X_keep ((X_obey order joint (X_note x)).2))) H := hP
    have hD : bD A (xW cI cC cG ad pa (X_keep ((X_obey order joint (X_note x)).2))) := hD
    refine lv_iload_n hx hb dX6_takeTurn_32 rfl (lv_at hl 0 rfl) ?_
    subst hres
    exact W.iret (v := (X_obey order joint (X_note x)).1) hx hb hr (fun t ht hW => ⟨⟨(X_obey order joint (X_note x)).1, (), rfl, rfl, pa, by show bP _ _ _ t.heap; rw [ht]; exact hP, hD⟩, hS.F ht⟩) hS.2.2 dX6_takeTurn_33
set_option maxHeartbeats 4000000 in
set_option maxRecDepth 100000 in
theorem cu_TC_chalk (l : Launch) (dC : Nat → ClassId) (dI : Nat → Nat → Nat) (cI cC cG cZ : ClassId) (ad pa : Nat → Nat → Nat) (x : XS) (joint : Int32) (hM0 : tm_ok 8 (x.1.1 2)) (hM1 : tm_ok 8 (x.1.1 10)) (hk : x.2.1 ≤ 6) (res : Int32 × XS) (hres : res = X_chalk joint x) : Met l yX6_chalk wsX6_chalk ({ frames := 7, cells := 0, slots := 0, locals := 150 }) (va_Pc [.ref (ad 0 0), .int joint] (b_Pre (dC, dI) vwCl (tyL cI cC cG cZ) (xW cI cC cG ad pa x))) (bQi (dC, dI) vwCl res.1 (fun pa => (xW cI cC cG ad pa res.2)) (bA (xW cI cC cG ad pa x))) 0 0 (bA (xW cI cC cG ad pa x)) := by
  refine Met.ofW (cc := cX6_chalk) (maxL := 2) (ret := (some .int)) (by decide) rfl ?_
  intro p e s m args below meth c s₁ B hml hv
  obtain ⟨rfl, hP, hK, hD0⟩ := hv
  have hx := B.exec
  have hb := B.bytes
  have hr := B.returns
  have hts := atoms_spec (ws := wsX6_chalk) B.pre
  have hown : s.vm.findClass RX6 = some m.cls := findClass_of_methodNamed B.named
  have hlocks := B.notSynchronized
  have hD := hD0.self
  generalize hAe : bA (xW cI cC cG ad pa x) = A at hD ⊢
  have hS : va_S A s.heap s.heap [] := va_S.rf
  have hP : bP (dC, dI) vwCl (xW cI cC cG ad pa x) s.heap := hP
  have hl := lv_entry ([.ref (ad 0 0), .int joint]) (n := 2) (Nat.le_of_ble_eq_true rfl)
  rw [lg_entry_eq]
  generalize (lg_sl ([.ref (ad 0 0), .int joint]) ++ List.replicate (2 - (lg_sl ([.ref (ad 0 0), .int joint])).length) Slot.unset).toArray = ls at hl ⊢
  have hl : lv_has ls 2 [(0, .ref (ad 0 0)), (1, .int joint)] := hl
  rw [X_chalk] at hres
  refine lv_aload_n hx hb dX6_chalk_0 rfl (lv_at hl 0 rfl) ?_
  refine lv_bipush (v := 99) hx hb dX6_chalk_1 (by decide) ?_
  refine lv_iload_n hx hb dX6_chalk_3 rfl (lv_at hl 1 rfl) ?_
  refine b_alli (W1 := fun pa => (xW cI cC cG ad pa ((X_takeTurn 99 joint x).2))) (va_runV (As := [.int 99, .int joint]) (rest := []) ⟨hx, hb, hml, hown, hts⟩ (cu_TC_takeTurn l dC dI cI cC cG cZ ad pa x 99 joint hM0 hM1 hk _ rfl) (cwV 2 hts gX6_chalk_X6_takeTurn rfl rfl rfl (by decide +kernel) ⟨Nat.le_of_ble_eq_true rfl, Nat.le_of_ble_eq_true rfl⟩) (b_preV hP hK hD (ci := 6) (i0 := 0) (q0 := 0) rfl rfl rfl) rfl rfl hl.1 rfl (lv_room (Nat.le_of_ble_eq_true rfl)) dX6_chalk_4 ⟨Nat.zero_le _, Nat.zero_le _⟩) hD hS (fun H locs pa hP hD hS => ?_)
  have hP : bP (dC, dI) vwCl (xW cI cC cG ad pa ((X_takeTurn 99 joint x).2)) H := hP
  have hD : bD A (xW cI cC cG ad pa ((X_takeTurn 99 joint x).2)) := hD
  subst hres
  exact W.iret (v := (X_takeTurn 99 joint x).1) hx hb hr (fun t ht hW => ⟨⟨(X_takeTurn 99 joint x).1, (), rfl, rfl, pa, by show bP _ _ _ t.heap; rw [ht]; exact hP, hD⟩, hS.F ht⟩) hS.2.2 dX6_chalk_7
set_option maxHeartbeats 4000000 in
set_option maxRecDepth 100000 in
theorem cu_TC_snip (l : Launch) (dC : Nat → ClassId) (dI : Nat → Nat → Nat) (cI cC cG cZ : ClassId) (ad pa : Nat → Nat → Nat) (x : XS) (joint : Int32) (hM0 : tm_ok 8 (x.1.1 2)) (hM1 : tm_ok 8 (x.1.1 10)) (hk : x.2.1 ≤ 6) (res : Int32 × XS) (hres : res = X_snip joint x) : Met l yX6_snip wsX6_snip ({ frames := 7, cells := 0, slots := 0, locals := 150 }) (va_Pc [.ref (ad 0 0), .int joint] (b_Pre (dC, dI) vwCl (tyL cI cC cG cZ) (xW cI cC cG ad pa x))) (bQi (dC, dI) vwCl res.1 (fun pa => (xW cI cC cG ad pa res.2)) (bA (xW cI cC cG ad pa x))) 0 0 (bA (xW cI cC cG ad pa x)) := by
  refine Met.ofW (cc := cX6_snip) (maxL := 2) (ret := (some .int)) (by decide) rfl ?_
  intro p e s m args below meth c s₁ B hml hv
  obtain ⟨rfl, hP, hK, hD0⟩ := hv
  have hx := B.exec
  have hb := B.bytes
  have hr := B.returns
  have hts := atoms_spec (ws := wsX6_snip) B.pre
  have hown : s.vm.findClass RX6 = some m.cls := findClass_of_methodNamed B.named
  have hlocks := B.notSynchronized
  have hD := hD0.self
  generalize hAe : bA (xW cI cC cG ad pa x) = A at hD ⊢
  have hS : va_S A s.heap s.heap [] := va_S.rf
  have hP : bP (dC, dI) vwCl (xW cI cC cG ad pa x) s.heap := hP
  have hl := lv_entry ([.ref (ad 0 0), .int joint]) (n := 2) (Nat.le_of_ble_eq_true rfl)
  rw [lg_entry_eq]
  generalize (lg_sl ([.ref (ad 0 0), .int joint]) ++ List.replicate (2 - (lg_sl ([.ref (ad 0 0), .int joint])).length) Slot.unset).toArray = ls at hl ⊢
  have hl : lv_has ls 2 [(0, .ref (ad 0 0)), (1, .int joint)] := hl
  rw [X_snip] at hres
  refine lv_aload_n hx hb dX6_snip_0 rfl (lv_at hl 0 rfl) ?_
  refine lv_bipush (v := 115) hx hb dX6_snip_1 (by decide) ?_
  refine lv_iload_n hx hb dX6_snip_3 rfl (lv_at hl 1 rfl) ?_
  refine b_alli (W1 := fun pa => (xW cI cC cG ad pa ((X_takeTurn 115 joint x).2))) (va_runV (As := [.int 115, .int joint]) (rest := []) ⟨hx, hb, hml, hown, hts⟩ (cu_TC_takeTurn l dC dI cI cC cG cZ ad pa x 115 joint hM0 hM1 hk _ rfl) (cwV 2 hts gX6_snip_X6_takeTurn rfl rfl rfl (by decide +kernel) ⟨Nat.le_of_ble_eq_true rfl, Nat.le_of_ble_eq_true rfl⟩) (b_preV hP hK hD (ci := 6) (i0 := 0) (q0 := 0) rfl rfl rfl) rfl rfl hl.1 rfl (lv_room (Nat.le_of_ble_eq_true rfl)) dX6_snip_4 ⟨Nat.zero_le _, Nat.zero_le _⟩) hD hS (fun H locs pa hP hD hS => ?_)
  have hP : bP (dC, dI) vwCl (xW cI cC cG ad pa ((X_takeTurn 115 joint x).2)) H := hP
  have hD : bD A (xW cI cC cG ad pa ((X_takeTurn 115 joint x).2)) := hD
  subst hres
  exact W.iret (v := (X_takeTurn 115 joint x).1) hx hb hr (fun t ht hW => ⟨⟨(X_takeTurn 115 joint x).1, (), rfl, rfl, pa, by show bP _ _ _ t.heap; rw [ht]; exact hP, hD⟩, hS.F ht⟩) hS.2.2 dX6_snip_7
set_option maxHeartbeats 4000000 in
set_option maxRecDepth 100000 in
theorem cu_TC_sew (l : Launch) (dC : Nat → ClassId) (dI : Nat → Nat → Nat) (cI cC cG cZ : ClassId) (ad pa : Nat → Nat → Nat) (x : XS) (joint : Int32) (hM0 : tm_ok 8 (x.1.1 2)) (hM1 : tm_ok 8 (x.1.1 10)) (hk : x.2.1 ≤ 6) (res : Int32 × XS) (hres : res = X_sew joint x) : Met l yX6_sew wsX6_sew ({ frames := 7, cells := 0, slots := 0, locals := 150 }) (va_Pc [.ref (ad 0 0), .int joint] (b_Pre (dC, dI) vwCl (tyL cI cC cG cZ) (xW cI cC cG ad pa x))) (bQi (dC, dI) vwCl res.1 (fun pa => (xW cI cC cG ad pa res.2)) (bA (xW cI cC cG ad pa x))) 0 0 (bA (xW cI cC cG ad pa x)) := by
  refine Met.ofW (cc := cX6_sew) (maxL := 2) (ret := (some .int)) (by decide) rfl ?_
  intro p e s m args below meth c s₁ B hml hv
  obtain ⟨rfl, hP, hK, hD0⟩ := hv
  have hx := B.exec
  have hb := B.bytes
  have hr := B.returns
  have hts := atoms_spec (ws := wsX6_sew) B.pre
  have hown : s.vm.findClass RX6 = some m.cls := findClass_of_methodNamed B.named
  have hlocks := B.notSynchronized
  have hD := hD0.self
  generalize hAe : bA (xW cI cC cG ad pa x) = A at hD ⊢
  have hS : va_S A s.heap s.heap [] := va_S.rf
  have hP : bP (dC, dI) vwCl (xW cI cC cG ad pa x) s.heap := hP
  have hl := lv_entry ([.ref (ad 0 0), .int joint]) (n := 2) (Nat.le_of_ble_eq_true rfl)
  rw [lg_entry_eq]
  generalize (lg_sl ([.ref (ad 0 0), .int joint]) ++ List.replicate (2 - (lg_sl ([.ref (ad 0 0), .int joint])).length) Slot.unset).toArray = ls at hl ⊢
  have hl : lv_has ls 2 [(0, .ref (ad 0 0)), (1, .int joint)] := hl
  rw [X_sew] at hres
  refine lv_aload_n hx hb dX6_sew_0 rfl (lv_at hl 0 rfl) ?_
  refine lv_bipush (v := 119) hx hb dX6_sew_1 (by decide) ?_
  refine lv_iload_n hx hb dX6_sew_3 rfl (lv_at hl 1 rfl) ?_
  refine b_alli (W1 := fun pa => (xW cI cC cG ad pa ((X_takeTurn 119 joint x).2))) (va_runV (As := [.int 119, .int joint]) (rest := []) ⟨hx, hb, hml, hown, hts⟩ (cu_TC_takeTurn l dC dI cI cC cG cZ ad pa x 119 joint hM0 hM1 hk _ rfl) (cwV 2 hts gX6_sew_X6_takeTurn rfl rfl rfl (by decide +kernel) ⟨Nat.le_of_ble_eq_true rfl, Nat.le_of_ble_eq_true rfl⟩) (b_preV hP hK hD (ci := 6) (i0 := 0) (q0 := 0) rfl rfl rfl) rfl rfl hl.1 rfl (lv_room (Nat.le_of_ble_eq_true rfl)) dX6_sew_4 ⟨Nat.zero_le _, Nat.zero_le _⟩) hD hS (fun H locs pa hP hD hS => ?_)
  have hP : bP (dC, dI) vwCl (xW cI cC cG ad pa ((X_takeTurn 119 joint x).2)) H := hP
  have hD : bD A (xW cI cC cG ad pa ((X_takeTurn 119 joint x).2)) := hD
  subst hres
  exact W.iret (v := (X_takeTurn 119 joint x).1) hx hb hr (fun t ht hW => ⟨⟨(X_takeTurn 119 joint x).1, (), rfl, rfl, pa, by show bP _ _ _ t.heap; rw [ht]; exact hP, hD⟩, hS.F ht⟩) hS.2.2 dX6_sew_7
set_option maxHeartbeats 4000000 in
set_option maxRecDepth 100000 in
theorem cu_TC_bluff (l : Launch) (dC : Nat → ClassId) (dI : Nat → Nat → Nat) (cI cC cG cZ : ClassId) (ad pa : Nat → Nat → Nat) (x : XS) (joint : Int32) (hM0 : tm_ok 8 (x.1.1 2)) (hM1 : tm_ok 8 (x.1.1 10)) (hk : x.2.1 ≤ 6) (res : Int32 × XS) (hres : res = X_bluff joint x) : Met l yX6_bluff wsX6_bluff ({ frames := 7, cells := 0, slots := 0, locals := 150 }) (va_Pc [.ref (ad 0 0), .int joint] (b_Pre (dC, dI) vwCl (tyL cI cC cG cZ) (xW cI cC cG ad pa x))) (bQi (dC, dI) vwCl res.1 (fun pa => (xW cI cC cG ad pa res.2)) (bA (xW cI cC cG ad pa x))) 0 0 (bA (xW cI cC cG ad pa x)) := by
  refine Met.ofW (cc := cX6_bluff) (maxL := 2) (ret := (some .int)) (by decide) rfl ?_
  intro p e s m args below meth c s₁ B hml hv
  obtain ⟨rfl, hP, hK, hD0⟩ := hv
  have hx := B.exec
  have hb := B.bytes
  have hr := B.returns
  have hts := atoms_spec (ws := wsX6_bluff) B.pre
  have hown : s.vm.findClass RX6 = some m.cls := findClass_of_methodNamed B.named
  have hlocks := B.notSynchronized
  have hD := hD0.self
  generalize hAe : bA (xW cI cC cG ad pa x) = A at hD ⊢
  have hS : va_S A s.heap s.heap [] := va_S.rf
  have hP : bP (dC, dI) vwCl (xW cI cC cG ad pa x) s.heap := hP
  have hl := lv_entry ([.ref (ad 0 0), .int joint]) (n := 2) (Nat.le_of_ble_eq_true rfl)
  rw [lg_entry_eq]
  generalize (lg_sl ([.ref (ad 0 0), .int joint]) ++ List.replicate (2 - (lg_sl ([.ref (ad 0 0), .int joint])).length) Slot.unset).toArray = ls at hl ⊢
  have hl : lv_has ls 2 [(0, .ref (ad 0 0)), (1, .int joint)] := hl
  rw [X_bluff] at hres
  refine lv_aload_n hx hb dX6_bluff_0 rfl (lv_at hl 0 rfl) ?_
  refine lv_bipush (v := 98) hx hb dX6_bluff_1 (by decide) ?_
  refine lv_iload_n hx hb dX6_bluff_3 rfl (lv_at hl 1 rfl) ?_
  refine b_alli (W1 := fun pa => (xW cI cC cG ad pa ((X_takeTurn 98 joint x).2))) (va_runV (As := [.int 98, .int joint]) (rest := []) ⟨hx, hb, hml, hown, hts⟩ (cu_TC_takeTurn l dC dI cI cC cG cZ ad pa x 98 joint hM0 hM1 hk _ rfl) (cwV 2 hts gX6_bluff_X6_takeTurn rfl rfl rfl (by decide +kernel) ⟨Nat.le_of_ble_eq_true rfl, Nat.le_of_ble_eq_true rfl⟩) (b_preV hP hK hD (ci := 6) (i0 := 0) (q0 := 0) rfl rfl rfl) rfl rfl hl.1 rfl (lv_room (Nat.le_of_ble_eq_true rfl)) dX6_bluff_4 ⟨Nat.zero_le _, Nat.zero_le _⟩) hD hS (fun H locs pa hP hD hS => ?_)
  have hP : bP (dC, dI) vwCl (xW cI cC cG ad pa ((X_takeTurn 98 joint x).2)) H := hP
  have hD : bD A (xW cI cC cG ad pa ((X_takeTurn 98 joint x).2)) := hD
  subst hres
  exact W.iret (v := (X_takeTurn 98 joint x).1) hx hb hr (fun t ht hW => ⟨⟨(X_takeTurn 98 joint x).1, (), rfl, rfl, pa, by show bP _ _ _ t.heap; rw [ht]; exact hP, hD⟩, hS.F ht⟩) hS.2.2 dX6_bluff_7
set_option maxHeartbeats 4000000 in
set_option maxRecDepth 100000 in
theorem cu_TC_doubt (l : Launch) (dC : Nat → ClassId) (dI : Nat → Nat → Nat) (cI cC cG cZ : ClassId) (ad pa : Nat → Nat → Nat) (x : XS) (joint : Int32) (hM0 : tm_ok 8 (x.1.1 2)) (hM1 : tm_ok 8 (x.1.1 10)) (hk : x.2.1 ≤ 6) (res : Int32 × XS) (hres : res = X_doubt joint x) : Met l yX6_doubt wsX6_doubt ({ frames := 7, cells := 0, slots := 0, locals := 150 }) (va_Pc [.ref (ad 0 0), .int joint] (b_Pre (dC, dI) vwCl (tyL cI cC cG cZ) (xW cI cC cG ad pa x))) (bQi (dC, dI) vwCl res.1 (fun pa => (xW cI cC cG ad pa res.2)) (bA (xW cI cC cG ad pa x))) 0 0 (bA (xW cI cC cG ad pa x)) := by
  refine Met.ofW (cc := cX6_doubt) (maxL := 2) (ret := (some .int)) (by decide) rfl ?_
  intro p e s m args below meth c s₁ B hml hv
  obtain ⟨rfl, hP, hK, hD0⟩ := hv
  have hx := B.exec
  have hb := B.bytes
  have hr := B.returns
  have hts := atoms_spec (ws := wsX6_doubt) B.pre
  have hown : s.vm.findClass RX6 = some m.cls := findClass_of_methodNamed B.named
  have hlocks := B.notSynchronized
  have hD := hD0.self
  generalize hAe : bA (xW cI cC cG ad pa x) = A at hD ⊢
  have hS : va_S A s.heap s.heap [] := va_S.rf
  have hP : bP (dC, dI) vwCl (xW cI cC cG ad pa x) s.heap := hP
  have hl := lv_entry ([.ref (ad 0 0), .int joint]) (n := 2) (Nat.le_of_ble_eq_true rfl)
  rw [lg_entry_eq]
  generalize (lg_sl ([.ref (ad 0 0), .int joint]) ++ List.replicate (2 - (lg_sl ([.ref (ad 0 0), .int joint])).length) Slot.unset).toArray = ls at hl ⊢
  have hl : lv_has ls 2 [(0, .ref (ad 0 0)), (1, .int joint)] := hl
  rw [X_doubt] at hres
  refine lv_aload_n hx hb dX6_doubt_0 rfl (lv_at hl 0 rfl) ?_
  refine lv_bipush (v := 100) hx hb dX6_doubt_1 (by decide) ?_
  refine lv_iload_n hx hb dX6_doubt_3 rfl (lv_at hl 1 rfl) ?_
  refine b_alli (W1 := fun pa => (xW cI cC cG ad pa ((X_takeTurn 100 joint x).2))) (va_runV (As := [.int 100, .int joint]) (rest := []) ⟨hx, hb, hml, hown, hts⟩ (cu_TC_takeTurn l dC dI cI cC cG cZ ad pa x 100 joint hM0 hM1 hk _ rfl) (cwV 2 hts gX6_doubt_X6_takeTurn rfl rfl rfl (by decide +kernel) ⟨Nat.le_of_ble_eq_true rfl, Nat.le_of_ble_eq_true rfl⟩) (b_preV hP hK hD (ci := 6) (i0 := 0) (q0 := 0) rfl rfl rfl) rfl rfl hl.1 rfl (lv_room (Nat.le_of_ble_eq_true rfl)) dX6_doubt_4 ⟨Nat.zero_le _, Nat.zero_le _⟩) hD hS (fun H locs pa hP hD hS => ?_)
  have hP : bP (dC, dI) vwCl (xW cI cC cG ad pa ((X_takeTurn 100 joint x).2)) H := hP
  have hD : bD A (xW cI cC cG ad pa ((X_takeTurn 100 joint x).2)) := hD
  subst hres
  exact W.iret (v := (X_takeTurn 100 joint x).1) hx hb hr (fun t ht hW => ⟨⟨(X_takeTurn 100 joint x).1, (), rfl, rfl, pa, by show bP _ _ _ t.heap; rw [ht]; exact hP, hD⟩, hS.F ht⟩) hS.2.2 dX6_doubt_7
set_option maxHeartbeats 4000000 in
set_option maxRecDepth 100000 in
theorem cu_TC_pass (l : Launch) (dC : Nat → ClassId) (dI : Nat → Nat → Nat) (cI cC cG cZ : ClassId) (ad pa : Nat → Nat → Nat) (x : XS) (hM0 : tm_ok 8 (x.1.1 2)) (hM1 : tm_ok 8 (x.1.1 10)) (hk : x.2.1 ≤ 6) (res : Int32 × XS) (hres : res = X_pass  x) : Met l yX6_pass wsX6_pass ({ frames := 7, cells := 0, slots := 0, locals := 150 }) (va_Pc [.ref (ad 0 0)] (b_Pre (dC, dI) vwCl (tyL cI cC cG cZ) (xW cI cC cG ad pa x))) (bQi (dC, dI) vwCl res.1 (fun pa => (xW cI cC cG ad pa res.2)) (bA (xW cI cC cG ad pa x))) 0 0 (bA (xW cI cC cG ad pa x)) := by
  refine Met.ofW (cc := cX6_pass) (maxL := 1) (ret := (some .int)) (by decide) rfl ?_
  intro p e s m args below meth c s₁ B hml hv
  obtain ⟨rfl, hP, hK, hD0⟩ := hv
  have hx := B.exec
  have hb := B.bytes
  have hr := B.returns
  have hts := atoms_spec (ws := wsX6_pass) B.pre
  have hown : s.vm.findClass RX6 = some m.cls := findClass_of_methodNamed B.named
  have hlocks := B.notSynchronized
  have hD := hD0.self
  generalize hAe : bA (xW cI cC cG ad pa x) = A at hD ⊢
  have hS : va_S A s.heap s.heap [] := va_S.rf
  have hP : bP (dC, dI) vwCl (xW cI cC cG ad pa x) s.heap := hP
  have hl := lv_entry ([.ref (ad 0 0)]) (n := 1) (Nat.le_of_ble_eq_true rfl)
  rw [lg_entry_eq]
  generalize (lg_sl ([.ref (ad 0 0)]) ++ List.replicate (1 - (lg_sl ([.ref (ad 0 0)])).length) Slot.unset).toArray = ls at hl ⊢
  have hl : lv_has ls 1 [(0, .ref (ad 0 0))] := hl
  rw [X_pass] at hres
  refine lv_aload_n hx hb dX6_pass_0 rfl (lv_at hl 0 rfl) ?_
  refine lv_bipush (v := 112) hx hb dX6_pass_1 (by decide) ?_
  refine lv_iconst (v := 0) hx hb dX6_pass_3 (by decide) ?_
  refine b_alli (W1 := fun pa => (xW cI cC cG ad pa ((X_takeTurn 112 0 x).2))) (va_runV (As := [.int 112, .int 0]) (rest := []) ⟨hx, hb, hml, hown, hts⟩ (cu_TC_takeTurn l dC dI cI cC cG cZ ad pa x 112 0 hM0 hM1 hk _ rfl) (cwV 2 hts gX6_pass_X6_takeTurn rfl rfl rfl (by decide +kernel) ⟨Nat.le_of_ble_eq_true rfl, Nat.le_of_ble_eq_true rfl⟩) (b_preV hP hK hD (ci := 6) (i0 := 0) (q0 := 0) rfl rfl rfl) rfl rfl hl.1 rfl (lv_room (Nat.le_of_ble_eq_true rfl)) dX6_pass_4 ⟨Nat.zero_le _, Nat.zero_le _⟩) hD hS (fun H locs pa hP hD hS => ?_)
  have hP : bP (dC, dI) vwCl (xW cI cC cG ad pa ((X_takeTurn 112 0 x).2)) H := hP
  have hD : bD A (xW cI cC cG ad pa ((X_takeTurn 112 0 x).2)) := hD
  subst hres
  exact W.iret (v := (X_takeTurn 112 0 x).1) hx hb hr (fun t ht hW => ⟨⟨(X_takeTurn 112 0 x).1, (), rfl, rfl, pa, by show bP _ _ _ t.heap; rw [ht]; exact hP, hD⟩, hS.F ht⟩) hS.2.2 dX6_pass_7
theorem iX6_undo_X6 : ∀ w ∈ u_ws RX6 TX6 5, w ∈ wsX6_undo := by decide +kernel
theorem kX6_undo_10 : Cond.fieldLink RX6 10 "TailorChalks" "game" "LTailorChalks$Game;" ∈ wsX6_undo := by decide +kernel
theorem kX6_undo_19 : Cond.fieldLink RX6 19 "TailorChalks" "history" "LTailorChalks$History;" ∈ wsX6_undo := by decide +kernel
set_option maxHeartbeats 4000000 in
set_option maxRecDepth 100000 in
theorem cu_TC_undo (l : Launch) (dC : Nat → ClassId) (dI : Nat → Nat → Nat) (cI cC cG cZ : ClassId) (ad pa : Nat → Nat → Nat) (x : XS) (hk : x.2.1 ≤ 6) (res : Int32 × XS) (hres : res = X_undo  x) : Met l yX6_undo wsX6_undo ({ frames := 3, cells := 0, slots := 0, locals := 64 }) (va_Pc [.ref (ad 0 0)] (b_Pre (dC, dI) vwCl (tyL cI cC cG cZ) (xW cI cC cG ad pa x))) (bQi (dC, dI) vwCl res.1 (fun pa => (xW cI cC cG ad pa res.2)) (bA (xW cI cC cG ad pa x))) 0 0 (bA (xW cI cC cG ad pa x)) := by
  refine Met.ofW (cc := cX6_undo) (maxL := 1) (ret := (some .int)) (by decide) rfl ?_
  intro p e s m args below meth c s₁ B hml hv
  obtain ⟨rfl, hP, hK, hD0⟩ := hv
  have hx := B.exec
  have hb := B.bytes
  have hr := B.returns
  have hts := atoms_spec (ws := wsX6_undo) B.pre
  have hown : s.vm.findClass RX6 = some m.cls := findClass_of_methodNamed B.named
  have hlocks := B.notSynchronized
  have hD := hD0.self
  generalize hAe : bA (xW cI cC cG ad pa x) = A at hD ⊢
  have hS : va_S A s.heap s.heap [] := va_S.rf
  have hP : bP (dC, dI) vwCl (xW cI cC cG ad pa x) s.heap := hP
  have hl := lv_entry ([.ref (ad 0 0)]) (n := 1) (Nat.le_of_ble_eq_true rfl)
  rw [lg_entry_eq]
  generalize (lg_sl ([.ref (ad 0 0)]) ++ List.replicate (1 - (lg_sl ([.ref (ad 0 0)])).length) Slot.unset).toArray = ls at hl ⊢
  have hl : lv_has ls 1 [(0, .ref (ad 0 0))] := hl
  rw [X_undo] at hres
  refine lv_aload_n hx hb dX6_undo_0 rfl (lv_at hl 0 rfl) ?_
  refine va_get (D := (dC, dI)) (ci := 6) (v := .ref (ad 2 0)) (C := RX6) (T := TX6) (N := 5) hx hb hts iX6_undo_X6 hown hK (hP 0 (tcB ad) rfl) 0 rfl rfl 1 (by decide) (hts (.fieldLink RX6 19 "TailorChalks" "history" "LTailorChalks$History;") kX6_undo_19) (fun _ h9 => h9) rfl dX6_undo_1 ?_
  refine lv_aload_n hx hb dX6_undo_4 rfl (lv_at hl 0 rfl) ?_
  refine va_get (D := (dC, dI)) (ci := 6) (v := .ref (ad 1 0)) (C := RX6) (T := TX6) (N := 5) hx hb hts iX6_undo_X6 hown hK (hP 0 (tcB ad) rfl) 0 rfl rfl 0 (by decide) (hts (.fieldLink RX6 10 "TailorChalks" "game" "LTailorChalks$Game;") kX6_undo_10) (fun _ h9 => h9) rfl dX6_undo_5 ?_
  refine b_alli (W1 := fun pa => (xW cI cC cG ad pa ((X_goBack x).2))) (va_runV (As := [.ref (ad 1 0)]) (rest := []) ⟨hx, hb, hml, hown, hts⟩ (cu_History_goBack l dC dI cI cC cG cZ ad pa x hk) (cwV 1 hts gX6_undo_X2_goBack rfl rfl rfl (by decide +kernel) ⟨Nat.le_of_ble_eq_true rfl, Nat.le_of_ble_eq_true rfl⟩) (b_preV hP hK hD (ci := 2) (i0 := 3) (q0 := 0) rfl rfl rfl) rfl rfl hl.1 rfl (lv_room (Nat.le_of_ble_eq_true rfl)) dX6_undo_8 ⟨Nat.zero_le _, Nat.zero_le _⟩) hD hS (fun H locs pa hP hD hS => ?_)
  have hP : bP (dC, dI) vwCl (xW cI cC cG ad pa ((X_goBack x).2)) H := hP
  have hD : bD A (xW cI cC cG ad pa ((X_goBack x).2)) := hD
  subst hres
  exact W.iret (v := (X_goBack x).1) hx hb hr (fun t ht hW => ⟨⟨(X_goBack x).1, (), rfl, rfl, pa, by show bP _ _ _ t.heap; rw [ht]; exact hP, hD⟩, hS.F ht⟩) hS.2.2 dX6_undo_11
theorem iX6_save_X1 : ∀ w ∈ u_ws RX1 TX1 5, w ∈ wsX6_save := by decide +kernel
theorem iX6_save_X6 : ∀ w ∈ u_ws RX6 TX6 5, w ∈ wsX6_save := by decide +kernel
theorem kX6_save_10 : Cond.fieldLink RX6 10 "TailorChalks" "game" "LTailorChalks$Game;" ∈ wsX6_save := by decide +kernel
theorem kX6_save_60 : Cond.fieldLink RX6 60 "TailorChalks$Game" "cloth" "LTailorChalks$Cloth;" ∈ wsX6_save := by decide +kernel
set_option maxHeartbeats 4000000 in
set_option maxRecDepth 100000 in
theorem cu_TC_save (l : Launch) (dC : Nat → ClassId) (dI : Nat → Nat → Nat) (cI cC cG cZ : ClassId) (ad pa : Nat → Nat → Nat) (x : XS) (slot : Int32) (res : Int32 × XS) (hres : res = X_save slot x) : Met l yX6_save wsX6_save ({ frames := 3, cells := 0, slots := 0, locals := 64 }) (va_Pc [.ref (ad 0 0), .int slot] (b_Pre (dC, dI) vwCl (tyL cI cC cG cZ) (xW cI cC cG ad pa x))) (bQi (dC, dI) vwCl res.1 (fun pa => (xW cI cC cG ad pa res.2)) (bA (xW cI cC cG ad pa x))) 0 0 (bA (xW cI cC cG ad pa x)) := by
  refine Met.ofW (cc := cX6_save) (maxL := 2) (ret := (some .int)) (by decide) rfl ?_
  intro p e s m args below meth c s₁ B hml hv
  obtain ⟨rfl, hP, hK, hD0⟩ := hv
  have hx := B.exec
  have hb := B.bytes
  have hr := B.returns
  have hts := atoms_spec (ws := wsX6_save) B.pre
  have hown : s.vm.findClass RX6 = some m.cls := findClass_of_methodNamed B.named
  have hlocks := B.notSynchronized
  have hD := hD0.self
  generalize hAe : bA (xW cI cC cG ad pa x) = A at hD ⊢
  have hS : va_S A s.heap s.heap [] := va_S.rf
  have hP : bP (dC, dI) vwCl (xW cI cC cG ad pa x) s.heap := hP
  have hl := lv_entry ([.ref (ad 0 0), .int slot]) (n := 2) (Nat.le_of_ble_eq_true rfl)
  rw [lg_entry_eq]
  generalize (lg_sl ([.ref (ad 0 0), .int slot]) ++ List.replicate (2 - (lg_sl ([.ref (ad 0 0), .int slot])).length) Slot.unset).toArray = ls at hl ⊢
  have hl : lv_has ls 2 [(0, .ref (ad 0 0)), (1, .int slot)] := hl
  rw [X_save] at hres
  refine lv_iload_n hx hb dX6_save_0 rfl (lv_at hl 1 rfl) ?_
  refine b_roi (va_runS (As := [.int slot]) (rest := []) ⟨hx, hb, hml, hown, hts⟩ (c_TC_isSlot l dC dI cI cC cG cZ slot _ rfl) (va_cwS 1 hts gX6_save_X6_isSlot rfl rfl rfl (by decide +kernel) ⟨Nat.le_of_ble_eq_true rfl, Nat.le_of_ble_eq_true rfl⟩) (ro_preS (w_nil (dC, dI) vwCl) hK) rfl rfl hl.1 rfl (lv_room (Nat.le_of_ble_eq_true rfl)) dX6_save_1 ⟨Nat.zero_le _, Nat.zero_le _⟩) hP hS (fun H locs hP hS => ?_)
  refine lv_if_ne (tgt := 10) hx hb dX6_save_4 (by decide) (fun c_1 => ?_) (fun c_1 => ?_)
  · rw [if_neg c_1] at hres
    rcases isSlot_of c_1 with rfl | rfl
    · rw [if_pos rfl] at hres
      refine lv_aload_n hx hb dX6_save_10 rfl (lv_at hl 0 rfl) ?_
      refine lv_iload_n hx hb dX6_save_11 rfl (lv_at hl 1 rfl) ?_
      refine b_ror (va_runV (As := [.int (0 : Int32)]) (rest := []) ⟨hx, hb, hml, hown, hts⟩ (c_TC_slotOf l dC dI cI cC cG cZ (ad 0 0) (ad 1 0) (ad 2 0) (ad 11 0) (ad 13 0) (ad 15 0) (0 : Int32) (ad 11 0) (if_pos rfl).symm) (cwV 1 hts gX6_save_X6_slotOf rfl rfl rfl (by decide +kernel) ⟨Nat.le_of_ble_eq_true rfl, Nat.le_of_ble_eq_true rfl⟩) (ro_preV (hP 0 (tcB ad) rfl) hK (ci := 6) (q0 := 0) rfl rfl) rfl rfl hl.1 rfl (lv_room (Nat.le_of_ble_eq_true rfl)) dX6_save_12 ⟨Nat.zero_le _, Nat.zero_le _⟩) hP hS (fun H locs hP hS => ?_)
      refine lv_aload_n hx hb dX6_save_15 rfl (lv_at hl 0 rfl) ?_
      refine va_get (D := (dC, dI)) (ci := 6) (v := .ref (ad 1 0)) (C := RX6) (T := TX6) (N := 5) hx hb hts iX6_save_X6 hown hK (hP 0 (tcB ad) rfl) 0 rfl rfl 0 (by decide) (hts (.fieldLink RX6 10 "TailorChalks" "game" "LTailorChalks$Game;") kX6_save_10) (fun _ h9 => h9) rfl dX6_save_16 ?_
      refine b_allv (W1 := fun pa => (xW cI cC cG ad pa (X_fill0 x))) (va_runV (As := [.ref (ad 1 0)]) (rest := []) ⟨hx, hb, hml, hown, hts⟩ (cu_Slot_fill0 l dC dI cI cC cG cZ ad pa x ) (cwV 1 hts gX6_save_X4_fill rfl rfl rfl (by decide +kernel) ⟨Nat.le_of_ble_eq_true rfl, Nat.le_of_ble_eq_true rfl⟩) (b_preV hP hK hD (ci := 4) (i0 := 19) (q0 := 0) rfl rfl rfl) rfl rfl hl.1 rfl (lv_room (Nat.le_of_ble_eq_true rfl)) dX6_save_19 ⟨Nat.zero_le _, Nat.zero_le _⟩) hD hS (fun H locs pa hP hD hS => ?_)
      have hP : bP (dC, dI) vwCl (xW cI cC cG ad pa (X_fill0 x)) H := hP
      have hD : bD A (xW cI cC cG ad pa (X_fill0 x)) := hD
      refine lv_aload_n hx hb dX6_save_22 rfl (lv_at hl 0 rfl) ?_
      refine va_get (D := (dC, dI)) (ci := 6) (v := .ref (ad 1 0)) (C := RX6) (T := TX6) (N := 5) hx hb hts iX6_save_X6 hown hK (hP 0 (tcB ad) rfl) 0 rfl rfl 0 (by decide) (hts (.fieldLink RX6 10 "TailorChalks" "game" "LTailorChalks$Game;") kX6_save_10) (fun _ h9 => h9) rfl dX6_save_23 ?_
      refine va_get (D := (dC, dI)) (ci := 1) (v := .ref (ad 1 1)) (C := RX1) (T := TX1) (N := 5) hx hb hts iX6_save_X1 hown hK (hP 1 (gh (ad 1) (X_fill0 x).1) rfl) 0 rfl rfl 0 (by decide) (hts (.fieldLink RX6 60 "TailorChalks$Game" "cloth" "LTailorChalks$Cloth;") kX6_save_60) (fun _ h9 => h9) rfl dX6_save_26 ?_
      refine b_alli (W1 := fun pa => (xW cI cC cG ad pa (X_fill0 x))) (va_runV (As := []) (rest := []) ⟨hx, hb, hml, hown, hts⟩ (cu_Cloth_cellsLeft l dC dI cI cC cG cZ ad pa (X_fill0 x) ) (cwV 0 hts gX6_save_X0_cellsLeft rfl rfl rfl (by decide +kernel) ⟨Nat.le_of_ble_eq_true rfl, Nat.le_of_ble_eq_true rfl⟩) (b_preV hP hK hD (ci := 0) (i0 := 2) (q0 := 0) rfl rfl rfl) rfl rfl hl.1 rfl (lv_room (Nat.le_of_ble_eq_true rfl)) dX6_save_29 ⟨Nat.zero_le _, Nat.zero_le _⟩) hD hS (fun H locs pa hP hD hS => ?_)
      have hP : bP (dC, dI) vwCl (xW cI cC cG ad pa (X_fill0 x)) H := hP
      have hD : bD A (xW cI cC cG ad pa (X_fill0 x)) := hD
      subst hres
      exact W.iret (v := (F_Cloth_cellsLeft ((X_fill0 x).1.2.1 0))) hx hb hr (fun t ht hW => ⟨⟨(F_Cloth_cellsLeft ((X_fill0 x).1.2.1 0)), (), rfl, rfl, pa, by show bP _ _ _ t.heap; rw [ht]; exact hP, hD⟩, hS.F ht⟩) hS.2.2 dX6_save_32
    · rw [if_neg (by decide)] at hres
      refine lv_aload_n hx hb dX6_save_10 rfl (lv_at hl 0 rfl) ?_
      refine lv_iload_n hx hb dX6_save_11 rfl (lv_at hl 1 rfl) ?_
      refine b_ror (va_runV (As := [.int (1 : Int32)]) (rest := []) ⟨hx, hb, hml, hown, hts⟩ (c_TC_slotOf l dC dI cI cC cG cZ (ad 0 0) (ad 1 0) (ad 2 0) (ad 11 0) (ad 13 0) (ad 15 0) (1 : Int32) (ad 13 0) (if_neg (by decide)).symm) (cwV 1 hts gX6_save_X6_slotOf rfl rfl rfl (by decide +kernel) ⟨Nat.le_of_ble_eq_true rfl, Nat.le_of_ble_eq_true rfl⟩) (ro_preV (hP 0 (tcB ad) rfl) hK (ci := 6) (q0 := 0) rfl rfl) rfl rfl hl.1 rfl (lv_room (Nat.le_of_ble_eq_true rfl)) dX6_save_12 ⟨Nat.zero_le _, Nat.zero_le _⟩) hP hS (fun H locs hP hS => ?_)
      refine lv_aload_n hx hb dX6_save_15 rfl (lv_at hl 0 rfl) ?_
      refine va_get (D := (dC, dI)) (ci := 6) (v := .ref (ad 1 0)) (C := RX6) (T := TX6) (N := 5) hx hb hts iX6_save_X6 hown hK (hP 0 (tcB ad) rfl) 0 rfl rfl 0 (by decide) (hts (.fieldLink RX6 10 "TailorChalks" "game" "LTailorChalks$Game;") kX6_save_10) (fun _ h9 => h9) rfl dX6_save_16 ?_
      refine b_allv (W1 := fun pa => (xW cI cC cG ad pa (X_fill1 x))) (va_runV (As := [.ref (ad 1 0)]) (rest := []) ⟨hx, hb, hml, hown, hts⟩ (cu_Slot_fill1 l dC dI cI cC cG cZ ad pa x ) (cwV 1 hts gX6_save_X4_fill rfl rfl rfl (by decide +kernel) ⟨Nat.le_of_ble_eq_true rfl, Nat.le_of_ble_eq_true rfl⟩) (b_preV hP hK hD (ci := 4) (i0 := 22) (q0 := 0) rfl rfl rfl) rfl rfl hl.1 rfl (lv_room (Nat.le_of_ble_eq_true rfl)) dX6_save_19 ⟨Nat.zero_le _, Nat.zero_le _⟩) hD hS (fun H locs pa hP hD hS => ?_)
      have hP : bP (dC, dI) vwCl (xW cI cC cG ad pa (X_fill1 x)) H := hP
      have hD : bD A (xW cI cC cG ad pa (X_fill1 x)) := hD
      refine lv_aload_n hx hb dX6_save_22 rfl (lv_at hl 0 rfl) ?_
      refine va_get (D := (dC, dI)) (ci := 6) (v := .ref (ad 1 0)) (C := RX6) (T := TX6) (N := 5) hx hb hts iX6_save_X6 hown hK (hP 0 (tcB ad) rfl) 0 rfl rfl 0 (by decide) (hts (.fieldLink RX6 10 "TailorChalks" "game" "LTailorChalks$Game;") kX6_save_10) (fun _ h9 => h9) rfl dX6_save_23 ?_
      refine va_get (D := (dC, dI)) (ci := 1) (v := .ref (ad 1 1)) (C := RX1) (T := TX1) (N := 5) hx hb hts iX6_save_X1 hown hK (hP 1 (gh (ad 1) (X_fill1 x).1) rfl) 0 rfl rfl 0 (by decide) (hts (.fieldLink RX6 60 "TailorChalks$Game" "cloth" "LTailorChalks$Cloth;") kX6_save_60) (fun _ h9 => h9) rfl dX6_save_26 ?_
      refine b_alli (W1 := fun pa => (xW cI cC cG ad pa (X_fill1 x))) (va_runV (As := []) (rest := []) ⟨hx, hb, hml, hown, hts⟩ (cu_Cloth_cellsLeft l dC dI cI cC cG cZ ad pa (X_fill1 x) ) (cwV 0 hts gX6_save_X0_cellsLeft rfl rfl rfl (by decide +kernel) ⟨Nat.le_of_ble_eq_true rfl, Nat.le_of_ble_eq_true rfl⟩) (b_preV hP hK hD (ci := 0) (i0 := 2) (q0 := 0) rfl rfl rfl) rfl rfl hl.1 rfl (lv_room (Nat.le_of_ble_eq_true rfl)) dX6_save_29 ⟨Nat.zero_le _, Nat.zero_le _⟩) hD hS (fun H locs pa hP hD hS => ?_)
      have hP : bP (dC, dI) vwCl (xW cI cC cG ad pa (X_fill1 x)) H := hP
      have hD : bD A (xW cI cC cG ad pa (X_fill1 x)) := hD
      subst hres
      exact W.iret (v := (F_Cloth_cellsLeft ((X_fill1 x).1.2.1 0))) hx hb hr (fun t ht hW => ⟨⟨(F_Cloth_cellsLeft ((X_fill1 x).1.2.1 0)), (), rfl, rfl, pa, by show bP _ _ _ t.heap; rw [ht]; exact hP, hD⟩, hS.F ht⟩) hS.2.2 dX6_save_32
  · rw [if_pos c_1] at hres
    refine lv_bipush (v := (-2)) hx hb dX6_save_7 (by decide) ?_
    subst hres
    exact W.iret (v := (-2)) hx hb hr (fun t ht hW => ⟨⟨(-2), (), rfl, rfl, pa, by show bP _ _ _ t.heap; rw [ht]; exact hP, hD⟩, hS.F ht⟩) hS.2.2 dX6_save_9
theorem iX6_restore_X1 : ∀ w ∈ u_ws RX1 TX1 5, w ∈ wsX6_restore := by decide +kernel
theorem iX6_restore_X4 : ∀ w ∈ u_ws RX4 TX4 2, w ∈ wsX6_restore := by decide +kernel
theorem iX6_restore_X6 : ∀ w ∈ u_ws RX6 TX6 5, w ∈ wsX6_restore := by decide +kernel
theorem kX6_restore_10 : Cond.fieldLink RX6 10 "TailorChalks" "game" "LTailorChalks$Game;" ∈ wsX6_restore := by decide +kernel
theorem kX6_restore_19 : Cond.fieldLink RX6 19 "TailorChalks" "history" "LTailorChalks$History;" ∈ wsX6_restore := by decide +kernel
theorem kX6_restore_234 : Cond.fieldLink RX6 234 "TailorChalks$Slot" "full" "Z" ∈ wsX6_restore := by decide +kernel
theorem kX6_restore_238 : Cond.fieldLink RX6 238 "TailorChalks$Slot" "saved" "LTailorChalks$Game;" ∈ wsX6_restore := by decide +kernel
theorem kX6_restore_60 : Cond.fieldLink RX6 60 "TailorChalks$Game" "cloth" "LTailorChalks$Cloth;" ∈ wsX6_restore := by decide +kernel
set_option maxHeartbeats 4000000 in
set_option maxRecDepth 100000 in
theorem cu_TC_restore (l : Launch) (dC : Nat → ClassId) (dI : Nat → Nat → Nat) (cI cC cG cZ : ClassId) (ad pa : Nat → Nat → Nat) (x : XS) (slot : Int32) (hk : x.2.1 ≤ 6) (res : Int32 × XS) (hres : res = X_restore slot x) : Met l yX6_restore wsX6_restore ({ frames := 3, cells := 0, slots := 0, locals := 64 }) (va_Pc [.ref (ad 0 0), .int slot] (b_Pre (dC, dI) vwCl (tyL cI cC cG cZ) (xW cI cC cG ad pa x))) (bQi (dC, dI) vwCl res.1 (fun pa => (xW cI cC cG ad pa res.2)) (bA (xW cI cC cG ad pa x))) 0 0 (bA (xW cI cC cG ad pa x)) := by
  refine Met.ofW (cc := cX6_restore) (maxL := 3) (ret := (some .int)) (by decide) rfl ?_
  intro p e s m args below meth c s₁ B hml hv
  obtain ⟨rfl, hP, hK, hD0⟩ := hv
  have hx := B.exec
  have hb := B.bytes
  have hr := B.returns
  have hts := atoms_spec (ws := wsX6_restore) B.pre
  have hown : s.vm.findClass RX6 = some m.cls := findClass_of_methodNamed B.named
  have hlocks := B.notSynchronized
  have hD := hD0.self
  generalize hAe : bA (xW cI cC cG ad pa x) = A at hD ⊢
  have hS : va_S A s.heap s.heap [] := va_S.rf
  have hP : bP (dC, dI) vwCl (xW cI cC cG ad pa x) s.heap := hP
  have hl := lv_entry ([.ref (ad 0 0), .int slot]) (n := 3) (Nat.le_of_ble_eq_true rfl)
  rw [lg_entry_eq]
  generalize (lg_sl ([.ref (ad 0 0), .int slot]) ++ List.replicate (3 - (lg_sl ([.ref (ad 0 0), .int slot])).length) Slot.unset).toArray = ls at hl ⊢
  have hl : lv_has ls 3 [(0, .ref (ad 0 0)), (1, .int slot)] := hl
  rw [X_restore] at hres
  refine lv_iload_n hx hb dX6_restore_0 rfl (lv_at hl 1 rfl) ?_
  refine b_roi (va_runS (As := [.int slot]) (rest := []) ⟨hx, hb, hml, hown, hts⟩ (c_TC_isSlot l dC dI cI cC cG cZ slot _ rfl) (va_cwS 1 hts gX6_restore_X6_isSlot rfl rfl rfl (by decide +kernel) ⟨Nat.le_of_ble_eq_true rfl, Nat.le_of_ble_eq_true rfl⟩) (ro_preS (w_nil (dC, dI) vwCl) hK) rfl rfl hl.1 rfl (lv_room (Nat.le_of_ble_eq_true rfl)) dX6_restore_1 ⟨Nat.zero_le _, Nat.zero_le _⟩) hP hS (fun H locs hP hS => ?_)
  refine lv_if_ne (tgt := 10) hx hb dX6_restore_4 (by decide) (fun c_1 => ?_) (fun c_1 => ?_)
  · rw [if_neg c_1] at hres
    rcases isSlot_of c_1 with rfl | rfl
    · rw [if_pos rfl] at hres
      refine lv_aload_n hx hb dX6_restore_10 rfl (lv_at hl 0 rfl) ?_
      refine lv_iload_n hx hb dX6_restore_11 rfl (lv_at hl 1 rfl) ?_
      refine b_ror (va_runV (As := [.int (0 : Int32)]) (rest := []) ⟨hx, hb, hml, hown, hts⟩ (c_TC_slotOf l dC dI cI cC cG cZ (ad 0 0) (ad 1 0) (ad 2 0) (ad 11 0) (ad 13 0) (ad 15 0) (0 : Int32) (ad 11 0) (if_pos rfl).symm) (cwV 1 hts gX6_restore_X6_slotOf rfl rfl rfl (by decide +kernel) ⟨Nat.le_of_ble_eq_true rfl, Nat.le_of_ble_eq_true rfl⟩) (ro_preV (hP 0 (tcB ad) rfl) hK (ci := 6) (q0 := 0) rfl rfl) rfl rfl hl.1 rfl (lv_room (Nat.le_of_ble_eq_true rfl)) dX6_restore_12 ⟨Nat.zero_le _, Nat.zero_le _⟩) hP hS (fun H locs hP hS => ?_)
      refine lv_astore_n (lv' := [(2, .ref (ad 11 0)), (0, .ref (ad 0 0)), (1, .int (0 : Int32))]) hx hb dX6_restore_15 rfl hl (by decide) rfl (fun ls hl => ?_)
      refine lv_aload_n hx hb dX6_restore_16 rfl (lv_at hl 0 rfl) ?_
      refine va_get (D := (dC, dI)) (ci := 4) (v := .int (x.2.2.2.1 0)) (C := RX4) (T := TX4) (N := 2) hx hb hts iX6_restore_X4 hown hK (hP 19 (slB (ad 11 0) (ad 12 0) (x.2.2.2.1 0)) rfl) 0 rfl rfl 1 (by decide) (hts (.fieldLink RX6 234 "TailorChalks$Slot" "full" "Z") kX6_restore_234) (fun _ h9 => h9) rfl dX6_restore_17 ?_
      refine lv_if_ne (tgt := 26) hx hb dX6_restore_20 (by decide) (fun c_2 => ?_) (fun c_2 => ?_)
      · rw [if_neg c_2] at hres
        refine lv_aload_n hx hb dX6_restore_26 rfl (lv_at hl 1 rfl) ?_
        refine va_get (D := (dC, dI)) (ci := 6) (v := .ref (ad 2 0)) (C := RX6) (T := TX6) (N := 5) hx hb hts iX6_restore_X6 hown hK (hP 0 (tcB ad) rfl) 0 rfl rfl 1 (by decide) (hts (.fieldLink RX6 19 "TailorChalks" "history" "LTailorChalks$History;") kX6_restore_19) (fun _ h9 => h9) rfl dX6_restore_27 ?_
        refine lv_aload_n hx hb dX6_restore_30 rfl (lv_at hl 1 rfl) ?_
        refine va_get (D := (dC, dI)) (ci := 6) (v := .ref (ad 1 0)) (C := RX6) (T := TX6) (N := 5) hx hb hts iX6_restore_X6 hown hK (hP 0 (tcB ad) rfl) 0 rfl rfl 0 (by decide) (hts (.fieldLink RX6 10 "TailorChalks" "game" "LTailorChalks$Game;") kX6_restore_10) (fun _ h9 => h9) rfl dX6_restore_31 ?_
        refine b_allv (W1 := fun pa => (xW cI cC cG ad pa (X_note x))) (va_runV (As := [.ref (ad 1 0)]) (rest := []) ⟨hx, hb, hml, hown, hts⟩ (cu_History_note l dC dI cI cC cG cZ ad pa x ) (cwV 1 hts gX6_restore_X2_note rfl rfl rfl (by decide +kernel) ⟨Nat.le_of_ble_eq_true rfl, Nat.le_of_ble_eq_true rfl⟩) (b_preV hP hK hD (ci := 2) (i0 := 3) (q0 := 0) rfl rfl rfl) rfl rfl hl.1 rfl (lv_room (Nat.le_of_ble_eq_true rfl)) dX6_restore_34 ⟨Nat.zero_le _, Nat.zero_le _⟩) hD hS (fun H locs pa hP hD hS => ?_)
        have hP : bP (dC, dI) vwCl (xW cI cC cG ad pa (X_note x)) H := hP
        have hD : bD A (xW cI cC cG ad pa (X_note x)) := hD
        refine lv_aload_n hx hb dX6_restore_37 rfl (lv_at hl 1 rfl) ?_
        refine va_get (D := (dC, dI)) (ci := 6) (v := .ref (ad 2 0)) (C := RX6) (T := TX6) (N := 5) hx hb hts iX6_restore_X6 hown hK (hP 0 (tcB ad) rfl) 0 rfl rfl 1 (by decide) (hts (.fieldLink RX6 19 "TailorChalks" "history" "LTailorChalks$History;") kX6_restore_19) (fun _ h9 => h9) rfl dX6_restore_38 ?_
        refine b_allv (W1 := fun pa => (xW cI cC cG ad pa (X_keep (X_note x)))) (va_runV (As := []) (rest := []) ⟨hx, hb, hml, hown, hts⟩ (cu_History_keepNoted l dC dI cI cC cG cZ ad pa (X_note x) hk) (cwV 0 hts gX6_restore_X2_keepNoted rfl rfl rfl (by decide +kernel) ⟨Nat.le_of_ble_eq_true rfl, Nat.le_of_ble_eq_true rfl⟩) (b_preV hP hK hD (ci := 2) (i0 := 3) (q0 := 0) rfl rfl rfl) rfl rfl hl.1 rfl (lv_room (Nat.le_of_ble_eq_true rfl)) dX6_restore_41 ⟨Nat.zero_le _, Nat.zero_le _⟩) hD hS (fun H locs pa hP hD hS => ?_)
        have hP : bP (dC, dI) vwCl (xW cI cC cG ad pa (X_keep (X_note x))) H := hP
        have hD : bD A (xW cI cC cG ad pa (X_keep (X_note x))) := hD
        refine lv_aload_n hx hb dX6_restore_44 rfl (lv_at hl 1 rfl) ?_
        refine va_get (D := (dC, dI)) (ci := 6) (v := .ref (ad 1 0)) (C := RX6) (T := TX6) (N := 5) hx hb hts iX6_restore_X6 hown hK (hP 0 (tcB ad) rfl) 0 rfl rfl 0 (by decide) (hts (.fieldLink RX6 10 "TailorChalks" "game" "LTailorChalks$Game;") kX6_restore_10) (fun _ h9 => h9) rfl dX6_restore_45 ?_
        refine lv_aload_n hx hb dX6_restore_48 rfl (lv_at hl 0 rfl) ?_
        refine va_get (D := (dC, dI)) (ci := 4) (v := .ref (ad 12 0)) (C := RX4) (T := TX4) (N := 2) hx hb hts iX6_restore_X4 hown hK (hP 19 (slB (ad 11 0) (ad 12 0) ((X_keep (X_note x)).2.2.2.1 0)) rfl) 0 rfl rfl 0 (by decide) (hts (.fieldLink RX6 238 "TailorChalks$Slot" "saved" "LTailorChalks$Game;") kX6_restore_238) (fun _ h9 => h9) rfl dX6_restore_49 ?_
        refine b_allv (W1 := fun pa => (xW cI cC cG ad pa (X_become0 (X_keep (X_note x))))) (va_runV (As := [.ref (ad 12 0)]) (rest := []) ⟨hx, hb, hml, hown, hts⟩ (cu_Game_become0 l dC dI cI cC cG cZ ad pa (X_keep (X_note x)) ) (cwV 1 hts gX6_restore_X1_become rfl rfl rfl (by decide +kernel) ⟨Nat.le_of_ble_eq_true rfl, Nat.le_of_ble_eq_true rfl⟩) (b_preV hP hK hD (ci := 1) (i0 := 1) (q0 := 0) rfl rfl rfl) rfl rfl hl.1 rfl (lv_room (Nat.le_of_ble_eq_true rfl)) dX6_restore_52 ⟨Nat.zero_le _, Nat.zero_le _⟩) hD hS (fun H locs pa hP hD hS => ?_)
        have hP : bP (dC, dI) vwCl (xW cI cC cG ad pa (X_become0 (X_keep (X_note x)))) H := hP
        have hD : bD A (xW cI cC cG ad pa (X_become0 (X_keep (X_note x)))) := hD
        refine lv_aload_n hx hb dX6_restore_55 rfl (lv_at hl 1 rfl) ?_
        refine va_get (D := (dC, dI)) (ci := 6) (v := .ref (ad 1 0)) (C := RX6) (T := TX6) (N := 5) hx hb hts iX6_restore_X6 hown hK (hP 0 (tcB ad) rfl) 0 rfl rfl 0 (by decide) (hts (.fieldLink RX6 10 "TailorChalks" "game" "LTailorChalks$Game;") kX6_restore_10) (fun _ h9 => h9) rfl dX6_restore_56 ?_
        refine va_get (D := (dC, dI)) (ci := 1) (v := .ref (ad 1 1)) (C := RX1) (T := TX1) (N := 5) hx hb hts iX6_restore_X1 hown hK (hP 1 (gh (ad 1) (X_become0 (X_keep (X_note x))).1) rfl) 0 rfl rfl 0 (by decide) (hts (.fieldLink RX6 60 "TailorChalks$Game" "cloth" "LTailorChalks$Cloth;") kX6_restore_60) (fun _ h9 => h9) rfl dX6_restore_59 ?_
        refine b_alli (W1 := fun pa => (xW cI cC cG ad pa (X_become0 (X_keep (X_note x))))) (va_runV (As := []) (rest := []) ⟨hx, hb, hml, hown, hts⟩ (cu_Cloth_cellsLeft l dC dI cI cC cG cZ ad pa (X_become0 (X_keep (X_note x))) ) (cwV 0 hts gX6_restore_X0_cellsLeft rfl rfl rfl (by decide +kernel) ⟨Nat.le_of_ble_eq_true rfl, Nat.le_of_ble_eq_true rfl⟩) (b_preV hP hK hD (ci := 0) (i0 := 2) (q0 := 0) rfl rfl rfl) rfl rfl hl.1 rfl (lv_room (Nat.le_of_ble_eq_true rfl)) dX6_restore_62 ⟨Nat.zero_le _, Nat.zero_le _⟩) hD hS (fun H locs pa hP hD hS => ?_)
        have hP : bP (dC, dI) vwCl (xW cI cC cG ad pa (X_become0 (X_keep (X_note x)))) H := hP
        have hD : bD A (xW cI cC cG ad pa (X_become0 (X_keep (X_note x)))) := hD
        subst hres
        exact W.iret (v := (F_Cloth_cellsLeft ((X_become0 (X_keep (X_note x))).1.2.1 0))) hx hb hr (fun t ht hW => ⟨⟨(F_Cloth_cellsLeft ((X_become0 (X_keep (X_note x))).1.2.1 0)), (), rfl, rfl, pa, by show bP _ _ _ t.heap; rw [ht]; exact hP, hD⟩, hS.F ht⟩) hS.2.2 dX6_restore_65
      · rw [if_pos c_2] at hres
        refine lv_bipush (v := (-5)) hx hb dX6_restore_23 (by decide) ?_
        subst hres
        exact W.iret (v := (-5)) hx hb hr (fun t ht hW => ⟨⟨(-5), (), rfl, rfl, pa, by show bP _ _ _ t.heap; rw [ht]; exact hP, hD⟩, hS.F ht⟩) hS.2.2 dX6_restore_25
    · rw [if_neg (by decide)] at hres
      refine lv_aload_n hx hb dX6_restore_10 rfl (lv_at hl 0 rfl) ?_
      refine lv_iload_n hx hb dX6_restore_11 rfl (lv_at hl 1 rfl) ?_
      refine b_ror (va_runV (As := [.int (1 : Int32)]) (rest := []) ⟨hx, hb, hml, hown, hts⟩ (c_TC_slotOf l dC dI cI cC cG cZ (ad 0 0) (ad 1 0) (ad 2 0) (ad 11 0) (ad 13 0) (ad 15 0) (1 : Int32) (ad 13 0) (if_neg (by decide)).symm) (cwV 1 hts gX6_restore_X6_slotOf rfl rfl rfl (by decide +kernel) ⟨Nat.le_of_ble_eq_true rfl, Nat.le_of_ble_eq_true rfl⟩) (ro_preV (hP 0 (tcB ad) rfl) hK (ci := 6) (q0 := 0) rfl rfl) rfl rfl hl.1 rfl (lv_room (Nat.le_of_ble_eq_true rfl)) dX6_restore_12 ⟨Nat.zero_le _, Nat.zero_le _⟩) hP hS (fun H locs hP hS => ?_)
      refine lv_astore_n (lv' := [(2, .ref (ad 13 0)), (0, .ref (ad 0 0)), (1, .int (1 : Int32))]) hx hb dX6_restore_15 rfl hl (by decide) rfl (fun ls hl => ?_)
      refine lv_aload_n hx hb dX6_restore_16 rfl (lv_at hl 0 rfl) ?_
      refine va_get (D := (dC, dI)) (ci := 4) (v := .int (x.2.2.2.1 1)) (C := RX4) (T := TX4) (N := 2) hx hb hts iX6_restore_X4 hown hK (hP 22 (slB (ad 13 0) (ad 14 0) (x.2.2.2.1 1)) rfl) 0 rfl rfl 1 (by decide) (hts (.fieldLink RX6 234 "TailorChalks$Slot" "full" "Z") kX6_restore_234) (fun _ h9 => h9) rfl dX6_restore_17 ?_
      refine lv_if_ne (tgt := 26) hx hb dX6_restore_20 (by decide) (fun c_3 => ?_) (fun c_3 => ?_)
      · rw [if_neg c_3] at hres
        refine lv_aload_n hx hb dX6_restore_26 rfl (lv_at hl 1 rfl) ?_
        refine va_get (D := (dC, dI)) (ci := 6) (v := .ref (ad 2 0)) (C := RX6) (T := TX6) (N := 5) hx hb hts iX6_restore_X6 hown hK (hP 0 (tcB ad) rfl) 0 rfl rfl 1 (by decide) (hts (.fieldLink RX6 19 "TailorChalks" "history" "LTailorChalks$History;") kX6_restore_19) (fun _ h9 => h9) rfl dX6_restore_27 ?_
        refine lv_aload_n hx hb dX6_restore_30 rfl (lv_at hl 1 rfl) ?_
        refine va_get (D := (dC, dI)) (ci := 6) (v := .ref (ad 1 0)) (C := RX6) (T := TX6) (N := 5) hx hb hts iX6_restore_X6 hown hK (hP 0 (tcB ad) rfl) 0 rfl rfl 0 (by decide) (hts (.fieldLink RX6 10 "TailorChalks" "game" "LTailorChalks$Game;") kX6_restore_10) (fun _ h9 => h9) rfl dX6_restore_31 ?_
        refine b_allv (W1 := fun pa => (xW cI cC cG ad pa (X_note x))) (va_runV (As := [.ref (ad 1 0)]) (rest := []) ⟨hx, hb, hml, hown, hts⟩ (cu_History_note l dC dI cI cC cG cZ ad pa x ) (cwV 1 hts gX6_restore_X2_note rfl rfl rfl (by decide +kernel) ⟨Nat.le_of_ble_eq_true rfl, Nat.le_of_ble_eq_true rfl⟩) (b_preV hP hK hD (ci := 2) (i0 := 3) (q0 := 0) rfl rfl rfl) rfl rfl hl.1 rfl (lv_room (Nat.le_of_ble_eq_true rfl)) dX6_restore_34 ⟨Nat.zero_le _, Nat.zero_le _⟩) hD hS (fun H locs pa hP hD hS => ?_)
        have hP : bP (dC, dI) vwCl (xW cI cC cG ad pa (X_note x)) H := hP
        have hD : bD A (xW cI cC cG ad pa (X_note x)) := hD
        refine lv_aload_n hx hb dX6_restore_37 rfl (lv_at hl 1 rfl) ?_
        refine va_get (D := (dC, dI)) (ci := 6) (v := .ref (ad 2 0)) (C := RX6) (T := TX6) (N := 5) hx hb hts iX6_restore_X6 hown hK (hP 0 (tcB ad) rfl) 0 rfl rfl 1 (by decide) (hts (.fieldLink RX6 19 "TailorChalks" "history" "LTailorChalks$History;") kX6_restore_19) (fun _ h9 => h9) rfl dX6_restore_38 ?_
        refine b_allv (W1 := fun pa => (xW cI cC cG ad pa (X_keep (X_note x)))) (va_runV (As := []) (rest := []) ⟨hx, hb, hml, hown, hts⟩ (cu_History_keepNoted l dC dI cI cC cG cZ ad pa (X_note x) hk) (cwV 0 hts gX6_restore_X2_keepNoted rfl rfl rfl (by decide +kernel) ⟨Nat.le_of_ble_eq_true rfl, Nat.le_of_ble_eq_true rfl⟩) (b_preV hP hK hD (ci := 2) (i0 := 3) (q0 := 0) rfl rfl rfl) rfl rfl hl.1 rfl (lv_room (Nat.le_of_ble_eq_true rfl)) dX6_restore_41 ⟨Nat.zero_le _, Nat.zero_le _⟩) hD hS (fun H locs pa hP hD hS => ?_)
        have hP : bP (dC, dI) vwCl (xW cI cC cG ad pa (X_keep (X_note x))) H := hP
        have hD : bD A (xW cI cC cG ad pa (X_keep (X_note x))) := hD
        refine lv_aload_n hx hb dX6_restore_44 rfl (lv_at hl 1 rfl) ?_
        refine va_get (D := (dC, dI)) (ci := 6) (v := .ref (ad 1 0)) (C := RX6) (T := TX6) (N := 5) hx hb hts iX6_restore_X6 hown hK (hP 0 (tcB ad) rfl) 0 rfl rfl 0 (by decide) (hts (.fieldLink RX6 10 "TailorChalks" "game" "LTailorChalks$Game;") kX6_restore_10) (fun _ h9 => h9) rfl dX6_restore_45 ?_
        refine lv_aload_n hx hb dX6_restore_48 rfl (lv_at hl 0 rfl) ?_
        refine va_get (D := (dC, dI)) (ci := 4) (v := .ref (ad 14 0)) (C := RX4) (T := TX4) (N := 2) hx hb hts iX6_restore_X4 hown hK (hP 22 (slB (ad 13 0) (ad 14 0) ((X_keep (X_note x)).2.2.2.1 1)) rfl) 0 rfl rfl 0 (by decide) (hts (.fieldLink RX6 238 "TailorChalks$Slot" "saved" "LTailorChalks$Game;") kX6_restore_238) (fun _ h9 => h9) rfl dX6_restore_49 ?_
        refine b_allv (W1 := fun pa => (xW cI cC cG ad pa (X_become1 (X_keep (X_note x))))) (va_runV (As := [.ref (ad 14 0)]) (rest := []) ⟨hx, hb, hml, hown, hts⟩ (cu_Game_become1 l dC dI cI cC cG cZ ad pa (X_keep (X_note x)) ) (cwV 1 hts gX6_restore_X1_become rfl rfl rfl (by decide +kernel) ⟨Nat.le_of_ble_eq_true rfl, Nat.le_of_ble_eq_true rfl⟩) (b_preV hP hK hD (ci := 1) (i0 := 1) (q0 := 0) rfl rfl rfl) rfl rfl hl.1 rfl (lv_room (Nat.le_of_ble_eq_true rfl)) dX6_restore_52 ⟨Nat.zero_le _, Nat.zero_le _⟩) hD hS (fun H locs pa hP hD hS => ?_)
        have hP : bP (dC, dI) vwCl (xW cI cC cG ad pa (X_become1 (X_keep (X_note x)))) H := hP
        have hD : bD A (xW cI cC cG ad pa (X_become1 (X_keep (X_note x)))) := hD
        refine lv_aload_n hx hb dX6_restore_55 rfl (lv_at hl 1 rfl) ?_
        refine va_get (D := (dC, dI)) (ci := 6) (v := .ref (ad 1 0)) (C := RX6) (T := TX6) (N := 5) hx hb hts iX6_restore_X6 hown hK (hP 0 (tcB ad) rfl) 0 rfl rfl 0 (by decide) (hts (.fieldLink RX6 10 "TailorChalks" "game" "LTailorChalks$Game;") kX6_restore_10) (fun _ h9 => h9) rfl dX6_restore_56 ?_
        refine va_get (D := (dC, dI)) (ci := 1) (v := .ref (ad 1 1)) (C := RX1) (T := TX1) (N := 5) hx hb hts iX6_restore_X1 hown hK (hP 1 (gh (ad 1) (X_become1 (X_keep (X_note x))).1) rfl) 0 rfl rfl 0 (by decide) (hts (.fieldLink RX6 60 "TailorChalks$Game" "cloth" "LTailorChalks$Cloth;") kX6_restore_60) (fun _ h9 => h9) rfl dX6_restore_59 ?_
        refine b_alli (W1 := fun pa => (xW cI cC cG ad pa (X_become1 (X_keep (X_note x))))) (va_runV (As := []) (rest := []) ⟨hx, hb, hml, hown, hts⟩ (cu_Cloth_cellsLeft l dC dI cI cC cG cZ ad pa (X_become1 (X_keep (X_note x))) ) (cwV 0 hts gX6_restore_X0_cellsLeft rfl rfl rfl (by decide +kernel) ⟨Nat.le_of_ble_eq_true rfl, Nat.le_of_ble_eq_true rfl⟩) (b_preV hP hK hD (ci := 0) (i0 := 2) (q0 := 0) rfl rfl rfl) rfl rfl hl.1 rfl (lv_room (Nat.le_of_ble_eq_true rfl)) dX6_restore_62 ⟨Nat.zero_le _, Nat.zero_le _⟩) hD hS (fun H locs pa hP hD hS => ?_)
        have hP : bP (dC, dI) vwCl (xW cI cC cG ad pa (X_become1 (X_keep (X_note x)))) H := hP
        have hD : bD A (xW cI cC cG ad pa (X_become1 (X_keep (X_note x)))) := hD
        subst hres
        exact W.iret (v := (F_Cloth_cellsLeft ((X_become1 (X_keep (X_note x))).1.2.1 0))) hx hb hr (fun t ht hW => ⟨⟨(F_Cloth_cellsLeft ((X_become1 (X_keep (X_note x))).1.2.1 0)), (), rfl, rfl, pa, by show bP _ _ _ t.heap; rw [ht]; exact hP, hD⟩, hS.F ht⟩) hS.2.2 dX6_restore_65
      · rw [if_pos c_3] at hres
        refine lv_bipush (v := (-5)) hx hb dX6_restore_23 (by decide) ?_
        subst hres
        exact W.iret (v := (-5)) hx hb hr (fun t ht hW => ⟨⟨(-5), (), rfl, rfl, pa, by show bP _ _ _ t.heap; rw [ht]; exact hP, hD⟩, hS.F ht⟩) hS.2.2 dX6_restore_25
  · rw [if_pos c_1] at hres
    refine lv_bipush (v := (-2)) hx hb dX6_restore_7 (by decide) ?_
    subst hres
    exact W.iret (v := (-2)) hx hb hr (fun t ht hW => ⟨⟨(-2), (), rfl, rfl, pa, by show bP _ _ _ t.heap; rw [ht]; exact hP, hD⟩, hS.F ht⟩) hS.2.2 dX6_restore_9
theorem iX6_carryOut_X6 : ∀ w ∈ u_ws RX6 TX6 5, w ∈ wsX6_carryOut := by decide +kernel
theorem kX6_carryOut_10 : Cond.fieldLink RX6 10 "TailorChalks" "game" "LTailorChalks$Game;" ∈ wsX6_carryOut := by decide +kernel
theorem kX6_carryOut_19 : Cond.fieldLink RX6 19 "TailorChalks" "history" "LTailorChalks$History;" ∈ wsX6_carryOut := by decide +kernel
theorem kX6_carryOut_36 : Cond.fieldLink RX6 36 "TailorChalks" "pad" "LTailorChalks$Pad;" ∈ wsX6_carryOut := by decide +kernel
set_option maxHeartbeats 4000000 in
set_option maxRecDepth 100000 in
theorem cu_TC_carryOut (l : Launch) (dC : Nat → ClassId) (dI : Nat → Nat → Nat) (cI cC cG cZ : ClassId) (ad pa : Nat → Nat → Nat) (x : XS) (hM0 : tm_ok 8 (x.1.1 2)) (hM1 : tm_ok 8 (x.1.1 10)) (hk : x.2.1 ≤ 6) (hln : tm_ok 80 x.2.2.2.2.2.1) (hsg : ∀ j, ch16 (x.2.2.2.2.2.2 j)) (res : Int32 × XS) (hres : res = X_carryOut  x) : Met l yX6_carryOut wsX6_carryOut ({ frames := 7, cells := 0, slots := 0, locals := 152 }) (va_Pc [.ref (ad 0 0)] (b_Pre (dC, dI) vwCl (tyL cI cC cG cZ) (xW cI cC cG ad pa x))) (bQi (dC, dI) vwCl res.1 (fun pa => (xW cI cC cG ad pa res.2)) (bA (xW cI cC cG ad pa x))) 0 0 (bA (xW cI cC cG ad pa x)) := by
  refine Met.ofW (cc := cX6_carryOut) (maxL := 2) (ret := (some .int)) (by decide) rfl ?_
  intro p e s m args below meth c s₁ B hml hv
  obtain ⟨rfl, hP, hK, hD0⟩ := hv
  have hx := B.exec
  have hb := B.bytes
  have hr := B.returns
  have hts := atoms_spec (ws := wsX6_carryOut) B.pre
  have hown : s.vm.findClass RX6 = some m.cls := findClass_of_methodNamed B.named
  have hlocks := B.notSynchronized
  have hD := hD0.self
  generalize hAe : bA (xW cI cC cG ad pa x) = A at hD ⊢
  have hS : va_S A s.heap s.heap [] := va_S.rf
  have hP : bP (dC, dI) vwCl (xW cI cC cG ad pa x) s.heap := hP
  have hl := lv_entry ([.ref (ad 0 0)]) (n := 2) (Nat.le_of_ble_eq_true rfl)
  rw [lg_entry_eq]
  generalize (lg_sl ([.ref (ad 0 0)]) ++ List.replicate (2 - (lg_sl ([.ref (ad 0 0)])).length) Slot.unset).toArray = ls at hl ⊢
  have hl : lv_has ls 2 [(0, .ref (ad 0 0))] := hl
  rw [X_carryOut] at hres
  refine lv_aload_n hx hb dX6_carryOut_0 rfl (lv_at hl 0 rfl) ?_
  refine va_get (D := (dC, dI)) (ci := 6) (v := .ref (ad 15 0)) (C := RX6) (T := TX6) (N := 5) hx hb hts iX6_carryOut_X6 hown hK (hP 0 (tcB ad) rfl) 0 rfl rfl 4 (by decide) (hts (.fieldLink RX6 36 "TailorChalks" "pad" "LTailorChalks$Pad;") kX6_carryOut_36) (fun _ h9 => h9) rfl dX6_carryOut_1 ?_
  refine b_alli (W1 := fun pa => (xW cI cC cG ad pa x)) (va_runV (As := []) (rest := []) ⟨hx, hb, hml, hown, hts⟩ (cu_Pad_firstFault l dC dI cI cC cG cZ ad pa x hln) (cwV 0 hts gX6_carryOut_X3_firstFault rfl rfl rfl (by decide +kernel) ⟨Nat.le_of_ble_eq_true rfl, Nat.le_of_ble_eq_true rfl⟩) (b_preV hP hK hD (ci := 3) (i0 := 25) (q0 := 0) rfl rfl rfl) rfl rfl hl.1 rfl (lv_room (Nat.le_of_ble_eq_true rfl)) dX6_carryOut_4 ⟨Nat.zero_le _, Nat.zero_le _⟩) hD hS (fun H locs pa hP hD hS => ?_)
  have hP : bP (dC, dI) vwCl (xW cI cC cG ad pa x) H := hP
  have hD : bD A (xW cI cC cG ad pa x) := hD
  refine lv_bipush (v := (-6)) hx hb dX6_carryOut_7 (by decide) ?_
  refine lv_icmp_eq (tgt := 15) hx hb dX6_carryOut_9 (by decide) (fun c_1 => ?_) (fun c_1 => ?_)
  · rw [if_pos c_1] at hres
    refine lv_aload_n hx hb dX6_carryOut_15 rfl (lv_at hl 0 rfl) ?_
    refine va_get (D := (dC, dI)) (ci := 6) (v := .ref (ad 2 0)) (C := RX6) (T := TX6) (N := 5) hx hb hts iX6_carryOut_X6 hown hK (hP 0 (tcB ad) rfl) 0 rfl rfl 1 (by decide) (hts (.fieldLink RX6 19 "TailorChalks" "history" "LTailorChalks$History;") kX6_carryOut_19) (fun _ h9 => h9) rfl dX6_carryOut_16 ?_
    refine lv_aload_n hx hb dX6_carryOut_19 rfl (lv_at hl 0 rfl) ?_
    refine va_get (D := (dC, dI)) (ci := 6) (v := .ref (ad 1 0)) (C := RX6) (T := TX6) (N := 5) hx hb hts iX6_carryOut_X6 hown hK (hP 0 (tcB ad) rfl) 0 rfl rfl 0 (by decide) (hts (.fieldLink RX6 10 "TailorChalks" "game" "LTailorChalks$Game;") kX6_carryOut_10) (fun _ h9 => h9) rfl dX6_carryOut_20 ?_
    refine b_allv (W1 := fun pa => (xW cI cC cG ad pa (X_note x))) (va_runV (As := [.ref (ad 1 0)]) (rest := []) ⟨hx, hb, hml, hown, hts⟩ (cu_History_note l dC dI cI cC cG cZ ad pa x ) (cwV 1 hts gX6_carryOut_X2_note rfl rfl rfl (by decide +kernel) ⟨Nat.le_of_ble_eq_true rfl, Nat.le_of_ble_eq_true rfl⟩) (b_preV hP hK hD (ci := 2) (i0 := 3) (q0 := 0) rfl rfl rfl) rfl rfl hl.1 rfl (lv_room (Nat.le_of_ble_eq_true rfl)) dX6_carryOut_23 ⟨Nat.zero_le _, Nat.zero_le _⟩) hD hS (fun H locs pa hP hD hS => ?_)
    have hP : bP (dC, dI) vwCl (xW cI cC cG ad pa (X_note x)) H := hP
    have hD : bD A (xW cI cC cG ad pa (X_note x)) := hD
    refine lv_aload_n hx hb dX6_carryOut_26 rfl (lv_at hl 0 rfl) ?_
    refine va_get (D := (dC, dI)) (ci := 6) (v := .ref (ad 2 0)) (C := RX6) (T := TX6) (N := 5) hx hb hts iX6_carryOut_X6 hown hK (hP 0 (tcB ad) rfl) 0 rfl rfl 1 (by decide) (hts (.fieldLink RX6 19 "TailorChalks" "history" "LTailorChalks$History;") kX6_carryOut_19) (fun _ h9 => h9) rfl dX6_carryOut_27 ?_
    refine b_allv (W1 := fun pa => (xW cI cC cG ad pa (X_keep (X_note x)))) (va_runV (As := []) (rest := []) ⟨hx, hb, hml, hown, hts⟩ (cu_History_keepNoted l dC dI cI cC cG cZ ad pa (X_note x) hk) (cwV 0 hts gX6_carryOut_X2_keepNoted rfl rfl rfl (by decide +kernel) ⟨Nat.le_of_ble_eq_true rfl, Nat.le_of_ble_eq_true rfl⟩) (b_preV hP hK hD (ci := 2) (i0 := 3) (q0 := 0) rfl rfl rfl) rfl rfl hl.1 rfl (lv_room (Nat.le_of_ble_eq_true rfl)) dX6_carryOut_30 ⟨Nat.zero_le _, Nat.zero_le _⟩) hD hS (fun H locs pa hP hD hS => ?_)
    have hP : bP (dC, dI) vwCl (xW cI cC cG ad pa (X_keep (X_note x))) H := hP
    have hD : bD A (xW cI cC cG ad pa (X_keep (X_note x))) := hD
    refine lv_aload_n hx hb dX6_carryOut_33 rfl (lv_at hl 0 rfl) ?_
    refine b_alli (W1 := fun pa => (xW cI cC cG ad pa ((X_obeyPad (X_keep (X_note x))).2))) (va_runV (As := []) (rest := []) ⟨hx, hb, hml, hown, hts⟩ (cu_TC_obeyPad l dC dI cI cC cG cZ ad pa (X_keep (X_note x)) hM0 hM1 hln hsg) (cwV 0 hts gX6_carryOut_X6_obeyPad rfl rfl rfl (by decide +kernel) ⟨Nat.le_of_ble_eq_true rfl, Nat.le_of_ble_eq_true rfl⟩) (b_preV hP hK hD (ci := 6) (i0 := 0) (q0 := 0) rfl rfl rfl) rfl rfl hl.1 rfl (lv_room (Nat.le_of_ble_eq_true rfl)) dX6_carryOut_34 ⟨Nat.zero_le _, Nat.zero_le _⟩) hD hS (fun H locs pa hP hD hS => ?_)
    have hP : bP (dC, dI) vwCl (xW cI cC cG ad pa ((X_obeyPad (X_keep (X_note x))).2)) H := hP
    have hD : bD A (xW cI cC cG ad pa ((X_obeyPad (X_keep (X_note x))).2)) := hD
    refine lv_istore_n (lv' := [(1, .int ((X_obeyPad (X_keep (X_note x))).1)), (0, .ref (ad 0 0))]) hx hb dX6_carryOut_37 rfl hl (by decide) rfl (fun ls hl => ?_)
    refine lv_aload_n hx hb dX6_carryOut_38 rfl (lv_at hl 1 rfl) ?_
    refine va_get (D := (dC, dI)) (ci := 6) (v := .ref (ad 15 0)) (C := RX6) (T := TX6) (N := 5) hx hb hts iX6_carryOut_X6 hown hK (hP 0 (tcB ad) rfl) 0 rfl rfl 4 (by decide) (hts (.fieldLink RX6 36 "TailorChalks" "pad" "LTailorChalks$Pad;") kX6_carryOut_36) (fun _ h9 => h9) rfl dX6_carryOut_39 ?_
    refine b_alli (W1 := fun pa => (xW cI cC cG ad pa (X_clear ((X_obeyPad (X_keep (X_note x))).2)))) (va_runV (As := []) (rest := []) ⟨hx, hb, hml, hown, hts⟩ (cu_Pad_clear l dC dI cI cC cG cZ ad pa ((X_obeyPad (X_keep (X_note x))).2) ) (cwV 0 hts gX6_carryOut_X3_clear rfl rfl rfl (by decide +kernel) ⟨Nat.le_of_ble_eq_true rfl, Nat.le_of_ble_eq_true rfl⟩) (b_preV hP hK hD (ci := 3) (i0 := 25) (q0 := 0) rfl rfl rfl) rfl rfl hl.1 rfl (lv_room (Nat.le_of_ble_eq_true rfl)) dX6_carryOut_42 ⟨Nat.zero_le _, Nat.zero_le _⟩) hD hS (fun H locs pa hP hD hS => ?_)
    have hP : bP (dC, dI) vwCl (xW cI cC cG ad pa (X_clear ((X_obeyPad (X_keep (X_note x))).2))) H := hP
    have hD : bD A (xW cI cC cG ad pa (X_clear ((X_obeyPad (X_keep (X_note x))).2))) := hD
    refine lv_pop hx hb dX6_carryOut_45 rfl ?_
    refine lv_iload_n hx hb dX6_carryOut_46 rfl (lv_at hl 0 rfl) ?_
    subst hres
    exact W.iret (v := (X_obeyPad (X_keep (X_note x))).1) hx hb hr (fun t ht hW => ⟨⟨(X_obeyPad (X_keep (X_note x))).1, (), rfl, rfl, pa, by show bP _ _ _ t.heap; rw [ht]; exact hP, hD⟩, hS.F ht⟩) hS.2.2 dX6_carryOut_47
  · rw [if_neg c_1] at hres
    refine lv_bipush (v := (-3)) hx hb dX6_carryOut_12 (by decide) ?_
    subst hres
    exact W.iret (v := (-3)) hx hb hr (fun t ht hW => ⟨⟨(-3), (), rfl, rfl, pa, by show bP _ _ _ t.heap; rw [ht]; exact hP, hD⟩, hS.F ht⟩) hS.2.2 dX6_carryOut_14
