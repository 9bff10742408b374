def F_Game_isPlayer (player : Int32) : Int32 := (if player = 0 then 1 else (if player = 1 then 1 else 0))
set_option maxHeartbeats 4000000 in
set_option maxRecDepth 100000 in
theorem c_Game_isPlayer (l : Launch) (dC : Nat → ClassId) (dI : Nat → Nat → Nat) (cI cC cG cZ : ClassId) (player : Int32) (res : Int32) (hres : res = F_Game_isPlayer player) : Met l yX1_isPlayer wsX1_isPlayer ({ frames := 0, cells := 0, slots := 0, locals := 0 }) (va_Pc [.int player] (ro_P (dC, dI) vwCl (tyL cI cC cG cZ) [])) (va_Qi (fun r (_ : Unit) => r = res) (fun _ _ => True) ro_F) 0 0 ro_F := by
  refine Met.ofW (cc := cX1_isPlayer) (maxL := 1) (ret := (some .boolean)) (by decide) rfl ?_
  intro p e s m args below meth c s₁ B hml hv
  obtain ⟨rfl, hP, hK⟩ := hv
  have hx := B.exec
  have hb := B.bytes
  have hr := B.returns
  have hts := atoms_spec (ws := wsX1_isPlayer) B.pre
  have hown : s.vm.findClass RX1 = some m.cls := findClass_of_methodNamed B.named
  have hlocks := B.notSynchronized
  have hS : va_S ro_F s.heap s.heap [] := va_S.rf
  have hl := lv_entry ([.int player]) (n := 1) (Nat.le_of_ble_eq_true rfl)
  rw [lg_entry_eq]
  generalize (lg_sl ([.int player]) ++ List.replicate (1 - (lg_sl ([.int player])).length) Slot.unset).toArray = ls at hl ⊢
  have hl : lv_has ls 1 [(0, .int player)] := hl
  rw [F_Game_isPlayer] at hres
  refine lv_iload_n hx hb dX1_isPlayer_0 rfl (lv_at hl 0 rfl) ?_
  refine lv_if_eq (tgt := 9) hx hb dX1_isPlayer_1 (by decide) (fun c_1 => ?_) (fun c_1 => ?_)
  · rw [if_pos c_1] at hres
    refine lv_iconst (v := 1) hx hb dX1_isPlayer_9 (by decide) ?_
    refine lv_goto (tgt := 14) hx hb dX1_isPlayer_10 (by decide) ?_
    exact W.zret (v := 1) hx hb hr rfl (fun t ht hW => ⟨⟨1, (), rfl, hres.symm, trivial⟩, hS.F ht⟩) hS.2.2 dX1_isPlayer_14
  · rw [if_neg c_1] at hres
    refine lv_iload_n hx hb dX1_isPlayer_4 rfl (lv_at hl 0 rfl) ?_
    refine lv_iconst (v := 1) hx hb dX1_isPlayer_5 (by decide) ?_
    refine lv_icmp_ne (tgt := 13) hx hb dX1_isPlayer_6 (by decide) (fun c_2 => ?_) (fun c_2 => ?_)
    · rw [if_neg c_2] at hres
      refine lv_iconst (v := 0) hx hb dX1_isPlayer_13 (by decide) ?_
      exact W.zret (v := 0) hx hb hr rfl (fun t ht hW => ⟨⟨0, (), rfl, hres.symm, trivial⟩, hS.F ht⟩) hS.2.2 dX1_isPlayer_14
    · rw [if_pos c_2] at hres
      refine lv_iconst (v := 1) hx hb dX1_isPlayer_9 (by decide) ?_
      refine lv_goto (tgt := 14) hx hb dX1_isPlayer_10 (by decide) ?_
      exact W.zret (v := 1) hx hb hr rfl (fun t ht hW => ⟨⟨1, (), rfl, hres.symm, trivial⟩, hS.F ht⟩) hS.2.2 dX1_isPlayer_14
theorem F_Game_isPlayer_b (player : Int32) : F_Game_isPlayer player = 0 ∨ F_Game_isPlayer player = 1 := by
  unfold F_Game_isPlayer
  try simp only [bnd]
  (repeat' split) <;> first | exact Or.inl rfl | exact Or.inr rfl
theorem iX1_tailorOf_X1 : ∀ w ∈ u_ws RX1 TX1 5, w ∈ wsX1_tailorOf := by decide +kernel
theorem kX1_tailorOf_21 : Cond.fieldLink RX1 21 "TailorChalks$Game" "tailorZero" "LTailorChalks$Tailor;" ∈ wsX1_tailorOf := by decide +kernel
theorem kX1_tailorOf_25 : Cond.fieldLink RX1 25 "TailorChalks$Game" "tailorOne" "LTailorChalks$Tailor;" ∈ wsX1_tailorOf := by decide +kernel
set_option maxHeartbeats 4000000 in
set_option maxRecDepth 100000 in
theorem c_Game_tailorOf (l : Launch) (dC : Nat → ClassId) (dI : Nat → Nat → Nat) (cI cC cG cZ : ClassId) (g cl t0 t1 : Nat) (player : Int32) (nx : Int32) (tn : Int32) (res : Nat) (hres : res = if player = 0 then t0 else t1) : Met l yX1_tailorOf wsX1_tailorOf ({ frames := 0, cells := 0, slots := 0, locals := 0 }) (va_Pc [.ref g, .int player] (ro_P (dC, dI) vwCl (tyL cI cC cG cZ) [(g, .inr (1, [.ref cl, .ref t0, .ref t1, .int nx, .int tn]))])) (va_Qr (fun (_ : Unit) => True) (fun _ b _ => b = res) ro_F) 0 0 ro_F := by
  refine Met.ofW (cc := cX1_tailorOf) (maxL := 2) (ret := (some (.object "TailorChalks$Tailor"))) (by decide) rfl ?_
  intro p e s m args below meth c s₁ B hml hv
  obtain ⟨rfl, hP, hK⟩ := hv
  have hx := B.exec
  have hb := B.bytes
  have hr := B.returns
  have hts := atoms_spec (ws := wsX1_tailorOf) B.pre
  have hown : s.vm.findClass RX1 = some m.cls := findClass_of_methodNamed B.named
  have hlocks := B.notSynchronized
  have hS : va_S ro_F s.heap s.heap [] := va_S.rf
  have hl := lv_entry ([.ref g, .int player]) (n := 2) (Nat.le_of_ble_eq_true rfl)
  rw [lg_entry_eq]
  generalize (lg_sl ([.ref g, .int player]) ++ List.replicate (2 - (lg_sl ([.ref g, .int player])).length) Slot.unset).toArray = ls at hl ⊢
  have hl : lv_has ls 2 [(0, .ref g), (1, .int player)] := hl
  refine lv_iload_n hx hb dX1_tailorOf_0 rfl (lv_at hl 1 rfl) ?_
  refine lv_if_ne (tgt := 11) hx hb dX1_tailorOf_1 (by decide) (fun c_1 => ?_) (fun c_1 => ?_)
  · rw [if_neg c_1] at hres
    refine lv_aload_n hx hb dX1_tailorOf_11 rfl (lv_at hl 0 rfl) ?_
    refine va_get (D := (dC, dI)) (ci := 1) (v := .ref t1) (C := RX1) (T := TX1) (N := 5) hx hb hts iX1_tailorOf_X1 hown hK hP 0 rfl rfl 2 (by decide) (hts (.fieldLink RX1 25 "TailorChalks$Game" "tailorOne" "LTailorChalks$Tailor;") kX1_tailorOf_25) (fun _ h9 => h9) rfl dX1_tailorOf_12 ?_
    exact W.aret (v := .ref t1) hx hb hr (Or.inl ⟨_, rfl⟩) (Or.inr ⟨_, rfl⟩) (fun t ht hW => ⟨⟨(), _, rfl, trivial, hres.symm⟩, hS.F ht⟩) hS.2.2 dX1_tailorOf_15
  · rw [if_pos c_1] at hres
    refine lv_aload_n hx hb dX1_tailorOf_4 rfl (lv_at hl 0 rfl) ?_
    refine va_get (D := (dC, dI)) (ci := 1) (v := .ref t0) (C := RX1) (T := TX1) (N := 5) hx hb hts iX1_tailorOf_X1 hown hK hP 0 rfl rfl 1 (by decide) (hts (.fieldLink RX1 21 "TailorChalks$Game" "tailorZero" "LTailorChalks$Tailor;") kX1_tailorOf_21) (fun _ h9 => h9) rfl dX1_tailorOf_5 ?_
    refine lv_goto (tgt := 15) hx hb dX1_tailorOf_8 (by decide) ?_
    exact W.aret (v := .ref t0) hx hb hr (Or.inl ⟨_, rfl⟩) (Or.inr ⟨_, rfl⟩) (fun t ht hW => ⟨⟨(), _, rfl, trivial, hres.symm⟩, hS.F ht⟩) hS.2.2 dX1_tailorOf_15
theorem iX1_isOver_X1 : ∀ w ∈ u_ws RX1 TX1 5, w ∈ wsX1_isOver := by decide +kernel
theorem kX1_isOver_12 : Cond.fieldLink RX1 12 "TailorChalks$Game" "cloth" "LTailorChalks$Cloth;" ∈ wsX1_isOver := by decide +kernel
theorem kX1_isOver_39 : Cond.fieldLink RX1 39 "TailorChalks$Game" "turns" "I" ∈ wsX1_isOver := by decide +kernel
def F_Game_isOver (tn : Int32) (gn : Int64) : Int32 := (if (200 : Int32) ≤ tn then 1 else (bnd (F_Cloth_cellsLeft gn) (fun r_2 => (if (13 : Int32) ≤ r_2 then 0 else 1))))
set_option maxHeartbeats 4000000 in
set_option maxRecDepth 100000 in
theorem c_Game_isOver (l : Launch) (dC : Nat → ClassId) (dI : Nat → Nat → Nat) (cI cC cG cZ : ClassId) (g cl t0 t1 st mk : Nat) (nx : Int32) (tn : Int32) (gn : Int64) (ac : Int64) (dn : Int64) (res : Int32) (hres : res = F_Game_isOver tn gn) : Met l yX1_isOver wsX1_isOver ({ frames := 2, cells := 0, slots := 0, locals := 41 }) (va_Pc [.ref g] (ro_P (dC, dI) vwCl (tyL cI cC cG cZ) [(g, .inr (1, [.ref cl, .ref t0, .ref t1, .int nx, .int tn])), (cl, .inr (0, [.ref st, .ref mk, .long gn, .long ac, .long dn]))])) (va_Qi (fun r (_ : Unit) => r = res) (fun _ _ => True) ro_F) 0 0 ro_F := by
  refine Met.ofW (cc := cX1_isOver) (maxL := 1) (ret := (some .boolean)) (by decide) rfl ?_
  intro p e s m args below meth c s₁ B hml hv
  obtain ⟨rfl, hP, hK⟩ := hv
  have hx := B.exec
  have hb := B.bytes
  have hr := B.returns
  have hts := atoms_spec (ws := wsX1_isOver) B.pre
  have hown : s.vm.findClass RX1 = some m.cls := findClass_of_methodNamed B.named
  have hlocks := B.notSynchronized
  have hS : va_S ro_F s.heap s.heap [] := va_S.rf
  have hl := lv_entry ([.ref g]) (n := 1) (Nat.le_of_ble_eq_true rfl)
  rw [lg_entry_eq]
  generalize (lg_sl ([.ref g]) ++ List.replicate (1 - (lg_sl ([.ref g])).length) Slot.unset).toArray = ls at hl ⊢
  have hl : lv_has ls 1 [(0, .ref g)] := hl
  rw [F_Game_isOver] at hres
  refine lv_aload_n hx hb dX1_isOver_0 rfl (lv_at hl 0 rfl) ?_
  refine va_get (D := (dC, dI)) (ci := 1) (v := .int tn) (C := RX1) (T := TX1) (N := 5) hx hb hts iX1_isOver_X1 hown hK hP 0 rfl rfl 4 (by decide) (hts (.fieldLink RX1 39 "TailorChalks$Game" "turns" "I") kX1_isOver_39) (fun _ h9 => h9) rfl dX1_isOver_1 ?_
  refine lv_sipush (v := 200) hx hb dX1_isOver_4 (by decide) ?_
  refine lv_icmp_ge (tgt := 22) hx hb dX1_isOver_7 (by decide) (fun c_1 => ?_) (fun c_1 => ?_)
  · rw [if_pos c_1] at hres
    refine lv_iconst (v := 1) hx hb dX1_isOver_22 (by decide) ?_
    refine lv_goto (tgt := 27) hx hb dX1_isOver_23 (by decide) ?_
    exact W.zret (v := 1) hx hb hr rfl (fun t ht hW => ⟨⟨1, (), rfl, hres.symm, trivial⟩, hS.F ht⟩) hS.2.2 dX1_isOver_27
  · rw [if_neg c_1] at hres
    refine lv_aload_n hx hb dX1_isOver_10 rfl (lv_at hl 0 rfl) ?_
    refine va_get (D := (dC, dI)) (ci := 1) (v := .ref cl) (C := RX1) (T := TX1) (N := 5) hx hb hts iX1_isOver_X1 hown hK hP 0 rfl rfl 0 (by decide) (hts (.fieldLink RX1 12 "TailorChalks$Game" "cloth" "LTailorChalks$Cloth;") kX1_isOver_12) (fun _ h9 => h9) rfl dX1_isOver_11 ?_
    obtain ⟨r_2, hr_2⟩ : ∃ z, z = F_Cloth_cellsLeft gn := ⟨_, rfl⟩
    rw [bnd_e hr_2] at hres
    refine ro_calli (va_runV (As := []) (rest := []) ⟨hx, hb, hml, hown, hts⟩ (c_Cloth_cellsLeft l dC dI cI cC cG cZ cl st mk gn ac dn  r_2 hr_2) (cwV 0 hts gX1_isOver_X0_cellsLeft rfl rfl rfl (by decide +kernel) ⟨Nat.le_of_ble_eq_true rfl, Nat.le_of_ble_eq_true rfl⟩) (ro_preV (hP.sub (ws' := [(cl, .inr (0, [.ref st, .ref mk, .long gn, .long ac, .long dn]))]) [1] rfl) hK (ci := 0) (q0 := 0) rfl rfl) rfl rfl hl.1 rfl (lv_room (Nat.le_of_ble_eq_true rfl)) dX1_isOver_14 ⟨Nat.zero_le _, Nat.zero_le _⟩) hP hS (fun H locs hP hS => ?_)
    refine lv_bipush (v := 13) hx hb dX1_isOver_17 (by decide) ?_
    refine lv_icmp_ge (tgt := 26) hx hb dX1_isOver_19 (by decide) (fun c_3 => ?_) (fun c_3 => ?_)
    · rw [if_pos c_3] at hres
      refine lv_iconst (v := 0) hx hb dX1_isOver_26 (by decide) ?_
      exact W.zret (v := 0) hx hb hr rfl (fun t ht hW => ⟨⟨0, (), rfl, hres.symm, trivial⟩, hS.F ht⟩) hS.2.2 dX1_isOver_27
    · rw [if_neg c_3] at hres
      refine lv_iconst (v := 1) hx hb dX1_isOver_22 (by decide) ?_
      refine lv_goto (tgt := 27) hx hb dX1_isOver_23 (by decide) ?_
      exact W.zret (v := 1) hx hb hr rfl (fun t ht hW => ⟨⟨1, (), rfl, hres.symm, trivial⟩, hS.F ht⟩) hS.2.2 dX1_isOver_27
theorem F_Game_isOver_b (tn : Int32) (gn : Int64) : F_Game_isOver tn gn = 0 ∨ F_Game_isOver tn gn = 1 := by
  unfold F_Game_isOver
  try simp only [bnd]
  (repeat' split) <;> first | exact Or.inl rfl | exact Or.inr rfl
theorem iX1_endTurn_X1 : ∀ w ∈ u_ws RX1 TX1 5, w ∈ wsX1_endTurn := by decide +kernel
theorem kX1_endTurn_35 : Cond.fieldLink RX1 35 "TailorChalks$Game" "next" "I" ∈ wsX1_endTurn := by decide +kernel
theorem kX1_endTurn_39 : Cond.fieldLink RX1 39 "TailorChalks$Game" "turns" "I" ∈ wsX1_endTurn := by decide +kernel
def F_Game_endTurn (nx : Int32) (tn : Int32) : Int32 × Int32 := (((1 : Int32) - nx), (tn + 1))
set_option maxHeartbeats 4000000 in
set_option maxRecDepth 100000 in
theorem c_Game_endTurn (l : Launch) (dC : Nat → ClassId) (dI : Nat → Nat → Nat) (cI cC cG cZ : ClassId) (g cl t0 t1 : Nat) (nx : Int32) (tn : Int32) (res : Int32 × Int32) (hres : res = F_Game_endTurn nx tn) : Met l yX1_endTurn wsX1_endTurn ({ frames := 0, cells := 0, slots := 0, locals := 0 }) (va_Pc [.ref g] (wr_P (dC, dI) vwCl (tyL cI cC cG cZ) [(g, .inr (1, [.ref cl, .ref t0, .ref t1, .int nx, .int tn]))])) (va_Qv (fun (_ : Unit) => True) (fun _ zt => va_P (dC, dI) vwCl [(g, .inr (1, [.ref cl, .ref t0, .ref t1, .int res.1, .int res.2]))] zt.heap) (wr_A [(g, .inr (1, [.ref cl, .ref t0, .ref t1, .int nx, .int tn]))])) 0 0 (wr_A [(g, .inr (1, [.ref cl, .ref t0, .ref t1, .int nx, .int tn]))]) := by
  refine Met.ofW (cc := cX1_endTurn) (maxL := 1) (ret := none) (by decide) rfl ?_
  intro p e s m args below meth c s₁ B hml hv
  obtain ⟨rfl, hP, hK, hD0⟩ := hv
  have hx := B.exec
  have hb := B.bytes
  have hr := B.returns
  have hts := atoms_spec (ws := wsX1_endTurn) B.pre
  have hown : s.vm.findClass RX1 = some m.cls := findClass_of_methodNamed B.named
  have hlocks := B.notSynchronized
  have hD := wr_self hD0
  generalize hAe : wr_A [(g, .inr (1, [.ref cl, .ref t0, .ref t1, .int nx, .int tn]))] = A at hD ⊢
  have hS : va_S A s.heap s.heap [] := va_S.rf
  have hP : va_P (dC, dI) vwCl [(g, .inr (1, [.ref cl, .ref t0, .ref t1, .int nx, .int tn]))] s.heap := hP
  have hl := lv_entry ([.ref g]) (n := 1) (Nat.le_of_ble_eq_true rfl)
  rw [lg_entry_eq]
  generalize (lg_sl ([.ref g]) ++ List.replicate (1 - (lg_sl ([.ref g])).length) Slot.unset).toArray = ls at hl ⊢
  have hl : lv_has ls 1 [(0, .ref g)] := hl
  rw [F_Game_endTurn] at hres
  refine lv_aload_n hx hb dX1_endTurn_0 rfl (lv_at hl 0 rfl) ?_
  refine lv_dup hx hb dX1_endTurn_1 rfl ?_
  refine va_get (D := (dC, dI)) (ci := 1) (v := .int tn) (C := RX1) (T := TX1) (N := 5) hx hb hts iX1_endTurn_X1 hown hK hP 0 rfl rfl 4 (by decide) (hts (.fieldLink RX1 39 "TailorChalks$Game" "turns" "I") kX1_endTurn_39) (fun _ h9 => h9) rfl dX1_endTurn_2 ?_
  refine lv_iconst (v := 1) hx hb dX1_endTurn_5 (by decide) ?_
  refine lv_iadd hx hb dX1_endTurn_6 ?_
  refine va_put (D := (dC, dI)) (ci := 1) (v := .int (tn + 1)) (ty := (.int)) (C := RX1) (T := TX1) (N := 5) hx hb hts iX1_endTurn_X1 tyX1 tyX1_ok nmX1 hown hK hP hD hS 0 rfl rfl 4 (by decide) (hts (.fieldLink RX1 39 "TailorChalks$Game" "turns" "I") kX1_endTurn_39) (fun _ h9 => h9) rfl (by decide +kernel) rfl rfl (Nat.le_of_ble_eq_true rfl) dX1_endTurn_7 (fun H locs hP hD hS => ?_)
  have hP : va_P (dC, dI) vwCl [(g, .inr (1, [.ref cl, .ref t0, .ref t1, .int nx, .int (tn + 1)]))] H := hP
  have hD : va_D A [(g, .inr (1, [.ref cl, .ref t0, .ref t1, .int nx, .int (tn + 1)]))] := hD
  refine lv_aload_n hx hb dX1_endTurn_10 rfl (lv_at hl 0 rfl) ?_
  refine lv_iconst (v := 1) hx hb dX1_endTurn_11 (by decide) ?_
  refine lv_aload_n hx hb dX1_endTurn_12 rfl (lv_at hl 0 rfl) ?_
  refine va_get (D := (dC, dI)) (ci := 1) (v := .int nx) (C := RX1) (T := TX1) (N := 5) hx hb hts iX1_endTurn_X1 hown hK hP 0 rfl rfl 3 (by decide) (hts (.fieldLink RX1 35 "TailorChalks$Game" "next" "I") kX1_endTurn_35) (fun _ h9 => h9) rfl dX1_endTurn_13 ?_
  refine lv_isub hx hb dX1_endTurn_16 ?_
  refine va_put (D := (dC, dI)) (ci := 1) (v := .int ((1 : Int32) - nx)) (ty := (.int)) (C := RX1) (T := TX1) (N := 5) hx hb hts iX1_endTurn_X1 tyX1 tyX1_ok nmX1 hown hK hP hD hS 0 rfl rfl 3 (by decide) (hts (.fieldLink RX1 35 "TailorChalks$Game" "next" "I") kX1_endTurn_35) (fun _ h9 => h9) rfl (by decide +kernel) rfl rfl (Nat.le_of_ble_eq_true rfl) dX1_endTurn_17 (fun H locs hP hD hS => ?_)
  have hP : va_P (dC, dI) vwCl [(g, .inr (1, [.ref cl, .ref t0, .ref t1, .int ((1 : Int32) - nx), .int (tn + 1)]))] H := hP
  have hD : va_D A [(g, .inr (1, [.ref cl, .ref t0, .ref t1, .int ((1 : Int32) - nx), .int (tn + 1)]))] := hD
  subst hres
  exact W.vret hx hb hr (fun t ht hW => ⟨⟨(), rfl, trivial, (by show va_P _ _ _ t.heap; rw [ht]; exact hP)⟩, hS.F ht⟩) hS.2.2 dX1_endTurn_20
theorem iX1_passOn_X1 : ∀ w ∈ u_ws RX1 TX1 5, w ∈ wsX1_passOn := by decide +kernel
theorem kX1_passOn_35 : Cond.fieldLink RX1 35 "TailorChalks$Game" "next" "I" ∈ wsX1_passOn := by decide +kernel
def F_Game_passOn (nx : Int32) (tn : Int32) (gn : Int64) : Int32 × Int32 × Int32 := (bnd (F_Game_isOver tn gn) (fun r_1 => (if r_1 = 0 then (bnd (F_Game_endTurn nx tn) (fun r_3 => (r_3.1, r_3.1, r_3.2))) else ((-5), nx, tn))))
set_option maxHeartbeats 4000000 in
set_option maxRecDepth 100000 in
theorem c_Game_passOn (l : Launch) (dC : Nat → ClassId) (dI : Nat → Nat → Nat) (cI cC cG cZ : ClassId) (g cl t0 t1 st mk : Nat) (nx : Int32) (tn : Int32) (gn : Int64) (ac : Int64) (dn : Int64) (res : Int32 × Int32 × Int32) (hres : res = F_Game_passOn nx tn gn) : Met l yX1_passOn wsX1_passOn ({ frames := 3, cells := 0, slots := 0, locals := 61 }) (va_Pc [.ref g] (wr_P (dC, dI) vwCl (tyL cI cC cG cZ) [(g, .inr (1, [.ref cl, .ref t0, .ref t1, .int nx, .int tn])), (cl, .inr (0, [.ref st, .ref mk, .long gn, .long ac, .long dn]))])) (va_Qi (fun r (_ : Unit) => r = res.1) (fun _ zt => va_P (dC, dI) vwCl [(g, .inr (1, [.ref cl, .ref t0, .ref t1, .int res.2.1, .int res.2.2])), (cl, .inr (0, [.ref st, .ref mk, .long gn, .long ac, .long dn]))] zt.heap) (wr_A [(g, .inr (1, [.ref cl, .ref t0, .ref t1, .int nx, .int tn])), (cl, .inr (0, [.ref st, .ref mk, .long gn, .long ac, .long dn]))])) 0 0 (wr_A [(g, .inr (1, [.ref cl, .ref t0, .ref t1, .int nx, .int tn])), (cl, .inr (0, [.ref st, .ref mk, .long gn, .long ac, .long dn]))]) := by
  refine Met.ofW (cc := cX1_passOn) (maxL := 1) (ret := (some .int)) (by decide) rfl ?_
  intro p e s m args below meth c s₁ B hml hv
  obtain ⟨rfl, hP, hK, hD0⟩ := hv
  have hx := B.exec
  have hb := B.bytes
  have hr := B.returns
  have hts := atoms_spec (ws := wsX1_passOn) B.pre
  have hown : s.vm.findClass RX1 = some m.cls := findClass_of_methodNamed B.named
  have hlocks := B.notSynchronized
  have hD := wr_self hD0
  generalize hAe : wr_A [(g, .inr (1, [.ref cl, .ref t0, .ref t1, .int nx, .int tn])), (cl, .inr (0, [.ref st, .ref mk, .long gn, .long ac, .long dn]))] = A at hD ⊢
  have hS : va_S A s.heap s.heap [] := va_S.rf
  have hP : va_P (dC, dI) vwCl [(g, .inr (1, [.ref cl, .ref t0, .ref t1, .int nx, .int tn])), (cl, .inr (0, [.ref st, .ref mk, .long gn, .long ac, .long dn]))] s.heap := hP
  have hl := lv_entry ([.ref g]) (n := 1) (Nat.le_of_ble_eq_true rfl)
  rw [lg_entry_eq]
  generalize (lg_sl ([.ref g]) ++ List.replicate (1 - (lg_sl ([.ref g])).length) Slot.unset).toArray = ls at hl ⊢
  have hl : lv_has ls 1 [(0, .ref g)] := hl
  rw [F_Game_passOn] at hres
  refine lv_aload_n hx hb dX1_passOn_0 rfl (lv_at hl 0 rfl) ?_
  obtain ⟨r_1, hr_1⟩ : ∃ z, z = F_Game_isOver tn gn := ⟨_, rfl⟩
  rw [bnd_e hr_1] at hres
  refine ro_calli (va_runV (As := []) (rest := []) ⟨hx, hb, hml, hown, hts⟩ (c_Game_isOver l dC dI cI cC cG cZ g cl t0 t1 st mk nx tn gn ac dn  r_1 hr_1) (cwV 0 hts gX1_passOn_X1_isOver rfl rfl rfl (by decide +kernel) ⟨Nat.le_of_ble_eq_true rfl, Nat.le_of_ble_eq_true rfl⟩) (ro_preV (hP.sub (ws' := [(g, .inr (1, [.ref cl, .ref t0, .ref t1, .int nx, .int tn])), (cl, .inr (0, [.ref st, .ref mk, .long gn, .long ac, .long dn]))]) [0, 1] rfl) hK (ci := 1) (q0 := 0) rfl rfl) rfl rfl hl.1 rfl (lv_room (Nat.le_of_ble_eq_true rfl)) dX1_passOn_1 ⟨Nat.zero_le _, Nat.zero_le _⟩) hP hS (fun H locs hP hS => ?_)
  refine lv_if_eq (tgt := 10) hx hb dX1_passOn_4 (by decide) (fun c_2 => ?_) (fun c_2 => ?_)
  · rw [if_pos c_2] at hres
    refine lv_aload_n hx hb dX1_passOn_10 rfl (lv_at hl 0 rfl) ?_
    obtain ⟨r_3, hr_3⟩ : ∃ z, z = F_Game_endTurn nx tn := ⟨_, rfl⟩
    rw [bnd_e hr_3] at hres
    refine wr_callv (w1 := [(g, .inr (1, [.ref cl, .ref t0, .ref t1, .int r_3.1, .int r_3.2]))]) (is := [0]) (va_runV (As := []) (rest := []) ⟨hx, hb, hml, hown, hts⟩ (c_Game_endTurn l dC dI cI cC cG cZ g cl t0 t1 nx tn  r_3 hr_3) (cwV 0 hts gX1_passOn_X1_endTurn rfl rfl rfl (by decide +kernel) ⟨Nat.le_of_ble_eq_true rfl, Nat.le_of_ble_eq_true rfl⟩) (wr_preV (hP.sub (ws' := [(g, .inr (1, [.ref cl, .ref t0, .ref t1, .int nx, .int tn]))]) [0] rfl) hK (hD.sub (ws' := [(g, .inr (1, [.ref cl, .ref t0, .ref t1, .int nx, .int tn]))]) [0] (by decide) rfl) (ci := 1) (q0 := 0) rfl rfl) rfl rfl hl.1 rfl (lv_room (Nat.le_of_ble_eq_true rfl)) dX1_passOn_11 ⟨Nat.zero_le _, Nat.zero_le _⟩) hP hD hS rfl rfl rfl (fun H locs hP hD hS => ?_)
    have hP : va_P (dC, dI) vwCl [(g, .inr (1, [.ref cl, .ref t0, .ref t1, .int r_3.1, .int r_3.2])), (cl, .inr (0, [.ref st, .ref mk, .long gn, .long ac, .long dn]))] H := hP
    have hD : va_D A [(g, .inr (1, [.ref cl, .ref t0, .ref t1, .int r_3.1, .int r_3.2])), (cl, .inr (0, [.ref st, .ref mk, .long gn, .long ac, .long dn]))] := hD
    refine lv_aload_n hx hb dX1_passOn_14 rfl (lv_at hl 0 rfl) ?_
    refine va_get (D := (dC, dI)) (ci := 1) (v := .int r_3.1) (C := RX1) (T := TX1) (N := 5) hx hb hts iX1_passOn_X1 hown hK hP 0 rfl rfl 3 (by decide) (hts (.fieldLink RX1 35 "TailorChalks$Game" "next" "I") kX1_passOn_35) (fun _ h9 => h9) rfl dX1_passOn_15 ?_
    subst hres
    exact W.iret (v := r_3.1) hx hb hr (fun t ht hW => ⟨⟨r_3.1, (), rfl, rfl, (by show va_P _ _ _ t.heap; rw [ht]; exact hP)⟩, hS.F ht⟩) hS.2.2 dX1_passOn_18
  · rw [if_neg c_2] at hres
    refine lv_bipush (v := (-5)) hx hb dX1_passOn_7 (by decide) ?_
    subst hres
    exact W.iret (v := (-5)) hx hb hr (fun t ht hW => ⟨⟨(-5), (), rfl, rfl, (by show va_P _ _ _ t.heap; rw [ht]; exact hP)⟩, hS.F ht⟩) hS.2.2 dX1_passOn_9
theorem iX1_winner_X1 : ∀ w ∈ u_ws RX1 TX1 5, w ∈ wsX1_winner := by decide +kernel
theorem iX1_winner_X5 : ∀ w ∈ u_ws RX5 TX5 9, w ∈ wsX1_winner := by decide +kernel
theorem kX1_winner_21 : Cond.fieldLink RX1 21 "TailorChalks$Game" "tailorZero" "LTailorChalks$Tailor;" ∈ wsX1_winner := by decide +kernel
theorem kX1_winner_25 : Cond.fieldLink RX1 25 "TailorChalks$Game" "tailorOne" "LTailorChalks$Tailor;" ∈ wsX1_winner := by decide +kernel
theorem kX1_winner_50 : Cond.fieldLink RX1 50 "TailorChalks$Tailor" "points" "I" ∈ wsX1_winner := by decide +kernel
def F_Game_winner (tn : Int32) (gn : Int64) (pts0 : Int32) (pts1 : Int32) : Int32 := (bnd (F_Game_isOver tn gn) (fun r_1 => (if r_1 = 0 then (-6) else (if pts0 = pts1 then 2 else (if pts0 ≤ pts1 then 1 else 0)))))
set_option maxHeartbeats 4000000 in
set_option maxRecDepth 100000 in
theorem c_Game_winner (l : Launch) (dC : Nat → ClassId) (dI : Nat → Nat → Nat) (cI cC cG cZ : ClassId) (g cl t0 t1 st mk ma0 ma1 : Nat) (nx : Int32) (tn : Int32) (gn : Int64) (ac : Int64) (dn : Int64) (mks0 : Int32) (pts0 : Int32) (ths0 : Int32) (rgs0 : Int32) (rgc0 : Int32) (fnd0 : Int32) (rdb0 : Int32) (wdb0 : Int32) (mks1 : Int32) (pts1 : Int32) (ths1 : Int32) (rgs1 : Int32) (rgc1 : Int32) (fnd1 : Int32) (rdb1 : Int32) (wdb1 : Int32) (res : Int32) (hres : res = F_Game_winner tn gn pts0 pts1) : Met l yX1_winner wsX1_winner ({ frames := 3, cells := 0, slots := 0, locals := 61 }) (va_Pc [.ref g] (ro_P (dC, dI) vwCl (tyL cI cC cG cZ) [(g, .inr (1, [.ref cl, .ref t0, .ref t1, .int nx, .int tn])), (cl, .inr (0, [.ref st, .ref mk, .long gn, .long ac, .long dn])), (t0, .inr (5, [.ref ma0, .int mks0, .int pts0, .int ths0, .int rgs0, .int rgc0, .int fnd0, .int rdb0, .int wdb0])), (t1, .inr (5, [.ref ma1, .int mks1, .int pts1, .int ths1, .int rgs1, .int rgc1, .int fnd1, .int rdb1, .int wdb1]))])) (va_Qi (fun r (_ : Unit) => r = res) (fun _ _ => True) ro_F) 0 0 ro_F := by
  refine Met.ofW (cc := cX1_winner) (maxL := 1) (ret := (some .int)) (by decide) rfl ?_
  intro p e s m args below meth c s₁ B hml hv
  obtain ⟨rfl, hP, hK⟩ := hv
  have hx := B.exec
  have hb := B.bytes
  have hr := B.returns
  have hts := atoms_spec (ws := wsX1_winner) B.pre
  have hown : s.vm.findClass RX1 = some m.cls := findClass_of_methodNamed B.named
  have hlocks := B.notSynchronized
  have hS : va_S ro_F s.heap s.heap [] := va_S.rf
  have hl := lv_entry ([.ref g]) (n := 1) (Nat.le_of_ble_eq_true rfl)
  rw [lg_entry_eq]
  generalize (lg_sl ([.ref g]) ++ List.replicate (1 - (lg_sl ([.ref g])).length) Slot.unset).toArray = ls at hl ⊢
  have hl : lv_has ls 1 [(0, .ref g)] := hl
  rw [F_Game_winner] at hres
  refine lv_aload_n hx hb dX1_winner_0 rfl (lv_at hl 0 rfl) ?_
  obtain ⟨r_1, hr_1⟩ : ∃ z, z = F_Game_isOver tn gn := ⟨_, rfl⟩
  rw [bnd_e hr_1] at hres
  refine ro_calli (va_runV (As := []) (rest := []) ⟨hx, hb, hml, hown, hts⟩ (c_Game_isOver l dC dI cI cC cG cZ g cl t0 t1 st mk nx tn gn ac dn  r_1 hr_1) (cwV 0 hts gX1_winner_X1_isOver rfl rfl rfl (by decide +kernel) ⟨Nat.le_of_ble_eq_true rfl, Nat.le_of_ble_eq_true rfl⟩) (ro_preV (hP.sub (ws' := [(g, .inr (1, [.ref cl, .ref t0, .ref t1, .int nx, .int tn])), (cl, .inr (0, [.ref st, .ref mk, .long gn, .long ac, .long dn]))]) [0, 1] rfl) hK (ci := 1) (q0 := 0) rfl rfl) rfl rfl hl.1 rfl (lv_room (Nat.le_of_ble_eq_true rfl)) dX1_winner_1 ⟨Nat.zero_le _, Nat.zero_le _⟩) hP hS (fun H locs hP hS => ?_)
  refine lv_if_ne (tgt := 10) hx hb dX1_winner_4 (by decide) (fun c_2 => ?_) (fun c_2 => ?_)
  · rw [if_neg c_2] at hres
    refine lv_aload_n hx hb dX1_winner_10 rfl (lv_at hl 0 rfl) ?_
    refine va_get (D := (dC, dI)) (ci := 1) (v := .ref t0) (C := RX1) (T := TX1) (N := 5) hx hb hts iX1_winner_X1 hown hK hP 0 rfl rfl 1 (by decide) (hts (.fieldLink RX1 21 "TailorChalks$Game" "tailorZero" "LTailorChalks$Tailor;") kX1_winner_21) (fun _ h9 => h9) rfl dX1_winner_11 ?_
    refine va_get (D := (dC, dI)) (ci := 5) (v := .int pts0) (C := RX5) (T := TX5) (N := 9) hx hb hts iX1_winner_X5 hown hK hP 2 rfl rfl 2 (by decide) (hts (.fieldLink RX1 50 "TailorChalks$Tailor" "points" "I") kX1_winner_50) (fun _ h9 => h9) rfl dX1_winner_14 ?_
    refine lv_aload_n hx hb dX1_winner_17 rfl (lv_at hl 0 rfl) ?_
    refine va_get (D := (dC, dI)) (ci := 1) (v := .ref t1) (C := RX1) (T := TX1) (N := 5) hx hb hts iX1_winner_X1 hown hK hP 0 rfl rfl 2 (by decide) (hts (.fieldLink RX1 25 "TailorChalks$Game" "tailorOne" "LTailorChalks$Tailor;") kX1_winner_25) (fun _ h9 => h9) rfl dX1_winner_18 ?_
    refine va_get (D := (dC, dI)) (ci := 5) (v := .int pts1) (C := RX5) (T := TX5) (N := 9) hx hb hts iX1_winner_X5 hown hK hP 3 rfl rfl 2 (by decide) (hts (.fieldLink RX1 50 "TailorChalks$Tailor" "points" "I") kX1_winner_50) (fun _ h9 => h9) rfl dX1_winner_21 ?_
    refine lv_icmp_ne (tgt := 29) hx hb dX1_winner_24 (by decide) (fun c_3 => ?_) (fun c_3 => ?_)
    · rw [if_neg c_3] at hres
      refine lv_aload_n hx hb dX1_winner_29 rfl (lv_at hl 0 rfl) ?_
      refine va_get (D := (dC, dI)) (ci := 1) (v := .ref t0) (C := RX1) (T := TX1) (N := 5) hx hb hts iX1_winner_X1 hown hK hP 0 rfl rfl 1 (by decide) (hts (.fieldLink RX1 21 "TailorChalks$Game" "tailorZero" "LTailorChalks$Tailor;") kX1_winner_21) (fun _ h9 => h9) rfl dX1_winner_30 ?_
      refine va_get (D := (dC, dI)) (ci := 5) (v := .int pts0) (C := RX5) (T := TX5) (N := 9) hx hb hts iX1_winner_X5 hown hK hP 2 rfl rfl 2 (by decide) (hts (.fieldLink RX1 50 "TailorChalks$Tailor" "points" "I") kX1_winner_50) (fun _ h9 => h9) rfl dX1_winner_33 ?_
      refine lv_aload_n hx hb dX1_winner_36 rfl (lv_at hl 0 rfl) ?_
      refine va_get (D := (dC, dI)) (ci := 1) (v := .ref t1) (C := RX1) (T := TX1) (N := 5) hx hb hts iX1_winner_X1 hown hK hP 0 rfl rfl 2 (by decide) (hts (.fieldLink RX1 25 "TailorChalks$Game" "tailorOne" "LTailorChalks$Tailor;") kX1_winner_25) (fun _ h9 => h9) rfl dX1_winner_37 ?_
      refine va_get (D := (dC, dI)) (ci := 5) (v := .int pts1) (C := RX5) (T := TX5) (N := 9) hx hb hts iX1_winner_X5 hown hK hP 3 rfl rfl 2 (by decide) (hts (.fieldLink RX1 50 "TailorChalks$Tailor" "points" "I") kX1_winner_50) (fun _ h9 => h9) rfl dX1_winner_40 ?_
      refine lv_icmp_le (tgt := 50) hx hb dX1_winner_43 (by decide) (fun c_4 => ?_) (fun c_4 => ?_)
      · rw [if_pos c_4] at hres
        refine lv_iconst (v := 1) hx hb dX1_winner_50 (by decide) ?_
        exact W.iret (v := 1) hx hb hr (fun t ht hW => ⟨⟨1, (), rfl, hres.symm, trivial⟩, hS.F ht⟩) hS.2.2 dX1_winner_51
      · rw [if_neg c_4] at hres
        refine lv_iconst (v := 0) hx hb dX1_winner_46 (by decide) ?_
        refine lv_goto (tgt := 51) hx hb dX1_winner_47 (by decide) ?_
        exact W.iret (v := 0) hx hb hr (fun t ht hW => ⟨⟨0, (), rfl, hres.symm, trivial⟩, hS.F ht⟩) hS.2.2 dX1_winner_51
    · rw [if_pos c_3] at hres
      refine lv_iconst (v := 2) hx hb dX1_winner_27 (by decide) ?_
      exact W.iret (v := 2) hx hb hr (fun t ht hW => ⟨⟨2, (), rfl, hres.symm, trivial⟩, hS.F ht⟩) hS.2.2 dX1_winner_28
  · rw [if_pos c_2] at hres
    refine lv_bipush (v := (-6)) hx hb dX1_winner_7 (by decide) ?_
    exact W.iret (v := (-6)) hx hb hr (fun t ht hW => ⟨⟨(-6), (), rfl, hres.symm, trivial⟩, hS.F ht⟩) hS.2.2 dX1_winner_9
theorem iX1_chalkersOf_X1 : ∀ w ∈ u_ws RX1 TX1 5, w ∈ wsX1_chalkersOf := by decide +kernel
theorem kX1_chalkersOf_21 : Cond.fieldLink RX1 21 "TailorChalks$Game" "tailorZero" "LTailorChalks$Tailor;" ∈ wsX1_chalkersOf := by decide +kernel
theorem kX1_chalkersOf_25 : Cond.fieldLink RX1 25 "TailorChalks$Game" "tailorOne" "LTailorChalks$Tailor;" ∈ wsX1_chalkersOf := by decide +kernel
def F_Game_chalkersOf (joint : Int32) (mks0 : Int32) (fma0 : Nat → Int32) (mks1 : Int32) (fma1 : Nat → Int32) : Int32 := (bnd (F_Tailor_hasMark joint mks0 fma0) (fun r_1 => (if r_1 = 0 then (bnd (F_Tailor_hasMark joint mks1 fma1) (fun r_3 => (if r_3 = 0 then ((0 : Int32) ||| 0) else ((0 : Int32) ||| 2)))) else (bnd (F_Tailor_hasMark joint mks1 fma1) (fun r_5 => (if r_5 = 0 then ((1 : Int32) ||| 0) else ((1 : Int32) ||| 2)))))))
set_option maxHeartbeats 4000000 in
set_option maxRecDepth 100000 in
theorem c_Game_chalkersOf (l : Launch) (dC : Nat → ClassId) (dI : Nat → Nat → Nat) (cI cC cG cZ : ClassId) (g cl t0 t1 ma0 ma1 : Nat) (joint : Int32) (nx : Int32) (tn : Int32) (mks0 : Int32) (pts0 : Int32) (ths0 : Int32) (rgs0 : Int32) (rgc0 : Int32) (fnd0 : Int32) (rdb0 : Int32) (wdb0 : Int32) (fma0 : Nat → Int32) (mks1 : Int32) (pts1 : Int32) (ths1 : Int32) (rgs1 : Int32) (rgc1 : Int32) (fnd1 : Int32) (rdb1 : Int32) (wdb1 : Int32) (fma1 : Nat → Int32) (hM0 : tm_ok 8 mks0) (hM1 : tm_ok 8 mks1) (res : Int32) (hres : res = F_Game_chalkersOf joint mks0 fma0 mks1 fma1) : Met l yX1_chalkersOf wsX1_chalkersOf ({ frames := 1, cells := 0, slots := 0, locals := 22 }) (va_Pc [.ref g, .int joint] (ro_P (dC, dI) vwCl (tyL cI cC cG cZ) [(g, .inr (1, [.ref cl, .ref t0, .ref t1, .int nx, .int tn])), (t0, .inr (5, [.ref ma0, .int mks0, .int pts0, .int ths0, .int rgs0, .int rgc0, .int fnd0, .int rdb0, .int wdb0])), (ma0, .inl (cI, 8, .inl fma0)), (t1, .inr (5, [.ref ma1, .int mks1, .int pts1, .int ths1, .int rgs1, .int rgc1, .int fnd1, .int rdb1, .int wdb1])), (ma1, .inl (cI, 8, .inl fma1))])) (va_Qi (fun r (_ : Unit) => r = res) (fun _ _ => True) ro_F) 0 0 ro_F := by
  refine Met.ofW (cc := cX1_chalkersOf) (maxL := 2) (ret := (some .int)) (by decide) rfl ?_
  intro p e s m args below meth c s₁ B hml hv
  obtain ⟨rfl, hP, hK⟩ := hv
  have hx := B.exec
  have hb := B.bytes
  have hr := B.returns
  have hts := atoms_spec (ws := wsX1_chalkersOf) B.pre
  have hown : s.vm.findClass RX1 = some m.cls := findClass_of_methodNamed B.named
  have hlocks := B.notSynchronized
  have hS : va_S ro_F s.heap s.heap [] := va_S.rf
  have hl := lv_entry ([.ref g, .int joint]) (n := 2) (Nat.le_of_ble_eq_true rfl)
  rw [lg_entry_eq]
  generalize (lg_sl ([.ref g, .int joint]) ++ List.replicate (2 - (lg_sl ([.ref g, .int joint])).length) Slot.unset).toArray = ls at hl ⊢
  have hl : lv_has ls 2 [(0, .ref g), (1, .int joint)] := hl
  rw [F_Game_chalkersOf] at hres
  refine lv_aload_n hx hb dX1_chalkersOf_0 rfl (lv_at hl 0 rfl) ?_
  refine va_get (D := (dC, dI)) (ci := 1) (v := .ref t0) (C := RX1) (T := TX1) (N := 5) hx hb hts iX1_chalkersOf_X1 hown hK hP 0 rfl rfl 1 (by decide) (hts (.fieldLink RX1 21 "TailorChalks$Game" "tailorZero" "LTailorChalks$Tailor;") kX1_chalkersOf_21) (fun _ h9 => h9) rfl dX1_chalkersOf_1 ?_
  refine lv_iload_n hx hb dX1_chalkersOf_4 rfl (lv_at hl 1 rfl) ?_
  obtain ⟨r_1, hr_1⟩ : ∃ z, z = F_Tailor_hasMark joint mks0 fma0 := ⟨_, rfl⟩
  rw [bnd_e hr_1] at hres
  refine ro_calli (va_runV (As := [.int joint]) (rest := []) ⟨hx, hb, hml, hown, hts⟩ (c_Tailor_hasMark l dC dI cI cC cG cZ t0 ma0 joint mks0 pts0 ths0 rgs0 rgc0 fnd0 rdb0 wdb0 fma0 hM0 r_1 hr_1) (cwV 1 hts gX1_chalkersOf_X5_hasMark rfl rfl rfl (by decide +kernel) ⟨Nat.le_of_ble_eq_true rfl, Nat.le_of_ble_eq_true rfl⟩) (ro_preV (hP.sub (ws' := [(t0, .inr (5, [.ref ma0, .int mks0, .int pts0, .int ths0, .int rgs0, .int rgc0, .int fnd0, .int rdb0, .int wdb0])), (ma0, .inl (cI, 8, .inl fma0))]) [1, 2] rfl) hK (ci := 5) (q0 := 0) rfl rfl) rfl rfl hl.1 rfl (lv_room (Nat.le_of_ble_eq_true rfl)) dX1_chalkersOf_5 ⟨Nat.zero_le _, Nat.zero_le _⟩) hP hS (fun H locs hP hS => ?_)
  refine lv_if_eq (tgt := 15) hx hb dX1_chalkersOf_8 (by decide) (fun c_2 => ?_) (fun c_2 => ?_)
  · rw [if_pos c_2] at hres
    refine lv_iconst (v := 0) hx hb dX1_chalkersOf_15 (by decide) ?_
    refine lv_aload_n hx hb dX1_chalkersOf_16 rfl (lv_at hl 0 rfl) ?_
    refine va_get (D := (dC, dI)) (ci := 1) (v := .ref t1) (C := RX1) (T := TX1) (N := 5) hx hb hts iX1_chalkersOf_X1 hown hK hP 0 rfl rfl 2 (by decide) (hts (.fieldLink RX1 25 "TailorChalks$Game" "tailorOne" "LTailorChalks$Tailor;") kX1_chalkersOf_25) (fun _ h9 => h9) rfl dX1_chalkersOf_17 ?_
    refine lv_iload_n hx hb dX1_chalkersOf_20 rfl (lv_at hl 1 rfl) ?_
    obtain ⟨r_3, hr_3⟩ : ∃ z, z = F_Tailor_hasMark joint mks1 fma1 := ⟨_, rfl⟩
    rw [bnd_e hr_3] at hres
    refine ro_calli (va_runV (As := [.int joint]) (rest := [.int 0]) ⟨hx, hb, hml, hown, hts⟩ (c_Tailor_hasMark l dC dI cI cC cG cZ t1 ma1 joint mks1 pts1 ths1 rgs1 rgc1 fnd1 rdb1 wdb1 fma1 hM1 r_3 hr_3) (cwV 1 hts gX1_chalkersOf_X5_hasMark rfl rfl rfl (by decide +kernel) ⟨Nat.le_of_ble_eq_true rfl, Nat.le_of_ble_eq_true rfl⟩) (ro_preV (hP.sub (ws' := [(t1, .inr (5, [.ref ma1, .int mks1, .int pts1, .int ths1, .int rgs1, .int rgc1, .int fnd1, .int rdb1, .int wdb1])), (ma1, .inl (cI, 8, .inl fma1))]) [3, 4] rfl) hK (ci := 5) (q0 := 0) rfl rfl) rfl rfl hl.1 rfl (lv_room (Nat.le_of_ble_eq_true rfl)) dX1_chalkersOf_21 ⟨Nat.zero_le _, Nat.zero_le _⟩) hP hS (fun H locs hP hS => ?_)
    refine lv_if_eq (tgt := 31) hx hb dX1_chalkersOf_24 (by decide) (fun c_4 => ?_) (fun c_4 => ?_)
    · rw [if_pos c_4] at hres
      refine lv_iconst (v := 0) hx hb dX1_chalkersOf_31 (by decide) ?_
      refine lv_ior hx hb dX1_chalkersOf_32 ?_
      exact W.iret (v := ((0 : Int32) ||| 0)) hx hb hr (fun t ht hW => ⟨⟨((0 : Int32) ||| 0), (), rfl, hres.symm, trivial⟩, hS.F ht⟩) hS.2.2 dX1_chalkersOf_33
    · rw [if_neg c_4] at hres
      refine lv_iconst (v := 2) hx hb dX1_chalkersOf_27 (by decide) ?_
      refine lv_goto (tgt := 32) hx hb dX1_chalkersOf_28 (by decide) ?_
      refine lv_ior hx hb dX1_chalkersOf_32 ?_
      exact W.iret (v := ((0 : Int32) ||| 2)) hx hb hr (fun t ht hW => ⟨⟨((0 : Int32) ||| 2), (), rfl, hres.symm, trivial⟩, hS.F ht⟩) hS.2.2 dX1_chalkersOf_33
  · rw [if_neg c_2] at hres
    refine lv_iconst (v := 1) hx hb dX1_chalkersOf_11 (by decide) ?_
    refine lv_goto (tgt := 16) hx hb dX1_chalkersOf_12 (by decide) ?_
    refine lv_aload_n hx hb dX1_chalkersOf_16 rfl (lv_at hl 0 rfl) ?_
    refine va_get (D := (dC, dI)) (ci := 1) (v := .ref t1) (C := RX1) (T := TX1) (N := 5) hx hb hts iX1_chalkersOf_X1 hown hK hP 0 rfl rfl 2 (by decide) (hts (.fieldLink RX1 25 "TailorChalks$Game" "tailorOne" "LTailorChalks$Tailor;") kX1_chalkersOf_25) (fun _ h9 => h9) rfl dX1_chalkersOf_17 ?_
    refine lv_iload_n hx hb dX1_chalkersOf_20 rfl (lv_at hl 1 rfl) ?_
    obtain ⟨r_5, hr_5⟩ : ∃ z, z = F_Tailor_hasMark joint mks1 fma1 := ⟨_, rfl⟩
    rw [bnd_e hr_5] at hres
    refine ro_calli (va_runV (As := [.int joint]) (rest := [.int 1]) ⟨hx, hb, hml, hown, hts⟩ (c_Tailor_hasMark l dC dI cI cC cG cZ t1 ma1 joint mks1 pts1 ths1 rgs1 rgc1 fnd1 rdb1 wdb1 fma1 hM1 r_5 hr_5) (cwV 1 hts gX1_chalkersOf_X5_hasMark rfl rfl rfl (by decide +kernel) ⟨Nat.le_of_ble_eq_true rfl, Nat.le_of_ble_eq_true rfl⟩) (ro_preV (hP.sub (ws' := [(t1, .inr (5, [.ref ma1, .int mks1, .int pts1, .int ths1, .int rgs1, .int rgc1, .int fnd1, .int rdb1, .int wdb1])), (ma1, .inl (cI, 8, .inl fma1))]) [3, 4] rfl) hK (ci := 5) (q0 := 0) rfl rfl) rfl rfl hl.1 rfl (lv_room (Nat.le_of_ble_eq_true rfl)) dX1_chalkersOf_21 ⟨Nat.zero_le _, Nat.zero_le _⟩) hP hS (fun H locs hP hS => ?_)
    refine lv_if_eq (tgt := 31) hx hb dX1_chalkersOf_24 (by decide) (fun c_6 => ?_) (fun c_6 => ?_)
    · rw [if_pos c_6] at hres
      refine lv_iconst (v := 0) hx hb dX1_chalkersOf_31 (by decide) ?_
      refine lv_ior hx hb dX1_chalkersOf_32 ?_
      exact W.iret (v := ((1 : Int32) ||| 0)) hx hb hr (fun t ht hW => ⟨⟨((1 : Int32) ||| 0), (), rfl, hres.symm, trivial⟩, hS.F ht⟩) hS.2.2 dX1_chalkersOf_33
    · rw [if_neg c_6] at hres
      refine lv_iconst (v := 2) hx hb dX1_chalkersOf_27 (by decide) ?_
      refine lv_goto (tgt := 32) hx hb dX1_chalkersOf_28 (by decide) ?_
      refine lv_ior hx hb dX1_chalkersOf_32 ?_
      exact W.iret (v := ((1 : Int32) ||| 2)) hx hb hr (fun t ht hW => ⟨⟨((1 : Int32) ||| 2), (), rfl, hres.symm, trivial⟩, hS.F ht⟩) hS.2.2 dX1_chalkersOf_33
theorem iX1_doubtableMaker_X1 : ∀ w ∈ u_ws RX1 TX1 5, w ∈ wsX1_doubtableMaker := by decide +kernel
theorem kX1_doubtableMaker_12 : Cond.fieldLink RX1 12 "TailorChalks$Game" "cloth" "LTailorChalks$Cloth;" ∈ wsX1_doubtableMaker := by decide +kernel
def F_Game_doubtableMaker (joint : Int32) (tn : Int32) (gn : Int64) (fm : Nat → Int32) : Int32 := (bnd (F_Game_isOver tn gn) (fun r_1 => (if r_1 = 0 then (bnd (F_Cloth_isVoid joint gn) (fun r_3 => (if r_3 = 0 then (bnd (F_Cloth_makerOf joint fm) (fun r_5 => r_5)) else (-6)))) else (-6))))
set_option maxHeartbeats 4000000 in
set_option maxRecDepth 100000 in
theorem c_Game_doubtableMaker (l : Launch) (dC : Nat → ClassId) (dI : Nat → Nat → Nat) (cI cC cG cZ : ClassId) (g cl t0 t1 st mk : Nat) (joint : Int32) (nx : Int32) (tn : Int32) (gn : Int64) (ac : Int64) (dn : Int64) (fm : Nat → Int32) (res : Int32) (hres : res = F_Game_doubtableMaker joint tn gn fm) : Met l yX1_doubtableMaker wsX1_doubtableMaker ({ frames := 3, cells := 0, slots := 0, locals := 61 }) (va_Pc [.ref g, .int joint] (ro_P (dC, dI) vwCl (tyL cI cC cG cZ) [(g, .inr (1, [.ref cl, .ref t0, .ref t1, .int nx, .int tn])), (cl, .inr (0, [.ref st, .ref mk, .long gn, .long ac, .long dn])), (mk, .inl (cI, 82, .inl fm))])) (va_Qi (fun r (_ : Unit) => r = res) (fun _ _ => True) ro_F) 0 0 ro_F := by
  refine Met.ofW (cc := cX1_doubtableMaker) (maxL := 2) (ret := (some .int)) (by decide) rfl ?_
  intro p e s m args below meth c s₁ B hml hv
  obtain ⟨rfl, hP, hK⟩ := hv
  have hx := B.exec
  have hb := B.bytes
  have hr := B.returns
  have hts := atoms_spec (ws := wsX1_doubtableMaker) B.pre
  have hown : s.vm.findClass RX1 = some m.cls := findClass_of_methodNamed B.named
  have hlocks := B.notSynchronized
  have hS : va_S ro_F s.heap s.heap [] := va_S.rf
  have hl := lv_entry ([.ref g, .int joint]) (n := 2) (Nat.le_of_ble_eq_true rfl)
  rw [lg_entry_eq]
  generalize (lg_sl ([.ref g, .int joint]) ++ List.replicate (2 - (lg_sl ([.ref g, .int joint])).length) Slot.unset).toArray = ls at hl ⊢
  have hl : lv_has ls 2 [(0, .ref g), (1, .int joint)] := hl
  rw [F_Game_doubtableMaker] at hres
  refine lv_aload_n hx hb dX1_doubtableMaker_0 rfl (lv_at hl 0 rfl) ?_
  obtain ⟨r_1, hr_1⟩ : ∃ z, z = F_Game_isOver tn gn := ⟨_, rfl⟩
  rw [bnd_e hr_1] at hres
  refine ro_calli (va_runV (As := []) (rest := []) ⟨hx, hb, hml, hown, hts⟩ (c_Game_isOver l dC dI cI cC cG cZ g cl t0 t1 st mk nx tn gn ac dn  r_1 hr_1) (cwV 0 hts gX1_doubtableMaker_X1_isOver rfl rfl rfl (by decide +kernel) ⟨Nat.le_of_ble_eq_true rfl, Nat.le_of_ble_eq_true rfl⟩) (ro_preV (hP.sub (ws' := [(g, .inr (1, [.ref cl, .ref t0, .ref t1, .int nx, .int tn])), (cl, .inr (0, [.ref st, .ref mk, .long gn, .long ac, .long dn]))]) [0, 1] rfl) hK (ci := 1) (q0 := 0) rfl rfl) rfl rfl hl.1 rfl (lv_room (Nat.le_of_ble_eq_true rfl)) dX1_doubtableMaker_1 ⟨Nat.zero_le _, Nat.zero_le _⟩) hP hS (fun H locs hP hS => ?_)
  refine lv_if_ne (tgt := 18) hx hb dX1_doubtableMaker_4 (by decide) (fun c_2 => ?_) (fun c_2 => ?_)
  · rw [if_neg c_2] at hres
    refine lv_bipush (v := (-6)) hx hb dX1_doubtableMaker_18 (by decide) ?_
    refine lv_goto (tgt := 31) hx hb dX1_doubtableMaker_20 (by decide) ?_
    exact W.iret (v := (-6)) hx hb hr (fun t ht hW => ⟨⟨(-6), (), rfl, hres.symm, trivial⟩, hS.F ht⟩) hS.2.2 dX1_doubtableMaker_31
  · rw [if_pos c_2] at hres
    refine lv_aload_n hx hb dX1_doubtableMaker_7 rfl (lv_at hl 0 rfl) ?_
    refine va_get (D := (dC, dI)) (ci := 1) (v := .ref cl) (C := RX1) (T := TX1) (N := 5) hx hb hts iX1_doubtableMaker_X1 hown hK hP 0 rfl rfl 0 (by decide) (hts (.fieldLink RX1 12 "TailorChalks$Game" "cloth" "LTailorChalks$Cloth;") kX1_doubtableMaker_12) (fun _ h9 => h9) rfl dX1_doubtableMaker_8 ?_
    refine lv_iload_n hx hb dX1_doubtableMaker_11 rfl (lv_at hl 1 rfl) ?_
    obtain ⟨r_3, hr_3⟩ : ∃ z, z = F_Cloth_isVoid joint gn := ⟨_, rfl⟩
    rw [bnd_e hr_3] at hres
    refine ro_calli (va_runV (As := [.int joint]) (rest := []) ⟨hx, hb, hml, hown, hts⟩ (c_Cloth_isVoid l dC dI cI cC cG cZ cl st mk joint gn ac dn  r_3 hr_3) (cwV 1 hts gX1_doubtableMaker_X0_isVoid rfl rfl rfl (by decide +kernel) ⟨Nat.le_of_ble_eq_true rfl, Nat.le_of_ble_eq_true rfl⟩) (ro_preV (hP.sub (ws' := [(cl, .inr (0, [.ref st, .ref mk, .long gn, .long ac, .long dn]))]) [1] rfl) hK (ci := 0) (q0 := 0) rfl rfl) rfl rfl hl.1 rfl (lv_room (Nat.le_of_ble_eq_true rfl)) dX1_doubtableMaker_12 ⟨Nat.zero_le _, Nat.zero_le _⟩) hP hS (fun H locs hP hS => ?_)
    refine lv_if_eq (tgt := 23) hx hb dX1_doubtableMaker_15 (by decide) (fun c_4 => ?_) (fun c_4 => ?_)
    · rw [if_pos c_4] at hres
      refine lv_aload_n hx hb dX1_doubtableMaker_23 rfl (lv_at hl 0 rfl) ?_
      refine va_get (D := (dC, dI)) (ci := 1) (v := .ref cl) (C := RX1) (T := TX1) (N := 5) hx hb hts iX1_doubtableMaker_X1 hown hK hP 0 rfl rfl 0 (by decide) (hts (.fieldLink RX1 12 "TailorChalks$Game" "cloth" "LTailorChalks$Cloth;") kX1_doubtableMaker_12) (fun _ h9 => h9) rfl dX1_doubtableMaker_24 ?_
      refine lv_iload_n hx hb dX1_doubtableMaker_27 rfl (lv_at hl 1 rfl) ?_
      obtain ⟨r_5, hr_5⟩ : ∃ z, z = F_Cloth_makerOf joint fm := ⟨_, rfl⟩
      rw [bnd_e hr_5] at hres
      refine ro_calli (va_runV (As := [.int joint]) (rest := []) ⟨hx, hb, hml, hown, hts⟩ (c_Cloth_makerOf l dC dI cI cC cG cZ cl st mk joint gn ac dn fm  r_5 hr_5) (cwV 1 hts gX1_doubtableMaker_X0_makerOf rfl rfl rfl (by decide +kernel) ⟨Nat.le_of_ble_eq_true rfl, Nat.le_of_ble_eq_true rfl⟩) (ro_preV (hP.sub (ws' := [(cl, .inr (0, [.ref st, .ref mk, .long gn, .long ac, .long dn])), (mk, .inl (cI, 82, .inl fm))]) [1, 2] rfl) hK (ci := 0) (q0 := 0) rfl rfl) rfl rfl hl.1 rfl (lv_room (Nat.le_of_ble_eq_true rfl)) dX1_doubtableMaker_28 ⟨Nat.zero_le _, Nat.zero_le _⟩) hP hS (fun H locs hP hS => ?_)
      exact W.iret (v := r_5) hx hb hr (fun t ht hW => ⟨⟨r_5, (), rfl, hres.symm, trivial⟩, hS.F ht⟩) hS.2.2 dX1_doubtableMaker_31
    · rw [if_neg c_4] at hres
      refine lv_bipush (v := (-6)) hx hb dX1_doubtableMaker_18 (by decide) ?_
      refine lv_goto (tgt := 31) hx hb dX1_doubtableMaker_20 (by decide) ?_
      exact W.iret (v := (-6)) hx hb hr (fun t ht hW => ⟨⟨(-6), (), rfl, hres.symm, trivial⟩, hS.F ht⟩) hS.2.2 dX1_doubtableMaker_31
theorem iX1_whyNoSnip_X1 : ∀ w ∈ u_ws RX1 TX1 5, w ∈ wsX1_whyNoSnip := by decide +kernel
theorem kX1_whyNoSnip_12 : Cond.fieldLink RX1 12 "TailorChalks$Game" "cloth" "LTailorChalks$Cloth;" ∈ wsX1_whyNoSnip := by decide +kernel
def F_Game_whyNoSnip (joint : Int32) (tn : Int32) (gn : Int64) (fs : Nat → Int32) : Int32 := (bnd (F_Game_isOver tn gn) (fun r_1 => (if r_1 = 0 then (bnd (F_Cloth_isVoid joint gn) (fun r_3 => (if r_3 = 0 then (bnd (F_Cloth_stateOf joint fs) (fun r_5 => (if r_5 = 1 then 3 else 0))) else 2))) else 1)))
set_option maxHeartbeats 4000000 in
set_option maxRecDepth 100000 in
theorem c_Game_whyNoSnip (l : Launch) (dC : Nat → ClassId) (dI : Nat → Nat → Nat) (cI cC cG cZ : ClassId) (g cl t0 t1 st mk : Nat) (joint : Int32) (nx : Int32) (tn : Int32) (gn : Int64) (ac : Int64) (dn : Int64) (fs : Nat → Int32) (res : Int32) (hres : res = F_Game_whyNoSnip joint tn gn fs) : Met l yX1_whyNoSnip wsX1_whyNoSnip ({ frames := 3, cells := 0, slots := 0, locals := 61 }) (va_Pc [.ref g, .int joint] (ro_P (dC, dI) vwCl (tyL cI cC cG cZ) [(g, .inr (1, [.ref cl, .ref t0, .ref t1, .int nx, .int tn])), (cl, .inr (0, [.ref st, .ref mk, .long gn, .long ac, .long dn])), (st, .inl (cI, 82, .inl fs))])) (va_Qi (fun r (_ : Unit) => r = res) (fun _ _ => True) ro_F) 0 0 ro_F := by
  refine Met.ofW (cc := cX1_whyNoSnip) (maxL := 2) (ret := (some .int)) (by decide) rfl ?_
  intro p e s m args below meth c s₁ B hml hv
  obtain ⟨rfl, hP, hK⟩ := hv
  have hx := B.exec
  have hb := B.bytes
  have hr := B.returns
  have hts := atoms_spec (ws := wsX1_whyNoSnip) B.pre
  have hown : s.vm.findClass RX1 = some m.cls := findClass_of_methodNamed B.named
  have hlocks := B.notSynchronized
  have hS : va_S ro_F s.heap s.heap [] := va_S.rf
  have hl := lv_entry ([.ref g, .int joint]) (n := 2) (Nat.le_of_ble_eq_true rfl)
  rw [lg_entry_eq]
  generalize (lg_sl ([.ref g, .int joint]) ++ List.replicate (2 - (lg_sl ([.ref g, .int joint])).length) Slot.unset).toArray = ls at hl ⊢
  have hl : lv_has ls 2 [(0, .ref g), (1, .int joint)] := hl
  rw [F_Game_whyNoSnip] at hres
  refine lv_aload_n hx hb dX1_whyNoSnip_0 rfl (lv_at hl 0 rfl) ?_
  obtain ⟨r_1, hr_1⟩ : ∃ z, z = F_Game_isOver tn gn := ⟨_, rfl⟩
  rw [bnd_e hr_1] at hres
  refine ro_calli (va_runV (As := []) (rest := []) ⟨hx, hb, hml, hown, hts⟩ (c_Game_isOver l dC dI cI cC cG cZ g cl t0 t1 st mk nx tn gn ac dn  r_1 hr_1) (cwV 0 hts gX1_whyNoSnip_X1_isOver rfl rfl rfl (by decide +kernel) ⟨Nat.le_of_ble_eq_true rfl, Nat.le_of_ble_eq_true rfl⟩) (ro_preV (hP.sub (ws' := [(g, .inr (1, [.ref cl, .ref t0, .ref t1, .int nx, .int tn])), (cl, .inr (0, [.ref st, .ref mk, .long gn, .long ac, .long dn]))]) [0, 1] rfl) hK (ci := 1) (q0 := 0) rfl rfl) rfl rfl hl.1 rfl (lv_room (Nat.le_of_ble_eq_true rfl)) dX1_whyNoSnip_1 ⟨Nat.zero_le _, Nat.zero_le _⟩) hP hS (fun H locs hP hS => ?_)
  refine lv_if_eq (tgt := 9) hx hb dX1_whyNoSnip_4 (by decide) (fun c_2 => ?_) (fun c_2 => ?_)
  · rw [if_pos c_2] at hres
    refine lv_aload_n hx hb dX1_whyNoSnip_9 rfl (lv_at hl 0 rfl) ?_
    refine va_get (D := (dC, dI)) (ci := 1) (v := .ref cl) (C := RX1) (T := TX1) (N := 5) hx hb hts iX1_whyNoSnip_X1 hown hK hP 0 rfl rfl 0 (by decide) (hts (.fieldLink RX1 12 "TailorChalks$Game" "cloth" "LTailorChalks$Cloth;") kX1_whyNoSnip_12) (fun _ h9 => h9) rfl dX1_whyNoSnip_10 ?_
    refine lv_iload_n hx hb dX1_whyNoSnip_13 rfl (lv_at hl 1 rfl) ?_
    obtain ⟨r_3, hr_3⟩ : ∃ z, z = F_Cloth_isVoid joint gn := ⟨_, rfl⟩
    rw [bnd_e hr_3] at hres
    refine ro_calli (va_runV (As := [.int joint]) (rest := []) ⟨hx, hb, hml, hown, hts⟩ (c_Cloth_isVoid l dC dI cI cC cG cZ cl st mk joint gn ac dn  r_3 hr_3) (cwV 1 hts gX1_whyNoSnip_X0_isVoid rfl rfl rfl (by decide +kernel) ⟨Nat.le_of_ble_eq_true rfl, Nat.le_of_ble_eq_true rfl⟩) (ro_preV (hP.sub (ws' := [(cl, .inr (0, [.ref st, .ref mk, .long gn, .long ac, .long dn]))]) [1] rfl) hK (ci := 0) (q0 := 0) rfl rfl) rfl rfl hl.1 rfl (lv_room (Nat.le_of_ble_eq_true rfl)) dX1_whyNoSnip_14 ⟨Nat.zero_le _, Nat.zero_le _⟩) hP hS (fun H locs hP hS => ?_)
    refine lv_if_eq (tgt := 22) hx hb dX1_whyNoSnip_17 (by decide) (fun c_4 => ?_) (fun c_4 => ?_)
    · rw [if_pos c_4] at hres
      refine lv_aload_n hx hb dX1_whyNoSnip_22 rfl (lv_at hl 0 rfl) ?_
      refine va_get (D := (dC, dI)) (ci := 1) (v := .ref cl) (C := RX1) (T := TX1) (N := 5) hx hb hts iX1_whyNoSnip_X1 hown hK hP 0 rfl rfl 0 (by decide) (hts (.fieldLink RX1 12 "TailorChalks$Game" "cloth" "LTailorChalks$Cloth;") kX1_whyNoSnip_12) (fun _ h9 => h9) rfl dX1_whyNoSnip_23 ?_
      refine lv_iload_n hx hb dX1_whyNoSnip_26 rfl (lv_at hl 1 rfl) ?_
      obtain ⟨r_5, hr_5⟩ : ∃ z, z = F_Cloth_stateOf joint fs := ⟨_, rfl⟩
      rw [bnd_e hr_5] at hres
      refine ro_calli (va_runV (As := [.int joint]) (rest := []) ⟨hx, hb, hml, hown, hts⟩ (c_Cloth_stateOf l dC dI cI cC cG cZ cl st mk joint gn ac dn fs  r_5 hr_5) (cwV 1 hts gX1_whyNoSnip_X0_stateOf rfl rfl rfl (by decide +kernel) ⟨Nat.le_of_ble_eq_true rfl, Nat.le_of_ble_eq_true rfl⟩) (ro_preV (hP.sub (ws' := [(cl, .inr (0, [.ref st, .ref mk, .long gn, .long ac, .long dn])), (st, .inl (cI, 82, .inl fs))]) [1, 2] rfl) hK (ci := 0) (q0 := 0) rfl rfl) rfl rfl hl.1 rfl (lv_room (Nat.le_of_ble_eq_true rfl)) dX1_whyNoSnip_27 ⟨Nat.zero_le _, Nat.zero_le _⟩) hP hS (fun H locs hP hS => ?_)
      refine lv_iconst (v := 1) hx hb dX1_whyNoSnip_30 (by decide) ?_
      refine lv_icmp_ne (tgt := 38) hx hb dX1_whyNoSnip_31 (by decide) (fun c_6 => ?_) (fun c_6 => ?_)
      · rw [if_neg c_6] at hres
        refine lv_iconst (v := 0) hx hb dX1_whyNoSnip_38 (by decide) ?_
        exact W.iret (v := 0) hx hb hr (fun t ht hW => ⟨⟨0, (), rfl, hres.symm, trivial⟩, hS.F ht⟩) hS.2.2 dX1_whyNoSnip_39
      · rw [if_pos c_6] at hres
        refine lv_iconst (v := 3) hx hb dX1_whyNoSnip_34 (by decide) ?_
        refine lv_goto (tgt := 39) hx hb dX1_whyNoSnip_35 (by decide) ?_
        exact W.iret (v := 3) hx hb hr (fun t ht hW => ⟨⟨3, (), rfl, hres.symm, trivial⟩, hS.F ht⟩) hS.2.2 dX1_whyNoSnip_39
    · rw [if_neg c_4] at hres
      refine lv_iconst (v := 2) hx hb dX1_whyNoSnip_20 (by decide) ?_
      exact W.iret (v := 2) hx hb hr (fun t ht hW => ⟨⟨2, (), rfl, hres.symm, trivial⟩, hS.F ht⟩) hS.2.2 dX1_whyNoSnip_21
  · rw [if_neg c_2] at hres
    refine lv_iconst (v := 1) hx hb dX1_whyNoSnip_7 (by decide) ?_
    exact W.iret (v := 1) hx hb hr (fun t ht hW => ⟨⟨1, (), rfl, hres.symm, trivial⟩, hS.F ht⟩) hS.2.2 dX1_whyNoSnip_8
theorem iX1_markJoint_X1 : ∀ w ∈ u_ws RX1 TX1 5, w ∈ wsX1_markJoint := by decide +kernel
theorem iX1_markJoint_X5 : ∀ w ∈ u_ws RX5 TX5 9, w ∈ wsX1_markJoint := by decide +kernel
theorem kX1_markJoint_101 : Cond.fieldLink RX1 101 "TailorChalks$Tailor" "marks" "I" ∈ wsX1_markJoint := by decide +kernel
theorem kX1_markJoint_12 : Cond.fieldLink RX1 12 "TailorChalks$Game" "cloth" "LTailorChalks$Cloth;" ∈ wsX1_markJoint := by decide +kernel
theorem kX1_markJoint_35 : Cond.fieldLink RX1 35 "TailorChalks$Game" "next" "I" ∈ wsX1_markJoint := by decide +kernel
def F_Game_markJoint (joint : Int32) (nx : Int32) (tn : Int32) (ac : Int64) (dn : Int64) (mks0 : Int32) (fma0 : Nat → Int32) (mks1 : Int32) (fma1 : Nat → Int32) : Int32 × Int32 × Int32 × Int32 × (Nat → Int32) × Int32 × (Nat → Int32) := (if nx = 0 then (bnd (F_Cloth_holds joint ac dn) (fun r_2 => (if r_2 = 0 then ((-5), nx, tn, mks0, fma0, mks1, fma1) else (bnd (F_Tailor_hasMark joint mks0 fma0) (fun r_4 => (if r_4 = 0 then (bnd (F_Tailor_addMark joint mks0 fma0) (fun r_6 => (if r_6.1 = 0 then ((-4), nx, tn, r_6.2.1, r_6.2.2, mks1, fma1) else (bnd (F_Game_endTurn nx tn) (fun r_8 => (r_6.2.1, r_8.1, r_8.2, r_6.2.1, r_6.2.2, mks1, fma1)))))) else ((-5), nx, tn, mks0, fma0, mks1, fma1))))))) else (bnd (F_Cloth_holds joint ac dn) (fun r_9 => (if r_9 = 0 then ((-5), nx, tn, mks0, fma0, mks1, fma1) else (bnd (F_Tailor_hasMark joint mks1 fma1) (fun r_11 => (if r_11 = 0 then (bnd (F_Tailor_addMark joint mks1 fma1) (fun r_13 => (if r_13.1 = 0 then ((-4), nx, tn, mks0, fma0, r_13.2.1, r_13.2.2) else (bnd (F_Game_endTurn nx tn) (fun r_15 => (r_13.2.1, r_15.1, r_15.2, mks0, fma0, r_13.2.1, r_13.2.2)))))) else ((-5), nx, tn, mks0, fma0, mks1, fma1))))))))
set_option maxHeartbeats 4000000 in
set_option maxRecDepth 100000 in
theorem c_Game_markJoint (l : Launch) (dC : Nat → ClassId) (dI : Nat → Nat → Nat) (cI cC cG cZ : ClassId) (g cl t0 t1 st mk ma0 ma1 : Nat) (joint : Int32) (nx : Int32) (tn : Int32) (gn : Int64) (ac : Int64) (dn : Int64) (mks0 : Int32) (pts0 : Int32) (ths0 : Int32) (rgs0 : Int32) (rgc0 : Int32) (fnd0 : Int32) (rdb0 : Int32) (wdb0 : Int32) (fma0 : Nat → Int32) (mks1 : Int32) (pts1 : Int32) (ths1 : Int32) (rgs1 : Int32) (rgc1 : Int32) (fnd1 : Int32) (rdb1 : Int32) (wdb1 : Int32) (fma1 : Nat → Int32) (hM0 : tm_ok 8 mks0) (hM1 : tm_ok 8 mks1) (res : Int32 × Int32 × Int32 × Int32 × (Nat → Int32) × Int32 × (Nat → Int32)) (hres : res = F_Game_markJoint joint nx tn ac dn mks0 fma0 mks1 fma1) : Met l yX1_markJoint wsX1_markJoint ({ frames := 2, cells := 0, slots := 0, locals := 43 }) (va_Pc [.ref g, .int joint] (wr_P (dC, dI) vwCl (tyL cI cC cG cZ) [(g, .inr (1, [.ref cl, .ref t0, .ref t1, .int nx, .int tn])), (cl, .inr (0, [.ref st, .ref mk, .long gn, .long ac, .long dn])), (t0, .inr (5, [.ref ma0, .int mks0, .int pts0, .int ths0, .int rgs0, .int rgc0, .int fnd0, .int rdb0, .int wdb0])), (ma0, .inl (cI, 8, .inl fma0)), (t1, .inr (5, [.ref ma1, .int mks1, .int pts1, .int ths1, .int rgs1, .int rgc1, .int fnd1, .int rdb1, .int wdb1])), (ma1, .inl (cI, 8, .inl fma1))])) (va_Qi (fun r (_ : Unit) => r = res.1) (fun _ zt => va_P (dC, dI) vwCl [(g, .inr (1, [.ref cl, .ref t0, .ref t1, .int res.2.1, .int res.2.2.1])), (cl, .inr (0, [.ref st, .ref mk, .long gn, .long ac, .long dn])), (t0, .inr (5, [.ref ma0, .int res.2.2.2.1, .int pts0, .int ths0, .int rgs0, .int rgc0, .int fnd0, .int rdb0, .int wdb0])), (ma0, .inl (cI, 8, .inl res.2.2.2.2.1)), (t1, .inr (5, [.ref ma1, .int res.2.2.2.2.2.1, .int pts1, .int ths1, .int rgs1, .int rgc1, .int fnd1, .int rdb1, .int wdb1])), (ma1, .inl (cI, 8, .inl res.2.2.2.2.2.2))] zt.heap) (wr_A [(g, .inr (1, [.ref cl, .ref t0, .ref t1, .int nx, .int tn])), (cl, .inr (0, [.ref st, .ref mk, .long gn, .long ac, .long dn])), (t0, .inr (5, [.ref ma0, .int mks0, .int pts0, .int ths0, .int rgs0, .int rgc0, .int fnd0, .int rdb0, .int wdb0])), (ma0, .inl (cI, 8, .inl fma0)), (t1, .inr (5, [.ref ma1, .int mks1, .int pts1, .int ths1, .int rgs1, .int rgc1, .int fnd1, .int rdb1, .int wdb1])), (ma1, .inl (cI, 8, .inl fma1))])) 0 0 (wr_A [(g, .inr (1, [.ref cl, .ref t0, .ref t1, .int nx, .int tn])), (cl, .inr (0, [.ref st, .ref mk, .long gn, .long ac, .long dn])), (t0, .inr (5, [.ref ma0, .int mks0, .int pts0, .int ths0, .int rgs0, .int rgc0, .int fnd0, .int rdb0, .int wdb0])), (ma0, .inl (cI, 8, .inl fma0)), (t1, .inr (5, [.ref ma1, .int mks1, .int pts1, .int ths1, .int rgs1, .int rgc1, .int fnd1, .int rdb1, .int wdb1])), (ma1, .inl (cI, 8, .inl fma1))]) := by
  refine Met.ofW (cc := cX1_markJoint) (maxL := 3) (ret := (some .int)) (by decide) rfl ?_
  intro p e s m args below meth c s₁ B hml hv
  obtain ⟨rfl, hP, hK, hD0⟩ := hv
  have hx := B.exec
  have hb := B.bytes
  have hr := B.returns
  have hts := atoms_spec (ws := wsX1_markJoint) B.pre
  have hown : s.vm.findClass RX1 = some m.cls := findClass_of_methodNamed B.named
  have hlocks := B.notSynchronized
  have hD := wr_self hD0
  generalize hAe : wr_A [(g, .inr (1, [.ref cl, .ref t0, .ref t1, .int nx, .int tn])), (cl, .inr (0, [.ref st, .ref mk, .long gn, .long ac, .long dn])), (t0, .inr (5, [.ref ma0, .int mks0, .int pts0, .int ths0, .int rgs0, .int rgc0, .int fnd0, .int rdb0, .int wdb0])), (ma0, .inl (cI, 8, .inl fma0)), (t1, .inr (5, [.ref ma1, .int mks1, .int pts1, .int ths1, .int rgs1, .int rgc1, .int fnd1, .int rdb1, .int wdb1])), (ma1, .inl (cI, 8, .inl fma1))] = A at hD ⊢
  have hS : va_S A s.heap s.heap [] := va_S.rf
  have hP : va_P (dC, dI) vwCl [(g, .inr (1, [.ref cl, .ref t0, .ref t1, .int nx, .int tn])), (cl, .inr (0, [.ref st, .ref mk, .long gn, .long ac, .long dn])), (t0, .inr (5, [.ref ma0, .int mks0, .int pts0, .int ths0, .int rgs0, .int rgc0, .int fnd0, .int rdb0, .int wdb0])), (ma0, .inl (cI, 8, .inl fma0)), (t1, .inr (5, [.ref ma1, .int mks1, .int pts1, .int ths1, .int rgs1, .int rgc1, .int fnd1, .int rdb1, .int wdb1])), (ma1, .inl (cI, 8, .inl fma1))] s.heap := hP
  have hl := lv_entry ([.ref g, .int joint]) (n := 3) (Nat.le_of_ble_eq_true rfl)
  rw [lg_entry_eq]
  generalize (lg_sl ([.ref g, .int joint]) ++ List.replicate (3 - (lg_sl ([.ref g, .int joint])).length) Slot.unset).toArray = ls at hl ⊢
  have hl : lv_has ls 3 [(0, .ref g), (1, .int joint)] := hl
  rw [F_Game_markJoint] at hres
  refine lv_aload_n hx hb dX1_markJoint_0 rfl (lv_at hl 0 rfl) ?_
  refine lv_aload_n hx hb dX1_markJoint_1 rfl (lv_at hl 0 rfl) ?_
  refine va_get (D := (dC, dI)) (ci := 1) (v := .int nx) (C := RX1) (T := TX1) (N := 5) hx hb hts iX1_markJoint_X1 hown hK hP 0 rfl rfl 3 (by decide) (hts (.fieldLink RX1 35 "TailorChalks$Game" "next" "I") kX1_markJoint_35) (fun _ h9 => h9) rfl dX1_markJoint_2 ?_
  by_cases c_1 : nx = 0
  · rw [if_pos c_1] at hres
    refine ro_callr (va_runV (As := [.int nx]) (rest := []) ⟨hx, hb, hml, hown, hts⟩ (c_Game_tailorOf l dC dI cI cC cG cZ g cl t0 t1 nx nx tn  t0 (if_pos c_1).symm) (cwV 1 hts gX1_markJoint_X1_tailorOf rfl rfl rfl (by decide +kernel) ⟨Nat.le_of_ble_eq_true rfl, Nat.le_of_ble_eq_true rfl⟩) (ro_preV (hP.sub (ws' := [(g, .inr (1, [.ref cl, .ref t0, .ref t1, .int nx, .int tn]))]) [0] rfl) hK (ci := 1) (q0 := 0) rfl rfl) rfl rfl hl.1 rfl (lv_room (Nat.le_of_ble_eq_true rfl)) dX1_markJoint_5 ⟨Nat.zero_le _, Nat.zero_le _⟩) hP hS (fun H locs hP hS => ?_)
    refine lv_astore_n (lv' := [(2, .ref t0), (0, .ref g), (1, .int joint)]) hx hb dX1_markJoint_8 rfl hl (by decide) rfl (fun ls hl => ?_)
    refine lv_aload_n hx hb dX1_markJoint_9 rfl (lv_at hl 1 rfl) ?_
    refine va_get (D := (dC, dI)) (ci := 1) (v := .ref cl) (C := RX1) (T := TX1) (N := 5) hx hb hts iX1_markJoint_X1 hown hK hP 0 rfl rfl 0 (by decide) (hts (.fieldLink RX1 12 "TailorChalks$Game" "cloth" "LTailorChalks$Cloth;") kX1_markJoint_12) (fun _ h9 => h9) rfl dX1_markJoint_10 ?_
    refine lv_iload_n hx hb dX1_markJoint_13 rfl (lv_at hl 2 rfl) ?_
    obtain ⟨r_2, hr_2⟩ : ∃ z, z = F_Cloth_holds joint ac dn := ⟨_, rfl⟩
    rw [bnd_e hr_2] at hres
    refine ro_calli (va_runV (As := [.int joint]) (rest := []) ⟨hx, hb, hml, hown, hts⟩ (c_Cloth_holds l dC dI cI cC cG cZ cl st mk joint gn ac dn  r_2 hr_2) (cwV 1 hts gX1_markJoint_X0_holds rfl rfl rfl (by decide +kernel) ⟨Nat.le_of_ble_eq_true rfl, Nat.le_of_ble_eq_true rfl⟩) (ro_preV (hP.sub (ws' := [(cl, .inr (0, [.ref st, .ref mk, .long gn, .long ac, .long dn]))]) [1] rfl) hK (ci := 0) (q0 := 0) rfl rfl) rfl rfl hl.1 rfl (lv_room (Nat.le_of_ble_eq_true rfl)) dX1_markJoint_14 ⟨Nat.zero_le _, Nat.zero_le _⟩) hP hS (fun H locs hP hS => ?_)
    refine lv_if_eq (tgt := 28) hx hb dX1_markJoint_17 (by decide) (fun c_3 => ?_) (fun c_3 => ?_)
    · rw [if_pos c_3] at hres
      refine lv_bipush (v := (-5)) hx hb dX1_markJoint_28 (by decide) ?_
      subst hres
      exact W.iret (v := (-5)) hx hb hr (fun t ht hW => ⟨⟨(-5), (), rfl, rfl, (by show va_P _ _ _ t.heap; rw [ht]; exact hP)⟩, hS.F ht⟩) hS.2.2 dX1_markJoint_30
    · rw [if_neg c_3] at hres
      refine lv_aload_n hx hb dX1_markJoint_20 rfl (lv_at hl 0 rfl) ?_
      refine lv_iload_n hx hb dX1_markJoint_21 rfl (lv_at hl 2 rfl) ?_
      obtain ⟨r_4, hr_4⟩ : ∃ z, z = F_Tailor_hasMark joint mks0 fma0 := ⟨_, rfl⟩
      rw [bnd_e hr_4] at hres
      refine ro_calli (va_runV (As := [.int joint]) (rest := []) ⟨hx, hb, hml, hown, hts⟩ (c_Tailor_hasMark l dC dI cI cC cG cZ t0 ma0 joint mks0 pts0 ths0 rgs0 rgc0 fnd0 rdb0 wdb0 fma0 hM0 r_4 hr_4) (cwV 1 hts gX1_markJoint_X5_hasMark rfl rfl rfl (by decide +kernel) ⟨Nat.le_of_ble_eq_true rfl, Nat.le_of_ble_eq_true rfl⟩) (ro_preV (hP.sub (ws' := [(t0, .inr (5, [.ref ma0, .int mks0, .int pts0, .int ths0, .int rgs0, .int rgc0, .int fnd0, .int rdb0, .int wdb0])), (ma0, .inl (cI, 8, .inl fma0))]) [2, 3] rfl) hK (ci := 5) (q0 := 0) rfl rfl) rfl rfl hl.1 rfl (lv_room (Nat.le_of_ble_eq_true rfl)) dX1_markJoint_22 ⟨Nat.zero_le _, Nat.zero_le _⟩) hP hS (fun H locs hP hS => ?_)
      refine lv_if_eq (tgt := 31) hx hb dX1_markJoint_25 (by decide) (fun c_5 => ?_) (fun c_5 => ?_)
      · rw [if_pos c_5] at hres
        refine lv_aload_n hx hb dX1_markJoint_31 rfl (lv_at hl 0 rfl) ?_
        refine lv_iload_n hx hb dX1_markJoint_32 rfl (lv_at hl 2 rfl) ?_
        obtain ⟨r_6, hr_6⟩ : ∃ z, z = F_Tailor_addMark joint mks0 fma0 := ⟨_, rfl⟩
        rw [bnd_e hr_6] at hres
        refine wr_calli (w1 := [(t0, .inr (5, [.ref ma0, .int r_6.2.1, .int pts0, .int ths0, .int rgs0, .int rgc0, .int fnd0, .int rdb0, .int wdb0])), (ma0, .inl (cI, 8, .inl r_6.2.2))]) (is := [2, 3]) (va_runV (As := [.int joint]) (rest := []) ⟨hx, hb, hml, hown, hts⟩ (c_Tailor_addMark l dC dI cI cC cG cZ t0 ma0 joint mks0 pts0 ths0 rgs0 rgc0 fnd0 rdb0 wdb0 fma0 hM0 r_6 hr_6) (cwV 1 hts gX1_markJoint_X5_addMark rfl rfl rfl (by decide +kernel) ⟨Nat.le_of_ble_eq_true rfl, Nat.le_of_ble_eq_true rfl⟩) (wr_preV (hP.sub (ws' := [(t0, .inr (5, [.ref ma0, .int mks0, .int pts0, .int ths0, .int rgs0, .int rgc0, .int fnd0, .int rdb0, .int wdb0])), (ma0, .inl (cI, 8, .inl fma0))]) [2, 3] rfl) hK (hD.sub (ws' := [(t0, .inr (5, [.ref ma0, .int mks0, .int pts0, .int ths0, .int rgs0, .int rgc0, .int fnd0, .int rdb0, .int wdb0])), (ma0, .inl (cI, 8, .inl fma0))]) [2, 3] (by decide) rfl) (ci := 5) (q0 := 0) rfl rfl) rfl rfl hl.1 rfl (lv_room (Nat.le_of_ble_eq_true rfl)) dX1_markJoint_33 ⟨Nat.zero_le _, Nat.zero_le _⟩) hP hD hS rfl rfl rfl (fun H locs hP hD hS => ?_)
        have hP : va_P (dC, dI) vwCl [(g, .inr (1, [.ref cl, .ref t0, .ref t1, .int nx, .int tn])), (cl, .inr (0, [.ref st, .ref mk, .long gn, .long ac, .long dn])), (t0, .inr (5, [.ref ma0, .int r_6.2.1, .int pts0, .int ths0, .int rgs0, .int rgc0, .int fnd0, .int rdb0, .int wdb0])), (ma0, .inl (cI, 8, .inl r_6.2.2)), (t1, .inr (5, [.ref ma1, .int mks1, .int pts1, .int ths1, .int rgs1, .int rgc1, .int fnd1, .int rdb1, .int wdb1])), (ma1, .inl (cI, 8, .inl fma1))] H := hP
        have hD : va_D A [(g, .inr (1, [.ref cl, .ref t0, .ref t1, .int nx, .int tn])), (cl, .inr (0, [.ref st, .ref mk, .long gn, .long ac, .long dn])), (t0, .inr (5, [.ref ma0, .int r_6.2.1, .int pts0, .int ths0, .int rgs0, .int rgc0, .int fnd0, .int rdb0, .int wdb0])), (ma0, .inl (cI, 8, .inl r_6.2.2)), (t1, .inr (5, [.ref ma1, .int mks1, .int pts1, .int ths1, .int rgs1, .int rgc1, .int fnd1, .int rdb1, .int wdb1])), (ma1, .inl (cI, 8, .inl fma1))] := hD
        refine lv_if_ne (tgt := 42) hx hb dX1_markJoint_36 (by decide) (fun c_7 => ?_) (fun c_7 => ?_)
        · rw [if_neg c_7] at hres
          refine lv_aload_n hx hb dX1_markJoint_42 rfl (lv_at hl 1 rfl) ?_
          obtain ⟨r_8, hr_8⟩ : ∃ z, z = F_Game_endTurn nx tn := ⟨_, rfl⟩
          rw [bnd_e hr_8] at hres
          refine wr_callv (w1 := [(g, .inr (1, [.ref cl, .ref t0, .ref t1, .int r_8.1, .int r_8.2]))]) (is := [0]) (va_runV (As := []) (rest := []) ⟨hx, hb, hml, hown, hts⟩ (c_Game_endTurn l dC dI cI cC cG cZ g cl t0 t1 nx tn  r_8 hr_8) (cwV 0 hts gX1_markJoint_X1_endTurn rfl rfl rfl (by decide +kernel) ⟨Nat.le_of_ble_eq_true rfl, Nat.le_of_ble_eq_true rfl⟩) (wr_preV (hP.sub (ws' := [(g, .inr (1, [.ref cl, .ref t0, .ref t1, .int nx, .int tn]))]) [0] rfl) hK (hD.sub (ws' := [(g, .inr (1, [.ref cl, .ref t0, .ref t1, .int nx, .int tn]))]) [0] (by decide) rfl) (ci := 1) (q0 := 0) rfl rfl) rfl rfl hl.1 rfl (lv_room (Nat.le_of_ble_eq_true rfl)) dX1_markJoint_43 ⟨Nat.zero_le _, Nat.zero_le _⟩) hP hD hS rfl rfl rfl (fun H locs hP hD hS => ?_)
          have hP : va_P (dC, dI) vwCl [(g, .inr (1, [.ref cl, .ref t0, .ref t1, .int r_8.1, .int r_8.2])), (cl, .inr (0, [.ref st, .ref mk, .long gn, .long ac, .long dn])), (t0, .inr (5, [.ref ma0, .int r_6.2.1, .int pts0, .int ths0, .int rgs0, .int rgc0, .int fnd0, .int rdb0, .int wdb0])), (ma0, .inl (cI, 8, .inl r_6.2.2)), (t1, .inr (5, [.ref ma1, .int mks1, .int pts1, .int ths1, .int rgs1, .int rgc1, .int fnd1, .int rdb1, .int wdb1])), (ma1, .inl (cI, 8, .inl fma1))] H := hP
          have hD : va_D A [(g, .inr (1, [.ref cl, .ref t0, .ref t1, .int r_8.1, .int r_8.2])), (cl, .inr (0, [.ref st, .ref mk, .long gn, .long ac, .long dn])), (t0, .inr (5, [.ref ma0, .int r_6.2.1, .int pts0, .int ths0, .int rgs0, .int rgc0, .int fnd0, .int rdb0, .int wdb0])), (ma0, .inl (cI, 8, .inl r_6.2.2)), (t1, .inr (5, [.ref ma1, .int mks1, .int pts1, .int ths1, .int rgs1, .int rgc1, .int fnd1, .int rdb1, .int wdb1])), (ma1, .inl (cI, 8, .inl fma1))] := hD
          refine lv_aload_n hx hb dX1_markJoint_46 rfl (lv_at hl 0 rfl) ?_
          refine va_get (D := (dC, dI)) (ci := 5) (v := .int r_6.2.1) (C := RX5) (T := TX5) (N := 9) hx hb hts iX1_markJoint_X5 hown hK hP 2 rfl rfl 1 (by decide) (hts (.fieldLink RX1 101 "TailorChalks$Tailor" "marks" "I") kX1_markJoint_101) (fun _ h9 => h9) rfl dX1_markJoint_47 ?_
          subst hres
          exact W.iret (v := r_6.2.1) hx hb hr (fun t ht hW => ⟨⟨r_6.2.1, (), rfl, rfl, (by show va_P _ _ _ t.heap; rw [ht]; exact hP)⟩, hS.F ht⟩) hS.2.2 dX1_markJoint_50
        · rw [if_pos c_7] at hres
          refine lv_bipush (v := (-4)) hx hb dX1_markJoint_39 (by decide) ?_
          subst hres
          exact W.iret (v := (-4)) hx hb hr (fun t ht hW => ⟨⟨(-4), (), rfl, rfl, (by show va_P _ _ _ t.heap; rw [ht]; exact hP)⟩, hS.F ht⟩) hS.2.2 dX1_markJoint_41
      · rw [if_neg c_5] at hres
        refine lv_bipush (v := (-5)) hx hb dX1_markJoint_28 (by decide) ?_
        subst hres
        exact W.iret (v := (-5)) hx hb hr (fun t ht hW => ⟨⟨(-5), (), rfl, rfl, (by show va_P _ _ _ t.heap; rw [ht]; exact hP)⟩, hS.F ht⟩) hS.2.2 dX1_markJoint_30
  · rw [if_neg c_1] at hres
    refine ro_callr (va_runV (As := [.int nx]) (rest := []) ⟨hx, hb, hml, hown, hts⟩ (c_Game_tailorOf l dC dI cI cC cG cZ g cl t0 t1 nx nx tn  t1 (if_neg c_1).symm) (cwV 1 hts gX1_markJoint_X1_tailorOf rfl rfl rfl (by decide +kernel) ⟨Nat.le_of_ble_eq_true rfl, Nat.le_of_ble_eq_true rfl⟩) (ro_preV (hP.sub (ws' := [(g, .inr (1, [.ref cl, .ref t0, .ref t1, .int nx, .int tn]))]) [0] rfl) hK (ci := 1) (q0 := 0) rfl rfl) rfl rfl hl.1 rfl (lv_room (Nat.le_of_ble_eq_true rfl)) dX1_markJoint_5 ⟨Nat.zero_le _, Nat.zero_le _⟩) hP hS (fun H locs hP hS => ?_)
    refine lv_astore_n (lv' := [(2, .ref t1), (0, .ref g), (1, .int joint)]) hx hb dX1_markJoint_8 rfl hl (by decide) rfl (fun ls hl => ?_)
    refine lv_aload_n hx hb dX1_markJoint_9 rfl (lv_at hl 1 rfl) ?_
    refine va_get (D := (dC, dI)) (ci := 1) (v := .ref cl) (C := RX1) (T := TX1) (N := 5) hx hb hts iX1_markJoint_X1 hown hK hP 0 rfl rfl 0 (by decide) (hts (.fieldLink RX1 12 "TailorChalks$Game" "cloth" "LTailorChalks$Cloth;") kX1_markJoint_12) (fun _ h9 => h9) rfl dX1_markJoint_10 ?_
    refine lv_iload_n hx hb dX1_markJoint_13 rfl (lv_at hl 2 rfl) ?_
    obtain ⟨r_9, hr_9⟩ : ∃ z, z = F_Cloth_holds joint ac dn := ⟨_, rfl⟩
    rw [bnd_e hr_9] at hres
    refine ro_calli (va_runV (As := [.int joint]) (rest := []) ⟨hx, hb, hml, hown, hts⟩ (c_Cloth_holds l dC dI cI cC cG cZ cl st mk joint gn ac dn  r_9 hr_9) (cwV 1 hts gX1_markJoint_X0_holds rfl rfl rfl (by decide +kernel) ⟨Nat.le_of_ble_eq_true rfl, Nat.le_of_ble_eq_true rfl⟩) (ro_preV (hP.sub (ws' := [(cl, .inr (0, [.ref st, .ref mk, .long gn, .long ac, .long dn]))]) [1] rfl) hK (ci := 0) (q0 := 0) rfl rfl) rfl rfl hl.1 rfl (lv_room (Nat.le_of_ble_eq_true rfl)) dX1_markJoint_14 ⟨Nat.zero_le _, Nat.zero_le _⟩) hP hS (fun H locs hP hS => ?_)
    refine lv_if_eq (tgt := 28) hx hb dX1_markJoint_17 (by decide) (fun c_10 => ?_) (fun c_10 => ?_)
    · rw [if_pos c_10] at hres
      refine lv_bipush (v := (-5)) hx hb dX1_markJoint_28 (by decide) ?_
      subst hres
      exact W.iret (v := (-5)) hx hb hr (fun t ht hW => ⟨⟨(-5), (), rfl, rfl, (by show va_P _ _ _ t.heap; rw [ht]; exact hP)⟩, hS.F ht⟩) hS.2.2 dX1_markJoint_30
    · rw [if_neg c_10] at hres
      refine lv_aload_n hx hb dX1_markJoint_20 rfl (lv_at hl 0 rfl) ?_
      refine lv_iload_n hx hb dX1_markJoint_21 rfl (lv_at hl 2 rfl) ?_
      obtain ⟨r_11, hr_11⟩ : ∃ z, z = F_Tailor_hasMark joint mks1 fma1 := ⟨_, rfl⟩
      rw [bnd_e hr_11] at hres
      refine ro_calli (va_runV (As := [.int joint]) (rest := []) ⟨hx, hb, hml, hown, hts⟩ (c_Tailor_hasMark l dC dI cI cC cG cZ t1 ma1 joint mks1 pts1 ths1 rgs1 rgc1 fnd1 rdb1 wdb1 fma1 hM1 r_11 hr_11) (cwV 1 hts gX1_markJoint_X5_hasMark rfl rfl rfl (by decide +kernel) ⟨Nat.le_of_ble_eq_true rfl, Nat.le_of_ble_eq_true rfl⟩) (ro_preV (hP.sub (ws' := [(t1, .inr (5, [.ref ma1, .int mks1, .int pts1, .int ths1, .int rgs1, .int rgc1, .int fnd1, .int rdb1, .int wdb1])), (ma1, .inl (cI, 8, .inl fma1))]) [4, 5] rfl) hK (ci := 5) (q0 := 0) rfl rfl) rfl rfl hl.1 rfl (lv_room (Nat.le_of_ble_eq_true rfl)) dX1_markJoint_22 ⟨Nat.zero_le _, Nat.zero_le _⟩) hP hS (fun H locs hP hS => ?_)
      refine lv_if_eq (tgt := 31) hx hb dX1_markJoint_25 (by decide) (fun c_12 => ?_) (fun c_12 => ?_)
      · rw [if_pos c_12] at hres
        refine lv_aload_n hx hb dX1_markJoint_31 rfl (lv_at hl 0 rfl) ?_
        refine lv_iload_n hx hb dX1_markJoint_32 rfl (lv_at hl 2 rfl) ?_
        obtain ⟨r_13, hr_13⟩ : ∃ z, z = F_Tailor_addMark joint mks1 fma1 := ⟨_, rfl⟩
        rw [bnd_e hr_13] at hres
        refine wr_calli (w1 := [(t1, .inr (5, [.ref ma1, .int r_13.2.1, .int pts1, .int ths1, .int rgs1, .int rgc1, .int fnd1, .int rdb1, .int wdb1])), (ma1, .inl (cI, 8, .inl r_13.2.2))]) (is := [4, 5]) (va_runV (As := [.int joint]) (rest := []) ⟨hx, hb, hml, hown, hts⟩ (c_Tailor_addMark l dC dI cI cC cG cZ t1 ma1 joint mks1 pts1 ths1 rgs1 rgc1 fnd1 rdb1 wdb1 fma1 hM1 r_13 hr_13) (cwV 1 hts gX1_markJoint_X5_addMark rfl rfl rfl (by decide +kernel) ⟨Nat.le_of_ble_eq_true rfl, Nat.le_of_ble_eq_true rfl⟩) (wr_preV (hP.sub (ws' := [(t1, .inr (5, [.ref ma1, .int mks1, .int pts1, .int ths1, .int rgs1, .int rgc1, .int fnd1, .int rdb1, .int wdb1])), (ma1, .inl (cI, 8, .inl fma1))]) [4, 5] rfl) hK (hD.sub (ws' := [(t1, .inr (5, [.ref ma1, .int mks1, .int pts1, .int ths1, .int rgs1, .int rgc1, .int fnd1, .int rdb1, .int wdb1])), (ma1, .inl (cI, 8, .inl fma1))]) [4, 5] (by decide) rfl) (ci := 5) (q0 := 0) rfl rfl) rfl rfl hl.1 rfl (lv_room (Nat.le_of_ble_eq_true rfl)) dX1_markJoint_33 ⟨Nat.zero_le _, Nat.zero_le _⟩) hP hD hS rfl rfl rfl (fun H locs hP hD hS => ?_)
        have hP : va_P (dC, dI) vwCl [(g, .inr (1, [.ref cl, .ref t0, .ref t1, .int nx, .int tn])), (cl, .inr (0, [.ref st, .ref mk, .long gn, .long ac, .long dn])), (t0, .inr (5, [.ref ma0, .int mks0, .int pts0, .int ths0, .int rgs0, .int rgc0, .int fnd0, .int rdb0, .int wdb0])), (ma0, .inl (cI, 8, .inl fma0)), (t1, .inr (5, [.ref ma1, .int r_13.2.1, .int pts1, .int ths1, .int rgs1, .int rgc1, .int fnd1, .int rdb1, .int wdb1])), (ma1, .inl (cI, 8, .inl r_13.2.2))] H := hP
        have hD : va_D A [(g, .inr (1, [.ref cl, .ref t0, .ref t1, .int nx, .int tn])), (cl, .inr (0, [.ref st, .ref mk, .long gn, .long ac, .long dn])), (t0, .inr (5, [.ref ma0, .int mks0, .int pts0, .int ths0, .int rgs0, .int rgc0, .int fnd0, .int rdb0, .int wdb0])), (ma0, .inl (cI, 8, .inl fma0)), (t1, .inr (5, [.ref ma1, .int r_13.2.1, .int pts1, .int ths1, .int rgs1, .int rgc1, .int fnd1, .int rdb1, .int wdb1])), (ma1, .inl (cI, 8, .inl r_13.2.2))] := hD
        refine lv_if_ne (tgt := 42) hx hb dX1_markJoint_36 (by decide) (fun c_14 => ?_) (fun c_14 => ?_)
        · rw [if_neg c_14] at hres
          refine lv_aload_n hx hb dX1_markJoint_42 rfl (lv_at hl 1 rfl) ?_
          obtain ⟨r_15, hr_15⟩ : ∃ z, z = F_Game_endTurn nx tn := ⟨_, rfl⟩
          rw [bnd_e hr_15] at hres
          refine wr_callv (w1 := [(g, .inr (1, [.ref cl, .ref t0, .ref t1, .int r_15.1, .int r_15.2]))]) (is := [0]) (va_runV (As := []) (rest := []) ⟨hx, hb, hml, hown, hts⟩ (c_Game_endTurn l dC dI cI cC cG cZ g cl t0 t1 nx tn  r_15 hr_15) (cwV 0 hts gX1_markJoint_X1_endTurn rfl rfl rfl (by decide +kernel) ⟨Nat.le_of_ble_eq_true rfl, Nat.le_of_ble_eq_true rfl⟩) (wr_preV (hP.sub (ws' := [(g, .inr (1, [.ref cl, .ref t0, .ref t1, .int nx, .int tn]))]) [0] rfl) hK (hD.sub (ws' := [(g, .inr (1, [.ref cl, .ref t0, .ref t1, .int nx, .int tn]))]) [0] (by decide) rfl) (ci := 1) (q0 := 0) rfl rfl) rfl rfl hl.1 rfl (lv_room (Nat.le_of_ble_eq_true rfl)) dX1_markJoint_43 ⟨Nat.zero_le _, Nat.zero_le _⟩) hP hD hS rfl rfl rfl (fun H locs hP hD hS => ?_)
          have hP : va_P (dC, dI) vwCl [(g, .inr (1, [.ref cl, .ref t0, .ref t1, .int r_15.1, .int r_15.2])), (cl, .inr (0, [.ref st, .ref mk, .long gn, .long ac, .long dn])), (t0, .inr (5, [.ref ma0, .int mks0, .int pts0, .int ths0, .int rgs0, .int rgc0, .int fnd0, .int rdb0, .int wdb0])), (ma0, .inl (cI, 8, .inl fma0)), (t1, .inr (5, [.ref ma1, .int r_13.2.1, .int pts1, .int ths1, .int rgs1, .int rgc1, .int fnd1, .int rdb1, .int wdb1])), (ma1, .inl (cI, 8, .inl r_13.2.2))] H := hP
          have hD : va_D A [(g, .inr (1, [.ref cl, .ref t0, .ref t1, .int r_15.1, .int r_15.2])), (cl, .inr (0, [.ref st, .ref mk, .long gn, .long ac, .long dn])), (t0, .inr (5, [.ref ma0, .int mks0, .int pts0, .int ths0, .int rgs0, .int rgc0, .int fnd0, .int rdb0, .int wdb0])), (ma0, .inl (cI, 8, .inl fma0)), (t1, .inr (5, [.ref ma1, .int r_13.2.1, .int pts1, .int ths1, .int rgs1, .int rgc1, .int fnd1, .int rdb1, .int wdb1])), (ma1, .inl (cI, 8, .inl r_13.2.2))] := hD
          refine lv_aload_n hx hb dX1_markJoint_46 rfl (lv_at hl 0 rfl) ?_
          refine va_get (D := (dC, dI)) (ci := 5) (v := .int r_13.2.1) (C := RX5) (T := TX5) (N := 9) hx hb hts iX1_markJoint_X5 hown hK hP 4 rfl rfl 1 (by decide) (hts (.fieldLink RX1 101 "TailorChalks$Tailor" "marks" "I") kX1_markJoint_101) (fun _ h9 => h9) rfl dX1_markJoint_47 ?_
          subst hres
          exact W.iret (v := r_13.2.1) hx hb hr (fun t ht hW => ⟨⟨r_13.2.1, (), rfl, rfl, (by show va_P _ _ _ t.heap; rw [ht]; exact hP)⟩, hS.F ht⟩) hS.2.2 dX1_markJoint_50
        · rw [if_pos c_14] at hres
          refine lv_bipush (v := (-4)) hx hb dX1_markJoint_39 (by decide) ?_
          subst hres
          exact W.iret (v := (-4)) hx hb hr (fun t ht hW => ⟨⟨(-4), (), rfl, rfl, (by show va_P _ _ _ t.heap; rw [ht]; exact hP)⟩, hS.F ht⟩) hS.2.2 dX1_markJoint_41
      · rw [if_neg c_12] at hres
        refine lv_bipush (v := (-5)) hx hb dX1_markJoint_28 (by decide) ?_
        subst hres
        exact W.iret (v := (-5)) hx hb hr (fun t ht hW => ⟨⟨(-5), (), rfl, rfl, (by show va_P _ _ _ t.heap; rw [ht]; exact hP)⟩, hS.F ht⟩) hS.2.2 dX1_markJoint_30
theorem iX1_dropMarks_X1 : ∀ w ∈ u_ws RX1 TX1 5, w ∈ wsX1_dropMarks := by decide +kernel
theorem kX1_dropMarks_21 : Cond.fieldLink RX1 21 "TailorChalks$Game" "tailorZero" "LTailorChalks$Tailor;" ∈ wsX1_dropMarks := by decide +kernel
theorem kX1_dropMarks_25 : Cond.fieldLink RX1 25 "TailorChalks$Game" "tailorOne" "LTailorChalks$Tailor;" ∈ wsX1_dropMarks := by decide +kernel
def F_Game_dropMarks (joint : Int32) (mks0 : Int32) (fma0 : Nat → Int32) (mks1 : Int32) (fma1 : Nat → Int32) : Int32 × (Nat → Int32) × Int32 × (Nat → Int32) := (bnd (F_Tailor_dropMark joint mks0 fma0) (fun r_1 => (bnd (F_Tailor_dropMark joint mks1 fma1) (fun r_2 => (r_1.1, r_1.2, r_2.1, r_2.2)))))
set_option maxHeartbeats 4000000 in
set_option maxRecDepth 100000 in
theorem c_Game_dropMarks (l : Launch) (dC : Nat → ClassId) (dI : Nat → Nat → Nat) (cI cC cG cZ : ClassId) (g cl t0 t1 ma0 ma1 : Nat) (joint : Int32) (nx : Int32) (tn : Int32) (mks0 : Int32) (pts0 : Int32) (ths0 : Int32) (rgs0 : Int32) (rgc0 : Int32) (fnd0 : Int32) (rdb0 : Int32) (wdb0 : Int32) (fma0 : Nat → Int32) (mks1 : Int32) (pts1 : Int32) (ths1 : Int32) (rgs1 : Int32) (rgc1 : Int32) (fnd1 : Int32) (rdb1 : Int32) (wdb1 : Int32) (fma1 : Nat → Int32) (hM0 : tm_ok 8 mks0) (hM1 : tm_ok 8 mks1) (res : Int32 × (Nat → Int32) × Int32 × (Nat → Int32)) (hres : res = F_Game_dropMarks joint mks0 fma0 mks1 fma1) : Met l yX1_dropMarks wsX1_dropMarks ({ frames := 1, cells := 0, slots := 0, locals := 23 }) (va_Pc [.ref g, .int joint] (wr_P (dC, dI) vwCl (tyL cI cC cG cZ) [(g, .inr (1, [.ref cl, .ref t0, .ref t1, .int nx, .int tn])), (t0, .inr (5, [.ref ma0, .int mks0, .int pts0, .int ths0, .int rgs0, .int rgc0, .int fnd0, .int rdb0, .int wdb0])), (ma0, .inl (cI, 8, .inl fma0)), (t1, .inr (5, [.ref ma1, .int mks1, .int pts1, .int ths1, .int rgs1, .int rgc1, .int fnd1, .int rdb1, .int wdb1])), (ma1, .inl (cI, 8, .inl fma1))])) (va_Qv (fun (_ : Unit) => True) (fun _ zt => va_P (dC, dI) vwCl [(g, .inr (1, [.ref cl, .ref t0, .ref t1, .int nx, .int tn])), (t0, .inr (5, [.ref ma0, .int res.1, .int pts0, .int ths0, .int rgs0, .int rgc0, .int fnd0, .int rdb0, .int wdb0])), (ma0, .inl (cI, 8, .inl res.2.1)), (t1, .inr (5, [.ref ma1, .int res.2.2.1, .int pts1, .int ths1, .int rgs1, .int rgc1, .int fnd1, .int rdb1, .int wdb1])), (ma1, .inl (cI, 8, .inl res.2.2.2))] zt.heap) (wr_A [(g, .inr (1, [.ref cl, .ref t0, .ref t1, .int nx, .int tn])), (t0, .inr (5, [.ref ma0, .int mks0, .int pts0, .int ths0, .int rgs0, .int rgc0, .int fnd0, .int rdb0, .int wdb0])), (ma0, .inl (cI, 8, .inl fma0)), (t1, .inr (5, [.ref ma1, .int mks1, .int pts1, .int ths1, .int rgs1, .int rgc1, .int fnd1, .int rdb1, .int wdb1])), (ma1, .inl (cI, 8, .inl fma1))])) 0 0 (wr_A [(g, .inr (1, [.ref cl, .ref t0, .ref t1, .int nx, .int tn])), (t0, .inr (5, [.ref ma0, .int mks0, .int pts0, .int ths0, .int rgs0, .int rgc0, .int fnd0, .int rdb0, .int wdb0])), (ma0, .inl (cI, 8, .inl fma0)), (t1, .inr (5, [.ref ma1, .int mks1, .int pts1, .int ths1, .int rgs1, .int rgc1, .int fnd1, .int rdb1, .int wdb1])), (ma1, .inl (cI, 8, .inl fma1))]) := by
  refine Met.ofW (cc := cX1_dropMarks) (maxL := 2) (ret := none) (by decide) rfl ?_
  intro p e s m args below meth c s₁ B hml hv
  obtain ⟨rfl, hP, hK, hD0⟩ := hv
  have hx := B.exec
  have hb := B.bytes
  have hr := B.returns
  have hts := atoms_spec (ws := wsX1_dropMarks) B.pre
  have hown : s.vm.findClass RX1 = some m.cls := findClass_of_methodNamed B.named
  have hlocks := B.notSynchronized
  have hD := wr_self hD0
  generalize hAe : wr_A [(g, .inr (1, [.ref cl, .ref t0, .ref t1, .int nx, .int tn])), (t0, .inr (5, [.ref ma0, .int mks0, .int pts0, .int ths0, .int rgs0, .int rgc0, .int fnd0, .int rdb0, .int wdb0])), (ma0, .inl (cI, 8, .inl fma0)), (t1, .inr (5, [.ref ma1, .int mks1, .int pts1, .int ths1, .int rgs1, .int rgc1, .int fnd1, .int rdb1, .int wdb1])), (ma1, .inl (cI, 8, .inl fma1))] = A at hD ⊢
  have hS : va_S A s.heap s.heap [] := va_S.rf
  have hP : va_P (dC, dI) vwCl [(g, .inr (1, [.ref cl, .ref t0, .ref t1, .int nx, .int tn])), (t0, .inr (5, [.ref ma0, .int mks0, .int pts0, .int ths0, .int rgs0, .int rgc0, .int fnd0, .int rdb0, .int wdb0])), (ma0, .inl (cI, 8, .inl fma0)), (t1, .inr (5, [.ref ma1, .int mks1, .int pts1, .int ths1, .int rgs1, .int rgc1, .int fnd1, .int rdb1, .int wdb1])), (ma1, .inl (cI, 8, .inl fma1))] s.heap := hP
  have hl := lv_entry ([.ref g, .int joint]) (n := 2) (Nat.le_of_ble_eq_true rfl)
  rw [lg_entry_eq]
  generalize (lg_sl ([.ref g, .int joint]) ++ List.replicate (2 - (lg_sl ([.ref g, .int joint])).length) Slot.unset).toArray = ls at hl ⊢
  have hl : lv_has ls 2 [(0, .ref g), (1, .int joint)] := hl
  rw [F_Game_dropMarks] at hres
  refine lv_aload_n hx hb dX1_dropMarks_0 rfl (lv_at hl 0 rfl) ?_
  refine va_get (D := (dC, dI)) (ci := 1) (v := .ref t0) (C := RX1) (T := TX1) (N := 5) hx hb hts iX1_dropMarks_X1 hown hK hP 0 rfl rfl 1 (by decide) (hts (.fieldLink RX1 21 "TailorChalks$Game" "tailorZero" "LTailorChalks$Tailor;") kX1_dropMarks_21) (fun _ h9 => h9) rfl dX1_dropMarks_1 ?_
  refine lv_iload_n hx hb dX1_dropMarks_4 rfl (lv_at hl 1 rfl) ?_
  obtain ⟨r_1, hr_1⟩ : ∃ z, z = F_Tailor_dropMark joint mks0 fma0 := ⟨_, rfl⟩
  rw [bnd_e hr_1] at hres
  refine wr_callv (w1 := [(t0, .inr (5, [.ref ma0, .int r_1.1, .int pts0, .int ths0, .int rgs0, .int rgc0, .int fnd0, .int rdb0, .int wdb0])), (ma0, .inl (cI, 8, .inl r_1.2))]) (is := [1, 2]) (va_runV (As := [.int joint]) (rest := []) ⟨hx, hb, hml, hown, hts⟩ (c_Tailor_dropMark l dC dI cI cC cG cZ t0 ma0 joint mks0 pts0 ths0 rgs0 rgc0 fnd0 rdb0 wdb0 fma0 hM0 r_1 hr_1) (cwV 1 hts gX1_dropMarks_X5_dropMark rfl rfl rfl (by decide +kernel) ⟨Nat.le_of_ble_eq_true rfl, Nat.le_of_ble_eq_true rfl⟩) (wr_preV (hP.sub (ws' := [(t0, .inr (5, [.ref ma0, .int mks0, .int pts0, .int ths0, .int rgs0, .int rgc0, .int fnd0, .int rdb0, .int wdb0])), (ma0, .inl (cI, 8, .inl fma0))]) [1, 2] rfl) hK (hD.sub (ws' := [(t0, .inr (5, [.ref ma0, .int mks0, .int pts0, .int ths0, .int rgs0, .int rgc0, .int fnd0, .int rdb0, .int wdb0])), (ma0, .inl (cI, 8, .inl fma0))]) [1, 2] (by decide) rfl) (ci := 5) (q0 := 0) rfl rfl) rfl rfl hl.1 rfl (lv_room (Nat.le_of_ble_eq_true rfl)) dX1_dropMarks_5 ⟨Nat.zero_le _, Nat.zero_le _⟩) hP hD hS rfl rfl rfl (fun H locs hP hD hS => ?_)
  have hP : va_P (dC, dI) vwCl [(g, .inr (1, [.ref cl, .ref t0, .ref t1, .int nx, .int tn])), (t0, .inr (5, [.ref ma0, .int r_1.1, .int pts0, .int ths0, .int rgs0, .int rgc0, .int fnd0, .int rdb0, .int wdb0])), (ma0, .inl (cI, 8, .inl r_1.2)), (t1, .inr (5, [.ref ma1, .int mks1, .int pts1, .int ths1, .int rgs1, .int rgc1, .int fnd1, .int rdb1, .int wdb1])), (ma1, .inl (cI, 8, .inl fma1))] H := hP
  have hD : va_D A [(g, .inr (1, [.ref cl, .ref t0, .ref t1, .int nx, .int tn])), (t0, .inr (5, [.ref ma0, .int r_1.1, .int pts0, .int ths0, .int rgs0, .int rgc0, .int fnd0, .int rdb0, .int wdb0])), (ma0, .inl (cI, 8, .inl r_1.2)), (t1, .inr (5, [.ref ma1, .int mks1, .int pts1, .int ths1, .int rgs1, .int rgc1, .int fnd1, .int rdb1, .int wdb1])), (ma1, .inl (cI, 8, .inl fma1))] := hD
  refine lv_aload_n hx hb dX1_dropMarks_8 rfl (lv_at hl 0 rfl) ?_
  refine va_get (D := (dC, dI)) (ci := 1) (v := .ref t1) (C := RX1) (T := TX1) (N := 5) hx hb hts iX1_dropMarks_X1 hown hK hP 0 rfl rfl 2 (by decide) (hts (.fieldLink RX1 25 "TailorChalks$Game" "tailorOne" "LTailorChalks$Tailor;") kX1_dropMarks_25) (fun _ h9 => h9) rfl dX1_dropMarks_9 ?_
  refine lv_iload_n hx hb dX1_dropMarks_12 rfl (lv_at hl 1 rfl) ?_
  obtain ⟨r_2, hr_2⟩ : ∃ z, z = F_Tailor_dropMark joint mks1 fma1 := ⟨_, rfl⟩
  rw [bnd_e hr_2] at hres
  refine wr_callv (w1 := [(t1, .inr (5, [.ref ma1, .int r_2.1, .int pts1, .int ths1, .int rgs1, .int rgc1, .int fnd1, .int rdb1, .int wdb1])), (ma1, .inl (cI, 8, .inl r_2.2))]) (is := [3, 4]) (va_runV (As := [.int joint]) (rest := []) ⟨hx, hb, hml, hown, hts⟩ (c_Tailor_dropMark l dC dI cI cC cG cZ t1 ma1 joint mks1 pts1 ths1 rgs1 rgc1 fnd1 rdb1 wdb1 fma1 hM1 r_2 hr_2) (cwV 1 hts gX1_dropMarks_X5_dropMark rfl rfl rfl (by decide +kernel) ⟨Nat.le_of_ble_eq_true rfl, Nat.le_of_ble_eq_true rfl⟩) (wr_preV (hP.sub (ws' := [(t1, .inr (5, [.ref ma1, .int mks1, .int pts1, .int ths1, .int rgs1, .int rgc1, .int fnd1, .int rdb1, .int wdb1])), (ma1, .inl (cI, 8, .inl fma1))]) [3, 4] rfl) hK (hD.sub (ws' := [(t1, .inr (5, [.ref ma1, .int mks1, .int pts1, .int ths1, .int rgs1, .int rgc1, .int fnd1, .int rdb1, .int wdb1])), (ma1, .inl (cI, 8, .inl fma1))]) [3, 4] (by decide) rfl) (ci := 5) (q0 := 0) rfl rfl) rfl rfl hl.1 rfl (lv_room (Nat.le_of_ble_eq_true rfl)) dX1_dropMarks_13 ⟨Nat.zero_le _, Nat.zero_le _⟩) hP hD hS rfl rfl rfl (fun H locs hP hD hS => ?_)
  have hP : va_P (dC, dI) vwCl [(g, .inr (1, [.ref cl, .ref t0, .ref t1, .int nx, .int tn])), (t0, .inr (5, [.ref ma0, .int r_1.1, .int pts0, .int ths0, .int rgs0, .int rgc0, .int fnd0, .int rdb0, .int wdb0])), (ma0, .inl (cI, 8, .inl r_1.2)), (t1, .inr (5, [.ref ma1, .int r_2.1, .int pts1, .int ths1, .int rgs1, .int rgc1, .int fnd1, .int rdb1, .int wdb1])), (ma1, .inl (cI, 8, .inl r_2.2))] H := hP
  have hD : va_D A [(g, .inr (1, [.ref cl, .ref t0, .ref t1, .int nx, .int tn])), (t0, .inr (5, [.ref ma0, .int r_1.1, .int pts0, .int ths0, .int rgs0, .int rgc0, .int fnd0, .int rdb0, .int wdb0])), (ma0, .inl (cI, 8, .inl r_1.2)), (t1, .inr (5, [.ref ma1, .int r_2.1, .int pts1, .int ths1, .int rgs1, .int rgc1, .int fnd1, .int rdb1, .int wdb1])), (ma1, .inl (cI, 8, .inl r_2.2))] := hD
  subst hres
  exact W.vret hx hb hr (fun t ht hW => ⟨⟨(), rfl, trivial, (by show va_P _ _ _ t.heap; rw [ht]; exact hP)⟩, hS.F ht⟩) hS.2.2 dX1_dropMarks_16
theorem dropMarks_ok0 {joint mks0 mks1 : Int32} {fma0 fma1 : Nat → Int32} (h : tm_ok 8 mks0) : tm_ok 8 (F_Game_dropMarks joint mks0 fma0 mks1 fma1).1 := dropMark_ok h
theorem dropMarks_ok1 {joint mks0 mks1 : Int32} {fma0 fma1 : Nat → Int32} (h : tm_ok 8 mks1) : tm_ok 8 (F_Game_dropMarks joint mks0 fma0 mks1 fma1).2.2.1 := dropMark_ok h
theorem iX1_findChalk_X1 : ∀ w ∈ u_ws RX1 TX1 5, w ∈ wsX1_findChalk := by decide +kernel
theorem iX1_findChalk_X5 : ∀ w ∈ u_ws RX5 TX5 9, w ∈ wsX1_findChalk := by decide +kernel
theorem kX1_findChalk_129 : Cond.fieldLink RX1 129 "TailorChalks$Tailor" "found" "I" ∈ wsX1_findChalk := by decide +kernel
theorem kX1_findChalk_35 : Cond.fieldLink RX1 35 "TailorChalks$Game" "next" "I" ∈ wsX1_findChalk := by decide +kernel
theorem kX1_findChalk_50 : Cond.fieldLink RX1 50 "TailorChalks$Tailor" "points" "I" ∈ wsX1_findChalk := by decide +kernel
def F_Game_findChalk (joint : Int32) (nx : Int32) (mks0 : Int32) (pts0 : Int32) (fnd0 : Int32) (fma0 : Nat → Int32) (mks1 : Int32) (pts1 : Int32) (fnd1 : Int32) (fma1 : Nat → Int32) : Int32 × Int32 × Int32 × (Nat → Int32) × Int32 × Int32 × Int32 × (Nat → Int32) := (if nx = 0 then (if ((1 : Int32) - nx) = 0 then (bnd (F_Tailor_hasMark joint mks0 fma0) (fun r_3 => (if r_3 = 0 then (bnd (F_Tailor_hasMark joint mks0 fma0) (fun r_5 => (if r_5 = 0 then (bnd (F_Game_dropMarks joint mks0 fma0 mks1 fma1) (fun r_7 => (r_7.1, pts0, fnd0, r_7.2.1, r_7.2.2.1, pts1, fnd1, r_7.2.2.2))) else (bnd (F_Game_dropMarks joint mks0 fma0 mks1 fma1) (fun r_8 => (r_8.1, (pts0 + 1), fnd0, r_8.2.1, r_8.2.2.1, pts1, fnd1, r_8.2.2.2)))))) else (bnd (F_Tailor_hasMark joint mks0 fma0) (fun r_9 => (if r_9 = 0 then (bnd (F_Game_dropMarks joint mks0 fma0 mks1 fma1) (fun r_11 => (r_11.1, (pts0 - 3), (fnd0 + 1), r_11.2.1, r_11.2.2.1, pts1, fnd1, r_11.2.2.2))) else (bnd (F_Game_dropMarks joint mks0 fma0 mks1 fma1) (fun r_12 => (r_12.1, ((pts0 - 3) + 1), (fnd0 + 1), r_12.2.1, r_12.2.2.1, pts1, fnd1, r_12.2.2.2))))))))) else (bnd (F_Tailor_hasMark joint mks1 fma1) (fun r_13 => (if r_13 = 0 then (bnd (F_Tailor_hasMark joint mks0 fma0) (fun r_15 => (if r_15 = 0 then (bnd (F_Game_dropMarks joint mks0 fma0 mks1 fma1) (fun r_17 => (r_17.1, pts0, fnd0, r_17.2.1, r_17.2.2.1, pts1, fnd1, r_17.2.2.2))) else (bnd (F_Game_dropMarks joint mks0 fma0 mks1 fma1) (fun r_18 => (r_18.1, (pts0 + 1), fnd0, r_18.2.1, r_18.2.2.1, pts1, fnd1, r_18.2.2.2)))))) else (bnd (F_Tailor_hasMark joint mks0 fma0) (fun r_19 => (if r_19 = 0 then (bnd (F_Game_dropMarks joint mks0 fma0 mks1 fma1) (fun r_21 => (r_21.1, (pts0 - 3), (fnd0 + 1), r_21.2.1, r_21.2.2.1, pts1, fnd1, r_21.2.2.2))) else (bnd (F_Game_dropMarks joint mks0 fma0 mks1 fma1) (fun r_22 => (r_22.1, ((pts0 - 3) + 1), (fnd0 + 1), r_22.2.1, r_22.2.2.1, pts1, fnd1, r_22.2.2.2)))))))))) else (if ((1 : Int32) - nx) = 0 then (bnd (F_Tailor_hasMark joint mks0 fma0) (fun r_24 => (if r_24 = 0 then (bnd (F_Tailor_hasMark joint mks1 fma1) (fun r_26 => (if r_26 = 0 then (bnd (F_Game_dropMarks joint mks0 fma0 mks1 fma1) (fun r_28 => (r_28.1, pts0, fnd0, r_28.2.1, r_28.2.2.1, pts1, fnd1, r_28.2.2.2))) else (bnd (F_Game_dropMarks joint mks0 fma0 mks1 fma1) (fun r_29 => (r_29.1, pts0, fnd0, r_29.2.1, r_29.2.2.1, (pts1 + 1), fnd1, r_29.2.2.2)))))) else (bnd (F_Tailor_hasMark joint mks1 fma1) (fun r_30 => (if r_30 = 0 then (bnd (F_Game_dropMarks joint mks0 fma0 mks1 fma1) (fun r_32 => (r_32.1, pts0, fnd0, r_32.2.1, r_32.2.2.1, (pts1 - 3), (fnd1 + 1), r_32.2.2.2))) else (bnd (F_Game_dropMarks joint mks0 fma0 mks1 fma1) (fun r_33 => (r_33.1, pts0, fnd0, r_33.2.1, r_33.2.2.1, ((pts1 - 3) + 1), (fnd1 + 1), r_33.2.2.2))))))))) else (bnd (F_Tailor_hasMark joint mks1 fma1) (fun r_34 => (if r_34 = 0 then (bnd (F_Tailor_hasMark joint mks1 fma1) (fun r_36 => (if r_36 = 0 then (bnd (F_Game_dropMarks joint mks0 fma0 mks1 fma1) (fun r_38 => (r_38.1, pts0, fnd0, r_38.2.1, r_38.2.2.1, pts1, fnd1, r_38.2.2.2))) else (bnd (F_Game_dropMarks joint mks0 fma0 mks1 fma1) (fun r_39 => (r_39.1, pts0, fnd0, r_39.2.1, r_39.2.2.1, (pts1 + 1), fnd1, r_39.2.2.2)))))) else (bnd (F_Tailor_hasMark joint mks1 fma1) (fun r_40 => (if r_40 = 0 then (bnd (F_Game_dropMarks joint mks0 fma0 mks1 fma1) (fun r_42 => (r_42.1, pts0, fnd0, r_42.2.1, r_42.2.2.1, (pts1 - 3), (fnd1 + 1), r_42.2.2.2))) else (bnd (F_Game_dropMarks joint mks0 fma0 mks1 fma1) (fun r_43 => (r_43.1, pts0, fnd0, r_43.2.1, r_43.2.2.1, ((pts1 - 3) + 1), (fnd1 + 1), r_43.2.2.2)))))))))))
set_option maxHeartbeats 4000000 in
set_option maxRecDepth 100000 in
theorem c_Game_findChalk (l : Launch) (dC : Nat → ClassId) (dI : Nat → Nat → Nat) (cI cC cG cZ : ClassId) (g cl t0 t1 ma0 ma1 : Nat) (joint : Int32) (nx : Int32) (tn : Int32) (mks0 : Int32) (pts0 : Int32) (ths0 : Int32) (rgs0 : Int32) (rgc0 : Int32) (fnd0 : Int32) (rdb0 : Int32) (wdb0 : Int32) (fma0 : Nat → Int32) (mks1 : Int32) (pts1 : Int32) (ths1 : Int32) (rgs1 : Int32) (rgc1 : Int32) (fnd1 : Int32) (rdb1 : Int32) (wdb1 : Int32) (fma1 : Nat → Int32) (hM0 : tm_ok 8 mks0) (hM1 : tm_ok 8 mks1) (res : Int32 × Int32 × Int32 × (Nat → Int32) × Int32 × Int32 × Int32 × (Nat → Int32)) (hres : res = F_Game_findChalk joint nx mks0 pts0 fnd0 fma0 mks1 pts1 fnd1 fma1) : Met l yX1_findChalk wsX1_findChalk ({ frames := 2, cells := 0, slots := 0, locals := 44 }) (va_Pc [.ref g, .int joint] (wr_P (dC, dI) vwCl (tyL cI cC cG cZ) [(g, .inr (1, [.ref cl, .ref t0, .ref t1, .int nx, .int tn])), (t0, .inr (5, [.ref ma0, .int mks0, .int pts0, .int ths0, .int rgs0, .int rgc0, .int fnd0, .int rdb0, .int wdb0])), (ma0, .inl (cI, 8, .inl fma0)), (t1, .inr (5, [.ref ma1, .int mks1, .int pts1, .int ths1, .int rgs1, .int rgc1, .int fnd1, .int rdb1, .int wdb1])), (ma1, .inl (cI, 8, .inl fma1))])) (va_Qv (fun (_ : Unit) => True) (fun _ zt => va_P (dC, dI) vwCl [(g, .inr (1, [.ref cl, .ref t0, .ref t1, .int nx, .int tn])), (t0, .inr (5, [.ref ma0, .int res.1, .int res.2.1, .int ths0, .int rgs0, .int rgc0, .int res.2.2.1, .int rdb0, .int wdb0])), (ma0, .inl (cI, 8, .inl res.2.2.2.1)), (t1, .inr (5, [.ref ma1, .int res.2.2.2.2.1, .int res.2.2.2.2.2.1, .int ths1, .int rgs1, .int rgc1, .int res.2.2.2.2.2.2.1, .int rdb1, .int wdb1])), (ma1, .inl (cI, 8, .inl res.2.2.2.2.2.2.2))] zt.heap) (wr_A [(g, .inr (1, [.ref cl, .ref t0, .ref t1, .int nx, .int tn])), (t0, .inr (5, [.ref ma0, .int mks0, .int pts0, .int ths0, .int rgs0, .int rgc0, .int fnd0, .int rdb0, .int wdb0])), (ma0, .inl (cI, 8, .inl fma0)), (t1, .inr (5, [.ref ma1, .int mks1, .int pts1, .int ths1, .int rgs1, .int rgc1, .int fnd1, .int rdb1, .int wdb1])), (ma1, .inl (cI, 8, .inl fma1))])) 0 0 (wr_A [(g, .inr (1, [.ref cl, .ref t0, .ref t1, .int nx, .int tn])), (t0, .inr (5, [.ref ma0, .int mks0, .int pts0, .int ths0, .int rgs0, .int rgc0, .int fnd0, .int rdb0, .int wdb0])), (ma0, .inl (cI, 8, .inl fma0)), (t1, .inr (5, [.ref ma1, .int mks1, .int pts1, .int ths1, .int rgs1, .int rgc1, .int fnd1, .int rdb1, .int wdb1])), (ma1, .inl (cI, 8, .inl fma1))]) := by
  refine Met.ofW (cc := cX1_findChalk) (maxL := 4) (ret := none) (by decide) rfl ?_
  intro p e s m args below meth c s₁ B hml hv
  obtain ⟨rfl, hP, hK, hD0⟩ := hv
  have hx := B.exec
  have hb := B.bytes
  have hr := B.returns
  have hts := atoms_spec (ws := wsX1_findChalk) B.pre
  have hown : s.vm.findClass RX1 = some m.cls := findClass_of_methodNamed B.named
  have hlocks := B.notSynchronized
  have hD := wr_self hD0
  generalize hAe : wr_A [(g, .inr (1, [.ref cl, .ref t0, .ref t1, .int nx, .int tn])), (t0, .inr (5, [.ref ma0, .int mks0, .int pts0, .int ths0, .int rgs0, .int rgc0, .int fnd0, .int rdb0, .int wdb0])), (ma0, .inl (cI, 8, .inl fma0)), (t1, .inr (5, [.ref ma1, .int mks1, .int pts1, .int ths1, .int rgs1, .int rgc1, .int fnd1, .int rdb1, .int wdb1])), (ma1, .inl (cI, 8, .inl fma1))] = A at hD ⊢
  have hS : va_S A s.heap s.heap [] := va_S.rf
  have hP : va_P (dC, dI) vwCl [(g, .inr (1, [.ref cl, .ref t0, .ref t1, .int nx, .int tn])), (t0, .inr (5, [.ref ma0, .int mks0, .int pts0, .int ths0, .int rgs0, .int rgc0, .int fnd0, .int rdb0, .int wdb0])), (ma0, .inl (cI, 8, .inl fma0)), (t1, .inr (5, [.ref ma1, .int mks1, .int pts1, .int ths1, .int rgs1, .int rgc1, .int fnd1, .int rdb1, .int wdb1])), (ma1, .inl (cI, 8, .inl fma1))] s.heap := hP
  have hl := lv_entry ([.ref g, .int joint]) (n := 4) (Nat.le_of_ble_eq_true rfl)
  rw [lg_entry_eq]
  generalize (lg_sl ([.ref g, .int joint]) ++ List.replicate (4 - (lg_sl ([.ref g, .int joint])).length) Slot.unset).toArray = ls at hl ⊢
  have hl : lv_has ls 4 [(0, .ref g), (1, .int joint)] := hl
  rw [F_Game_findChalk] at hres
  refine lv_aload_n hx hb dX1_findChalk_0 rfl (lv_at hl 0 rfl) ?_
  refine lv_aload_n hx hb dX1_findChalk_1 rfl (lv_at hl 0 rfl) ?_
  refine va_get (D := (dC, dI)) (ci := 1) (v := .int nx) (C := RX1) (T := TX1) (N := 5) hx hb hts iX1_findChalk_X1 hown hK hP 0 rfl rfl 3 (by decide) (hts (.fieldLink RX1 35 "TailorChalks$Game" "next" "I") kX1_findChalk_35) (fun _ h9 => h9) rfl dX1_findChalk_2 ?_
  by_cases c_1 : nx = 0
  · rw [if_pos c_1] at hres
    refine ro_callr (va_runV (As := [.int nx]) (rest := []) ⟨hx, hb, hml, hown, hts⟩ (c_Game_tailorOf l dC dI cI cC cG cZ g cl t0 t1 nx nx tn  t0 (if_pos c_1).symm) (cwV 1 hts gX1_findChalk_X1_tailorOf rfl rfl rfl (by decide +kernel) ⟨Nat.le_of_ble_eq_true rfl, Nat.le_of_ble_eq_true rfl⟩) (ro_preV (hP.sub (ws' := [(g, .inr (1, [.ref cl, .ref t0, .ref t1, .int nx, .int tn]))]) [0] rfl) hK (ci := 1) (q0 := 0) rfl rfl) rfl rfl hl.1 rfl (lv_room (Nat.le_of_ble_eq_true rfl)) dX1_findChalk_5 ⟨Nat.zero_le _, Nat.zero_le _⟩) hP hS (fun H locs hP hS => ?_)
    refine lv_astore_n (lv' := [(2, .ref t0), (0, .ref g), (1, .int joint)]) hx hb dX1_findChalk_8 rfl hl (by decide) rfl (fun ls hl => ?_)
    refine lv_aload_n hx hb dX1_findChalk_9 rfl (lv_at hl 1 rfl) ?_
    refine lv_iconst (v := 1) hx hb dX1_findChalk_10 (by decide) ?_
    refine lv_aload_n hx hb dX1_findChalk_11 rfl (lv_at hl 1 rfl) ?_
    refine va_get (D := (dC, dI)) (ci := 1) (v := .int nx) (C := RX1) (T := TX1) (N := 5) hx hb hts iX1_findChalk_X1 hown hK hP 0 rfl rfl 3 (by decide) (hts (.fieldLink RX1 35 "TailorChalks$Game" "next" "I") kX1_findChalk_35) (fun _ h9 => h9) rfl dX1_findChalk_12 ?_
    refine lv_isub hx hb dX1_findChalk_15 ?_
    by_cases c_2 : ((1 : Int32) - nx) = 0
    · rw [if_pos c_2] at hres
      refine ro_callr (va_runV (As := [.int ((1 : Int32) - nx)]) (rest := []) ⟨hx, hb, hml, hown, hts⟩ (c_Game_tailorOf l dC dI cI cC cG cZ g cl t0 t1 ((1 : Int32) - nx) nx tn  t0 (if_pos c_2).symm) (cwV 1 hts gX1_findChalk_X1_tailorOf rfl rfl rfl (by decide +kernel) ⟨Nat.le_of_ble_eq_true rfl, Nat.le_of_ble_eq_true rfl⟩) (ro_preV (hP.sub (ws' := [(g, .inr (1, [.ref cl, .ref t0, .ref t1, .int nx, .int tn]))]) [0] rfl) hK (ci := 1) (q0 := 0) rfl rfl) rfl rfl hl.1 rfl (lv_room (Nat.le_of_ble_eq_true rfl)) dX1_findChalk_16 ⟨Nat.zero_le _, Nat.zero_le _⟩) hP hS (fun H locs hP hS => ?_)
      refine lv_astore_n (lv' := [(3, .ref t0), (2, .ref t0), (0, .ref g), (1, .int joint)]) hx hb dX1_findChalk_19 rfl hl (by decide) rfl (fun ls hl => ?_)
      refine lv_aload_n hx hb dX1_findChalk_20 rfl (lv_at hl 0 rfl) ?_
      refine lv_iload_n hx hb dX1_findChalk_21 rfl (lv_at hl 3 rfl) ?_
      obtain ⟨r_3, hr_3⟩ : ∃ z, z = F_Tailor_hasMark joint mks0 fma0 := ⟨_, rfl⟩
      rw [bnd_e hr_3] at hres
      refine ro_calli (va_runV (As := [.int joint]) (rest := []) ⟨hx, hb, hml, hown, hts⟩ (c_Tailor_hasMark l dC dI cI cC cG cZ t0 ma0 joint mks0 pts0 ths0 rgs0 rgc0 fnd0 rdb0 wdb0 fma0 hM0 r_3 hr_3) (cwV 1 hts gX1_findChalk_X5_hasMark rfl rfl rfl (by decide +kernel) ⟨Nat.le_of_ble_eq_true rfl, Nat.le_of_ble_eq_true rfl⟩) (ro_preV (hP.sub (ws' := [(t0, .inr (5, [.ref ma0, .int mks0, .int pts0, .int ths0, .int rgs0, .int rgc0, .int fnd0, .int rdb0, .int wdb0])), (ma0, .inl (cI, 8, .inl fma0))]) [1, 2] rfl) hK (ci := 5) (q0 := 0) rfl rfl) rfl rfl hl.1 rfl (lv_room (Nat.le_of_ble_eq_true rfl)) dX1_findChalk_22 ⟨Nat.zero_le _, Nat.zero_le _⟩) hP hS (fun H locs hP hS => ?_)
      refine lv_if_eq (tgt := 48) hx hb dX1_findChalk_25 (by decide) (fun c_4 => ?_) (fun c_4 => ?_)
      · rw [if_pos c_4] at hres
        refine lv_aload_n hx hb dX1_findChalk_48 rfl (lv_at hl 1 rfl) ?_
        refine lv_iload_n hx hb dX1_findChalk_49 rfl (lv_at hl 3 rfl) ?_
        obtain ⟨r_5, hr_5⟩ : ∃ z, z = F_Tailor_hasMark joint mks0 fma0 := ⟨_, rfl⟩
        rw [bnd_e hr_5] at hres
        refine ro_calli (va_runV (As := [.int joint]) (rest := []) ⟨hx, hb, hml, hown, hts⟩ (c_Tailor_hasMark l dC dI cI cC cG cZ t0 ma0 joint mks0 pts0 ths0 rgs0 rgc0 fnd0 rdb0 wdb0 fma0 hM0 r_5 hr_5) (cwV 1 hts gX1_findChalk_X5_hasMark rfl rfl rfl (by decide +kernel) ⟨Nat.le_of_ble_eq_true rfl, Nat.le_of_ble_eq_true rfl⟩) (ro_preV (hP.sub (ws' := [(t0, .inr (5, [.ref ma0, .int mks0, .int pts0, .int ths0, .int rgs0, .int rgc0, .int fnd0, .int rdb0, .int wdb0])), (ma0, .inl (cI, 8, .inl fma0))]) [1, 2] rfl) hK (ci := 5) (q0 := 0) rfl rfl) rfl rfl hl.1 rfl (lv_room (Nat.le_of_ble_eq_true rfl)) dX1_findChalk_50 ⟨Nat.zero_le _, Nat.zero_le _⟩) hP hS (fun H locs hP hS => ?_)
        refine lv_if_eq (tgt := 66) hx hb dX1_findChalk_53 (by decide) (fun c_6 => ?_) (fun c_6 => ?_)
        · rw [if_pos c_6] at hres
          refine lv_aload_n hx hb dX1_findChalk_66 rfl (lv_at hl 2 rfl) ?_
          refine lv_iload_n hx hb dX1_findChalk_67 rfl (lv_at hl 3 rfl) ?_
          obtain ⟨r_7, hr_7⟩ : ∃ z, z = F_Game_dropMarks joint mks0 fma0 mks1 fma1 := ⟨_, rfl⟩
          rw [bnd_e hr_7] at hres
          refine wr_callv (w1 := [(g, .inr (1, [.ref cl, .ref t0, .ref t1, .int nx, .int tn])), (t0, .inr (5, [.ref ma0, .int r_7.1, .int pts0, .int ths0, .int rgs0, .int rgc0, .int fnd0, .int rdb0, .int wdb0])), (ma0, .inl (cI, 8, .inl r_7.2.1)), (t1, .inr (5, [.ref ma1, .int r_7.2.2.1, .int pts1, .int ths1, .int rgs1, .int rgc1, .int fnd1, .int rdb1, .int wdb1])), (ma1, .inl (cI, 8, .inl r_7.2.2.2))]) (is := [0, 1, 2, 3, 4]) (va_runV (As := [.int joint]) (rest := []) ⟨hx, hb, hml, hown, hts⟩ (c_Game_dropMarks l dC dI cI cC cG cZ g cl t0 t1 ma0 ma1 joint nx tn mks0 pts0 ths0 rgs0 rgc0 fnd0 rdb0 wdb0 fma0 mks1 pts1 ths1 rgs1 rgc1 fnd1 rdb1 wdb1 fma1 hM0 hM1 r_7 hr_7) (cwV 1 hts gX1_findChalk_X1_dropMarks rfl rfl rfl (by decide +kernel) ⟨Nat.le_of_ble_eq_true rfl, Nat.le_of_ble_eq_true rfl⟩) (wr_preV (hP.sub (ws' := [(g, .inr (1, [.ref cl, .ref t0, .ref t1, .int nx, .int tn])), (t0, .inr (5, [.ref ma0, .int mks0, .int pts0, .int ths0, .int rgs0, .int rgc0, .int fnd0, .int rdb0, .int wdb0])), (ma0, .inl (cI, 8, .inl fma0)), (t1, .inr (5, [.ref ma1, .int mks1, .int pts1, .int ths1, .int rgs1, .int rgc1, .int fnd1, .int rdb1, .int wdb1])), (ma1, .inl (cI, 8, .inl fma1))]) [0, 1, 2, 3, 4] rfl) hK (hD.sub (ws' := [(g, .inr (1, [.ref cl, .ref t0, .ref t1, .int nx, .int tn])), (t0, .inr (5, [.ref ma0, .int mks0, .int pts0, .int ths0, .int rgs0, .int rgc0, .int fnd0, .int rdb0, .int wdb0])), (ma0, .inl (cI, 8, .inl fma0)), (t1, .inr (5, [.ref ma1, .int mks1, .int pts1, .int ths1, .int rgs1, .int rgc1, .int fnd1, .int rdb1, .int wdb1])), (ma1, .inl (cI, 8, .inl fma1))]) [0, 1, 2, 3, 4] (by decide) rfl) (ci := 1) (q0 := 0) rfl rfl) rfl rfl hl.1 rfl (lv_room (Nat.le_of_ble_eq_true rfl)) dX1_findChalk_68 ⟨Nat.zero_le _, Nat.zero_le _⟩) hP hD hS rfl rfl rfl (fun H locs hP hD hS => ?_)
          have hP : va_P (dC, dI) vwCl [(g, .inr (1, [.ref cl, .ref t0, .ref t1, .int nx, .int tn])), (t0, .inr (5, [.ref ma0, .int r_7.1, .int pts0, .int ths0, .int rgs0, .int rgc0, .int fnd0, .int rdb0, .int wdb0])), (ma0, .inl (cI, 8, .inl r_7.2.1)), (t1, .inr (5, [.ref ma1, .int r_7.2.2.1, .int pts1, .int ths1, .int rgs1, .int rgc1, .int fnd1, .int rdb1, .int wdb1])), (ma1, .inl (cI, 8, .inl r_7.2.2.2))] H := hP
          have hD : va_D A [(g, .inr (1, [.ref cl, .ref t0, .ref t1, .int nx, .int tn])), (t0, .inr (5, [.ref ma0, .int r_7.1, .int pts0, .int ths0, .int rgs0, .int rgc0, .int fnd0, .int rdb0, .int wdb0])), (ma0, .inl (cI, 8, .inl r_7.2.1)), (t1, .inr (5, [.ref ma1, .int r_7.2.2.1, .int pts1, .int ths1, .int rgs1, .int rgc1, .int fnd1, .int rdb1, .int wdb1])), (ma1, .inl (cI, 8, .inl r_7.2.2.2))] := hD
          subst hres
          exact W.vret hx hb hr (fun t ht hW => ⟨⟨(), rfl, trivial, (by show va_P _ _ _ t.heap; rw [ht]; exact hP)⟩, hS.F ht⟩) hS.2.2 dX1_findChalk_71
        · rw [if_neg c_6] at hres
          refine lv_aload_n hx hb dX1_findChalk_56 rfl (lv_at hl 1 rfl) ?_
          refine lv_dup hx hb dX1_findChalk_57 rfl ?_
          refine va_get (D := (dC, dI)) (ci := 5) (v := .int pts0) (C := RX5) (T := TX5) (N := 9) hx hb hts iX1_findChalk_X5 hown hK hP 1 rfl rfl 2 (by decide) (hts (.fieldLink RX1 50 "TailorChalks$Tailor" "points" "I") kX1_findChalk_50) (fun _ h9 => h9) rfl dX1_findChalk_58 ?_
          refine lv_iconst (v := 1) hx hb dX1_findChalk_61 (by decide) ?_
          refine lv_iadd hx hb dX1_findChalk_62 ?_
          refine va_put (D := (dC, dI)) (ci := 5) (v := .int (pts0 + 1)) (ty := (.int)) (C := RX5) (T := TX5) (N := 9) hx hb hts iX1_findChalk_X5 tyX5 tyX5_ok nmX5 hown hK hP hD hS 1 rfl rfl 2 (by decide) (hts (.fieldLink RX1 50 "TailorChalks$Tailor" "points" "I") kX1_findChalk_50) (fun _ h9 => h9) rfl (by decide +kernel) rfl rfl (Nat.le_of_ble_eq_true rfl) dX1_findChalk_63 (fun H locs hP hD hS => ?_)
          have hP : va_P (dC, dI) vwCl [(g, .inr (1, [.ref cl, .ref t0, .ref t1, .int nx, .int tn])), (t0, .inr (5, [.ref ma0, .int mks0, .int (pts0 + 1), .int ths0, .int rgs0, .int rgc0, .int fnd0, .int rdb0, .int wdb0])), (ma0, .inl (cI, 8, .inl fma0)), (t1, .inr (5, [.ref ma1, .int mks1, .int pts1, .int ths1, .int rgs1, .int rgc1, .int fnd1, .int rdb1, .int wdb1])), (ma1, .inl (cI, 8, .inl fma1))] H := hP
          have hD : va_D A [(g, .inr (1, [.ref cl, .ref t0, .ref t1, .int nx, .int tn])), (t0, .inr (5, [.ref ma0, .int mks0, .int (pts0 + 1), .int ths0, .int rgs0, .int rgc0, .int fnd0, .int rdb0, .int wdb0])), (ma0, .inl (cI, 8, .inl fma0)), (t1, .inr (5, [.ref ma1, .int mks1, .int pts1, .int ths1, .int rgs1, .int rgc1, .int fnd1, .int rdb1, .int wdb1])), (ma1, .inl (cI, 8, .inl fma1))] := hD
          refine lv_aload_n hx hb dX1_findChalk_66 rfl (lv_at hl 2 rfl) ?_
          refine lv_iload_n hx hb dX1_findChalk_67 rfl (lv_at hl 3 rfl) ?_
          obtain ⟨r_8, hr_8⟩ : ∃ z, z = F_Game_dropMarks joint mks0 fma0 mks1 fma1 := ⟨_, rfl⟩
          rw [bnd_e hr_8] at hres
          refine wr_callv (w1 := [(g, .inr (1, [.ref cl, .ref t0, .ref t1, .int nx, .int tn])), (t0, .inr (5, [.ref ma0, .int r_8.1, .int (pts0 + 1), .int ths0, .int rgs0, .int rgc0, .int fnd0, .int rdb0, .int wdb0])), (ma0, .inl (cI, 8, .inl r_8.2.1)), (t1, .inr (5, [.ref ma1, .int r_8.2.2.1, .int pts1, .int ths1, .int rgs1, .int rgc1, .int fnd1, .int rdb1, .int wdb1])), (ma1, .inl (cI, 8, .inl r_8.2.2.2))]) (is := [0, 1, 2, 3, 4]) (va_runV (As := [.int joint]) (rest := []) ⟨hx, hb, hml, hown, hts⟩ (c_Game_dropMarks l dC dI cI cC cG cZ g cl t0 t1 ma0 ma1 joint nx tn mks0 (pts0 + 1) ths0 rgs0 rgc0 fnd0 rdb0 wdb0 fma0 mks1 pts1 ths1 rgs1 rgc1 fnd1 rdb1 wdb1 fma1 hM0 hM1 r_8 hr_8) (cwV 1 hts gX1_findChalk_X1_dropMarks rfl rfl rfl (by decide +kernel) ⟨Nat.le_of_ble_eq_true rfl, Nat.le_of_ble_eq_true rfl⟩) (wr_preV (hP.sub (ws' := [(g, .inr (1, [.ref cl, .ref t0, .ref t1, .int nx, .int tn])), (t0, .inr (5, [.ref ma0, .int mks0, .int (pts0 + 1), .int ths0, .int rgs0, .int rgc0, .int fnd0, .int rdb0, .int wdb0])), (ma0, .inl (cI, 8, .inl fma0)), (t1, .inr (5, [.ref ma1, .int mks1, .int pts1, .int ths1, .int rgs1, .int rgc1, .int fnd1, .int rdb1, .int wdb1])), (ma1, .inl (cI, 8, .inl fma1))]) [0, 1, 2, 3, 4] rfl) hK (hD.sub (ws' := [(g, .inr (1, [.ref cl, .ref t0, .ref t1, .int nx, .int tn])), (t0, .inr (5, [.ref ma0, .int mks0, .int (pts0 + 1), .int ths0, .int rgs0, .int rgc0, .int fnd0, .int rdb0, .int wdb0])), (ma0, .inl (cI, 8, .inl fma0)), (t1, .inr (5, [.ref ma1, .int mks1, .int pts1, .int ths1, .int rgs1, .int rgc1, .int fnd1, .int rdb1, .int wdb1])), (ma1, .inl (cI, 8, .inl fma1))]) [0, 1, 2, 3, 4] (by decide) rfl) (ci := 1) (q0 := 0) rfl rfl) rfl rfl hl.1 rfl (lv_room (Nat.le_of_ble_eq_true rfl)) dX1_findChalk_68 ⟨Nat.zero_le _, Nat.zero_le _⟩) hP hD hS rfl rfl rfl (fun H locs hP hD hS => ?_)
          have hP : va_P (dC, dI) vwCl [(g, .inr (1, [.ref cl, .ref t0, .ref t1, .int nx, .int tn])), (t0, .inr (5, [.ref ma0, .int r_8.1, .int (pts0 + 1), .int ths0, .int rgs0, .int rgc0, .int fnd0, .int rdb0, .int wdb0])), (ma0, .inl (cI, 8, .inl r_8.2.1)), (t1, .inr (5, [.ref ma1, .int r_8.2.2.1, .int pts1, .int ths1, .int rgs1, .int rgc1, .int fnd1, .int rdb1, .int wdb1])), (ma1, .inl (cI, 8, .inl r_8.2.2.2))] H := hP
          have hD : va_D A [(g, .inr (1, [.ref cl, .ref t0, .ref t1, .int nx, .int tn])), (t0, .inr (5, [.ref ma0, .int r_8.1, .int (pts0 + 1), .int ths0, .int rgs0, .int rgc0, .int fnd0, .int rdb0, .int wdb0])), (ma0, .inl (cI, 8, .inl r_8.2.1)), (t1, .inr (5, [.ref ma1, .int r_8.2.2.1, .int pts1, .int ths1, .int rgs1, .int rgc1, .int fnd1, .int rdb1, .int wdb1])), (ma1, .inl (cI, 8, .inl r_8.2.2.2))] := hD
          subst hres
          exact W.vret hx hb hr (fun t ht hW => ⟨⟨(), rfl, trivial, (by show va_P _ _ _ t.heap; rw [ht]; exact hP)⟩, hS.F ht⟩) hS.2.2 dX1_findChalk_71
      · rw [if_neg c_4] at hres
        refine lv_aload_n hx hb dX1_findChalk_28 rfl (lv_at hl 1 rfl) ?_
        refine lv_dup hx hb dX1_findChalk_29 rfl ?_
        refine va_get (D := (dC, dI)) (ci := 5) (v := .int pts0) (C := RX5) (T := TX5) (N := 9) hx hb hts iX1_findChalk_X5 hown hK hP 1 rfl rfl 2 (by decide) (hts (.fieldLink RX1 50 "TailorChalks$Tailor" "points" "I") kX1_findChalk_50) (fun _ h9 => h9) rfl dX1_findChalk_30 ?_
        refine lv_iconst (v := 3) hx hb dX1_findChalk_33 (by decide) ?_
        refine lv_isub hx hb dX1_findChalk_34 ?_
        refine va_put (D := (dC, dI)) (ci := 5) (v := .int (pts0 - 3)) (ty := (.int)) (C := RX5) (T := TX5) (N := 9) hx hb hts iX1_findChalk_X5 tyX5 tyX5_ok nmX5 hown hK hP hD hS 1 rfl rfl 2 (by decide) (hts (.fieldLink RX1 50 "TailorChalks$Tailor" "points" "I") kX1_findChalk_50) (fun _ h9 => h9) rfl (by decide +kernel) rfl rfl (Nat.le_of_ble_eq_true rfl) dX1_findChalk_35 (fun H locs hP hD hS => ?_)
        have hP : va_P (dC, dI) vwCl [(g, .inr (1, [.ref cl, .ref t0, .ref t1, .int nx, .int tn])), (t0, .inr (5, [.ref ma0, .int mks0, .int (pts0 - 3), .int ths0, .int rgs0, .int rgc0, .int fnd0, .int rdb0, .int wdb0])), (ma0, .inl (cI, 8, .inl fma0)), (t1, .inr (5, [.ref ma1, .int mks1, .int pts1, .int ths1, .int rgs1, .int rgc1, .int fnd1, .int rdb1, .int wdb1])), (ma1, .inl (cI, 8, .inl fma1))] H := hP
        have hD : va_D A [(g, .inr (1, [.ref cl, .ref t0, .ref t1, .int nx, .int tn])), (t0, .inr (5, [.ref ma0, .int mks0, .int (pts0 - 3), .int ths0, .int rgs0, .int rgc0, .int fnd0, .int rdb0, .int wdb0])), (ma0, .inl (cI, 8, .inl fma0)), (t1, .inr (5, [.ref ma1, .int mks1, .int pts1, .int ths1, .int rgs1, .int rgc1, .int fnd1, .int rdb1, .int wdb1])), (ma1, .inl (cI, 8, .inl fma1))] := hD
        refine lv_aload_n hx hb dX1_findChalk_38 rfl (lv_at hl 1 rfl) ?_
        refine lv_dup hx hb dX1_findChalk_39 rfl ?_
        refine va_get (D := (dC, dI)) (ci := 5) (v := .int fnd0) (C := RX5) (T := TX5) (N := 9) hx hb hts iX1_findChalk_X5 hown hK hP 1 rfl rfl 6 (by decide) (hts (.fieldLink RX1 129 "TailorChalks$Tailor" "found" "I") kX1_findChalk_129) (fun _ h9 => h9) rfl dX1_findChalk_40 ?_
        refine lv_iconst (v := 1) hx hb dX1_findChalk_43 (by decide) ?_
        refine lv_iadd hx hb dX1_findChalk_44 ?_
        refine va_put (D := (dC, dI)) (ci := 5) (v := .int (fnd0 + 1)) (ty := (.int)) (C := RX5) (T := TX5) (N := 9) hx hb hts iX1_findChalk_X5 tyX5 tyX5_ok nmX5 hown hK hP hD hS 1 rfl rfl 6 (by decide) (hts (.fieldLink RX1 129 "TailorChalks$Tailor" "found" "I") kX1_findChalk_129) (fun _ h9 => h9) rfl (by decide +kernel) rfl rfl (Nat.le_of_ble_eq_true rfl) dX1_findChalk_45 (fun H locs hP hD hS => ?_)
        have hP : va_P (dC, dI) vwCl [(g, .inr (1, [.ref cl, .ref t0, .ref t1, .int nx, .int tn])), (t0, .inr (5, [.ref ma0, .int mks0, .int (pts0 - 3), .int ths0, .int rgs0, .int rgc0, .int (fnd0 + 1), .int rdb0, .int wdb0])), (ma0, .inl (cI, 8, .inl fma0)), (t1, .inr (5, [.ref ma1, .int mks1, .int pts1, .int ths1, .int rgs1, .int rgc1, .int fnd1, .int rdb1, .int wdb1])), (ma1, .inl (cI, 8, .inl fma1))] H := hP
        have hD : va_D A [(g, .inr (1, [.ref cl, .ref t0, .ref t1, .int nx, .int tn])), (t0, .inr (5, [.ref ma0, .int mks0, .int (pts0 - 3), .int ths0, .int rgs0, .int rgc0, .int (fnd0 + 1), .int rdb0, .int wdb0])), (ma0, .inl (cI, 8, .inl fma0)), (t1, .inr (5, [.ref ma1, .int mks1, .int pts1, .int ths1, .int rgs1, .int rgc1, .int fnd1, .int rdb1, .int wdb1])), (ma1, .inl (cI, 8, .inl fma1))] := hD
        refine lv_aload_n hx hb dX1_findChalk_48 rfl (lv_at hl 1 rfl) ?_
        refine lv_iload_n hx hb dX1_findChalk_49 rfl (lv_at hl 3 rfl) ?_
        obtain ⟨r_9, hr_9⟩ : ∃ z, z = F_Tailor_hasMark joint mks0 fma0 := ⟨_, rfl⟩
        rw [bnd_e hr_9] at hres
        refine ro_calli (va_runV (As := [.int joint]) (rest := []) ⟨hx, hb, hml, hown, hts⟩ (c_Tailor_hasMark l dC dI cI cC cG cZ t0 ma0 joint mks0 (pts0 - 3) ths0 rgs0 rgc0 (fnd0 + 1) rdb0 wdb0 fma0 hM0 r_9 hr_9) (cwV 1 hts gX1_findChalk_X5_hasMark rfl rfl rfl (by decide +kernel) ⟨Nat.le_of_ble_eq_true rfl, Nat.le_of_ble_eq_true rfl⟩) (ro_preV (hP.sub (ws' := [(t0, .inr (5, [.ref ma0, .int mks0, .int (pts0 - 3), .int ths0, .int rgs0, .int rgc0, .int (fnd0 + 1), .int rdb0, .int wdb0])), (ma0, .inl (cI, 8, .inl fma0))]) [1, 2] rfl) hK (ci := 5) (q0 := 0) rfl rfl) rfl rfl hl.1 rfl (lv_room (Nat.le_of_ble_eq_true rfl)) dX1_findChalk_50 ⟨Nat.zero_le _, Nat.zero_le _⟩) hP hS (fun H locs hP hS => ?_)
        refine lv_if_eq (tgt := 66) hx hb dX1_findChalk_53 (by decide) (fun c_10 => ?_) (fun c_10 => ?_)
        · rw [if_pos c_10] at hres
          refine lv_aload_n hx hb dX1_findChalk_66 rfl (lv_at hl 2 rfl) ?_
          refine lv_iload_n hx hb dX1_findChalk_67 rfl (lv_at hl 3 rfl) ?_
          obtain ⟨r_11, hr_11⟩ : ∃ z, z = F_Game_dropMarks joint mks0 fma0 mks1 fma1 := ⟨_, rfl⟩
          rw [bnd_e hr_11] at hres
          refine wr_callv (w1 := [(g, .inr (1, [.ref cl, .ref t0, .ref t1, .int nx, .int tn])), (t0, .inr (5, [.ref ma0, .int r_11.1, .int (pts0 - 3), .int ths0, .int rgs0, .int rgc0, .int (fnd0 + 1), .int rdb0, .int wdb0])), (ma0, .inl (cI, 8, .inl r_11.2.1)), (t1, .inr (5, [.ref ma1, .int r_11.2.2.1, .int pts1, .int ths1, .int rgs1, .int rgc1, .int fnd1, .int rdb1, .int wdb1])), (ma1, .inl (cI, 8, .inl r_11.2.2.2))]) (is := [0, 1, 2, 3, 4]) (va_runV (As := [.int joint]) (rest := []) ⟨hx, hb, hml, hown, hts⟩ (c_Game_dropMarks l dC dI cI cC cG cZ g cl t0 t1 ma0 ma1 joint nx tn mks0 (pts0 - 3) ths0 rgs0 rgc0 (fnd0 + 1) rdb0 wdb0 fma0 mks1 pts1 ths1 rgs1 rgc1 fnd1 rdb1 wdb1 fma1 hM0 hM1 r_11 hr_11) (cwV 1 hts gX1_findChalk_X1_dropMarks rfl rfl rfl (by decide +kernel) ⟨Nat.le_of_ble_eq_true rfl, Nat.le_of_ble_eq_true rfl⟩) (wr_preV (hP.sub (ws' := [(g, .inr (1, [.ref cl, .ref t0, .ref t1, .int nx, .int tn])), (t0, .inr (5, [.ref ma0, .int mks0, .int (pts0 - 3), .int ths0, .int rgs0, .int rgc0, .int (fnd0 + 1), .int rdb0, .int wdb0])), (ma0, .inl (cI, 8, .inl fma0)), (t1, .inr (5, [.ref ma1, .int mks1, .int pts1, .int ths1, .int rgs1, .int rgc1, .int fnd1, .int rdb1, .int wdb1])), (ma1, .inl (cI, 8, .inl fma1))]) [0, 1, 2, 3, 4] rfl) hK (hD.sub (ws' := [(g, .inr (1, [.ref cl, .ref t0, .ref t1, .int nx, .int tn])), (t0, .inr (5, [.ref ma0, .int mks0, .int (pts0 - 3), .int ths0, .int rgs0, .int rgc0, .int (fnd0 + 1), .int rdb0, .int wdb0])), (ma0, .inl (cI, 8, .inl fma0)), (t1, .inr (5, [.ref ma1, .int mks1, .int pts1, .int ths1, .int rgs1, .int rgc1, .int fnd1, .int rdb1, .int wdb1])), (ma1, .inl (cI, 8, .inl fma1))]) [0, 1, 2, 3, 4] (by decide) rfl) (ci := 1) (q0 := 0) rfl rfl) rfl rfl hl.1 rfl (lv_room (Nat.le_of_ble_eq_true rfl)) dX1_findChalk_68 ⟨Nat.zero_le _, Nat.zero_le _⟩) hP hD hS rfl rfl rfl (fun H locs hP hD hS => ?_)
          have hP : va_P (dC, dI) vwCl [(g, .inr (1, [.ref cl, .ref t0, .ref t1, .int nx, .int tn])), (t0, .inr (5, [.ref ma0, .int r_11.1, .int (pts0 - 3), .int ths0, .int rgs0, .int rgc0, .int (fnd0 + 1), .int rdb0, .int wdb0])), (ma0, .inl (cI, 8, .inl r_11.2.1)), (t1, .inr (5, [.ref ma1, .int r_11.2.2.1, .int pts1, .int ths1, .int rgs1, .int rgc1, .int fnd1, .int rdb1, .int wdb1])), (ma1, .inl (cI, 8, .inl r_11.2.2.2))] H := hP
          have hD : va_D A [(g, .inr (1, [.ref cl, .ref t0, .ref t1, .int nx, .int tn])), (t0, .inr (5, [.ref ma0, .int r_11.1, .int (pts0 - 3), .int ths0, .int rgs0, .int rgc0, .int (fnd0 + 1), .int rdb0, .int wdb0])), (ma0, .inl (cI, 8, .inl r_11.2.1)), (t1, .inr (5, [.ref ma1, .int r_11.2.2.1, .int pts1, .int ths1, .int rgs1, .int rgc1, .int fnd1, .int rdb1, .int wdb1])), (ma1, .inl (cI, 8, .inl r_11.2.2.2))] := hD
          subst hres
          exact W.vret hx hb hr (fun t ht hW => ⟨⟨(), rfl, trivial, (by show va_P _ _ _ t.heap; rw [ht]; exact hP)⟩, hS.F ht⟩) hS.2.2 dX1_findChalk_71
        · rw [if_neg c_10] at hres
          refine lv_aload_n hx hb dX1_findChalk_56 rfl (lv_at hl 1 rfl) ?_
          refine lv_dup hx hb dX1_findChalk_57 rfl ?_
          refine va_get (D := (dC, dI)) (ci := 5) (v := .int (pts0 - 3)) (C := RX5) (T := TX5) (N := 9) hx hb hts iX1_findChalk_X5 hown hK hP 1 rfl rfl 2 (by decide) (hts (.fieldLink RX1 50 "TailorChalks$Tailor" "points" "I") kX1_findChalk_50) (fun _ h9 => h9) rfl dX1_findChalk_58 ?_
          refine lv_iconst (v := 1) hx hb dX1_findChalk_61 (by decide) ?_
          refine lv_iadd hx hb dX1_findChalk_62 ?_
          refine va_put (D := (dC, dI)) (ci := 5) (v := .int ((pts0 - 3) + 1)) (ty := (.int)) (C := RX5) (T := TX5) (N := 9) hx hb hts iX1_findChalk_X5 tyX5 tyX5_ok nmX5 hown hK hP hD hS 1 rfl rfl 2 (by decide) (hts (.fieldLink RX1 50 "TailorChalks$Tailor" "points" "I") kX1_findChalk_50) (fun _ h9 => h9) rfl (by decide +kernel) rfl rfl (Nat.le_of_ble_eq_true rfl) dX1_findChalk_63 (fun H locs hP hD hS => ?_)
          have hP : va_P (dC, dI) vwCl [(g, .inr (1, [.ref cl, .ref t0, .ref t1, .int nx, .int tn])), (t0, .inr (5, [.ref ma0, .int mks0, .int ((pts0 - 3) + 1), .int ths0, .int rgs0, .int rgc0, .int (fnd0 + 1), .int rdb0, .int wdb0])), (ma0, .inl (cI, 8, .inl fma0)), (t1, .inr (5, [.ref ma1, .int mks1, .int pts1, .int ths1, .int rgs1, .int rgc1, .int fnd1, .int rdb1, .int wdb1])), (ma1, .inl (cI, 8, .inl fma1))] H := hP
          have hD : va_D A [(g, .inr (1, [.ref cl, .ref t0, .ref t1, .int nx, .int tn])), (t0, .inr (5, [.ref ma0, .int mks0, .int ((pts0 - 3) + 1), .int ths0, .int rgs0, .int rgc0, .int (fnd0 + 1), .int rdb0, .int wdb0])), (ma0, .inl (cI, 8, .inl fma0)), (t1, .inr (5, [.ref ma1, .int mks1, .int pts1, .int ths1, .int rgs1, .int rgc1, .int fnd1, .int rdb1, .int wdb1])), (ma1, .inl (cI, 8, .inl fma1))] := hD
          refine lv_aload_n hx hb dX1_findChalk_66 rfl (lv_at hl 2 rfl) ?_
          refine lv_iload_n hx hb dX1_findChalk_67 rfl (lv_at hl 3 rfl) ?_
          obtain ⟨r_12, hr_12⟩ : ∃ z, z = F_Game_dropMarks joint mks0 fma0 mks1 fma1 := ⟨_, rfl⟩
          rw [bnd_e hr_12] at hres
          refine wr_callv (w1 := [(g, .inr (1, [.ref cl, .ref t0, .ref t1, .int nx, .int tn])), (t0, .inr (5, [.ref ma0, .int r_12.1, .int ((pts0 - 3) + 1), .int ths0, .int rgs0, .int rgc0, .int (fnd0 + 1), .int rdb0, .int wdb0])), (ma0, .inl (cI, 8, .inl r_12.2.1)), (t1, .inr (5, [.ref ma1, .int r_12.2.2.1, .int pts1, .int ths1, .int rgs1, .int rgc1, .int fnd1, .int rdb1, .int wdb1])), (ma1, .inl (cI, 8, .inl r_12.2.2.2))]) (is := [0, 1, 2, 3, 4]) (va_runV (As := [.int joint]) (rest := []) ⟨hx, hb, hml, hown, hts⟩ (c_Game_dropMarks l dC dI cI cC cG cZ g cl t0 t1 ma0 ma1 joint nx tn mks0 ((pts0 - 3) + 1) ths0 rgs0 rgc0 (fnd0 + 1) rdb0 wdb0 fma0 mks1 pts1 ths1 rgs1 rgc1 fnd1 rdb1 wdb1 fma1 hM0 hM1 r_12 hr_12) (cwV 1 hts gX1_findChalk_X1_dropMarks rfl rfl rfl (by decide +kernel) ⟨Nat.le_of_ble_eq_true rfl, Nat.le_of_ble_eq_true rfl⟩) (wr_preV (hP.sub (ws' := [(g, .inr (1, [.ref cl, .ref t0, .ref t1, .int nx, .int tn])), (t0, .inr (5, [.ref ma0, .int mks0, .int ((pts0 - 3) + 1), .int ths0, .int rgs0, .int rgc0, .int (fnd0 + 1), .int rdb0, .int wdb0])), (ma0, .inl (cI, 8, .inl fma0)), (t1, .inr (5, [.ref ma1, .int mks1, .int pts1, .int ths1, .int rgs1, .int rgc1, .int fnd1, .int rdb1, .int wdb1])), (ma1, .inl (cI, 8, .inl fma1))]) [0, 1, 2, 3, 4] rfl) hK (hD.sub (ws' := [(g, .inr (1, [.ref cl, .ref t0, .ref t1, .int nx, .int tn])), (t0, .inr (5, [.ref ma0, .int mks0, .int ((pts0 - 3) + 1), .int ths0, .int rgs0, .int rgc0, .int (fnd0 + 1), .int rdb0, .int wdb0])), (ma0, .inl (cI, 8, .inl fma0)), (t1, .inr (5, [.ref ma1, .int mks1, .int pts1, .int ths1, .int rgs1, .int rgc1, .int fnd1, .int rdb1, .int wdb1])), (ma1, .inl (cI, 8, .inl fma1))]) [0, 1, 2, 3, 4] (by decide) rfl) (ci := 1) (q0 := 0) rfl rfl) rfl rfl hl.1 rfl (lv_room (Nat.le_of_ble_eq_true rfl)) dX1_findChalk_68 ⟨Nat.zero_le _, Nat.zero_le _⟩) hP hD hS rfl rfl rfl (fun H locs hP hD hS => ?_)
          have hP : va_P (dC, dI) vwCl [(g, .inr (1, [.ref cl, .ref t0, .ref t1, .int nx, .int tn])), (t0, .inr (5, [.ref ma0, .int r_12.1, .int ((pts0 - 3) + 1), .int ths0, .int rgs0, .int rgc0, .int (fnd0 + 1), .int rdb0, .int wdb0])), (ma0, .inl (cI, 8, .inl r_12.2.1)), (t1, .inr (5, [.ref ma1, .int r_12.2.2.1, .int pts1, .int ths1, .int rgs1, .int rgc1, .int fnd1, .int rdb1, .int wdb1])), (ma1, .inl (cI, 8, .inl r_12.2.2.2))] H := hP
          have hD : va_D A [(g, .inr (1, [.ref cl, .ref t0, .ref t1, .int nx, .int tn])), (t0, .inr (5, [.ref ma0, .int r_12.1, .int ((pts0 - 3) + 1), .int ths0, .int rgs0, .int rgc0, .int (fnd0 + 1), .int rdb0, .int wdb0])), (ma0, .inl (cI, 8, .inl r_12.2.1)), (t1, .inr (5, [.ref ma1, .int r_12.2.2.1, .int pts1, .int ths1, .int rgs1, .int rgc1, .int fnd1, .int rdb1, .int wdb1])), (ma1, .inl (cI, 8, .inl r_12.2.2.2))] := hD
          subst hres
          exact W.vret hx hb hr (fun t ht hW => ⟨⟨(), rfl, trivial, (by show va_P _ _ _ t.heap; rw [ht]; exact hP)⟩, hS.F ht⟩) hS.2.2 dX1_findChalk_71
    · rw [if_neg c_2] at hres
      refine ro_callr (va_runV (As := [.int ((1 : Int32) - nx)]) (rest := []) ⟨hx, hb, hml, hown, hts⟩ (c_Game_tailorOf l dC dI cI cC cG cZ g cl t0 t1 ((1 : Int32) - nx) nx tn  t1 (if_neg c_2).symm) (cwV 1 hts gX1_findChalk_X1_tailorOf rfl rfl rfl (by decide +kernel) ⟨Nat.le_of_ble_eq_true rfl, Nat.le_of_ble_eq_true rfl⟩) (ro_preV (hP.sub (ws' := [(g, .inr (1, [.ref cl, .ref t0, .ref t1, .int nx, .int tn]))]) [0] rfl) hK (ci := 1) (q0 := 0) rfl rfl) rfl rfl hl.1 rfl (lv_room (Nat.le_of_ble_eq_true rfl)) dX1_findChalk_16 ⟨Nat.zero_le _, Nat.zero_le _⟩) hP hS (fun H locs hP hS => ?_)
      refine lv_astore_n (lv' := [(3, .ref t1), (2, .ref t0), (0, .ref g), (1, .int joint)]) hx hb dX1_findChalk_19 rfl hl (by decide) rfl (fun ls hl => ?_)
      refine lv_aload_n hx hb dX1_findChalk_20 rfl (lv_at hl 0 rfl) ?_
      refine lv_iload_n hx hb dX1_findChalk_21 rfl (lv_at hl 3 rfl) ?_
      obtain ⟨r_13, hr_13⟩ : ∃ z, z = F_Tailor_hasMark joint mks1 fma1 := ⟨_, rfl⟩
      rw [bnd_e hr_13] at hres
      refine ro_calli (va_runV (As := [.int joint]) (rest := []) ⟨hx, hb, hml, hown, hts⟩ (c_Tailor_hasMark l dC dI cI cC cG cZ t1 ma1 joint mks1 pts1 ths1 rgs1 rgc1 fnd1 rdb1 wdb1 fma1 hM1 r_13 hr_13) (cwV 1 hts gX1_findChalk_X5_hasMark rfl rfl rfl (by decide +kernel) ⟨Nat.le_of_ble_eq_true rfl, Nat.le_of_ble_eq_true rfl⟩) (ro_preV (hP.sub (ws' := [(t1, .inr (5, [.ref ma1, .int mks1, .int pts1, .int ths1, .int rgs1, .int rgc1, .int fnd1, .int rdb1, .int wdb1])), (ma1, .inl (cI, 8, .inl fma1))]) [3, 4] rfl) hK (ci := 5) (q0 := 0) rfl rfl) rfl rfl hl.1 rfl (lv_room (Nat.le_of_ble_eq_true rfl)) dX1_findChalk_22 ⟨Nat.zero_le _, Nat.zero_le _⟩) hP hS (fun H locs hP hS => ?_)
      refine lv_if_eq (tgt := 48) hx hb dX1_findChalk_25 (by decide) (fun c_14 => ?_) (fun c_14 => ?_)
      · rw [if_pos c_14] at hres
        refine lv_aload_n hx hb dX1_findChalk_48 rfl (lv_at hl 1 rfl) ?_
        refine lv_iload_n hx hb dX1_findChalk_49 rfl (lv_at hl 3 rfl) ?_
        obtain ⟨r_15, hr_15⟩ : ∃ z, z = F_Tailor_hasMark joint mks0 fma0 := ⟨_, rfl⟩
        rw [bnd_e hr_15] at hres
        refine ro_calli (va_runV (As := [.int joint]) (rest := []) ⟨hx, hb, hml, hown, hts⟩ (c_Tailor_hasMark l dC dI cI cC cG cZ t0 ma0 joint mks0 pts0 ths0 rgs0 rgc0 fnd0 rdb0 wdb0 fma0 hM0 r_15 hr_15) (cwV 1 hts gX1_findChalk_X5_hasMark rfl rfl rfl (by decide +kernel) ⟨Nat.le_of_ble_eq_true rfl, Nat.le_of_ble_eq_true rfl⟩) (ro_preV (hP.sub (ws' := [(t0, .inr (5, [.ref ma0, .int mks0, .int pts0, .int ths0, .int rgs0, .int rgc0, .int fnd0, .int rdb0, .int wdb0])), (ma0, .inl (cI, 8, .inl fma0))]) [1, 2] rfl) hK (ci := 5) (q0 := 0) rfl rfl) rfl rfl hl.1 rfl (lv_room (Nat.le_of_ble_eq_true rfl)) dX1_findChalk_50 ⟨Nat.zero_le _, Nat.zero_le _⟩) hP hS (fun H locs hP hS => ?_)
        refine lv_if_eq (tgt := 66) hx hb dX1_findChalk_53 (by decide) (fun c_16 => ?_) (fun c_16 => ?_)
        · rw [if_pos c_16] at hres
          refine lv_aload_n hx hb dX1_findChalk_66 rfl (lv_at hl 2 rfl) ?_
          refine lv_iload_n hx hb dX1_findChalk_67 rfl (lv_at hl 3 rfl) ?_
          obtain ⟨r_17, hr_17⟩ : ∃ z, z = F_Game_dropMarks joint mks0 fma0 mks1 fma1 := ⟨_, rfl⟩
          rw [bnd_e hr_17] at hres
          refine wr_callv (w1 := [(g, .inr (1, [.ref cl, .ref t0, .ref t1, .int nx, .int tn])), (t0, .inr (5, [.ref ma0, .int r_17.1, .int pts0, .int ths0, .int rgs0, .int rgc0, .int fnd0, .int rdb0, .int wdb0])), (ma0, .inl (cI, 8, .inl r_17.2.1)), (t1, .inr (5, [.ref ma1, .int r_17.2.2.1, .int pts1, .int ths1, .int rgs1, .int rgc1, .int fnd1, .int rdb1, .int wdb1])), (ma1, .inl (cI, 8, .inl r_17.2.2.2))]) (is := [0, 1, 2, 3, 4]) (va_runV (As := [.int joint]) (rest := []) ⟨hx, hb, hml, hown, hts⟩ (c_Game_dropMarks l dC dI cI cC cG cZ g cl t0 t1 ma0 ma1 joint nx tn mks0 pts0 ths0 rgs0 rgc0 fnd0 rdb0 wdb0 fma0 mks1 pts1 ths1 rgs1 rgc1 fnd1 rdb1 wdb1 fma1 hM0 hM1 r_17 hr_17) (cwV 1 hts gX1_findChalk_X1_dropMarks rfl rfl rfl (by decide +kernel) ⟨Nat.le_of_ble_eq_true rfl, Nat.le_of_ble_eq_true rfl⟩) (wr_preV (hP.sub (ws' := [(g, .inr (1, [.ref cl, .ref t0, .ref t1, .int nx, .int tn])), (t0, .inr (5, [.ref ma0, .int mks0, .int pts0, .int ths0, .int rgs0, .int rgc0, .int fnd0, .int rdb0, .int wdb0])), (ma0, .inl (cI, 8, .inl fma0)), (t1, .inr (5, [.ref ma1, .int mks1, .int pts1, .int ths1, .int rgs1, .int rgc1, .int fnd1, .int rdb1, .int wdb1])), (ma1, .inl (cI, 8, .inl fma1))]) [0, 1, 2, 3, 4] rfl) hK (hD.sub (ws' := [(g, .inr (1, [.ref cl, .ref t0, .ref t1, .int nx, .int tn])), (t0, .inr (5, [.ref ma0, .int mks0, .int pts0, .int ths0, .int rgs0, .int rgc0, .int fnd0, .int rdb0, .int wdb0])), (ma0, .inl (cI, 8, .inl fma0)), (t1, .inr (5, [.ref ma1, .int mks1, .int pts1, .int ths1, .int rgs1, .int rgc1, .int fnd1, .int rdb1, .int wdb1])), (ma1, .inl (cI, 8, .inl fma1))]) [0, 1, 2, 3, 4] (by decide) rfl) (ci := 1) (q0 := 0) rfl rfl) rfl rfl hl.1 rfl (lv_room (Nat.le_of_ble_eq_true rfl)) dX1_findChalk_68 ⟨Nat.zero_le _, Nat.zero_le _⟩) hP hD hS rfl rfl rfl (fun H locs hP hD hS => ?_)
          have hP : va_P (dC, dI) vwCl [(g, .inr (1, [.ref cl, .ref t0, .ref t1, .int nx, .int tn])), (t0, .inr (5, [.ref ma0, .int r_17.1, .int pts0, .int ths0, .int rgs0, .int rgc0, .int fnd0, .int rdb0, .int wdb0])), (ma0, .inl (cI, 8, .inl r_17.2.1)), (t1, .inr (5, [.ref ma1, .int r_17.2.2.1, .int pts1, .int ths1, .int rgs1, .int rgc1, .int fnd1, .int rdb1, .int wdb1])), (ma1, .inl (cI, 8, .inl r_17.2.2.2))] H := hP
          have hD : va_D A [(g, .inr (1, [.ref cl, .ref t0, .ref t1, .int nx, .int tn])), (t0, .inr (5, [.ref ma0, .int r_17.1, .int pts0, .int ths0, .int rgs0, .int rgc0, .int fnd0, .int rdb0, .int wdb0])), (ma0, .inl (cI, 8, .inl r_17.2.1)), (t1, .inr (5, [.ref ma1, .int r_17.2.2.1, .int pts1, .int ths1, .int rgs1, .int rgc1, .int fnd1, .int rdb1, .int wdb1])), (ma1, .inl (cI, 8, .inl r_17.2.2.2))] := hD
          subst hres
          exact W.vret hx hb hr (fun t ht hW => ⟨⟨(), rfl, trivial, (by show va_P _ _ _ t.heap; rw [ht]; exact hP)⟩, hS.F ht⟩) hS.2.2 dX1_findChalk_71
        · rw [if_neg c_16] at hres
          refine lv_aload_n hx hb dX1_findChalk_56 rfl (lv_at hl 1 rfl) ?_
          refine lv_dup hx hb dX1_findChalk_57 rfl ?_
          refine va_get (D := (dC, dI)) (ci := 5) (v := .int pts0) (C := RX5) (T := TX5) (N := 9) hx hb hts iX1_findChalk_X5 hown hK hP 1 rfl rfl 2 (by decide) (hts (.fieldLink RX1 50 "TailorChalks$Tailor" "points" "I") kX1_findChalk_50) (fun _ h9 => h9) rfl dX1_findChalk_58 ?_
          refine lv_iconst (v := 1) hx hb dX1_findChalk_61 (by decide) ?_
          refine lv_iadd hx hb dX1_findChalk_62 ?_
          refine va_put (D := (dC, dI)) (ci := 5) (v := .int (pts0 + 1)) (ty := (.int)) (C := RX5) (T := TX5) (N := 9) hx hb hts iX1_findChalk_X5 tyX5 tyX5_ok nmX5 hown hK hP hD hS 1 rfl rfl 2 (by decide) (hts (.fieldLink RX1 50 "TailorChalks$Tailor" "points" "I") kX1_findChalk_50) (fun _ h9 => h9) rfl (by decide +kernel) rfl rfl (Nat.le_of_ble_eq_true rfl) dX1_findChalk_63 (fun H locs hP hD hS => ?_)
          have hP : va_P (dC, dI) vwCl [(g, .inr (1, [.ref cl, .ref t0, .ref t1, .int nx, .int tn])), (t0, .inr (5, [.ref ma0, .int mks0, .int (pts0 + 1), .int ths0, .int rgs0, .int rgc0, .int fnd0, .int rdb0, .int wdb0])), (ma0, .inl (cI, 8, .inl fma0)), (t1, .inr (5, [.ref ma1, .int mks1, .int pts1, .int ths1, .int rgs1, .int rgc1, .int fnd1, .int rdb1, .int wdb1])), (ma1, .inl (cI, 8, .inl fma1))] H := hP
          have hD : va_D A [(g, .inr (1, [.ref cl, .ref t0, .ref t1, .int nx, .int tn])), (t0, .inr (5, [.ref ma0, .int mks0, .int (pts0 + 1), .int ths0, .int rgs0, .int rgc0, .int fnd0, .int rdb0, .int wdb0])), (ma0, .inl (cI, 8, .inl fma0)), (t1, .inr (5, [.ref ma1, .int mks1, .int pts1, .int ths1, .int rgs1, .int rgc1, .int fnd1, .int rdb1, .int wdb1])), (ma1, .inl (cI, 8, .inl fma1))] := hD
          refine lv_aload_n hx hb dX1_findChalk_66 rfl (lv_at hl 2 rfl) ?_
          refine lv_iload_n hx hb dX1_findChalk_67 rfl (lv_at hl 3 rfl) ?_
          obtain ⟨r_18, hr_18⟩ : ∃ z, z = F_Game_dropMarks joint mks0 fma0 mks1 fma1 := ⟨_, rfl⟩
          rw [bnd_e hr_18] at hres
          refine wr_callv (w1 := [(g, .inr (1, [.ref cl, .ref t0, .ref t1, .int nx, .int tn])), (t0, .inr (5, [.ref ma0, .int r_18.1, .int (pts0 + 1), .int ths0, .int rgs0, .int rgc0, .int fnd0, .int rdb0, .int wdb0])), (ma0, .inl (cI, 8, .inl r_18.2.1)), (t1, .inr (5, [.ref ma1, .int r_18.2.2.1, .int pts1, .int ths1, .int rgs1, .int rgc1, .int fnd1, .int rdb1, .int wdb1])), (ma1, .inl (cI, 8, .inl r_18.2.2.2))]) (is := [0, 1, 2, 3, 4]) (va_runV (As := [.int joint]) (rest := []) ⟨hx, hb, hml, hown, hts⟩ (c_Game_dropMarks l dC dI cI cC cG cZ g cl t0 t1 ma0 ma1 joint nx tn mks0 (pts0 + 1) ths0 rgs0 rgc0 fnd0 rdb0 wdb0 fma0 mks1 pts1 ths1 rgs1 rgc1 fnd1 rdb1 wdb1 fma1 hM0 hM1 r_18 hr_18) (cwV 1 hts gX1_findChalk_X1_dropMarks rfl rfl rfl (by decide +kernel) ⟨Nat.le_of_ble_eq_true rfl, Nat.le_of_ble_eq_true rfl⟩) (wr_preV (hP.sub (ws' := [(g, .inr (1, [.ref cl, .ref t0, .ref t1, .int nx, .int tn])), (t0, .inr (5, [.ref ma0, .int mks0, .int (pts0 + 1), .int ths0, .int rgs0, .int rgc0, .int fnd0, .int rdb0, .int wdb0])), (ma0, .inl (cI, 8, .inl fma0)), (t1, .inr (5, [.ref ma1, .int mks1, .int pts1, .int ths1, .int rgs1, .int rgc1, .int fnd1, .int rdb1, .int wdb1])), (ma1, .inl (cI, 8, .inl fma1))]) [0, 1, 2, 3, 4] rfl) hK (hD.sub (ws' := [(g, .inr (1, [.ref cl, .ref t0, .ref t1, .int nx, .int tn])), (t0, .inr (5, [.ref ma0, .int mks0, .int (pts0 + 1), .int ths0, .int rgs0, .int rgc0, .int fnd0, .int rdb0, .int wdb0])), (ma0, .inl (cI, 8, .inl fma0)), (t1, .inr (5, [.ref ma1, .int mks1, .int pts1, .int ths1, .int rgs1, .int rgc1, .int fnd1, .int rdb1, .int wdb1])), (ma1, .inl (cI, 8, .inl fma1))]) [0, 1, 2, 3, 4] (by decide) rfl) (ci := 1) (q0 := 0) rfl rfl) rfl rfl hl.1 rfl (lv_room (Nat.le_of_ble_eq_true rfl)) dX1_findChalk_68 ⟨Nat.zero_le _, Nat.zero_le _⟩) hP hD hS rfl rfl rfl (fun H locs hP hD hS => ?_)
          have hP : va_P (dC, dI) vwCl [(g, .inr (1, [.ref cl, .ref t0, .ref t1, .int nx, .int tn])), (t0, .inr (5, [.ref ma0, .int r_18.1, .int (pts0 + 1), .int ths0, .int rgs0, .int rgc0, .int fnd0, .int rdb0, .int wdb0])), (ma0, .inl (cI, 8, .inl r_18.2.1)), (t1, .inr (5, [.ref ma1, .int r_18.2.2.1, .int pts1, .int ths1, .int rgs1, .int rgc1, .int fnd1, .int rdb1, .int wdb1])), (ma1, .inl (cI, 8, .inl r_18.2.2.2))] H := hP
          have hD : va_D A [(g, .inr (1, [.ref cl, .ref t0, .ref t1, .int nx, .int tn])), (t0, .inr (5, [.ref ma0, .int r_18.1, .int (pts0 + 1), .int ths0, .int rgs0, .int rgc0, .int fnd0, .int rdb0, .int wdb0])), (ma0, .inl (cI, 8, .inl r_18.2.1)), (t1, .inr (5, [.ref ma1, .int r_18.2.2.1, .int pts1, .int ths1, .int rgs1, .int rgc1, .int fnd1, .int rdb1, .int wdb1])), (ma1, .inl (cI, 8, .inl r_18.2.2.2))] := hD
          subst hres
          exact W.vret hx hb hr (fun t ht hW => ⟨⟨(), rfl, trivial, (by show va_P _ _ _ t.heap; rw [ht]; exact hP)⟩, hS.F ht⟩) hS.2.2 dX1_findChalk_71
      · rw [if_neg c_14] at hres
        refine lv_aload_n hx hb dX1_findChalk_28 rfl (lv_at hl 1 rfl) ?_
        refine lv_dup hx hb dX1_findChalk_29 rfl ?_
        refine va_get (D := (dC, dI)) (ci := 5) (v := .int pts0) (C := RX5) (T := TX5) (N := 9) hx hb hts iX1_findChalk_X5 hown hK hP 1 rfl rfl 2 (by decide) (hts (.fieldLink RX1 50 "TailorChalks$Tailor" "points" "I") kX1_findChalk_50) (fun _ h9 => h9) rfl dX1_findChalk_30 ?_
        refine lv_iconst (v := 3) hx hb dX1_findChalk_33 (by decide) ?_
        refine lv_isub hx hb dX1_findChalk_34 ?_
        refine va_put (D := (dC, dI)) (ci := 5) (v := .int (pts0 - 3)) (ty := (.int)) (C := RX5) (T := TX5) (N := 9) hx hb hts iX1_findChalk_X5 tyX5 tyX5_ok nmX5 hown hK hP hD hS 1 rfl rfl 2 (by decide) (hts (.fieldLink RX1 50 "TailorChalks$Tailor" "points" "I") kX1_findChalk_50) (fun _ h9 => h9) rfl (by decide +kernel) rfl rfl (Nat.le_of_ble_eq_true rfl) dX1_findChalk_35 (fun H locs hP hD hS => ?_)
        have hP : va_P (dC, dI) vwCl [(g, .inr (1, [.ref cl, .ref t0, .ref t1, .int nx, .int tn])), (t0, .inr (5, [.ref ma0, .int mks0, .int (pts0 - 3), .int ths0, .int rgs0, .int rgc0, .int fnd0, .int rdb0, .int wdb0])), (ma0, .inl (cI, 8, .inl fma0)), (t1, .inr (5, [.ref ma1, .int mks1, .int pts1, .int ths1, .int rgs1, .int rgc1, .int fnd1, .int rdb1, .int wdb1])), (ma1, .inl (cI, 8, .inl fma1))] H := hP
        have hD : va_D A [(g, .inr (1, [.ref cl, .ref t0, .ref t1, .int nx, .int tn])), (t0, .inr (5, [.ref ma0, .int mks0, .int (pts0 - 3), .int ths0, .int rgs0, .int rgc0, .int fnd0, .int rdb0, .int wdb0])), (ma0, .inl (cI, 8, .inl fma0)), (t1, .inr (5, [.ref ma1, .int mks1, .int pts1, .int ths1, .int rgs1, .int rgc1, .int fnd1, .int rdb1, .int wdb1])), (ma1, .inl (cI, 8, .inl fma1))] := hD
        refine lv_aload_n hx hb dX1_findChalk_38 rfl (lv_at hl 1 rfl) ?_
        refine lv_dup hx hb dX1_findChalk_39 rfl ?_
        refine va_get (D := (dC, dI)) (ci := 5) (v := .int fnd0) (C := RX5) (T := TX5) (N := 9) hx hb hts iX1_findChalk_X5 hown hK hP 1 rfl rfl 6 (by decide) (hts (.fieldLink RX1 129 "TailorChalks$Tailor" "found" "I") kX1_findChalk_129) (fun _ h9 => h9) rfl dX1_findChalk_40 ?_
        refine lv_iconst (v := 1) hx hb dX1_findChalk_43 (by decide) ?_
        refine lv_iadd hx hb dX1_findChalk_44 ?_
        refine va_put (D := (dC, dI)) (ci := 5) (v := .int (fnd0 + 1)) (ty := (.int)) (C := RX5) (T := TX5) (N := 9) hx hb hts iX1_findChalk_X5 tyX5 tyX5_ok nmX5 hown hK hP hD hS 1 rfl rfl 6 (by decide) (hts (.fieldLink RX1 129 "TailorChalks$Tailor" "found" "I") kX1_findChalk_129) (fun _ h9 => h9) rfl (by decide +kernel) rfl rfl (Nat.le_of_ble_eq_true rfl) dX1_findChalk_45 (fun H locs hP hD hS => ?_)
        have hP : va_P (dC, dI) vwCl [(g, .inr (1, [.ref cl, .ref t0, .ref t1, .int nx, .int tn])), (t0, .inr (5, [.ref ma0, .int mks0, .int (pts0 - 3), .int ths0, .int rgs0, .int rgc0, .int (fnd0 + 1), .int rdb0, .int wdb0])), (ma0, .inl (cI, 8, .inl fma0)), (t1, .inr (5, [.ref ma1, .int mks1, .int pts1, .int ths1, .int rgs1, .int rgc1, .int fnd1, .int rdb1, .int wdb1])), (ma1, .inl (cI, 8, .inl fma1))] H := hP
        have hD : va_D A [(g, .inr (1, [.ref cl, .ref t0, .ref t1, .int nx, .int tn])), (t0, .inr (5, [.ref ma0, .int mks0, .int (pts0 - 3), .int ths0, .int rgs0, .int rgc0, .int (fnd0 + 1), .int rdb0, .int wdb0])), (ma0, .inl (cI, 8, .inl fma0)), (t1, .inr (5, [.ref ma1, .int mks1, .int pts1, .int ths1, .int rgs1, .int rgc1, .int fnd1, .int rdb1, .int wdb1])), (ma1, .inl (cI, 8, .inl fma1))] := hD
        refine lv_aload_n hx hb dX1_findChalk_48 rfl (lv_at hl 1 rfl) ?_
        refine lv_iload_n hx hb dX1_findChalk_49 rfl (lv_at hl 3 rfl) ?_
        obtain ⟨r_19, hr_19⟩ : ∃ z, z = F_Tailor_hasMark joint mks0 fma0 := ⟨_, rfl⟩
        rw [bnd_e hr_19] at hres
        refine ro_calli (va_runV (As := [.int joint]) (rest := []) ⟨hx, hb, hml, hown, hts⟩ (c_Tailor_hasMark l dC dI cI cC cG cZ t0 ma0 joint mks0 (pts0 - 3) ths0 rgs0 rgc0 (fnd0 + 1) rdb0 wdb0 fma0 hM0 r_19 hr_19) (cwV 1 hts gX1_findChalk_X5_hasMark rfl rfl rfl (by decide +kernel) ⟨Nat.le_of_ble_eq_true rfl, Nat.le_of_ble_eq_true rfl⟩) (ro_preV (hP.sub (ws' := [(t0, .inr (5, [.ref ma0, .int mks0, .int (pts0 - 3), .int ths0, .int rgs0, .int rgc0, .int (fnd0 + 1), .int rdb0, .int wdb0])), (ma0, .inl (cI, 8, .inl fma0))]) [1, 2] rfl) hK (ci := 5) (q0 := 0) rfl rfl) rfl rfl hl.1 rfl (lv_room (Nat.le_of_ble_eq_true rfl)) dX1_findChalk_50 ⟨Nat.zero_le _, Nat.zero_le _⟩) hP hS (fun H locs hP hS => ?_)
        refine lv_if_eq (tgt := 66) hx hb dX1_findChalk_53 (by decide) (fun c_20 => ?_) (fun c_20 => ?_)
        · rw [if_pos c_20] at hres
          refine lv_aload_n hx hb dX1_findChalk_66 rfl (lv_at hl 2 rfl) ?_
          refine lv_iload_n hx hb dX1_findChalk_67 rfl (lv_at hl 3 rfl) ?_
          obtain ⟨r_21, hr_21⟩ : ∃ z, z = F_Game_dropMarks joint mks0 fma0 mks1 fma1 := ⟨_, rfl⟩
          rw [bnd_e hr_21] at hres
          refine wr_callv (w1 := [(g, .inr (1, [.ref cl, .ref t0, .ref t1, .int nx, .int tn])), (t0, .inr (5, [.ref ma0, .int r_21.1, .int (pts0 - 3), .int ths0, .int rgs0, .int rgc0, .int (fnd0 + 1), .int rdb0, .int wdb0])), (ma0, .inl (cI, 8, .inl r_21.2.1)), (t1, .inr (5, [.ref ma1, .int r_21.2.2.1, .int pts1, .int ths1, .int rgs1, .int rgc1, .int fnd1, .int rdb1, .int wdb1])), (ma1, .inl (cI, 8, .inl r_21.2.2.2))]) (is := [0, 1, 2, 3, 4]) (va_runV (As := [.int joint]) (rest := []) ⟨hx, hb, hml, hown, hts⟩ (c_Game_dropMarks l dC dI cI cC cG cZ g cl t0 t1 ma0 ma1 joint nx tn mks0 (pts0 - 3) ths0 rgs0 rgc0 (fnd0 + 1) rdb0 wdb0 fma0 mks1 pts1 ths1 rgs1 rgc1 fnd1 rdb1 wdb1 fma1 hM0 hM1 r_21 hr_21) (cwV 1 hts gX1_findChalk_X1_dropMarks rfl rfl rfl (by decide +kernel) ⟨Nat.le_of_ble_eq_true rfl, Nat.le_of_ble_eq_true rfl⟩) (wr_preV (hP.sub (ws' := [(g, .inr (1, [.ref cl, .ref t0, .ref t1, .int nx, .int tn])), (t0, .inr (5, [.ref ma0, .int mks0, .int (pts0 - 3), .int ths0, .int rgs0, .int rgc0, .int (fnd0 + 1), .int rdb0, .int wdb0])), (ma0, .inl (cI, 8, .inl fma0)), (t1, .inr (5, [.ref ma1, .int mks1, .int pts1, .int ths1, .int rgs1, .int rgc1, .int fnd1, .int rdb1, .int wdb1])), (ma1, .inl (cI, 8, .inl fma1))]) [0, 1, 2, 3, 4] rfl) hK (hD.sub (ws' := [(g, .inr (1, [.ref cl, .ref t0, .ref t1, .int nx, .int tn])), (t0, .inr (5, [.ref ma0, .int mks0, .int (pts0 - 3), .int ths0, .int rgs0, .int rgc0, .int (fnd0 + 1), .int rdb0, .int wdb0])), (ma0, .inl (cI, 8, .inl fma0)), (t1, .inr (5, [.ref ma1, .int mks1, .int pts1, .int ths1, .int rgs1, .int rgc1, .int fnd1, .int rdb1, .int wdb1])), (ma1, .inl (cI, 8, .inl fma1))]) [0, 1, 2, 3, 4] (by decide) rfl) (ci := 1) (q0 := 0) rfl rfl) rfl rfl hl.1 rfl (lv_room (Nat.le_of_ble_eq_true rfl)) dX1_findChalk_68 ⟨Nat.zero_le _, Nat.zero_le _⟩) hP hD hS rfl rfl rfl (fun H locs hP hD hS => ?_)
          have hP : va_P (dC, dI) vwCl [(g, .inr (1, [.ref cl, .ref t0, .ref t1, .int nx, .int tn])), (t0, .inr (5, [.ref ma0, .int r_21.1, .int (pts0 - 3), .int ths0, .int rgs0, .int rgc0, .int (fnd0 + 1), .int rdb0, .int wdb0])), (ma0, .inl (cI, 8, .inl r_21.2.1)), (t1, .inr (5, [.ref ma1, .int r_21.2.2.1, .int pts1, .int ths1, .int rgs1, .int rgc1, .int fnd1, .int rdb1, .int wdb1])), (ma1, .inl (cI, 8, .inl r_21.2.2.2))] H := hP
          have hD : va_D A [(g, .inr (1, [.ref cl, .ref t0, .ref t1, .int nx, .int tn])), (t0, .inr (5, [.ref ma0, .int r_21.1, .int (pts0 - 3), .int ths0, .int rgs0, .int rgc0, .int (fnd0 + 1), .int rdb0, .int wdb0])), (ma0, .inl (cI, 8, .inl r_21.2.1)), (t1, .inr (5, [.ref ma1, .int r_21.2.2.1, .int pts1, .int ths1, .int rgs1, .int rgc1, .int fnd1, .int rdb1, .int wdb1])), (ma1, .inl (cI, 8, .inl r_21.2.2.2))] := hD
          subst hres
          exact W.vret hx hb hr (fun t ht hW => ⟨⟨(), rfl, trivial, (by show va_P _ _ _ t.heap; rw [ht]; exact hP)⟩, hS.F ht⟩) hS.2.2 dX1_findChalk_71
        · rw [if_neg c_20] at hres
          refine lv_aload_n hx hb dX1_findChalk_56 rfl (lv_at hl 1 rfl) ?_
          refine lv_dup hx hb dX1_findChalk_57 rfl ?_
          refine va_get (D := (dC, dI)) (ci := 5) (v := .int (pts0 - 3)) (C := RX5) (T := TX5) (N := 9) hx hb hts iX1_findChalk_X5 hown hK hP 1 rfl rfl 2 (by decide) (hts (.fieldLink RX1 50 "TailorChalks$Tailor" "points" "I") kX1_findChalk_50) (fun _ h9 => h9) rfl dX1_findChalk_58 ?_
          refine lv_iconst (v := 1) hx hb dX1_findChalk_61 (by decide) ?_
          refine lv_iadd hx hb dX1_findChalk_62 ?_
          refine va_put (D := (dC, dI)) (ci := 5) (v := .int ((pts0 - 3) + 1)) (ty := (.int)) (C := RX5) (T := TX5) (N := 9) hx hb hts iX1_findChalk_X5 tyX5 tyX5_ok nmX5 hown hK hP hD hS 1 rfl rfl 2 (by decide) (hts (.fieldLink RX1 50 "TailorChalks$Tailor" "points" "I") kX1_findChalk_50) (fun _ h9 => h9) rfl (by decide +kernel) rfl rfl (Nat.le_of_ble_eq_true rfl) dX1_findChalk_63 (fun H locs hP hD hS => ?_)
          have hP : va_P (dC, dI) vwCl [(g, .inr (1, [.ref cl, .ref t0, .ref t1, .int nx, .int tn])), (t0, .inr (5, [.ref ma0, .int mks0, .int ((pts0 - 3) + 1), .int ths0, .int rgs0, .int rgc0, .int (fnd0 + 1), .int rdb0, .int wdb0])), (ma0, .inl (cI, 8, .inl fma0)), (t1, .inr (5, [.ref ma1, .int mks1, .int pts1, .int ths1, .int rgs1, .int rgc1, .int fnd1, .int rdb1, .int wdb1])), (ma1, .inl (cI, 8, .inl fma1))] H := hP
          have hD : va_D A [(g, .inr (1, [.ref cl, .ref t0, .ref t1, .int nx, .int tn])), (t0, .inr (5, [.ref ma0, .int mks0, .int ((pts0 - 3) + 1), .int ths0, .int rgs0, .int rgc0, .int (fnd0 + 1), .int rdb0, .int wdb0])), (ma0, .inl (cI, 8, .inl fma0)), (t1, .inr (5, [.ref ma1, .int mks1, .int pts1, .int ths1, .int rgs1, .int rgc1, .int fnd1, .int rdb1, .int wdb1])), (ma1, .inl (cI, 8, .inl fma1))] := hD
          refine lv_aload_n hx hb dX1_findChalk_66 rfl (lv_at hl 2 rfl) ?_
          refine lv_iload_n hx hb dX1_findChalk_67 rfl (lv_at hl 3 rfl) ?_
          obtain ⟨r_22, hr_22⟩ : ∃ z, z = F_Game_dropMarks joint mks0 fma0 mks1 fma1 := ⟨_, rfl⟩
          rw [bnd_e hr_22] at hres
          refine wr_callv (w1 := [(g, .inr (1, [.ref cl, .ref t0, .ref t1, .int nx, .int tn])), (t0, .inr (5, [.ref ma0, .int r_22.1, .int ((pts0 - 3) + 1), .int ths0, .int rgs0, .int rgc0, .int (fnd0 + 1), .int rdb0, .int wdb0])), (ma0, .inl (cI, 8, .inl r_22.2.1)), (t1, .inr (5, [.ref ma1, .int r_22.2.2.1, .int pts1, .int ths1, .int rgs1, .int rgc1, .int fnd1, .int rdb1, .int wdb1])), (ma1, .inl (cI, 8, .inl r_22.2.2.2))]) (is := [0, 1, 2, 3, 4]) (va_runV (As := [.int joint]) (rest := []) ⟨hx, hb, hml, hown, hts⟩ (c_Game_dropMarks l dC dI cI cC cG cZ g cl t0 t1 ma0 ma1 joint nx tn mks0 ((pts0 - 3) + 1) ths0 rgs0 rgc0 (fnd0 + 1) rdb0 wdb0 fma0 mks1 pts1 ths1 rgs1 rgc1 fnd1 rdb1 wdb1 fma1 hM0 hM1 r_22 hr_22) (cwV 1 hts gX1_findChalk_X1_dropMarks rfl rfl rfl (by decide +kernel) ⟨Nat.le_of_ble_eq_true rfl, Nat.le_of_ble_eq_true rfl⟩) (wr_preV (hP.sub (ws' := [(g, .inr (1, [.ref cl, .ref t0, .ref t1, .int nx, .int tn])), (t0, .inr (5, [.ref ma0, .int mks0, .int ((pts0 - 3) + 1), .int ths0, .int rgs0, .int rgc0, .int (fnd0 + 1), .int rdb0, .int wdb0])), (ma0, .inl (cI, 8, .inl fma0)), (t1, .inr (5, [.ref ma1, .int mks1, .int pts1, .int ths1, .int rgs1, .int rgc1, .int fnd1, .int rdb1, .int wdb1])), (ma1, .inl (cI, 8, .inl fma1))]) [0, 1, 2, 3, 4] rfl) hK (hD.sub (ws' := [(g, .inr (1, [.ref cl, .ref t0, .ref t1, .int nx, .int tn])), (t0, .inr (5, [.ref ma0, .int mks0, .int ((pts0 - 3) + 1), .int ths0, .int rgs0, .int rgc0, .int (fnd0 + 1), .int rdb0, .int wdb0])), (ma0, .inl (cI, 8, .inl fma0)), (t1, .inr (5, [.ref ma1, .int mks1, .int pts1, .int ths1, .int rgs1, .int rgc1, .int fnd1, .int rdb1, .int wdb1])), (ma1, .inl (cI, 8, .inl fma1))]) [0, 1, 2, 3, 4] (by decide) rfl) (ci := 1) (q0 := 0) rfl rfl) rfl rfl hl.1 rfl (lv_room (Nat.le_of_ble_eq_true rfl)) dX1_findChalk_68 ⟨Nat.zero_le _, Nat.zero_le _⟩) hP hD hS rfl rfl rfl (fun H locs hP hD hS => ?_)
          have hP : va_P (dC, dI) vwCl [(g, .inr (1, [.ref cl, .ref t0, .ref t1, .int nx, .int tn])), (t0, .inr (5, [.ref ma0, .int r_22.1, .int ((pts0 - 3) + 1), .int ths0, .int rgs0, .int rgc0, .int (fnd0 + 1), .int rdb0, .int wdb0])), (ma0, .inl (cI, 8, .inl r_22.2.1)), (t1, .inr (5, [.ref ma1, .int r_22.2.2.1, .int pts1, .int ths1, .int rgs1, .int rgc1, .int fnd1, .int rdb1, .int wdb1])), (ma1, .inl (cI, 8, .inl r_22.2.2.2))] H := hP
          have hD : va_D A [(g, .inr (1, [.ref cl, .ref t0, .ref t1, .int nx, .int tn])), (t0, .inr (5, [.ref ma0, .int r_22.1, .int ((pts0 - 3) + 1), .int ths0, .int rgs0, .int rgc0, .int (fnd0 + 1), .int rdb0, .int wdb0])), (ma0, .inl (cI, 8, .inl r_22.2.1)), (t1, .inr (5, [.ref ma1, .int r_22.2.2.1, .int pts1, .int ths1, .int rgs1, .int rgc1, .int fnd1, .int rdb1, .int wdb1])), (ma1, .inl (cI, 8, .inl r_22.2.2.2))] := hD
          subst hres
          exact W.vret hx hb hr (fun t ht hW => ⟨⟨(), rfl, trivial, (by show va_P _ _ _ t.heap; rw [ht]; exact hP)⟩, hS.F ht⟩) hS.2.2 dX1_findChalk_71
  · rw [if_neg c_1] at hres
    refine ro_callr (va_runV (As := [.int nx]) (rest := []) ⟨hx, hb, hml, hown, hts⟩ (c_Game_tailorOf l dC dI cI cC cG cZ g cl t0 t1 nx nx tn  t1 (if_neg c_1).symm) (cwV 1 hts gX1_findChalk_X1_tailorOf rfl rfl rfl (by decide +kernel) ⟨Nat.le_of_ble_eq_true rfl, Nat.le_of_ble_eq_true rfl⟩) (ro_preV (hP.sub (ws' := [(g, .inr (1, [.ref cl, .ref t0, .ref t1, .int nx, .int tn]))]) [0] rfl) hK (ci := 1) (q0 := 0) rfl rfl) rfl rfl hl.1 rfl (lv_room (Nat.le_of_ble_eq_true rfl)) dX1_findChalk_5 ⟨Nat.zero_le _, Nat.zero_le _⟩) hP hS (fun H locs hP hS => ?_)
    refine lv_astore_n (lv' := [(2, .ref t1), (0, .ref g), (1, .int joint)]) hx hb dX1_findChalk_8 rfl hl (by decide) rfl (fun ls hl => ?_)
    refine lv_aload_n hx hb dX1_findChalk_9 rfl (lv_at hl 1 rfl) ?_
    refine lv_iconst (v := 1) hx hb dX1_findChalk_10 (by decide) ?_
    refine lv_aload_n hx hb dX1_findChalk_11 rfl (lv_at hl 1 rfl) ?_
    refine va_get (D := (dC, dI)) (ci := 1) (v := .int nx) (C := RX1) (T := TX1) (N := 5) hx hb hts iX1_findChalk_X1 hown hK hP 0 rfl rfl 3 (by decide) (hts (.fieldLink RX1 35 "TailorChalks$Game" "next" "I") kX1_findChalk_35) (fun _ h9 => h9) rfl dX1_findChalk_12 ?_
    refine lv_isub hx hb dX1_findChalk_15 ?_
    by_cases c_23 : ((1 : Int32) - nx) = 0
    · rw [if_pos c_23] at hres
      refine ro_callr (va_runV (As := [.int ((1 : Int32) - nx)]) (rest := []) ⟨hx, hb, hml, hown, hts⟩ (c_Game_tailorOf l dC dI cI cC cG cZ g cl t0 t1 ((1 : Int32) - nx) nx tn  t0 (if_pos c_23).symm) (cwV 1 hts gX1_findChalk_X1_tailorOf rfl rfl rfl (by decide +kernel) ⟨Nat.le_of_ble_eq_true rfl, Nat.le_of_ble_eq_true rfl⟩) (ro_preV (hP.sub (ws' := [(g, .inr (1, [.ref cl, .ref t0, .ref t1, .int nx, .int tn]))]) [0] rfl) hK (ci := 1) (q0 := 0) rfl rfl) rfl rfl hl.1 rfl (lv_room (Nat.le_of_ble_eq_true rfl)) dX1_findChalk_16 ⟨Nat.zero_le _, Nat.zero_le _⟩) hP hS (fun H locs hP hS => ?_)
      refine lv_astore_n (lv' := [(3, .ref t0), (2, .ref t1), (0, .ref g), (1, .int joint)]) hx hb dX1_findChalk_19 rfl hl (by decide) rfl (fun ls hl => ?_)
      refine lv_aload_n hx hb dX1_findChalk_20 rfl (lv_at hl 0 rfl) ?_
      refine lv_iload_n hx hb dX1_findChalk_21 rfl (lv_at hl 3 rfl) ?_
      obtain ⟨r_24, hr_24⟩ : ∃ z, z = F_Tailor_hasMark joint mks0 fma0 := ⟨_, rfl⟩
      rw [bnd_e hr_24] at hres
      refine ro_calli (va_runV (As := [.int joint]) (rest := []) ⟨hx, hb, hml, hown, hts⟩ (c_Tailor_hasMark l dC dI cI cC cG cZ t0 ma0 joint mks0 pts0 ths0 rgs0 rgc0 fnd0 rdb0 wdb0 fma0 hM0 r_24 hr_24) (cwV 1 hts gX1_findChalk_X5_hasMark rfl rfl rfl (by decide +kernel) ⟨Nat.le_of_ble_eq_true rfl, Nat.le_of_ble_eq_true rfl⟩) (ro_preV (hP.sub (ws' := [(t0, .inr (5, [.ref ma0, .int mks0, .int pts0, .int ths0, .int rgs0, .int rgc0, .int fnd0, .int rdb0, .int wdb0])), (ma0, .inl (cI, 8, .inl fma0))]) [1, 2] rfl) hK (ci := 5) (q0 := 0) rfl rfl) rfl rfl hl.1 rfl (lv_room (Nat.le_of_ble_eq_true rfl)) dX1_findChalk_22 ⟨Nat.zero_le _, Nat.zero_le _⟩) hP hS (fun H locs hP hS => ?_)
      refine lv_if_eq (tgt := 48) hx hb dX1_findChalk_25 (by decide) (fun c_25 => ?_) (fun c_25 => ?_)
      · rw [if_pos c_25] at hres
        refine lv_aload_n hx hb dX1_findChalk_48 rfl (lv_at hl 1 rfl) ?_
        refine lv_iload_n hx hb dX1_findChalk_49 rfl (lv_at hl 3 rfl) ?_
        obtain ⟨r_26, hr_26⟩ : ∃ z, z = F_Tailor_hasMark joint mks1 fma1 := ⟨_, rfl⟩
        rw [bnd_e hr_26] at hres
        refine ro_calli (va_runV (As := [.int joint]) (rest := []) ⟨hx, hb, hml, hown, hts⟩ (c_Tailor_hasMark l dC dI cI cC cG cZ t1 ma1 joint mks1 pts1 ths1 rgs1 rgc1 fnd1 rdb1 wdb1 fma1 hM1 r_26 hr_26) (cwV 1 hts gX1_findChalk_X5_hasMark rfl rfl rfl (by decide +kernel) ⟨Nat.le_of_ble_eq_true rfl, Nat.le_of_ble_eq_true rfl⟩) (ro_preV (hP.sub (ws' := [(t1, .inr (5, [.ref ma1, .int mks1, .int pts1, .int ths1, .int rgs1, .int rgc1, .int fnd1, .int rdb1, .int wdb1])), (ma1, .inl (cI, 8, .inl fma1))]) [3, 4] rfl) hK (ci := 5) (q0 := 0) rfl rfl) rfl rfl hl.1 rfl (lv_room (Nat.le_of_ble_eq_true rfl)) dX1_findChalk_50 ⟨Nat.zero_le _, Nat.zero_le _⟩) hP hS (fun H locs hP hS => ?_)
        refine lv_if_eq (tgt := 66) hx hb dX1_findChalk_53 (by decide) (fun c_27 => ?_) (fun c_27 => ?_)
        · rw [if_pos c_27] at hres
          refine lv_aload_n hx hb dX1_findChalk_66 rfl (lv_at hl 2 rfl) ?_
          refine lv_iload_n hx hb dX1_findChalk_67 rfl (lv_at hl 3 rfl) ?_
          obtain ⟨r_28, hr_28⟩ : ∃ z, z = F_Game_dropMarks joint mks0 fma0 mks1 fma1 := ⟨_, rfl⟩
          rw [bnd_e hr_28] at hres
          refine wr_callv (w1 := [(g, .inr (1, [.ref cl, .ref t0, .ref t1, .int nx, .int tn])), (t0, .inr (5, [.ref ma0, .int r_28.1, .int pts0, .int ths0, .int rgs0, .int rgc0, .int fnd0, .int rdb0, .int wdb0])), (ma0, .inl (cI, 8, .inl r_28.2.1)), (t1, .inr (5, [.ref ma1, .int r_28.2.2.1, .int pts1, .int ths1, .int rgs1, .int rgc1, .int fnd1, .int rdb1, .int wdb1])), (ma1, .inl (cI, 8, .inl r_28.2.2.2))]) (is := [0, 1, 2, 3, 4]) (va_runV (As := [.int joint]) (rest := []) ⟨hx, hb, hml, hown, hts⟩ (c_Game_dropMarks l dC dI cI cC cG cZ g cl t0 t1 ma0 ma1 joint nx tn mks0 pts0 ths0 rgs0 rgc0 fnd0 rdb0 wdb0 fma0 mks1 pts1 ths1 rgs1 rgc1 fnd1 rdb1 wdb1 fma1 hM0 hM1 r_28 hr_28) (cwV 1 hts gX1_findChalk_X1_dropMarks rfl rfl rfl (by decide +kernel) ⟨Nat.le_of_ble_eq_true rfl, Nat.le_of_ble_eq_true rfl⟩) (wr_preV (hP.sub (ws' := [(g, .inr (1, [.ref cl, .ref t0, .ref t1, .int nx, .int tn])), (t0, .inr (5, [.ref ma0, .int mks0, .int pts0, .int ths0, .int rgs0, .int rgc0, .int fnd0, .int rdb0, .int wdb0])), (ma0, .inl (cI, 8, .inl fma0)), (t1, .inr (5, [.ref ma1, .int mks1, .int pts1, .int ths1, .int rgs1, .int rgc1, .int fnd1, .int rdb1, .int wdb1])), (ma1, .inl (cI, 8, .inl fma1))]) [0, 1, 2, 3, 4] rfl) hK (hD.sub (ws' := [(g, .inr (1, [.ref cl, .ref t0, .ref t1, .int nx, .int tn])), (t0, .inr (5, [.ref ma0, .int mks0, .int pts0, .int ths0, .int rgs0, .int rgc0, .int fnd0, .int rdb0, .int wdb0])), (ma0, .inl (cI, 8, .inl fma0)), (t1, .inr (5, [.ref ma1, .int mks1, .int pts1, .int ths1, .int rgs1, .int rgc1, .int fnd1, .int rdb1, .int wdb1])), (ma1, .inl (cI, 8, .inl fma1))]) [0, 1, 2, 3, 4] (by decide) rfl) (ci := 1) (q0 := 0) rfl rfl) rfl rfl hl.1 rfl (lv_room (Nat.le_of_ble_eq_true rfl)) dX1_findChalk_68 ⟨Nat.zero_le _, Nat.zero_le _⟩) hP hD hS rfl rfl rfl (fun H locs hP hD hS => ?_)
          have hP : va_P (dC, dI) vwCl [(g, .inr (1, [.ref cl, .ref t0, .ref t1, .int nx, .int tn])), (t0, .inr (5, [.ref ma0, .int r_28.1, .int pts0, .int ths0, .int rgs0, .int rgc0, .int fnd0, .int rdb0, .int wdb0])), (ma0, .inl (cI, 8, .inl r_28.2.1)), (t1, .inr (5, [.ref ma1, .int r_28.2.2.1, .int pts1, .int ths1, .int rgs1, .int rgc1, .int fnd1, .int rdb1, .int wdb1])), (ma1, .inl (cI, 8, .inl r_28.2.2.2))] H := hP
          have hD : va_D A [(g, .inr (1, [.ref cl, .ref t0, .ref t1, .int nx, .int tn])), (t0, .inr (5, [.ref ma0, .int r_28.1, .int pts0, .int ths0, .int rgs0, .int rgc0, .int fnd0, .int rdb0, .int wdb0])), (ma0, .inl (cI, 8, .inl r_28.2.1)), (t1, .inr (5, [.ref ma1, .int r_28.2.2.1, .int pts1, .int ths1, .int rgs1, .int rgc1, .int fnd1, .int rdb1, .int wdb1])), (ma1, .inl (cI, 8, .inl r_28.2.2.2))] := hD
          subst hres
          exact W.vret hx hb hr (fun t ht hW => ⟨⟨(), rfl, trivial, (by show va_P _ _ _ t.heap; rw [ht]; exact hP)⟩, hS.F ht⟩) hS.2.2 dX1_findChalk_71
        · rw [if_neg c_27] at hres
          refine lv_aload_n hx hb dX1_findChalk_56 rfl (lv_at hl 1 rfl) ?_
          refine lv_dup hx hb dX1_findChalk_57 rfl ?_
          refine va_get (D := (dC, dI)) (ci := 5) (v := .int pts1) (C := RX5) (T := TX5) (N := 9) hx hb hts iX1_findChalk_X5 hown hK hP 3 rfl rfl 2 (by decide) (hts (.fieldLink RX1 50 "TailorChalks$Tailor" "points" "I") kX1_findChalk_50) (fun _ h9 => h9) rfl dX1_findChalk_58 ?_
          refine lv_iconst (v := 1) hx hb dX1_findChalk_61 (by decide) ?_
          refine lv_iadd hx hb dX1_findChalk_62 ?_
          refine va_put (D := (dC, dI)) (ci := 5) (v := .int (pts1 + 1)) (ty := (.int)) (C := RX5) (T := TX5) (N := 9) hx hb hts iX1_findChalk_X5 tyX5 tyX5_ok nmX5 hown hK hP hD hS 3 rfl rfl 2 (by decide) (hts (.fieldLink RX1 50 "TailorChalks$Tailor" "points" "I") kX1_findChalk_50) (fun _ h9 => h9) rfl (by decide +kernel) rfl rfl (Nat.le_of_ble_eq_true rfl) dX1_findChalk_63 (fun H locs hP hD hS => ?_)
          have hP : va_P (dC, dI) vwCl [(g, .inr (1, [.ref cl, .ref t0, .ref t1, .int nx, .int tn])), (t0, .inr (5, [.ref ma0, .int mks0, .int pts0, .int ths0, .int rgs0, .int rgc0, .int fnd0, .int rdb0, .int wdb0])), (ma0, .inl (cI, 8, .inl fma0)), (t1, .inr (5, [.ref ma1, .int mks1, .int (pts1 + 1), .int ths1, .int rgs1, .int rgc1, .int fnd1, .int rdb1, .int wdb1])), (ma1, .inl (cI, 8, .inl fma1))] H := hP
          have hD : va_D A [(g, .inr (1, [.ref cl, .ref t0, .ref t1, .int nx, .int tn])), (t0, .inr (5, [.ref ma0, .int mks0, .int pts0, .int ths0, .int rgs0, .int rgc0, .int fnd0, .int rdb0, .int wdb0])), (ma0, .inl (cI, 8, .inl fma0)), (t1, .inr (5, [.ref ma1, .int mks1, .int (pts1 + 1), .int ths1, .int rgs1, .int rgc1, .int fnd1, .int rdb1, .int wdb1])), (ma1, .inl (cI, 8, .inl fma1))] := hD
          refine lv_aload_n hx hb dX1_findChalk_66 rfl (lv_at hl 2 rfl) ?_
          refine lv_iload_n hx hb dX1_findChalk_67 rfl (lv_at hl 3 rfl) ?_
          obtain ⟨r_29, hr_29⟩ : ∃ z, z = F_Game_dropMarks joint mks0 fma0 mks1 fma1 := ⟨_, rfl⟩
          rw [bnd_e hr_29] at hres
          refine wr_callv (w1 := [(g, .inr (1, [.ref cl, .ref t0, .ref t1, .int nx, .int tn])), (t0, .inr (5, [.ref ma0, .int r_29.1, .int pts0, .int ths0, .int rgs0, .int rgc0, .int fnd0, .int rdb0, .int wdb0])), (ma0, .inl (cI, 8, .inl r_29.2.1)), (t1, .inr (5, [.ref ma1, .int r_29.2.2.1, .int (pts1 + 1), .int ths1, .int rgs1, .int rgc1, .int fnd1, .int rdb1, .int wdb1])), (ma1, .inl (cI, 8, .inl r_29.2.2.2))]) (is := [0, 1, 2, 3, 4]) (va_runV (As := [.int joint]) (rest := []) ⟨hx, hb, hml, hown, hts⟩ (c_Game_dropMarks l dC dI cI cC cG cZ g cl t0 t1 ma0 ma1 joint nx tn mks0 pts0 ths0 rgs0 rgc0 fnd0 rdb0 wdb0 fma0 mks1 (pts1 + 1) ths1 rgs1 rgc1 fnd1 rdb1 wdb1 fma1 hM0 hM1 r_29 hr_29) (cwV 1 hts gX1_findChalk_X1_dropMarks rfl rfl rfl (by decide +kernel) ⟨Nat.le_of_ble_eq_true rfl, Nat.le_of_ble_eq_true rfl⟩) (wr_preV (hP.sub (ws' := [(g, .inr (1, [.ref cl, .ref t0, .ref t1, .int nx, .int tn])), (t0, .inr (5, [.ref ma0, .int mks0, .int pts0, .int ths0, .int rgs0, .int rgc0, .int fnd0, .int rdb0, .int wdb0])), (ma0, .inl (cI, 8, .inl fma0)), (t1, .inr (5, [.ref ma1, .int mks1, .int (pts1 + 1), .int ths1, .int rgs1, .int rgc1, .int fnd1, .int rdb1, .int wdb1])), (ma1, .inl (cI, 8, .inl fma1))]) [0, 1, 2, 3, 4] rfl) hK (hD.sub (ws' := [(g, .inr (1, [.ref cl, .ref t0, .ref t1, .int nx, .int tn])), (t0, .inr (5, [.ref ma0, .int mks0, .int pts0, .int ths0, .int rgs0, .int rgc0, .int fnd0, .int rdb0, .int wdb0])), (ma0, .inl (cI, 8, .inl fma0)), (t1, .inr (5, [.ref ma1, .int mks1, .int (pts1 + 1), .int ths1, .int rgs1, .int rgc1, .int fnd1, .int rdb1, .int wdb1])), (ma1, .inl (cI, 8, .inl fma1))]) [0, 1, 2, 3, 4] (by decide) rfl) (ci := 1) (q0 := 0) rfl rfl) rfl rfl hl.1 rfl (lv_room (Nat.le_of_ble_eq_true rfl)) dX1_findChalk_68 ⟨Nat.zero_le _, Nat.zero_le _⟩) hP hD hS rfl rfl rfl (fun H locs hP hD hS => ?_)
          have hP : va_P (dC, dI) vwCl [(g, .inr (1, [.ref cl, .ref t0, .ref t1, .int nx, .int tn])), (t0, .inr (5, [.ref ma0, .int r_29.1, .int pts0, .int ths0, .int rgs0, .int rgc0, .int fnd0, .int rdb0, .int wdb0])), (ma0, .inl (cI, 8, .inl r_29.2.1)), (t1, .inr (5, [.ref ma1, .int r_29.2.2.1, .int (pts1 + 1), .int ths1, .int rgs1, .int rgc1, .int fnd1, .int rdb1, .int wdb1])), (ma1, .inl (cI, 8, .inl r_29.2.2.2))] H := hP
          have hD : va_D A [(g, .inr (1, [.ref cl, .ref t0, .ref t1, .int nx, .int tn])), (t0, .inr (5, [.ref ma0, .int r_29.1, .int pts0, .int ths0, .int rgs0, .int rgc0, .int fnd0, .int rdb0, .int wdb0])), (ma0, .inl (cI, 8, .inl r_29.2.1)), (t1, .inr (5, [.ref ma1, .int r_29.2.2.1, .int (pts1 + 1), .int ths1, .int rgs1, .int rgc1, .int fnd1, .int rdb1, .int wdb1])), (ma1, .inl (cI, 8, .inl r_29.2.2.2))] := hD
          subst hres
          exact W.vret hx hb hr (fun t ht hW => ⟨⟨(), rfl, trivial, (by show va_P _ _ _ t.heap; rw [ht]; exact hP)⟩, hS.F ht⟩) hS.2.2 dX1_findChalk_71
      · rw [if_neg c_25] at hres
        refine lv_aload_n hx hb dX1_findChalk_28 rfl (lv_at hl 1 rfl) ?_
        refine lv_dup hx hb dX1_findChalk_29 rfl ?_
        refine va_get (D := (dC, dI)) (ci := 5) (v := .int pts1) (C := RX5) (T := TX5) (N := 9) hx hb hts iX1_findChalk_X5 hown hK hP 3 rfl rfl 2 (by decide) (hts (.fieldLink RX1 50 "TailorChalks$Tailor" "points" "I") kX1_findChalk_50) (fun _ h9 => h9) rfl dX1_findChalk_30 ?_
        refine lv_iconst (v := 3) hx hb dX1_findChalk_33 (by decide) ?_
        refine lv_isub hx hb dX1_findChalk_34 ?_
        refine va_put (D := (dC, dI)) (ci := 5) (v := .int (pts1 - 3)) (ty := (.int)) (C := RX5) (T := TX5) (N := 9) hx hb hts iX1_findChalk_X5 tyX5 tyX5_ok nmX5 hown hK hP hD hS 3 rfl rfl 2 (by decide) (hts (.fieldLink RX1 50 "TailorChalks$Tailor" "points" "I") kX1_findChalk_50) (fun _ h9 => h9) rfl (by decide +kernel) rfl rfl (Nat.le_of_ble_eq_true rfl) dX1_findChalk_35 (fun H locs hP hD hS => ?_)
        have hP : va_P (dC, dI) vwCl [(g, .inr (1, [.ref cl, .ref t0, .ref t1, .int nx, .int tn])), (t0, .inr (5, [.ref ma0, .int mks0, .int pts0, .int ths0, .int rgs0, .int rgc0, .int fnd0, .int rdb0, .int wdb0])), (ma0, .inl (cI, 8, .inl fma0)), (t1, .inr (5, [.ref ma1, .int mks1, .int (pts1 - 3), .int ths1, .int rgs1, .int rgc1, .int fnd1, .int rdb1, .int wdb1])), (ma1, .inl (cI, 8, .inl fma1))] H := hP
        have hD : va_D A [(g, .inr (1, [.ref cl, .ref t0, .ref t1, .int nx, .int tn])), (t0, .inr (5, [.ref ma0, .int mks0, .int pts0, .int ths0, .int rgs0, .int rgc0, .int fnd0, .int rdb0, .int wdb0])), (ma0, .inl (cI, 8, .inl fma0)), (t1, .inr (5, [.ref ma1, .int mks1, .int (pts1 - 3), .int ths1, .int rgs1, .int rgc1, .int fnd1, .int rdb1, .int wdb1])), (ma1, .inl (cI, 8, .inl fma1))] := hD
        refine lv_aload_n hx hb dX1_findChalk_38 rfl (lv_at hl 1 rfl) ?_
        refine lv_dup hx hb dX1_findChalk_39 rfl ?_
        refine va_get (D := (dC, dI)) (ci := 5) (v := .int fnd1) (C := RX5) (T := TX5) (N := 9) hx hb hts iX1_findChalk_X5 hown hK hP 3 rfl rfl 6 (by decide) (hts (.fieldLink RX1 129 "TailorChalks$Tailor" "found" "I") kX1_findChalk_129) (fun _ h9 => h9) rfl dX1_findChalk_40 ?_
        refine lv_iconst (v := 1) hx hb dX1_findChalk_43 (by decide) ?_
        refine lv_iadd hx hb dX1_findChalk_44 ?_
        refine va_put (D := (dC, dI)) (ci := 5) (v := .int (fnd1 + 1)) (ty := (.int)) (C := RX5) (T := TX5) (N := 9) hx hb hts iX1_findChalk_X5 tyX5 tyX5_ok nmX5 hown hK hP hD hS 3 rfl rfl 6 (by decide) (hts (.fieldLink RX1 129 "TailorChalks$Tailor" "found" "I") kX1_findChalk_129) (fun _ h9 => h9) rfl (by decide +kernel) rfl rfl (Nat.le_of_ble_eq_true rfl) dX1_findChalk_45 (fun H locs hP hD hS => ?_)
        have hP : va_P (dC, dI) vwCl [(g, .inr (1, [.ref cl, .ref t0, .ref t1, .int nx, .int tn])), (t0, .inr (5, [.ref ma0, .int mks0, .int pts0, .int ths0, .int rgs0, .int rgc0, .int fnd0, .int rdb0, .int wdb0])), (ma0, .inl (cI, 8, .inl fma0)), (t1, .inr (5, [.ref ma1, .int mks1, .int (pts1 - 3), .int ths1, .int rgs1, .int rgc1, .int (fnd1 + 1), .int rdb1, .int wdb1])), (ma1, .inl (cI, 8, .inl fma1))] H := hP
        have hD : va_D A [(g, .inr (1, [.ref cl, .ref t0, .ref t1, .int nx, .int tn])), (t0, .inr (5, [.ref ma0, .int mks0, .int pts0, .int ths0, .int rgs0, .int rgc0, .int fnd0, .int rdb0, .int wdb0])), (ma0, .inl (cI, 8, .inl fma0)), (t1, .inr (5, [.ref ma1, .int mks1, .int (pts1 - 3), .int ths1, .int rgs1, .int rgc1, .int (fnd1 + 1), .int rdb1, .int wdb1])), (ma1, .inl (cI, 8, .inl fma1))] := hD
        refine lv_aload_n hx hb dX1_findChalk_48 rfl (lv_at hl 1 rfl) ?_
        refine lv_iload_n hx hb dX1_findChalk_49 rfl (lv_at hl 3 rfl) ?_
        obtain ⟨r_30, hr_30⟩ : ∃ z, z = F_Tailor_hasMark joint mks1 fma1 := ⟨_, rfl⟩
        rw [bnd_e hr_30] at hres
        refine ro_calli (va_runV (As := [.int joint]) (rest := []) ⟨hx, hb, hml, hown, hts⟩ (c_Tailor_hasMark l dC dI cI cC cG cZ t1 ma1 joint mks1 (pts1 - 3) ths1 rgs1 rgc1 (fnd1 + 1) rdb1 wdb1 fma1 hM1 r_30 hr_30) (cwV 1 hts gX1_findChalk_X5_hasMark rfl rfl rfl (by decide +kernel) ⟨Nat.le_of_ble_eq_true rfl, Nat.le_of_ble_eq_true rfl⟩) (ro_preV (hP.sub (ws' := [(t1, .inr (5, [.ref ma1, .int mks1, .int (pts1 - 3), .int ths1, .int rgs1, .int rgc1, .int (fnd1 + 1), .int rdb1, .int wdb1])), (ma1, .inl (cI, 8, .inl fma1))]) [3, 4] rfl) hK (ci := 5) (q0 := 0) rfl rfl) rfl rfl hl.1 rfl (lv_room (Nat.le_of_ble_eq_true rfl)) dX1_findChalk_50 ⟨Nat.zero_le _, Nat.zero_le _⟩) hP hS (fun H locs hP hS => ?_)
        refine lv_if_eq (tgt := 66) hx hb dX1_findChalk_53 (by decide) (fun c_31 => ?_) (fun c_31 => ?_)
        · rw [if_pos c_31] at hres
          refine lv_aload_n hx hb dX1_findChalk_66 rfl (lv_at hl 2 rfl) ?_
          refine lv_iload_n hx hb dX1_findChalk_67 rfl (lv_at hl 3 rfl) ?_
          obtain ⟨r_32, hr_32⟩ : ∃ z, z = F_Game_dropMarks joint mks0 fma0 mks1 fma1 := ⟨_, rfl⟩
          rw [bnd_e hr_32] at hres
          refine wr_callv (w1 := [(g, .inr (1, [.ref cl, .ref t0, .ref t1, .int nx, .int tn])), (t0, .inr (5, [.ref ma0, .int r_32.1, .int pts0, .int ths0, .int rgs0, .int rgc0, .int fnd0, .int rdb0, .int wdb0])), (ma0, .inl (cI, 8, .inl r_32.2.1)), (t1, .inr (5, [.ref ma1, .int r_32.2.2.1, .int (pts1 - 3), .int ths1, .int rgs1, .int rgc1, .int (fnd1 + 1), .int rdb1, .int wdb1])), (ma1, .inl (cI, 8, .inl r_32.2.2.2))]) (is := [0, 1, 2, 3, 4]) (va_runV (As := [.int joint]) (rest := []) ⟨hx, hb, hml, hown, hts⟩ (c_Game_dropMarks l dC dI cI cC cG cZ g cl t0 t1 ma0 ma1 joint nx tn mks0 pts0 ths0 rgs0 rgc0 fnd0 rdb0 wdb0 fma0 mks1 (pts1 - 3) ths1 rgs1 rgc1 (fnd1 + 1) rdb1 wdb1 fma1 hM0 hM1 r_32 hr_32) (cwV 1 hts gX1_findChalk_X1_dropMarks rfl rfl rfl (by decide +kernel) ⟨Nat.le_of_ble_eq_true rfl, Nat.le_of_ble_eq_true rfl⟩) (wr_preV (hP.sub (ws' := [(g, .inr (1, [.ref cl, .ref t0, .ref t1, .int nx, .int tn])), (t0, .inr (5, [.ref ma0, .int mks0, .int pts0, .int ths0, .int rgs0, .int rgc0, .int fnd0, .int rdb0, .int wdb0])), (ma0, .inl (cI, 8, .inl fma0)), (t1, .inr (5, [.ref ma1, .int mks1, .int (pts1 - 3), .int ths1, .int rgs1, .int rgc1, .int (fnd1 + 1), .int rdb1, .int wdb1])), (ma1, .inl (cI, 8, .inl fma1))]) [0, 1, 2, 3, 4] rfl) hK (hD.sub (ws' := [(g, .inr (1, [.ref cl, .ref t0, .ref t1, .int nx, .int tn])), (t0, .inr (5, [.ref ma0, .int mks0, .int pts0, .int ths0, .int rgs0, .int rgc0, .int fnd0, .int rdb0, .int wdb0])), (ma0, .inl (cI, 8, .inl fma0)), (t1, .inr (5, [.ref ma1, .int mks1, .int (pts1 - 3), .int ths1, .int rgs1, .int rgc1, .int (fnd1 + 1), .int rdb1, .int wdb1])), (ma1, .inl (cI, 8, .inl fma1))]) [0, 1, 2, 3, 4] (by decide) rfl) (ci := 1) (q0 := 0) rfl rfl) rfl rfl hl.1 rfl (lv_room (Nat.le_of_ble_eq_true rfl)) dX1_findChalk_68 ⟨Nat.zero_le _, Nat.zero_le _⟩) hP hD hS rfl rfl rfl (fun H locs hP hD hS => ?_)
          have hP : va_P (dC, dI) vwCl [(g, .inr (1, [.ref cl, .ref t0, .ref t1, .int nx, .int tn])), (t0, .inr (5, [.ref ma0, .int r_32.1, .int pts0, .int ths0, .int rgs0, .int rgc0, .int fnd0, .int rdb0, .int wdb0])), (ma0, .inl (cI, 8, .inl r_32.2.1)), (t1, .inr (5, [.ref ma1, .int r_32.2.2.1, .int (pts1 - 3), .int ths1, .int rgs1, .int rgc1, .int (fnd1 + 1), .int rdb1, .int wdb1])), (ma1, .inl (cI, 8, .inl r_32.2.2.2))] H := hP
          have hD : va_D A [(g, .inr (1, [.ref cl, .ref t0, .ref t1, .int nx, .int tn])), (t0, .inr (5, [.ref ma0, .int r_32.1, .int pts0, .int ths0, .int rgs0, .int rgc0, .int fnd0, .int rdb0, .int wdb0])), (ma0, .inl (cI, 8, .inl r_32.2.1)), (t1, .inr (5, [.ref ma1, .int r_32.2.2.1, .int (pts1 - 3), .int ths1, .int rgs1, .int rgc1, .int (fnd1 + 1), .int rdb1, .int wdb1])), (ma1, .inl (cI, 8, .inl r_32.2.2.2))] := hD
          subst hres
          exact W.vret hx hb hr (fun t ht hW => ⟨⟨(), rfl, trivial, (by show va_P _ _ _ t.heap; rw [ht]; exact hP)⟩, hS.F ht⟩) hS.2.2 dX1_findChalk_71
        · rw [if_neg c_31] at hres
          refine lv_aload_n hx hb dX1_findChalk_56 rfl (lv_at hl 1 rfl) ?_
          refine lv_dup hx hb dX1_findChalk_57 rfl ?_
          refine va_get (D := (dC, dI)) (ci := 5) (v := .int (pts1 - 3)) (C := RX5) (T := TX5) (N := 9) hx hb hts iX1_findChalk_X5 hown hK hP 3 rfl rfl 2 (by decide) (hts (.fieldLink RX1 50 "TailorChalks$Tailor" "points" "I") kX1_findChalk_50) (fun _ h9 => h9) rfl dX1_findChalk_58 ?_
          refine lv_iconst (v := 1) hx hb dX1_findChalk_61 (by decide) ?_
          refine lv_iadd hx hb dX1_findChalk_62 ?_
          refine va_put (D := (dC, dI)) (ci := 5) (v := .int ((pts1 - 3) + 1)) (ty := (.int)) (C := RX5) (T := TX5) (N := 9) hx hb hts iX1_findChalk_X5 tyX5 tyX5_ok nmX5 hown hK hP hD hS 3 rfl rfl 2 (by decide) (hts (.fieldLink RX1 50 "TailorChalks$Tailor" "points" "I") kX1_findChalk_50) (fun _ h9 => h9) rfl (by decide +kernel) rfl rfl (Nat.le_of_ble_eq_true rfl) dX1_findChalk_63 (fun H locs hP hD hS => ?_)
          have hP : va_P (dC, dI) vwCl [(g, .inr (1, [.ref cl, .ref t0, .ref t1, .int nx, .int tn])), (t0, .inr (5, [.ref ma0, .int mks0, .int pts0, .int ths0, .int rgs0, .int rgc0, .int fnd0, .int rdb0, .int wdb0])), (ma0, .inl (cI, 8, .inl fma0)), (t1, .inr (5, [.ref ma1, .int mks1, .int ((pts1 - 3) + 1), .int ths1, .int rgs1, .int rgc1, .int (fnd1 + 1), .int rdb1, .int wdb1])), (ma1, .inl (cI, 8, .inl fma1))] H := hP
          have hD : va_D A [(g, .inr (1, [.ref cl, .ref t0, .ref t1, .int nx, .int tn])), (t0, .inr (5, [.ref ma0, .int mks0, .int pts0, .int ths0, .int rgs0, .int rgc0, .int fnd0, .int rdb0, .int wdb0])), (ma0, .inl (cI, 8, .inl fma0)), (t1, .inr (5, [.ref ma1, .int mks1, .int ((pts1 - 3) + 1), .int ths1, .int rgs1, .int rgc1, .int (fnd1 + 1), .int rdb1, .int wdb1])), (ma1, .inl (cI, 8, .inl fma1))] := hD
          refine lv_aload_n hx hb dX1_findChalk_66 rfl (lv_at hl 2 rfl) ?_
          refine lv_iload_n hx hb dX1_findChalk_67 rfl (lv_at hl 3 rfl) ?_
          obtain ⟨r_33, hr_33⟩ : ∃ z, z = F_Game_dropMarks joint mks0 fma0 mks1 fma1 := ⟨_, rfl⟩
          rw [bnd_e hr_33] at hres
          refine wr_callv (w1 := [(g, .inr (1, [.ref cl, .ref t0, .ref t1, .int nx, .int tn])), (t0, .inr (5, [.ref ma0, .int r_33.1, .int pts0, .int ths0, .int rgs0, .int rgc0, .int fnd0, .int rdb0, .int wdb0])), (ma0, .inl (cI, 8, .inl r_33.2.1)), (t1, .inr (5, [.ref ma1, .int r_33.2.2.1, .int ((pts1 - 3) + 1), .int ths1, .int rgs1, .int rgc1, .int (fnd1 + 1), .int rdb1, .int wdb1])), (ma1, .inl (cI, 8, .inl r_33.2.2.2))]) (is := [0, 1, 2, 3, 4]) (va_runV (As := [.int joint]) (rest := []) ⟨hx, hb, hml, hown, hts⟩ (c_Game_dropMarks l dC dI cI cC cG cZ g cl t0 t1 ma0 ma1 joint nx tn mks0 pts0 ths0 rgs0 rgc0 fnd0 rdb0 wdb0 fma0 mks1 ((pts1 - 3) + 1) ths1 rgs1 rgc1 (fnd1 + 1) rdb1 wdb1 fma1 hM0 hM1 r_33 hr_33) (cwV 1 hts gX1_findChalk_X1_dropMarks rfl rfl rfl (by decide +kernel) ⟨Nat.le_of_ble_eq_true rfl, Nat.le_of_ble_eq_true rfl⟩) (wr_preV (hP.sub (ws' := [(g, .inr (1, [.ref cl, .ref t0, .ref t1, .int nx, .int tn])), (t0, .inr (5, [.ref ma0, .int mks0, .int pts0, .int ths0, .int rgs0, .int rgc0, .int fnd0, .int rdb0, .int wdb0])), (ma0, .inl (cI, 8, .inl fma0)), (t1, .inr (5, [.ref ma1, .int mks1, .int ((pts1 - 3) + 1), .int ths1, .int rgs1, .int rgc1, .int (fnd1 + 1), .int rdb1, .int wdb1])), (ma1, .inl (cI, 8, .inl fma1))]) [0, 1, 2, 3, 4] rfl) hK (hD.sub (ws' := [(g, .inr (1, [.ref cl, .ref t0, .ref t1, .int nx, .int tn])), (t0, .inr (5, [.ref ma0, .int mks0, .int pts0, .int ths0, .int rgs0, .int rgc0, .int fnd0, .int rdb0, .int wdb0])), (ma0, .inl (cI, 8, .inl fma0)), (t1, .inr (5, [.ref ma1, .int mks1, .int ((pts1 - 3) + 1), .int ths1, .int rgs1, .int rgc1, .int (fnd1 + 1), .int rdb1, .int wdb1])), (ma1, .inl (cI, 8, .inl fma1))]) [0, 1, 2, 3, 4] (by decide) rfl) (ci := 1) (q0 := 0) rfl rfl) rfl rfl hl.1 rfl (lv_room (Nat.le_of_ble_eq_true rfl)) dX1_findChalk_68 ⟨Nat.zero_le _, Nat.zero_le _⟩) hP hD hS rfl rfl rfl (fun H locs hP hD hS => ?_)
          have hP : va_P (dC, dI) vwCl [(g, .inr (1, [.ref cl, .ref t0, .ref t1, .int nx, .int tn])), (t0, .inr (5, [.ref ma0, .int r_33.1, .int pts0, .int ths0, .int rgs0, .int rgc0, .int fnd0, .int rdb0, .int wdb0])), (ma0, .inl (cI, 8, .inl r_33.2.1)), (t1, .inr (5, [.ref ma1, .int r_33.2.2.1, .int ((pts1 - 3) + 1), .int ths1, .int rgs1, .int rgc1, .int (fnd1 + 1), .int rdb1, .int wdb1])), (ma1, .inl (cI, 8, .inl r_33.2.2.2))] H := hP
          have hD : va_D A [(g, .inr (1, [.ref cl, .ref t0, .ref t1, .int nx, .int tn])), (t0, .inr (5, [.ref ma0, .int r_33.1, .int pts0, .int ths0, .int rgs0, .int rgc0, .int fnd0, .int rdb0, .int wdb0])), (ma0, .inl (cI, 8, .inl r_33.2.1)), (t1, .inr (5, [.ref ma1, .int r_33.2.2.1, .int ((pts1 - 3) + 1), .int ths1, .int rgs1, .int rgc1, .int (fnd1 + 1), .int rdb1, .int wdb1])), (ma1, .inl (cI, 8, .inl r_33.2.2.2))] := hD
          subst hres
          exact W.vret hx hb hr (fun t ht hW => ⟨⟨(), rfl, trivial, (by show va_P _ _ _ t.heap; rw [ht]; exact hP)⟩, hS.F ht⟩) hS.2.2 dX1_findChalk_71
    · rw [if_neg c_23] at hres
      refine ro_callr (va_runV (As := [.int ((1 : Int32) - nx)]) (rest := []) ⟨hx, hb, hml, hown, hts⟩ (c_Game_tailorOf l dC dI cI cC cG cZ g cl t0 t1 ((1 : Int32) - nx) nx tn  t1 (if_neg c_23).symm) (cwV 1 hts gX1_findChalk_X1_tailorOf rfl rfl rfl (by decide +kernel) ⟨Nat.le_of_ble_eq_true rfl, Nat.le_of_ble_eq_true rfl⟩) (ro_preV (hP.sub (ws' := [(g, .inr (1, [.ref cl, .ref t0, .ref t1, .int nx, .int tn]))]) [0] rfl) hK (ci := 1) (q0 := 0) rfl rfl) rfl rfl hl.1 rfl (lv_room (Nat.le_of_ble_eq_true rfl)) dX1_findChalk_16 ⟨Nat.zero_le _, Nat.zero_le _⟩) hP hS (fun H locs hP hS => ?_)
      refine lv_astore_n (lv' := [(3, .ref t1), (2, .ref t1), (0, .ref g), (1, .int joint)]) hx hb dX1_findChalk_19 rfl hl (by decide) rfl (fun ls hl => ?_)
      refine lv_aload_n hx hb dX1_findChalk_20 rfl (lv_at hl 0 rfl) ?_
      refine lv_iload_n hx hb dX1_findChalk_21 rfl (lv_at hl 3 rfl) ?_
      obtain ⟨r_34, hr_34⟩ : ∃ z, z = F_Tailor_hasMark joint mks1 fma1 := ⟨_, rfl⟩
      rw [bnd_e hr_34] at hres
      refine ro_calli (va_runV (As := [.int joint]) (rest := []) ⟨hx, hb, hml, hown, hts⟩ (c_Tailor_hasMark l dC dI cI cC cG cZ t1 ma1 joint mks1 pts1 ths1 rgs1 rgc1 fnd1 rdb1 wdb1 fma1 hM1 r_34 hr_34) (cwV 1 hts gX1_findChalk_X5_hasMark rfl rfl rfl (by decide +kernel) ⟨Nat.le_of_ble_eq_true rfl, Nat.le_of_ble_eq_true rfl⟩) (ro_preV (hP.sub (ws' := [(t1, .inr (5, [.ref ma1, .int mks1, .int pts1, .int ths1, .int rgs1, .int rgc1, .int fnd1, .int rdb1, .int wdb1])), (ma1, .inl (cI, 8, .inl fma1))]) [3, 4] rfl) hK (ci := 5) (q0 := 0) rfl rfl) rfl rfl hl.1 rfl (lv_room (Nat.le_of_ble_eq_true rfl)) dX1_findChalk_22 ⟨Nat.zero_le _, Nat.zero_le _⟩) hP hS (fun H locs hP hS => ?_)
      refine lv_if_eq (tgt := 48) hx hb dX1_findChalk_25 (by decide) (fun c_35 => ?_) (fun c_35 => ?_)
      · rw [if_pos c_35] at hres
        refine lv_aload_n hx hb dX1_findChalk_48 rfl (lv_at hl 1 rfl) ?_
        refine lv_iload_n hx hb dX1_findChalk_49 rfl (lv_at hl 3 rfl) ?_
        obtain ⟨r_36, hr_36⟩ : ∃ z, z = F_Tailor_hasMark joint mks1 fma1 := ⟨_, rfl⟩
        rw [bnd_e hr_36] at hres
        refine ro_calli (va_runV (As := [.int joint]) (rest := []) ⟨hx, hb, hml, hown, hts⟩ (c_Tailor_hasMark l dC dI cI cC cG cZ t1 ma1 joint mks1 pts1 ths1 rgs1 rgc1 fnd1 rdb1 wdb1 fma1 hM1 r_36 hr_36) (cwV 1 hts gX1_findChalk_X5_hasMark rfl rfl rfl (by decide +kernel) ⟨Nat.le_of_ble_eq_true rfl, Nat.le_of_ble_eq_true rfl⟩) (ro_preV (hP.sub (ws' := [(t1, .inr (5, [.ref ma1, .int mks1, .int pts1, .int ths1, .int rgs1, .int rgc1, .int fnd1, .int rdb1, .int wdb1])), (ma1, .inl (cI, 8, .inl fma1))]) [3, 4] rfl) hK (ci := 5) (q0 := 0) rfl rfl) rfl rfl hl.1 rfl (lv_room (Nat.le_of_ble_eq_true rfl)) dX1_findChalk_50 ⟨Nat.zero_le _, Nat.zero_le _⟩) hP hS (fun H locs hP hS => ?_)
        refine lv_if_eq (tgt := 66) hx hb dX1_findChalk_53 (by decide) (fun c_37 => ?_) (fun c_37 => ?_)
        · rw [if_pos c_37] at hres
          refine lv_aload_n hx hb dX1_findChalk_66 rfl (lv_at hl 2 rfl) ?_
          refine lv_iload_n hx hb dX1_findChalk_67 rfl (lv_at hl 3 rfl) ?_
          obtain ⟨r_38, hr_38⟩ : ∃ z, z = F_Game_dropMarks joint mks0 fma0 mks1 fma1 := ⟨_, rfl⟩
          rw [bnd_e hr_38] at hres
          refine wr_callv (w1 := [(g, .inr (1, [.ref cl, .ref t0, .ref t1, .int nx, .int tn])), (t0, .inr (5, [.ref ma0, .int r_38.1, .int pts0, .int ths0, .int rgs0, .int rgc0, .int fnd0, .int rdb0, .int wdb0])), (ma0, .inl (cI, 8, .inl r_38.2.1)), (t1, .inr (5, [.ref ma1, .int r_38.2.2.1, .int pts1, .int ths1, .int rgs1, .int rgc1, .int fnd1, .int rdb1, .int wdb1])), (ma1, .inl (cI, 8, .inl r_38.2.2.2))]) (is := [0, 1, 2, 3, 4]) (va_runV (As := [.int joint]) (rest := []) ⟨hx, hb, hml, hown, hts⟩ (c_Game_dropMarks l dC dI cI cC cG cZ g cl t0 t1 ma0 ma1 joint nx tn mks0 pts0 ths0 rgs0 rgc0 fnd0 rdb0 wdb0 fma0 mks1 pts1 ths1 rgs1 rgc1 fnd1 rdb1 wdb1 fma1 hM0 hM1 r_38 hr_38) (cwV 1 hts gX1_findChalk_X1_dropMarks rfl rfl rfl (by decide +kernel) ⟨Nat.le_of_ble_eq_true rfl, Nat.le_of_ble_eq_true rfl⟩) (wr_preV (hP.sub (ws' := [(g, .inr (1, [.ref cl, .ref t0, .ref t1, .int nx, .int tn])), (t0, .inr (5, [.ref ma0, .int mks0, .int pts0, .int ths0, .int rgs0, .int rgc0, .int fnd0, .int rdb0, .int wdb0])), (ma0, .inl (cI, 8, .inl fma0)), (t1, .inr (5, [.ref ma1, .int mks1, .int pts1, .int ths1, .int rgs1, .int rgc1, .int fnd1, .int rdb1, .int wdb1])), (ma1, .inl (cI, 8, .inl fma1))]) [0, 1, 2, 3, 4] rfl) hK (hD.sub (ws' := [(g, .inr (1, [.ref cl, .ref t0, .ref t1, .int nx, .int tn])), (t0, .inr (5, [.ref ma0, .int mks0, .int pts0, .int ths0, .int rgs0, .int rgc0, .int fnd0, .int rdb0, .int wdb0])), (ma0, .inl (cI, 8, .inl fma0)), (t1, .inr (5, [.ref ma1, .int mks1, .int pts1, .int ths1, .int rgs1, .int rgc1, .int fnd1, .int rdb1, .int wdb1])), (ma1, .inl (cI, 8, .inl fma1))]) [0, 1, 2, 3, 4] (by decide) rfl) (ci := 1) (q0 := 0) rfl rfl) rfl rfl hl.1 rfl (lv_room (Nat.le_of_ble_eq_true rfl)) dX1_findChalk_68 ⟨Nat.zero_le _, Nat.zero_le _⟩) hP hD hS rfl rfl rfl (fun H locs hP hD hS => ?_)
          have hP : va_P (dC, dI) vwCl [(g, .inr (1, [.ref cl, .ref t0, .ref t1, .int nx, .int tn])), (t0, .inr (5, [.ref ma0, .int r_38.1, .int pts0, .int ths0, .int rgs0, .int rgc0, .int fnd0, .int rdb0, .int wdb0])), (ma0, .inl (cI, 8, .inl r_38.2.1)), (t1, .inr (5, [.ref ma1, .int r_38.2.2.1, .int pts1, .int ths1, .int rgs1, .int rgc1, .int fnd1, .int rdb1, .int wdb1])), (ma1, .inl (cI, 8, .inl r_38.2.2.2))] H := hP
          have hD : va_D A [(g, .inr (1, [.ref cl, .ref t0, .ref t1, .int nx, .int tn])), (t0, .inr (5, [.ref ma0, .int r_38.1, .int pts0, .int ths0, .int rgs0, .int rgc0, .int fnd0, .int rdb0, .int wdb0])), (ma0, .inl (cI, 8, .inl r_38.2.1)), (t1, .inr (5, [.ref ma1, .int r_38.2.2.1, .int pts1, .int ths1, .int rgs1, .int rgc1, .int fnd1, .int rdb1, .int wdb1])), (ma1, .inl (cI, 8, .inl r_38.2.2.2))] := hD
          subst hres
          exact W.vret hx hb hr (fun t ht hW => ⟨⟨(), rfl, trivial, (by show va_P _ _ _ t.heap; rw [ht]; exact hP)⟩, hS.F ht⟩) hS.2.2 dX1_findChalk_71
        · rw [if_neg c_37] at hres
          refine lv_aload_n hx hb dX1_findChalk_56 rfl (lv_at hl 1 rfl) ?_
          refine lv_dup hx hb dX1_findChalk_57 rfl ?_
          refine va_get (D := (dC, dI)) (ci := 5) (v := .int pts1) (C := RX5) (T := TX5) (N := 9) hx hb hts iX1_findChalk_X5 hown hK hP 3 rfl rfl 2 (by decide) (hts (.fieldLink RX1 50 "TailorChalks$Tailor" "points" "I") kX1_findChalk_50) (fun _ h9 => h9) rfl dX1_findChalk_58 ?_
          refine lv_iconst (v := 1) hx hb dX1_findChalk_61 (by decide) ?_
          refine lv_iadd hx hb dX1_findChalk_62 ?_
          refine va_put (D := (dC, dI)) (ci := 5) (v := .int (pts1 + 1)) (ty := (.int)) (C := RX5) (T := TX5) (N := 9) hx hb hts iX1_findChalk_X5 tyX5 tyX5_ok nmX5 hown hK hP hD hS 3 rfl rfl 2 (by decide) (hts (.fieldLink RX1 50 "TailorChalks$Tailor" "points" "I") kX1_findChalk_50) (fun _ h9 => h9) rfl (by decide +kernel) rfl rfl (Nat.le_of_ble_eq_true rfl) dX1_findChalk_63 (fun H locs hP hD hS => ?_)
          have hP : va_P (dC, dI) vwCl [(g, .inr (1, [.ref cl, .ref t0, .ref t1, .int nx, .int tn])), (t0, .inr (5, [.ref ma0, .int mks0, .int pts0, .int ths0, .int rgs0, .int rgc0, .int fnd0, .int rdb0, .int wdb0])), (ma0, .inl (cI, 8, .inl fma0)), (t1, .inr (5, [.ref ma1, .int mks1, .int (pts1 + 1), .int ths1, .int rgs1, .int rgc1, .int fnd1, .int rdb1, .int wdb1])), (ma1, .inl (cI, 8, .inl fma1))] H := hP
          have hD : va_D A [(g, .inr (1, [.ref cl, .ref t0, .ref t1, .int nx, .int tn])), (t0, .inr (5, [.ref ma0, .int mks0, .int pts0, .int ths0, .int rgs0, .int rgc0, .int fnd0, .int rdb0, .int wdb0])), (ma0, .inl (cI, 8, .inl fma0)), (t1, .inr (5, [.ref ma1, .int mks1, .int (pts1 + 1), .int ths1, .int rgs1, .int rgc1, .int fnd1, .int rdb1, .int wdb1])), (ma1, .inl (cI, 8, .inl fma1))] := hD
          refine lv_aload_n hx hb dX1_findChalk_66 rfl (lv_at hl 2 rfl) ?_
          refine lv_iload_n hx hb dX1_findChalk_67 rfl (lv_at hl 3 rfl) ?_
          obtain ⟨r_39, hr_39⟩ : ∃ z, z = F_Game_dropMarks joint mks0 fma0 mks1 fma1 := ⟨_, rfl⟩
          rw [bnd_e hr_39] at hres
          refine wr_callv (w1 := [(g, .inr (1, [.ref cl, .ref t0, .ref t1, .int nx, .int tn])), (t0, .inr (5, [.ref ma0, .int r_39.1, .int pts0, .int ths0, .int rgs0, .int rgc0, .int fnd0, .int rdb0, .int wdb0])), (ma0, .inl (cI, 8, .inl r_39.2.1)), (t1, .inr (5, [.ref ma1, .int r_39.2.2.1, .int (pts1 + 1), .int ths1, .int rgs1, .int rgc1, .int fnd1, .int rdb1, .int wdb1])), (ma1, .inl (cI, 8, .inl r_39.2.2.2))]) (is := [0, 1, 2, 3, 4]) (va_runV (As := [.int joint]) (rest := []) ⟨hx, hb, hml, hown, hts⟩ (c_Game_dropMarks l dC dI cI cC cG cZ g cl t0 t1 ma0 ma1 joint nx tn mks0 pts0 ths0 rgs0 rgc0 fnd0 rdb0 wdb0 fma0 mks1 (pts1 + 1) ths1 rgs1 rgc1 fnd1 rdb1 wdb1 fma1 hM0 hM1 r_39 hr_39) (cwV 1 hts gX1_findChalk_X1_dropMarks rfl rfl rfl (by decide +kernel) ⟨Nat.le_of_ble_eq_true rfl, Nat.le_of_ble_eq_true rfl⟩) (wr_preV (hP.sub (ws' := [(g, .inr (1, [.ref cl, .ref t0, .ref t1, .int nx, .int tn])), (t0, .inr (5, [.ref ma0, .int mks0, .int pts0, .int ths0, .int rgs0, .int rgc0, .int fnd0, .int rdb0, .int wdb0])), (ma0, .inl (cI, 8, .inl fma0)), (t1, .inr (5, [.ref ma1, .int mks1, .int (pts1 + 1), .int ths1, .int rgs1, .int rgc1, .int fnd1, .int rdb1, .int wdb1])), (ma1, .inl (cI, 8, .inl fma1))]) [0, 1, 2, 3, 4] rfl) hK (hD.sub (ws' := [(g, .inr (1, [.ref cl, .ref t0, .ref t1, .int nx, .int tn])), (t0, .inr (5, [.ref ma0, .int mks0, .int pts0, .int ths0, .int rgs0, .int rgc0, .int fnd0, .int rdb0, .int wdb0])), (ma0, .inl (cI, 8, .inl fma0)), (t1, .inr (5, [.ref ma1, .int mks1, .int (pts1 + 1), .int ths1, .int rgs1, .int rgc1, .int fnd1, .int rdb1, .int wdb1])), (ma1, .inl (cI, 8, .inl fma1))]) [0, 1, 2, 3, 4] (by decide) rfl) (ci := 1) (q0 := 0) rfl rfl) rfl rfl hl.1 rfl (lv_room (Nat.le_of_ble_eq_true rfl)) dX1_findChalk_68 ⟨Nat.zero_le _, Nat.zero_le _⟩) hP hD hS rfl rfl rfl (fun H locs hP hD hS => ?_)
          have hP : va_P (dC, dI) vwCl [(g, .inr (1, [.ref cl, .ref t0, .ref t1, .int nx, .int tn])), (t0, .inr (5, [.ref ma0, .int r_39.1, .int pts0, .int ths0, .int rgs0, .int rgc0, .int fnd0, .int rdb0, .int wdb0])), (ma0, .inl (cI, 8, .inl r_39.2.1)), (t1, .inr (5, [.ref ma1, .int r_39.2.2.1, .int (pts1 + 1), .int ths1, .int rgs1, .int rgc1, .int fnd1, .int rdb1, .int wdb1])), (ma1, .inl (cI, 8, .inl r_39.2.2.2))] H := hP
          have hD : va_D A [(g, .inr (1, [.ref cl, .ref t0, .ref t1, .int nx, .int tn])), (t0, .inr (5, [.ref ma0, .int r_39.1, .int pts0, .int ths0, .int rgs0, .int rgc0, .int fnd0, .int rdb0, .int wdb0])), (ma0, .inl (cI, 8, .inl r_39.2.1)), (t1, .inr (5, [.ref ma1, .int r_39.2.2.1, .int (pts1 + 1), .int ths1, .int rgs1, .int rgc1, .int fnd1, .int rdb1, .int wdb1])), (ma1, .inl (cI, 8, .inl r_39.2.2.2))] := hD
          subst hres
          exact W.vret hx hb hr (fun t ht hW => ⟨⟨(), rfl, trivial, (by show va_P _ _ _ t.heap; rw [ht]; exact hP)⟩, hS.F ht⟩) hS.2.2 dX1_findChalk_71
      · rw [if_neg c_35] at hres
        refine lv_aload_n hx hb dX1_findChalk_28 rfl (lv_at hl 1 rfl) ?_
        refine lv_dup hx hb dX1_findChalk_29 rfl ?_
        refine va_get (D := (dC, dI)) (ci := 5) (v := .int pts1) (C := RX5) (T := TX5) (N := 9) hx hb hts iX1_findChalk_X5 hown hK hP 3 rfl rfl 2 (by decide) (hts (.fieldLink RX1 50 "TailorChalks$Tailor" "points" "I") kX1_findChalk_50) (fun _ h9 => h9) rfl dX1_findChalk_30 ?_
        refine lv_iconst (v := 3) hx hb dX1_findChalk_33 (by decide) ?_
        refine lv_isub hx hb dX1_findChalk_34 ?_
        refine va_put (D := (dC, dI)) (ci := 5) (v := .int (pts1 - 3)) (ty := (.int)) (C := RX5) (T := TX5) (N := 9) hx hb hts iX1_findChalk_X5 tyX5 tyX5_ok nmX5 hown hK hP hD hS 3 rfl rfl 2 (by decide) (hts (.fieldLink RX1 50 "TailorChalks$Tailor" "points" "I") kX1_findChalk_50) (fun _ h9 => h9) rfl (by decide +kernel) rfl rfl (Nat.le_of_ble_eq_true rfl) dX1_findChalk_35 (fun H locs hP hD hS => ?_)
        have hP : va_P (dC, dI) vwCl [(g, .inr (1, [.ref cl, .ref t0, .ref t1, .int nx, .int tn])), (t0, .inr (5, [.ref ma0, .int mks0, .int pts0, .int ths0, .int rgs0, .int rgc0, .int fnd0, .int rdb0, .int wdb0])), (ma0, .inl (cI, 8, .inl fma0)), (t1, .inr (5, [.ref ma1, .int mks1, .int (pts1 - 3), .int ths1, .int rgs1, .int rgc1, .int fnd1, .int rdb1, .int wdb1])), (ma1, .inl (cI, 8, .inl fma1))] H := hP
        have hD : va_D A [(g, .inr (1, [.ref cl, .ref t0, .ref t1, .int nx, .int tn])), (t0, .inr (5, [.ref ma0, .int mks0, .int pts0, .int ths0, .int rgs0, .int rgc0, .int fnd0, .int rdb0, .int wdb0])), (ma0, .inl (cI, 8, .inl fma0)), (t1, .inr (5, [.ref ma1, .int mks1, .int (pts1 - 3), .int ths1, .int rgs1, .int rgc1, .int fnd1, .int rdb1, .int wdb1])), (ma1, .inl (cI, 8, .inl fma1))] := hD
        refine lv_aload_n hx hb dX1_findChalk_38 rfl (lv_at hl 1 rfl) ?_
        refine lv_dup hx hb dX1_findChalk_39 rfl ?_
        refine va_get (D := (dC, dI)) (ci := 5) (v := .int fnd1) (C := RX5) (T := TX5) (N := 9) hx hb hts iX1_findChalk_X5 hown hK hP 3 rfl rfl 6 (by decide) (hts (.fieldLink RX1 129 "TailorChalks$Tailor" "found" "I") kX1_findChalk_129) (fun _ h9 => h9) rfl dX1_findChalk_40 ?_
        refine lv_iconst (v := 1) hx hb dX1_findChalk_43 (by decide) ?_
        refine lv_iadd hx hb dX1_findChalk_44 ?_
        refine va_put (D := (dC, dI)) (ci := 5) (v := .int (fnd1 + 1)) (ty := (.int)) (C := RX5) (T := TX5) (N := 9) hx hb hts iX1_findChalk_X5 tyX5 tyX5_ok nmX5 hown hK hP hD hS 3 rfl rfl 6 (by decide) (hts (.fieldLink RX1 129 "TailorChalks$Tailor" "found" "I") kX1_findChalk_129) (fun _ h9 => h9) rfl (by decide +kernel) rfl rfl (Nat.le_of_ble_eq_true rfl) dX1_findChalk_45 (fun H locs hP hD hS => ?_)
        have hP : va_P (dC, dI) vwCl [(g, .inr (1, [.ref cl, .ref t0, .ref t1, .int nx, .int tn])), (t0, .inr (5, [.ref ma0, .int mks0, .int pts0, .int ths0, .int rgs0, .int rgc0, .int fnd0, .int rdb0, .int wdb0])), (ma0, .inl (cI, 8, .inl fma0)), (t1, .inr (5, [.ref ma1, .int mks1, .int (pts1 - 3), .int ths1, .int rgs1, .int rgc1, .int (fnd1 + 1), .int rdb1, .int wdb1])), (ma1, .inl (cI, 8, .inl fma1))] H := hP
        have hD : va_D A [(g, .inr (1, [.ref cl, .ref t0, .ref t1, .int nx, .int tn])), (t0, .inr (5, [.ref ma0, .int mks0, .int pts0, .int ths0, .int rgs0, .int rgc0, .int fnd0, .int rdb0, .int wdb0])), (ma0, .inl (cI, 8, .inl fma0)), (t1, .inr (5, [.ref ma1, .int mks1, .int (pts1 - 3), .int ths1, .int rgs1, .int rgc1, .int (fnd1 + 1), .int rdb1, .int wdb1])), (ma1, .inl (cI, 8, .inl fma1))] := hD
        refine lv_aload_n hx hb dX1_findChalk_48 rfl (lv_at hl 1 rfl) ?_
        refine lv_iload_n hx hb dX1_findChalk_49 rfl (lv_at hl 3 rfl) ?_
        obtain ⟨r_40, hr_40⟩ : ∃ z, z = F_Tailor_hasMark joint mks1 fma1 := ⟨_, rfl⟩
        rw [bnd_e hr_40] at hres
        refine ro_calli (va_runV (As := [.int joint]) (rest := []) ⟨hx, hb, hml, hown, hts⟩ (c_Tailor_hasMark l dC dI cI cC cG cZ t1 ma1 joint mks1 (pts1 - 3) ths1 rgs1 rgc1 (fnd1 + 1) rdb1 wdb1 fma1 hM1 r_40 hr_40) (cwV 1 hts gX1_findChalk_X5_hasMark rfl rfl rfl (by decide +kernel) ⟨Nat.le_of_ble_eq_true rfl, Nat.le_of_ble_eq_true rfl⟩) (ro_preV (hP.sub (ws' := [(t1, .inr (5, [.ref ma1, .int mks1, .int (pts1 - 3), .int ths1, .int rgs1, .int rgc1, .int (fnd1 + 1), .int rdb1, .int wdb1])), (ma1, .inl (cI, 8, .inl fma1))]) [3, 4] rfl) hK (ci := 5) (q0 := 0) rfl rfl) rfl rfl hl.1 rfl (lv_room (Nat.le_of_ble_eq_true rfl)) dX1_findChalk_50 ⟨Nat.zero_le _, Nat.zero_le _⟩) hP hS (fun H locs hP hS => ?_)
        refine lv_if_eq (tgt := 66) hx hb dX1_findChalk_53 (by decide) (fun c_41 => ?_) (fun c_41 => ?_)
        · rw [if_pos c_41] at hres
          refine lv_aload_n hx hb dX1_findChalk_66 rfl (lv_at hl 2 rfl) ?_
          refine lv_iload_n hx hb dX1_findChalk_67 rfl (lv_at hl 3 rfl) ?_
          obtain ⟨r_42, hr_42⟩ : ∃ z, z = F_Game_dropMarks joint mks0 fma0 mks1 fma1 := ⟨_, rfl⟩
          rw [bnd_e hr_42] at hres
          refine wr_callv (w1 := [(g, .inr (1, [.ref cl, .ref t0, .ref t1, .int nx, .int tn])), (t0, .inr (5, [.ref ma0, .int r_42.1, .int pts0, .int ths0, .int rgs0, .int rgc0, .int fnd0, .int rdb0, .int wdb0])), (ma0, .inl (cI, 8, .inl r_42.2.1)), (t1, .inr (5, [.ref ma1, .int r_42.2.2.1, .int (pts1 - 3), .int ths1, .int rgs1, .int rgc1, .int (fnd1 + 1), .int rdb1, .int wdb1])), (ma1, .inl (cI, 8, .inl r_42.2.2.2))]) (is := [0, 1, 2, 3, 4]) (va_runV (As := [.int joint]) (rest := []) ⟨hx, hb, hml, hown, hts⟩ (c_Game_dropMarks l dC dI cI cC cG cZ g cl t0 t1 ma0 ma1 joint nx tn mks0 pts0 ths0 rgs0 rgc0 fnd0 rdb0 wdb0 fma0 mks1 (pts1 - 3) ths1 rgs1 rgc1 (fnd1 + 1) rdb1 wdb1 fma1 hM0 hM1 r_42 hr_42) (cwV 1 hts gX1_findChalk_X1_dropMarks rfl rfl rfl (by decide +kernel) ⟨Nat.le_of_ble_eq_true rfl, Nat.le_of_ble_eq_true rfl⟩) (wr_preV (hP.sub (ws' := [(g, .inr (1, [.ref cl, .ref t0, .ref t1, .int nx, .int tn])), (t0, .inr (5, [.ref ma0, .int mks0, .int pts0, .int ths0, .int rgs0, .int rgc0, .int fnd0, .int rdb0, .int wdb0])), (ma0, .inl (cI, 8, .inl fma0)), (t1, .inr (5, [.ref ma1, .int mks1, .int (pts1 - 3), .int ths1, .int rgs1, .int rgc1, .int (fnd1 + 1), .int rdb1, .int wdb1])), (ma1, .inl (cI, 8, .inl fma1))]) [0, 1, 2, 3, 4] rfl) hK (hD.sub (ws' := [(g, .inr (1, [.ref cl, .ref t0, .ref t1, .int nx, .int tn])), (t0, .inr (5, [.ref ma0, .int mks0, .int pts0, .int ths0, .int rgs0, .int rgc0, .int fnd0, .int rdb0, .int wdb0])), (ma0, .inl (cI, 8, .inl fma0)), (t1, .inr (5, [.ref ma1, .int mks1, .int (pts1 - 3), .int ths1, .int rgs1, .int rgc1, .int (fnd1 + 1), .int rdb1, .int wdb1])), (ma1, .inl (cI, 8, .inl fma1))]) [0, 1, 2, 3, 4] (by decide) rfl) (ci := 1) (q0 := 0) rfl rfl) rfl rfl hl.1 rfl (lv_room (Nat.le_of_ble_eq_true rfl)) dX1_findChalk_68 ⟨Nat.zero_le _, Nat.zero_le _⟩) hP hD hS rfl rfl rfl (fun H locs hP hD hS => ?_)
          have hP : va_P (dC, dI) vwCl [(g, .inr (1, [.ref cl, .ref t0, .ref t1, .int nx, .int tn])), (t0, .inr (5, [.ref ma0, .int r_42.1, .int pts0, .int ths0, .int rgs0, .int rgc0, .int fnd0, .int rdb0, .int wdb0])), (ma0, .inl (cI, 8, .inl r_42.2.1)), (t1, .inr (5, [.ref ma1, .int r_42.2.2.1, .int (pts1 - 3), .int ths1, .int rgs1, .int rgc1, .int (fnd1 + 1), .int rdb1, .int wdb1])), (ma1, .inl (cI, 8, .inl r_42.2.2.2))] H := hP
          have hD : va_D A [(g, .inr (1, [.ref cl, .ref t0, .ref t1, .int nx, .int tn])), (t0, .inr (5, [.ref ma0, .int r_42.1, .int pts0, .int ths0, .int rgs0, .int rgc0, .int fnd0, .int rdb0, .int wdb0])), (ma0, .inl (cI, 8, .inl r_42.2.1)), (t1, .inr (5, [.ref ma1, .int r_42.2.2.1, .int (pts1 - 3), .int ths1, .int rgs1, .int rgc1, .int (fnd1 + 1), .int rdb1, .int wdb1])), (ma1, .inl (cI, 8, .inl r_42.2.2.2))] := hD
          subst hres
          exact W.vret hx hb hr (fun t ht hW => ⟨⟨(), rfl, trivial, (by show va_P _ _ _ t.heap; rw [ht]; exact hP)⟩, hS.F ht⟩) hS.2.2 dX1_findChalk_71
        · rw [if_neg c_41] at hres
          refine lv_aload_n hx hb dX1_findChalk_56 rfl (lv_at hl 1 rfl) ?_
          refine lv_dup hx hb dX1_findChalk_57 rfl ?_
          refine va_get (D := (dC, dI)) (ci := 5) (v := .int (pts1 - 3)) (C := RX5) (T := TX5) (N := 9) hx hb hts iX1_findChalk_X5 hown hK hP 3 rfl rfl 2 (by decide) (hts (.fieldLink RX1 50 "TailorChalks$Tailor" "points" "I") kX1_findChalk_50) (fun _ h9 => h9) rfl dX1_findChalk_58 ?_
          refine lv_iconst (v := 1) hx hb dX1_findChalk_61 (by decide) ?_
          refine lv_iadd hx hb dX1_findChalk_62 ?_
          refine va_put (D := (dC, dI)) (ci := 5) (v := .int ((pts1 - 3) + 1)) (ty := (.int)) (C := RX5) (T := TX5) (N := 9) hx hb hts iX1_findChalk_X5 tyX5 tyX5_ok nmX5 hown hK hP hD hS 3 rfl rfl 2 (by decide) (hts (.fieldLink RX1 50 "TailorChalks$Tailor" "points" "I") kX1_findChalk_50) (fun _ h9 => h9) rfl (by decide +kernel) rfl rfl (Nat.le_of_ble_eq_true rfl) dX1_findChalk_63 (fun H locs hP hD hS => ?_)
          have hP : va_P (dC, dI) vwCl [(g, .inr (1, [.ref cl, .ref t0, .ref t1, .int nx, .int tn])), (t0, .inr (5, [.ref ma0, .int mks0, .int pts0, .int ths0, .int rgs0, .int rgc0, .int fnd0, .int rdb0, .int wdb0])), (ma0, .inl (cI, 8, .inl fma0)), (t1, .inr (5, [.ref ma1, .int mks1, .int ((pts1 - 3) + 1), .int ths1, .int rgs1, .int rgc1, .int (fnd1 + 1), .int rdb1, .int wdb1])), (ma1, .inl (cI, 8, .inl fma1))] H := hP
          have hD : va_D A [(g, .inr (1, [.ref cl, .ref t0, .ref t1, .int nx, .int tn])), (t0, .inr (5, [.ref ma0, .int mks0, .int pts0, .int ths0, .int rgs0, .int rgc0, .int fnd0, .int rdb0, .int wdb0])), (ma0, .inl (cI, 8, .inl fma0)), (t1, .inr (5, [.ref ma1, .int mks1, .int ((pts1 - 3) + 1), .int ths1, .int rgs1, .int rgc1, .int (fnd1 + 1), .int rdb1, .int wdb1])), (ma1, .inl (cI, 8, .inl fma1))] := hD
          refine lv_aload_n hx hb dX1_findChalk_66 rfl (lv_at hl 2 rfl) ?_
          refine lv_iload_n hx hb dX1_findChalk_67 rfl (lv_at hl 3 rfl) ?_
          obtain ⟨r_43, hr_43⟩ : ∃ z, z = F_Game_dropMarks joint mks0 fma0 mks1 fma1 := ⟨_, rfl⟩
          rw [bnd_e hr_43] at hres
          refine wr_callv (w1 := [(g, .inr (1, [.ref cl, .ref t0, .ref t1, .int nx, .int tn])), (t0, .inr (5, [.ref ma0, .int r_43.1, .int pts0, .int ths0, .int rgs0, .int rgc0, .int fnd0, .int rdb0, .int wdb0])), (ma0, .inl (cI, 8, .inl r_43.2.1)), (t1, .inr (5, [.ref ma1, .int r_43.2.2.1, .int ((pts1 - 3) + 1), .int ths1, .int rgs1, .int rgc1, .int (fnd1 + 1), .int rdb1, .int wdb1])), (ma1, .inl (cI, 8, .inl r_43.2.2.2))]) (is := [0, 1, 2, 3, 4]) (va_runV (As := [.int joint]) (rest := []) ⟨hx, hb, hml, hown, hts⟩ (c_Game_dropMarks l dC dI cI cC cG cZ g cl t0 t1 ma0 ma1 joint nx tn mks0 pts0 ths0 rgs0 rgc0 fnd0 rdb0 wdb0 fma0 mks1 ((pts1 - 3) + 1) ths1 rgs1 rgc1 (fnd1 + 1) rdb1 wdb1 fma1 hM0 hM1 r_43 hr_43) (cwV 1 hts gX1_findChalk_X1_dropMarks rfl rfl rfl (by decide +kernel) ⟨Nat.le_of_ble_eq_true rfl, Nat.le_of_ble_eq_true rfl⟩) (wr_preV (hP.sub (ws' := [(g, .inr (1, [.ref cl, .ref t0, .ref t1, .int nx, .int tn])), (t0, .inr (5, [.ref ma0, .int mks0, .int pts0, .int ths0, .int rgs0, .int rgc0, .int fnd0, .int rdb0, .int wdb0])), (ma0, .inl (cI, 8, .inl fma0)), (t1, .inr (5, [.ref ma1, .int mks1, .int ((pts1 - 3) + 1), .int ths1, .int rgs1, .int rgc1, .int (fnd1 + 1), .int rdb1, .int wdb1])), (ma1, .inl (cI, 8, .inl fma1))]) [0, 1, 2, 3, 4] rfl) hK (hD.sub (ws' := [(g, .inr (1, [.ref cl, .ref t0, .ref t1, .int nx, .int tn])), (t0, .inr (5, [.ref ma0, .int mks0, .int pts0, .int ths0, .int rgs0, .int rgc0, .int fnd0, .int rdb0, .int wdb0])), (ma0, .inl (cI, 8, .inl fma0)), (t1, .inr (5, [.ref ma1, .int mks1, .int ((pts1 - 3) + 1), .int ths1, .int rgs1, .int rgc1, .int (fnd1 + 1), .int rdb1, .int wdb1])), (ma1, .inl (cI, 8, .inl fma1))]) [0, 1, 2, 3, 4] (by decide) rfl) (ci := 1) (q0 := 0) rfl rfl) rfl rfl hl.1 rfl (lv_room (Nat.le_of_ble_eq_true rfl)) dX1_findChalk_68 ⟨Nat.zero_le _, Nat.zero_le _⟩) hP hD hS rfl rfl rfl (fun H locs hP hD hS => ?_)
          have hP : va_P (dC, dI) vwCl [(g, .inr (1, [.ref cl, .ref t0, .ref t1, .int nx, .int tn])), (t0, .inr (5, [.ref ma0, .int r_43.1, .int pts0, .int ths0, .int rgs0, .int rgc0, .int fnd0, .int rdb0, .int wdb0])), (ma0, .inl (cI, 8, .inl r_43.2.1)), (t1, .inr (5, [.ref ma1, .int r_43.2.2.1, .int ((pts1 - 3) + 1), .int ths1, .int rgs1, .int rgc1, .int (fnd1 + 1), .int rdb1, .int wdb1])), (ma1, .inl (cI, 8, .inl r_43.2.2.2))] H := hP
          have hD : va_D A [(g, .inr (1, [.ref cl, .ref t0, .ref t1, .int nx, .int tn])), (t0, .inr (5, [.ref ma0, .int r_43.1, .int pts0, .int ths0, .int rgs0, .int rgc0, .int fnd0, .int rdb0, .int wdb0])), (ma0, .inl (cI, 8, .inl r_43.2.1)), (t1, .inr (5, [.ref ma1, .int r_43.2.2.1, .int ((pts1 - 3) + 1), .int ths1, .int rgs1, .int rgc1, .int (fnd1 + 1), .int rdb1, .int wdb1])), (ma1, .inl (cI, 8, .inl r_43.2.2.2))] := hD
          subst hres
          exact W.vret hx hb hr (fun t ht hW => ⟨⟨(), rfl, trivial, (by show va_P _ _ _ t.heap; rw [ht]; exact hP)⟩, hS.F ht⟩) hS.2.2 dX1_findChalk_71
theorem findChalk_ok0 {joint nx mks0 pts0 fnd0 mks1 pts1 fnd1 : Int32} {fma0 fma1 : Nat → Int32} (h : tm_ok 8 mks0) : tm_ok 8 (F_Game_findChalk joint nx mks0 pts0 fnd0 fma0 mks1 pts1 fnd1 fma1).1 := by
  unfold F_Game_findChalk
  try simp only [bnd]
  repeat' split
  all_goals exact dropMarks_ok0 (mks1 := mks1) (fma1 := fma1) h
theorem findChalk_ok1 {joint nx mks0 pts0 fnd0 mks1 pts1 fnd1 : Int32} {fma0 fma1 : Nat → Int32} (h : tm_ok 8 mks1) : tm_ok 8 (F_Game_findChalk joint nx mks0 pts0 fnd0 fma0 mks1 pts1 fnd1 fma1).2.2.2.2.1 := by
  unfold F_Game_findChalk
  try simp only [bnd]
  repeat' split
  all_goals exact dropMarks_ok1 (mks0 := mks0) (fma0 := fma0) h
theorem iX1_sewJoint_X1 : ∀ w ∈ u_ws RX1 TX1 5, w ∈ wsX1_sewJoint := by decide +kernel
theorem iX1_sewJoint_X5 : ∀ w ∈ u_ws RX5 TX5 9, w ∈ wsX1_sewJoint := by decide +kernel
theorem kX1_sewJoint_12 : Cond.fieldLink RX1 12 "TailorChalks$Game" "cloth" "LTailorChalks$Cloth;" ∈ wsX1_sewJoint := by decide +kernel
theorem kX1_sewJoint_144 : Cond.fieldLink RX1 144 "TailorChalks$Tailor" "threads" "I" ∈ wsX1_sewJoint := by decide +kernel
theorem kX1_sewJoint_35 : Cond.fieldLink RX1 35 "TailorChalks$Game" "next" "I" ∈ wsX1_sewJoint := by decide +kernel
def F_Game_sewJoint (joint : Int32) (nx : Int32) (tn : Int32) (ac : Int64) (dn : Int64) (fs : Nat → Int32) (fm : Nat → Int32) (ths0 : Int32) (ths1 : Int32) : Int32 × Int32 × Int32 × Int64 × Int64 × (Nat → Int32) × (Nat → Int32) × Int32 × Int32 := (if nx = 0 then (bnd (F_Cloth_stateOf joint fs) (fun r_2 => (if r_2 = 1 then (if ths0 = 0 then ((-5), nx, tn, ac, dn, fs, fm, ths0, ths1) else (bnd (F_Cloth_make joint (2 : Int32) nx ac dn fs fm) (fun r_5 => (bnd (F_Game_endTurn nx tn) (fun r_6 => ((ths0 - 1), r_6.1, r_6.2, r_5.2.2.1, r_5.2.2.2, r_5.1, r_5.2.1, (ths0 - 1), ths1)))))) else ((-5), nx, tn, ac, dn, fs, fm, ths0, ths1)))) else (bnd (F_Cloth_stateOf joint fs) (fun r_7 => (if r_7 = 1 then (if ths1 = 0 then ((-5), nx, tn, ac, dn, fs, fm, ths0, ths1) else (bnd (F_Cloth_make joint (2 : Int32) nx ac dn fs fm) (fun r_10 => (bnd (F_Game_endTurn nx tn) (fun r_11 => ((ths1 - 1), r_11.1, r_11.2, r_10.2.2.1, r_10.2.2.2, r_10.1, r_10.2.1, ths0, (ths1 - 1))))))) else ((-5), nx, tn, ac, dn, fs, fm, ths0, ths1)))))
set_option maxHeartbeats 4000000 in
set_option maxRecDepth 100000 in
theorem c_Game_sewJoint (l : Launch) (dC : Nat → ClassId) (dI : Nat → Nat → Nat) (cI cC cG cZ : ClassId) (g cl t0 t1 st mk ma0 ma1 : Nat) (joint : Int32) (nx : Int32) (tn : Int32) (gn : Int64) (ac : Int64) (dn : Int64) (fs : Nat → Int32) (fm : Nat → Int32) (mks0 : Int32) (pts0 : Int32) (ths0 : Int32) (rgs0 : Int32) (rgc0 : Int32) (fnd0 : Int32) (rdb0 : Int32) (wdb0 : Int32) (mks1 : Int32) (pts1 : Int32) (ths1 : Int32) (rgs1 : Int32) (rgc1 : Int32) (fnd1 : Int32) (rdb1 : Int32) (wdb1 : Int32) (res : Int32 × Int32 × Int32 × Int64 × Int64 × (Nat → Int32) × (Nat → Int32) × Int32 × Int32) (hres : res = F_Game_sewJoint joint nx tn ac dn fs fm ths0 ths1) : Met l yX1_sewJoint wsX1_sewJoint ({ frames := 2, cells := 0, slots := 0, locals := 47 }) (va_Pc [.ref g, .int joint] (wr_P (dC, dI) vwCl (tyL cI cC cG cZ) [(g, .inr (1, [.ref cl, .ref t0, .ref t1, .int nx, .int tn])), (cl, .inr (0, [.ref st, .ref mk, .long gn, .long ac, .long dn])), (st, .inl (cI, 82, .inl fs)), (mk, .inl (cI, 82, .inl fm)), (t0, .inr (5, [.ref ma0, .int mks0, .int pts0, .int ths0, .int rgs0, .int rgc0, .int fnd0, .int rdb0, .int wdb0])), (t1, .inr (5, [.ref ma1, .int mks1, .int pts1, .int ths1, .int rgs1, .int rgc1, .int fnd1, .int rdb1, .int wdb1]))])) (va_Qi (fun r (_ : Unit) => r = res.1) (fun _ zt => va_P (dC, dI) vwCl [(g, .inr (1, [.ref cl, .ref t0, .ref t1, .int res.2.1, .int res.2.2.1])), (cl, .inr (0, [.ref st, .ref mk, .long gn, .long res.2.2.2.1, .long res.2.2.2.2.1])), (st, .inl (cI, 82, .inl res.2.2.2.2.2.1)), (mk, .inl (cI, 82, .inl res.2.2.2.2.2.2.1)), (t0, .inr (5, [.ref ma0, .int mks0, .int pts0, .int res.2.2.2.2.2.2.2.1, .int rgs0, .int rgc0, .int fnd0, .int rdb0, .int wdb0])), (t1, .inr (5, [.ref ma1, .int mks1, .int pts1, .int res.2.2.2.2.2.2.2.2, .int rgs1, .int rgc1, .int fnd1, .int rdb1, .int wdb1]))] zt.heap) (wr_A [(g, .inr (1, [.ref cl, .ref t0, .ref t1, .int nx, .int tn])), (cl, .inr (0, [.ref st, .ref mk, .long gn, .long ac, .long dn])), (st, .inl (cI, 82, .inl fs)), (mk, .inl (cI, 82, .inl fm)), (t0, .inr (5, [.ref ma0, .int mks0, .int pts0, .int ths0, .int rgs0, .int rgc0, .int fnd0, .int rdb0, .int wdb0])), (t1, .inr (5, [.ref ma1, .int mks1, .int pts1, .int ths1, .int rgs1, .int rgc1, .int fnd1, .int rdb1, .int wdb1]))])) 0 0 (wr_A [(g, .inr (1, [.ref cl, .ref t0, .ref t1, .int nx, .int tn])), (cl, .inr (0, [.ref st, .ref mk, .long gn, .long ac, .long dn])), (st, .inl (cI, 82, .inl fs)), (mk, .inl (cI, 82, .inl fm)), (t0, .inr (5, [.ref ma0, .int mks0, .int pts0, .int ths0, .int rgs0, .int rgc0, .int fnd0, .int rdb0, .int wdb0])), (t1, .inr (5, [.ref ma1, .int mks1, .int pts1, .int ths1, .int rgs1, .int rgc1, .int fnd1, .int rdb1, .int wdb1]))]) := by
  refine Met.ofW (cc := cX1_sewJoint) (maxL := 3) (ret := (some .int)) (by decide) rfl ?_
  intro p e s m args below meth c s₁ B hml hv
  obtain ⟨rfl, hP, hK, hD0⟩ := hv
  have hx := B.exec
  have hb := B.bytes
  have hr := B.returns
  have hts := atoms_spec (ws := wsX1_sewJoint) B.pre
  have hown : s.vm.findClass RX1 = some m.cls := findClass_of_methodNamed B.named
  have hlocks := B.notSynchronized
  have hD := wr_self hD0
  generalize hAe : wr_A [(g, .inr (1, [.ref cl, .ref t0, .ref t1, .int nx, .int tn])), (cl, .inr (0, [.ref st, .ref mk, .long gn, .long ac, .long dn])), (st, .inl (cI, 82, .inl fs)), (mk, .inl (cI, 82, .inl fm)), (t0, .inr (5, [.ref ma0, .int mks0, .int pts0, .int ths0, .int rgs0, .int rgc0, .int fnd0, .int rdb0, .int wdb0])), (t1, .inr (5, [.ref ma1, .int mks1, .int pts1, .int ths1, .int rgs1, .int rgc1, .int fnd1, .int rdb1, .int wdb1]))] = A at hD ⊢
  have hS : va_S A s.heap s.heap [] := va_S.rf
  have hP : va_P (dC, dI) vwCl [(g, .inr (1, [.ref cl, .ref t0, .ref t1, .int nx, .int tn])), (cl, .inr (0, [.ref st, .ref mk, .long gn, .long ac, .long dn])), (st, .inl (cI, 82, .inl fs)), (mk, .inl (cI, 82, .inl fm)), (t0, .inr (5, [.ref ma0, .int mks0, .int pts0, .int ths0, .int rgs0, .int rgc0, .int fnd0, .int rdb0, .int wdb0])), (t1, .inr (5, [.ref ma1, .int mks1, .int pts1, .int ths1, .int rgs1, .int rgc1, .int fnd1, .int rdb1, .int wdb1]))] s.heap := hP
  have hl := lv_entry ([.ref g, .int joint]) (n := 3) (Nat.le_of_ble_eq_true rfl)
  rw [lg_entry_eq]
  generalize (lg_sl ([.ref g, .int joint]) ++ List.replicate (3 - (lg_sl ([.ref g, .int joint])).length) Slot.unset).toArray = ls at hl ⊢
  have hl : lv_has ls 3 [(0, .ref g), (1, .int joint)] := hl
  rw [F_Game_sewJoint] at hres
  refine lv_aload_n hx hb dX1_sewJoint_0 rfl (lv_at hl 0 rfl) ?_
  refine lv_aload_n hx hb dX1_sewJoint_1 rfl (lv_at hl 0 rfl) ?_
  refine va_get (D := (dC, dI)) (ci := 1) (v := .int nx) (C := RX1) (T := TX1) (N := 5) hx hb hts iX1_sewJoint_X1 hown hK hP 0 rfl rfl 3 (by decide) (hts (.fieldLink RX1 35 "TailorChalks$Game" "next" "I") kX1_sewJoint_35) (fun _ h9 => h9) rfl dX1_sewJoint_2 ?_
  by_cases c_1 : nx = 0
  · rw [if_pos c_1] at hres
    refine ro_callr (va_runV (As := [.int nx]) (rest := []) ⟨hx, hb, hml, hown, hts⟩ (c_Game_tailorOf l dC dI cI cC cG cZ g cl t0 t1 nx nx tn  t0 (if_pos c_1).symm) (cwV 1 hts gX1_sewJoint_X1_tailorOf rfl rfl rfl (by decide +kernel) ⟨Nat.le_of_ble_eq_true rfl, Nat.le_of_ble_eq_true rfl⟩) (ro_preV (hP.sub (ws' := [(g, .inr (1, [.ref cl, .ref t0, .ref t1, .int nx, .int tn]))]) [0] rfl) hK (ci := 1) (q0 := 0) rfl rfl) rfl rfl hl.1 rfl (lv_room (Nat.le_of_ble_eq_true rfl)) dX1_sewJoint_5 ⟨Nat.zero_le _, Nat.zero_le _⟩) hP hS (fun H locs hP hS => ?_)
    refine lv_astore_n (lv' := [(2, .ref t0), (0, .ref g), (1, .int joint)]) hx hb dX1_sewJoint_8 rfl hl (by decide) rfl (fun ls hl => ?_)
    refine lv_aload_n hx hb dX1_sewJoint_9 rfl (lv_at hl 1 rfl) ?_
    refine va_get (D := (dC, dI)) (ci := 1) (v := .ref cl) (C := RX1) (T := TX1) (N := 5) hx hb hts iX1_sewJoint_X1 hown hK hP 0 rfl rfl 0 (by decide) (hts (.fieldLink RX1 12 "TailorChalks$Game" "cloth" "LTailorChalks$Cloth;") kX1_sewJoint_12) (fun _ h9 => h9) rfl dX1_sewJoint_10 ?_
    refine lv_iload_n hx hb dX1_sewJoint_13 rfl (lv_at hl 2 rfl) ?_
    obtain ⟨r_2, hr_2⟩ : ∃ z, z = F_Cloth_stateOf joint fs := ⟨_, rfl⟩
    rw [bnd_e hr_2] at hres
    refine ro_calli (va_runV (As := [.int joint]) (rest := []) ⟨hx, hb, hml, hown, hts⟩ (c_Cloth_stateOf l dC dI cI cC cG cZ cl st mk joint gn ac dn fs  r_2 hr_2) (cwV 1 hts gX1_sewJoint_X0_stateOf rfl rfl rfl (by decide +kernel) ⟨Nat.le_of_ble_eq_true rfl, Nat.le_of_ble_eq_true rfl⟩) (ro_preV (hP.sub (ws' := [(cl, .inr (0, [.ref st, .ref mk, .long gn, .long ac, .long dn])), (st, .inl (cI, 82, .inl fs))]) [1, 2] rfl) hK (ci := 0) (q0 := 0) rfl rfl) rfl rfl hl.1 rfl (lv_room (Nat.le_of_ble_eq_true rfl)) dX1_sewJoint_14 ⟨Nat.zero_le _, Nat.zero_le _⟩) hP hS (fun H locs hP hS => ?_)
    refine lv_iconst (v := 1) hx hb dX1_sewJoint_17 (by decide) ?_
    refine lv_icmp_ne (tgt := 28) hx hb dX1_sewJoint_18 (by decide) (fun c_3 => ?_) (fun c_3 => ?_)
    · rw [if_neg c_3] at hres
      refine lv_bipush (v := (-5)) hx hb dX1_sewJoint_28 (by decide) ?_
      subst hres
      exact W.iret (v := (-5)) hx hb hr (fun t ht hW => ⟨⟨(-5), (), rfl, rfl, (by show va_P _ _ _ t.heap; rw [ht]; exact hP)⟩, hS.F ht⟩) hS.2.2 dX1_sewJoint_30
    · rw [if_pos c_3] at hres
      refine lv_aload_n hx hb dX1_sewJoint_21 rfl (lv_at hl 0 rfl) ?_
      refine va_get (D := (dC, dI)) (ci := 5) (v := .int ths0) (C := RX5) (T := TX5) (N := 9) hx hb hts iX1_sewJoint_X5 hown hK hP 4 rfl rfl 3 (by decide) (hts (.fieldLink RX1 144 "TailorChalks$Tailor" "threads" "I") kX1_sewJoint_144) (fun _ h9 => h9) rfl dX1_sewJoint_22 ?_
      refine lv_if_ne (tgt := 31) hx hb dX1_sewJoint_25 (by decide) (fun c_4 => ?_) (fun c_4 => ?_)
      · rw [if_neg c_4] at hres
        refine lv_aload_n hx hb dX1_sewJoint_31 rfl (lv_at hl 0 rfl) ?_
        refine lv_dup hx hb dX1_sewJoint_32 rfl ?_
        refine va_get (D := (dC, dI)) (ci := 5) (v := .int ths0) (C := RX5) (T := TX5) (N := 9) hx hb hts iX1_sewJoint_X5 hown hK hP 4 rfl rfl 3 (by decide) (hts (.fieldLink RX1 144 "TailorChalks$Tailor" "threads" "I") kX1_sewJoint_144) (fun _ h9 => h9) rfl dX1_sewJoint_33 ?_
        refine lv_iconst (v := 1) hx hb dX1_sewJoint_36 (by decide) ?_
        refine lv_isub hx hb dX1_sewJoint_37 ?_
        refine va_put (D := (dC, dI)) (ci := 5) (v := .int (ths0 - 1)) (ty := (.int)) (C := RX5) (T := TX5) (N := 9) hx hb hts iX1_sewJoint_X5 tyX5 tyX5_ok nmX5 hown hK hP hD hS 4 rfl rfl 3 (by decide) (hts (.fieldLink RX1 144 "TailorChalks$Tailor" "threads" "I") kX1_sewJoint_144) (fun _ h9 => h9) rfl (by decide +kernel) rfl rfl (Nat.le_of_ble_eq_true rfl) dX1_sewJoint_38 (fun H locs hP hD hS => ?_)
        have hP : va_P (dC, dI) vwCl [(g, .inr (1, [.ref cl, .ref t0, .ref t1, .int nx, .int tn])), (cl, .inr (0, [.ref st, .ref mk, .long gn, .long ac, .long dn])), (st, .inl (cI, 82, .inl fs)), (mk, .inl (cI, 82, .inl fm)), (t0, .inr (5, [.ref ma0, .int mks0, .int pts0, .int (ths0 - 1), .int rgs0, .int rgc0, .int fnd0, .int rdb0, .int wdb0])), (t1, .inr (5, [.ref ma1, .int mks1, .int pts1, .int ths1, .int rgs1, .int rgc1, .int fnd1, .int rdb1, .int wdb1]))] H := hP
        have hD : va_D A [(g, .inr (1, [.ref cl, .ref t0, .ref t1, .int nx, .int tn])), (cl, .inr (0, [.ref st, .ref mk, .long gn, .long ac, .long dn])), (st, .inl (cI, 82, .inl fs)), (mk, .inl (cI, 82, .inl fm)), (t0, .inr (5, [.ref ma0, .int mks0, .int pts0, .int (ths0 - 1), .int rgs0, .int rgc0, .int fnd0, .int rdb0, .int wdb0])), (t1, .inr (5, [.ref ma1, .int mks1, .int pts1, .int ths1, .int rgs1, .int rgc1, .int fnd1, .int rdb1, .int wdb1]))] := hD
        refine lv_aload_n hx hb dX1_sewJoint_41 rfl (lv_at hl 1 rfl) ?_
        refine va_get (D := (dC, dI)) (ci := 1) (v := .ref cl) (C := RX1) (T := TX1) (N := 5) hx hb hts iX1_sewJoint_X1 hown hK hP 0 rfl rfl 0 (by decide) (hts (.fieldLink RX1 12 "TailorChalks$Game" "cloth" "LTailorChalks$Cloth;") kX1_sewJoint_12) (fun _ h9 => h9) rfl dX1_sewJoint_42 ?_
        refine lv_iload_n hx hb dX1_sewJoint_45 rfl (lv_at hl 2 rfl) ?_
        refine lv_iconst (v := 2) hx hb dX1_sewJoint_46 (by decide) ?_
        refine lv_aload_n hx hb dX1_sewJoint_47 rfl (lv_at hl 1 rfl) ?_
        refine va_get (D := (dC, dI)) (ci := 1) (v := .int nx) (C := RX1) (T := TX1) (N := 5) hx hb hts iX1_sewJoint_X1 hown hK hP 0 rfl rfl 3 (by decide) (hts (.fieldLink RX1 35 "TailorChalks$Game" "next" "I") kX1_sewJoint_35) (fun _ h9 => h9) rfl dX1_sewJoint_48 ?_
        obtain ⟨r_5, hr_5⟩ : ∃ z, z = F_Cloth_make joint (2 : Int32) nx ac dn fs fm := ⟨_, rfl⟩
        rw [bnd_e hr_5] at hres
        refine wr_callv (w1 := [(cl, .inr (0, [.ref st, .ref mk, .long gn, .long r_5.2.2.1, .long r_5.2.2.2])), (st, .inl (cI, 82, .inl r_5.1)), (mk, .inl (cI, 82, .inl r_5.2.1))]) (is := [1, 2, 3]) (va_runV (As := [.int joint, .int 2, .int nx]) (rest := []) ⟨hx, hb, hml, hown, hts⟩ (c_Cloth_make l dC dI cI cC cG cZ cl st mk joint (2 : Int32) nx gn ac dn fs fm  r_5 hr_5) (cwV 3 hts gX1_sewJoint_X0_make rfl rfl rfl (by decide +kernel) ⟨Nat.le_of_ble_eq_true rfl, Nat.le_of_ble_eq_true rfl⟩) (wr_preV (hP.sub (ws' := [(cl, .inr (0, [.ref st, .ref mk, .long gn, .long ac, .long dn])), (st, .inl (cI, 82, .inl fs)), (mk, .inl (cI, 82, .inl fm))]) [1, 2, 3] rfl) hK (hD.sub (ws' := [(cl, .inr (0, [.ref st, .ref mk, .long gn, .long ac, .long dn])), (st, .inl (cI, 82, .inl fs)), (mk, .inl (cI, 82, .inl fm))]) [1, 2, 3] (by decide) rfl) (ci := 0) (q0 := 0) rfl rfl) rfl rfl hl.1 rfl (lv_room (Nat.le_of_ble_eq_true rfl)) dX1_sewJoint_51 ⟨Nat.zero_le _, Nat.zero_le _⟩) hP hD hS rfl rfl rfl (fun H locs hP hD hS => ?_)
        have hP : va_P (dC, dI) vwCl [(g, .inr (1, [.ref cl, .ref t0, .ref t1, .int nx, .int tn])), (cl, .inr (0, [.ref st, .ref mk, .long gn, .long r_5.2.2.1, .long r_5.2.2.2])), (st, .inl (cI, 82, .inl r_5.1)), (mk, .inl (cI, 82, .inl r_5.2.1)), (t0, .inr (5, [.ref ma0, .int mks0, .int pts0, .int (ths0 - 1), .int rgs0, .int rgc0, .int fnd0, .int rdb0, .int wdb0])), (t1, .inr (5, [.ref ma1, .int mks1, .int pts1, .int ths1, .int rgs1, .int rgc1, .int fnd1, .int rdb1, .int wdb1]))] H := hP
        have hD : va_D A [(g, .inr (1, [.ref cl, .ref t0, .ref t1, .int nx, .int tn])), (cl, .inr (0, [.ref st, .ref mk, .long gn, .long r_5.2.2.1, .long r_5.2.2.2])), (st, .inl (cI, 82, .inl r_5.1)), (mk, .inl (cI, 82, .inl r_5.2.1)), (t0, .inr (5, [.ref ma0, .int mks0, .int pts0, .int (ths0 - 1), .int rgs0, .int rgc0, .int fnd0, .int rdb0, .int wdb0])), (t1, .inr (5, [.ref ma1, .int mks1, .int pts1, .int ths1, .int rgs1, .int rgc1, .int fnd1, .int rdb1, .int wdb1]))] := hD
        refine lv_aload_n hx hb dX1_sewJoint_54 rfl (lv_at hl 1 rfl) ?_
        obtain ⟨r_6, hr_6⟩ : ∃ z, z = F_Game_endTurn nx tn := ⟨_, rfl⟩
        rw [bnd_e hr_6] at hres
        refine wr_callv (w1 := [(g, .inr (1, [.ref cl, .ref t0, .ref t1, .int r_6.1, .int r_6.2]))]) (is := [0]) (va_runV (As := []) (rest := []) ⟨hx, hb, hml, hown, hts⟩ (c_Game_endTurn l dC dI cI cC cG cZ g cl t0 t1 nx tn  r_6 hr_6) (cwV 0 hts gX1_sewJoint_X1_endTurn rfl rfl rfl (by decide +kernel) ⟨Nat.le_of_ble_eq_true rfl, Nat.le_of_ble_eq_true rfl⟩) (wr_preV (hP.sub (ws' := [(g, .inr (1, [.ref cl, .ref t0, .ref t1, .int nx, .int tn]))]) [0] rfl) hK (hD.sub (ws' := [(g, .inr (1, [.ref cl, .ref t0, .ref t1, .int nx, .int tn]))]) [0] (by decide) rfl) (ci := 1) (q0 := 0) rfl rfl) rfl rfl hl.1 rfl (lv_room (Nat.le_of_ble_eq_true rfl)) dX1_sewJoint_55 ⟨Nat.zero_le _, Nat.zero_le _⟩) hP hD hS rfl rfl rfl (fun H locs hP hD hS => ?_)
        have hP : va_P (dC, dI) vwCl [(g, .inr (1, [.ref cl, .ref t0, .ref t1, .int r_6.1, .int r_6.2])), (cl, .inr (0, [.ref st, .ref mk, .long gn, .long r_5.2.2.1, .long r_5.2.2.2])), (st, .inl (cI, 82, .inl r_5.1)), (mk, .inl (cI, 82, .inl r_5.2.1)), (t0, .inr (5, [.ref ma0, .int mks0, .int pts0, .int (ths0 - 1), .int rgs0, .int rgc0, .int fnd0, .int rdb0, .int wdb0])), (t1, .inr (5, [.ref ma1, .int mks1, .int pts1, .int ths1, .int rgs1, .int rgc1, .int fnd1, .int rdb1, .int wdb1]))] H := hP
        have hD : va_D A [(g, .inr (1, [.ref cl, .ref t0, .ref t1, .int r_6.1, .int r_6.2])), (cl, .inr (0, [.ref st, .ref mk, .long gn, .long r_5.2.2.1, .long r_5.2.2.2])), (st, .inl (cI, 82, .inl r_5.1)), (mk, .inl (cI, 82, .inl r_5.2.1)), (t0, .inr (5, [.ref ma0, .int mks0, .int pts0, .int (ths0 - 1), .int rgs0, .int rgc0, .int fnd0, .int rdb0, .int wdb0])), (t1, .inr (5, [.ref ma1, .int mks1, .int pts1, .int ths1, .int rgs1, .int rgc1, .int fnd1, .int rdb1, .int wdb1]))] := hD
        refine lv_aload_n hx hb dX1_sewJoint_58 rfl (lv_at hl 0 rfl) ?_
        refine va_get (D := (dC, dI)) (ci := 5) (v := .int (ths0 - 1)) (C := RX5) (T := TX5) (N := 9) hx hb hts iX1_sewJoint_X5 hown hK hP 4 rfl rfl 3 (by decide) (hts (.fieldLink RX1 144 "TailorChalks$Tailor" "threads" "I") kX1_sewJoint_144) (fun _ h9 => h9) rfl dX1_sewJoint_59 ?_
        subst hres
        exact W.iret (v := (ths0 - 1)) hx hb hr (fun t ht hW => ⟨⟨(ths0 - 1), (), rfl, rfl, (by show va_P _ _ _ t.heap; rw [ht]; exact hP)⟩, hS.F ht⟩) hS.2.2 dX1_sewJoint_62
      · rw [if_pos c_4] at hres
        refine lv_bipush (v := (-5)) hx hb dX1_sewJoint_28 (by decide) ?_
        subst hres
        exact W.iret (v := (-5)) hx hb hr (fun t ht hW => ⟨⟨(-5), (), rfl, rfl, (by show va_P _ _ _ t.heap; rw [ht]; exact hP)⟩, hS.F ht⟩) hS.2.2 dX1_sewJoint_30
  · rw [if_neg c_1] at hres
    refine ro_callr (va_runV (As := [.int nx]) (rest := []) ⟨hx, hb, hml, hown, hts⟩ (c_Game_tailorOf l dC dI cI cC cG cZ g cl t0 t1 nx nx tn  t1 (if_neg c_1).symm) (cwV 1 hts gX1_sewJoint_X1_tailorOf rfl rfl rfl (by decide +kernel) ⟨Nat.le_of_ble_eq_true rfl, Nat.le_of_ble_eq_true rfl⟩) (ro_preV (hP.sub (ws' := [(g, .inr (1, [.ref cl, .ref t0, .ref t1, .int nx, .int tn]))]) [0] rfl) hK (ci := 1) (q0 := 0) rfl rfl) rfl rfl hl.1 rfl (lv_room (Nat.le_of_ble_eq_true rfl)) dX1_sewJoint_5 ⟨Nat.zero_le _, Nat.zero_le _⟩) hP hS (fun H locs hP hS => ?_)
    refine lv_astore_n (lv' := [(2, .ref t1), (0, .ref g), (1, .int joint)]) hx hb dX1_sewJoint_8 rfl hl (by decide) rfl (fun ls hl => ?_)
    refine lv_aload_n hx hb dX1_sewJoint_9 rfl (lv_at hl 1 rfl) ?_
    refine va_get (D := (dC, dI)) (ci := 1) (v := .ref cl) (C := RX1) (T := TX1) (N := 5) hx hb hts iX1_sewJoint_X1 hown hK hP 0 rfl rfl 0 (by decide) (hts (.fieldLink RX1 12 "TailorChalks$Game" "cloth" "LTailorChalks$Cloth;") kX1_sewJoint_12) (fun _ h9 => h9) rfl dX1_sewJoint_10 ?_
    refine lv_iload_n hx hb dX1_sewJoint_13 rfl (lv_at hl 2 rfl) ?_
    obtain ⟨r_7, hr_7⟩ : ∃ z, z = F_Cloth_stateOf joint fs := ⟨_, rfl⟩
    rw [bnd_e hr_7] at hres
    refine ro_calli (va_runV (As := [.int joint]) (rest := []) ⟨hx, hb, hml, hown, hts⟩ (c_Cloth_stateOf l dC dI cI cC cG cZ cl st mk joint gn ac dn fs  r_7 hr_7) (cwV 1 hts gX1_sewJoint_X0_stateOf rfl rfl rfl (by decide +kernel) ⟨Nat.le_of_ble_eq_true rfl, Nat.le_of_ble_eq_true rfl⟩) (ro_preV (hP.sub (ws' := [(cl, .inr (0, [.ref st, .ref mk, .long gn, .long ac, .long dn])), (st, .inl (cI, 82, .inl fs))]) [1, 2] rfl) hK (ci := 0) (q0 := 0) rfl rfl) rfl rfl hl.1 rfl (lv_room (Nat.le_of_ble_eq_true rfl)) dX1_sewJoint_14 ⟨Nat.zero_le _, Nat.zero_le _⟩) hP hS (fun H locs hP hS => ?_)
    refine lv_iconst (v := 1) hx hb dX1_sewJoint_17 (by decide) ?_
    refine lv_icmp_ne (tgt := 28) hx hb dX1_sewJoint_18 (by decide) (fun c_8 => ?_) (fun c_8 => ?_)
    · rw [if_neg c_8] at hres
      refine lv_bipush (v := (-5)) hx hb dX1_sewJoint_28 (by decide) ?_
      subst hres
      exact W.iret (v := (-5)) hx hb hr (fun t ht hW => ⟨⟨(-5), (), rfl, rfl, (by show va_P _ _ _ t.heap; rw [ht]; exact hP)⟩, hS.F ht⟩) hS.2.2 dX1_sewJoint_30
    · rw [if_pos c_8] at hres
      refine lv_aload_n hx hb dX1_sewJoint_21 rfl (lv_at hl 0 rfl) ?_
      refine va_get (D := (dC, dI)) (ci := 5) (v := .int ths1) (C := RX5) (T := TX5) (N := 9) hx hb hts iX1_sewJoint_X5 hown hK hP 5 rfl rfl 3 (by decide) (hts (.fieldLink RX1 144 "TailorChalks$Tailor" "threads" "I") kX1_sewJoint_144) (fun _ h9 => h9) rfl dX1_sewJoint_22 ?_
      refine lv_if_ne (tgt := 31) hx hb dX1_sewJoint_25 (by decide) (fun c_9 => ?_) (fun c_9 => ?_)
      · rw [if_neg c_9] at hres
        refine lv_aload_n hx hb dX1_sewJoint_31 rfl (lv_at hl 0 rfl) ?_
        refine lv_dup hx hb dX1_sewJoint_32 rfl ?_
        refine va_get (D := (dC, dI)) (ci := 5) (v := .int ths1) (C := RX5) (T := TX5) (N := 9) hx hb hts iX1_sewJoint_X5 hown hK hP 5 rfl rfl 3 (by decide) (hts (.fieldLink RX1 144 "TailorChalks$Tailor" "threads" "I") kX1_sewJoint_144) (fun _ h9 => h9) rfl dX1_sewJoint_33 ?_
        refine lv_iconst (v := 1) hx hb dX1_sewJoint_36 (by decide) ?_
        refine lv_isub hx hb dX1_sewJoint_37 ?_
        refine va_put (D := (dC, dI)) (ci := 5) (v := .int (ths1 - 1)) (ty := (.int)) (C := RX5) (T := TX5) (N := 9) hx hb hts iX1_sewJoint_X5 tyX5 tyX5_ok nmX5 hown hK hP hD hS 5 rfl rfl 3 (by decide) (hts (.fieldLink RX1 144 "TailorChalks$Tailor" "threads" "I") kX1_sewJoint_144) (fun _ h9 => h9) rfl (by decide +kernel) rfl rfl (Nat.le_of_ble_eq_true rfl) dX1_sewJoint_38 (fun H locs hP hD hS => ?_)
        have hP : va_P (dC, dI) vwCl [(g, .inr (1, [.ref cl, .ref t0, .ref t1, .int nx, .int tn])), (cl, .inr (0, [.ref st, .ref mk, .long gn, .long ac, .long dn])), (st, .inl (cI, 82, .inl fs)), (mk, .inl (cI, 82, .inl fm)), (t0, .inr (5, [.ref ma0, .int mks0, .int pts0, .int ths0, .int rgs0, .int rgc0, .int fnd0, .int rdb0, .int wdb0])), (t1, .inr (5, [.ref ma1, .int mks1, .int pts1, .int (ths1 - 1), .int rgs1, .int rgc1, .int fnd1, .int rdb1, .int wdb1]))] H := hP
        have hD : va_D A [(g, .inr (1, [.ref cl, .ref t0, .ref t1, .int nx, .int tn])), (cl, .inr (0, [.ref st, .ref mk, .long gn, .long ac, .long dn])), (st, .inl (cI, 82, .inl fs)), (mk, .inl (cI, 82, .inl fm)), (t0, .inr (5, [.ref ma0, .int mks0, .int pts0, .int ths0, .int rgs0, .int rgc0, .int fnd0, .int rdb0, .int wdb0])), (t1, .inr (5, [.ref ma1, .int mks1, .int pts1, .int (ths1 - 1), .int rgs1, .int rgc1, .int fnd1, .int rdb1, .int wdb1]))] := hD
        refine lv_aload_n hx hb dX1_sewJoint_41 rfl (lv_at hl 1 rfl) ?_
        refine va_get (D := (dC, dI)) (ci := 1) (v := .ref cl) (C := RX1) (T := TX1) (N := 5) hx hb hts iX1_sewJoint_X1 hown hK hP 0 rfl rfl 0 (by decide) (hts (.fieldLink RX1 12 "TailorChalks$Game" "cloth" "LTailorChalks$Cloth;") kX1_sewJoint_12) (fun _ h9 => h9) rfl dX1_sewJoint_42 ?_
        refine lv_iload_n hx hb dX1_sewJoint_45 rfl (lv_at hl 2 rfl) ?_
        refine lv_iconst (v := 2) hx hb dX1_sewJoint_46 (by decide) ?_
        refine lv_aload_n hx hb dX1_sewJoint_47 rfl (lv_at hl 1 rfl) ?_
        refine va_get (D := (dC, dI)) (ci := 1) (v := .int nx) (C := RX1) (T := TX1) (N := 5) hx hb hts iX1_sewJoint_X1 hown hK hP 0 rfl rfl 3 (by decide) (hts (.fieldLink RX1 35 "TailorChalks$Game" "next" "I") kX1_sewJoint_35) (fun _ h9 => h9) rfl dX1_sewJoint_48 ?_
        obtain ⟨r_10, hr_10⟩ : ∃ z, z = F_Cloth_make joint (2 : Int32) nx ac dn fs fm := ⟨_, rfl⟩
        rw [bnd_e hr_10] at hres
        refine wr_callv (w1 := [(cl, .inr (0, [.ref st, .ref mk, .long gn, .long r_10.2.2.1, .long r_10.2.2.2])), (st, .inl (cI, 82, .inl r_10.1)), (mk, .inl (cI, 82, .inl r_10.2.1))]) (is := [1, 2, 3]) (va_runV (As := [.int joint, .int 2, .int nx]) (rest := []) ⟨hx, hb, hml, hown, hts⟩ (c_Cloth_make l dC dI cI cC cG cZ cl st mk joint (2 : Int32) nx gn ac dn fs fm  r_10 hr_10) (cwV 3 hts gX1_sewJoint_X0_make rfl rfl rfl (by decide +kernel) ⟨Nat.le_of_ble_eq_true rfl, Nat.le_of_ble_eq_true rfl⟩) (wr_preV (hP.sub (ws' := [(cl, .inr (0, [.ref st, .ref mk, .long gn, .long ac, .long dn])), (st, .inl (cI, 82, .inl fs)), (mk, .inl (cI, 82, .inl fm))]) [1, 2, 3] rfl) hK (hD.sub (ws' := [(cl, .inr (0, [.ref st, .ref mk, .long gn, .long ac, .long dn])), (st, .inl (cI, 82, .inl fs)), (mk, .inl (cI, 82, .inl fm))]) [1, 2, 3] (by decide) rfl) (ci := 0) (q0 := 0) rfl rfl) rfl rfl hl.1 rfl (lv_room (Nat.le_of_ble_eq_true rfl)) dX1_sewJoint_51 ⟨Nat.zero_le _, Nat.zero_le _⟩) hP hD hS rfl rfl rfl (fun H locs hP hD hS => ?_)
        have hP : va_P (dC, dI) vwCl [(g, .inr (1, [.ref cl, .ref t0, .ref t1, .int nx, .int tn])), (cl, .inr (0, [.ref st, .ref mk, .long gn, .long r_10.2.2.1, .long r_10.2.2.2])), (st, .inl (cI, 82, .inl r_10.1)), (mk, .inl (cI, 82, .inl r_10.2.1)), (t0, .inr (5, [.ref ma0, .int mks0, .int pts0, .int ths0, .int rgs0, .int rgc0, .int fnd0, .int rdb0, .int wdb0])), (t1, .inr (5, [.ref ma1, .int mks1, .int pts1, .int (ths1 - 1), .int rgs1, .int rgc1, .int fnd1, .int rdb1, .int wdb1]))] H := hP
        have hD : va_D A [(g, .inr (1, [.ref cl, .ref t0, .ref t1, .int nx, .int tn])), (cl, .inr (0, [.ref st, .ref mk, .long gn, .long r_10.2.2.1, .long r_10.2.2.2])), (st, .inl (cI, 82, .inl r_10.1)), (mk, .inl (cI, 82, .inl r_10.2.1)), (t0, .inr (5, [.ref ma0, .int mks0, .int pts0, .int ths0, .int rgs0, .int rgc0, .int fnd0, .int rdb0, .int wdb0])), (t1, .inr (5, [.ref ma1, .int mks1, .int pts1, .int (ths1 - 1), .int rgs1, .int rgc1, .int fnd1, .int rdb1, .int wdb1]))] := hD
        refine lv_aload_n hx hb dX1_sewJoint_54 rfl (lv_at hl 1 rfl) ?_
        obtain ⟨r_11, hr_11⟩ : ∃ z, z = F_Game_endTurn nx tn := ⟨_, rfl⟩
        rw [bnd_e hr_11] at hres
        refine wr_callv (w1 := [(g, .inr (1, [.ref cl, .ref t0, .ref t1, .int r_11.1, .int r_11.2]))]) (is := [0]) (va_runV (As := []) (rest := []) ⟨hx, hb, hml, hown, hts⟩ (c_Game_endTurn l dC dI cI cC cG cZ g cl t0 t1 nx tn  r_11 hr_11) (cwV 0 hts gX1_sewJoint_X1_endTurn rfl rfl rfl (by decide +kernel) ⟨Nat.le_of_ble_eq_true rfl, Nat.le_of_ble_eq_true rfl⟩) (wr_preV (hP.sub (ws' := [(g, .inr (1, [.ref cl, .ref t0, .ref t1, .int nx, .int tn]))]) [0] rfl) hK (hD.sub (ws' := [(g, .inr (1, [.ref cl, .ref t0, .ref t1, .int nx, .int tn]))]) [0] (by decide) rfl) (ci := 1) (q0 := 0) rfl rfl) rfl rfl hl.1 rfl (lv_room (Nat.le_of_ble_eq_true rfl)) dX1_sewJoint_55 ⟨Nat.zero_le _, Nat.zero_le _⟩) hP hD hS rfl rfl rfl (fun H locs hP hD hS => ?_)
        have hP : va_P (dC, dI) vwCl [(g, .inr (1, [.ref cl, .ref t0, .ref t1, .int r_11.1, .int r_11.2])), (cl, .inr (0, [.ref st, .ref mk, .long gn, .long r_10.2.2.1, .long r_10.2.2.2])), (st, .inl (cI, 82, .inl r_10.1)), (mk, .inl (cI, 82, .inl r_10.2.1)), (t0, .inr (5, [.ref ma0, .int mks0, .int pts0, .int ths0, .int rgs0, .int rgc0, .int fnd0, .int rdb0, .int wdb0])), (t1, .inr (5, [.ref ma1, .int mks1, .int pts1, .int (ths1 - 1), .int rgs1, .int rgc1, .int fnd1, .int rdb1, .int wdb1]))] H := hP
        have hD : va_D A [(g, .inr (1, [.ref cl, .ref t0, .ref t1, .int r_11.1, .int r_11.2])), (cl, .inr (0, [.ref st, .ref mk, .long gn, .long r_10.2.2.1, .long r_10.2.2.2])), (st, .inl (cI, 82, .inl r_10.1)), (mk, .inl (cI, 82, .inl r_10.2.1)), (t0, .inr (5, [.ref ma0, .int mks0, .int pts0, .int ths0, .int rgs0, .int rgc0, .int fnd0, .int rdb0, .int wdb0])), (t1, .inr (5, [.ref ma1, .int mks1, .int pts1, .int (ths1 - 1), .int rgs1, .int rgc1, .int fnd1, .int rdb1, .int wdb1]))] := hD
        refine lv_aload_n hx hb dX1_sewJoint_58 rfl (lv_at hl 0 rfl) ?_
        refine va_get (D := (dC, dI)) (ci := 5) (v := .int (ths1 - 1)) (C := RX5) (T := TX5) (N := 9) hx hb hts iX1_sewJoint_X5 hown hK hP 5 rfl rfl 3 (by decide) (hts (.fieldLink RX1 144 "TailorChalks$Tailor" "threads" "I") kX1_sewJoint_144) (fun _ h9 => h9) rfl dX1_sewJoint_59 ?_
        subst hres
        exact W.iret (v := (ths1 - 1)) hx hb hr (fun t ht hW => ⟨⟨(ths1 - 1), (), rfl, rfl, (by show va_P _ _ _ t.heap; rw [ht]; exact hP)⟩, hS.F ht⟩) hS.2.2 dX1_sewJoint_62
      · rw [if_pos c_9] at hres
        refine lv_bipush (v := (-5)) hx hb dX1_sewJoint_28 (by decide) ?_
        subst hres
        exact W.iret (v := (-5)) hx hb hr (fun t ht hW => ⟨⟨(-5), (), rfl, rfl, (by show va_P _ _ _ t.heap; rw [ht]; exact hP)⟩, hS.F ht⟩) hS.2.2 dX1_sewJoint_30
theorem iX1_bluffJoint_X1 : ∀ w ∈ u_ws RX1 TX1 5, w ∈ wsX1_bluffJoint := by decide +kernel
theorem kX1_bluffJoint_12 : Cond.fieldLink RX1 12 "TailorChalks$Game" "cloth" "LTailorChalks$Cloth;" ∈ wsX1_bluffJoint := by decide +kernel
theorem kX1_bluffJoint_35 : Cond.fieldLink RX1 35 "TailorChalks$Game" "next" "I" ∈ wsX1_bluffJoint := by decide +kernel
def F_Game_bluffJoint (joint : Int32) (nx : Int32) (tn : Int32) (gn : Int64) (ac : Int64) (dn : Int64) (fs : Nat → Int32) (fm : Nat → Int32) : Int32 × Int32 × Int32 × Int64 × Int64 × (Nat → Int32) × (Nat → Int32) := (bnd (F_Cloth_stateOf joint fs) (fun r_1 => (if r_1 = 1 then (bnd (F_Cloth_make joint (3 : Int32) nx ac dn fs fm) (fun r_3 => (bnd (F_Game_endTurn nx tn) (fun r_4 => (bnd (F_Cloth_jointsThatAre (3 : Int32) gn r_3.1) (fun r_5 => (r_5, r_4.1, r_4.2, r_3.2.2.1, r_3.2.2.2, r_3.1, r_3.2.1))))))) else ((-5), nx, tn, ac, dn, fs, fm))))
set_option maxHeartbeats 4000000 in
set_option maxRecDepth 100000 in
theorem c_Game_bluffJoint (l : Launch) (dC : Nat → ClassId) (dI : Nat → Nat → Nat) (cI cC cG cZ : ClassId) (g cl t0 t1 st mk : Nat) (joint : Int32) (nx : Int32) (tn : Int32) (gn : Int64) (ac : Int64) (dn : Int64) (fs : Nat → Int32) (fm : Nat → Int32) (res : Int32 × Int32 × Int32 × Int64 × Int64 × (Nat → Int32) × (Nat → Int32)) (hres : res = F_Game_bluffJoint joint nx tn gn ac dn fs fm) : Met l yX1_bluffJoint wsX1_bluffJoint ({ frames := 3, cells := 0, slots := 0, locals := 68 }) (va_Pc [.ref g, .int joint] (wr_P (dC, dI) vwCl (tyL cI cC cG cZ) [(g, .inr (1, [.ref cl, .ref t0, .ref t1, .int nx, .int tn])), (cl, .inr (0, [.ref st, .ref mk, .long gn, .long ac, .long dn])), (st, .inl (cI, 82, .inl fs)), (mk, .inl (cI, 82, .inl fm))])) (va_Qi (fun r (_ : Unit) => r = res.1) (fun _ zt => va_P (dC, dI) vwCl [(g, .inr (1, [.ref cl, .ref t0, .ref t1, .int res.2.1, .int res.2.2.1])), (cl, .inr (0, [.ref st, .ref mk, .long gn, .long res.2.2.2.1, .long res.2.2.2.2.1])), (st, .inl (cI, 82, .inl res.2.2.2.2.2.1)), (mk, .inl (cI, 82, .inl res.2.2.2.2.2.2))] zt.heap) (wr_A [(g, .inr (1, [.ref cl, .ref t0, .ref t1, .int nx, .int tn])), (cl, .inr (0, [.ref st, .ref mk, .long gn, .long ac, .long dn])), (st, .inl (cI, 82, .inl fs)), (mk, .inl (cI, 82, .inl fm))])) 0 0 (wr_A [(g, .inr (1, [.ref cl, .ref t0, .ref t1, .int nx, .int tn])), (cl, .inr (0, [.ref st, .ref mk, .long gn, .long ac, .long dn])), (st, .inl (cI, 82, .inl fs)), (mk, .inl (cI, 82, .inl fm))]) := by
  refine Met.ofW (cc := cX1_bluffJoint) (maxL := 2) (ret := (some .int)) (by decide) rfl ?_
  intro p e s m args below meth c s₁ B hml hv
  obtain ⟨rfl, hP, hK, hD0⟩ := hv
  have hx := B.exec
  have hb := B.bytes
  have hr := B.returns
  have hts := atoms_spec (ws := wsX1_bluffJoint) B.pre
  have hown : s.vm.findClass RX1 = some m.cls := findClass_of_methodNamed B.named
  have hlocks := B.notSynchronized
  have hD := wr_self hD0
  generalize hAe : wr_A [(g, .inr (1, [.ref cl, .ref t0, .ref t1, .int nx, .int tn])), (cl, .inr (0, [.ref st, .ref mk, .long gn, .long ac, .long dn])), (st, .inl (cI, 82, .inl fs)), (mk, .inl (cI, 82, .inl fm))] = A at hD ⊢
  have hS : va_S A s.heap s.heap [] := va_S.rf
  have hP : va_P (dC, dI) vwCl [(g, .inr (1, [.ref cl, .ref t0, .ref t1, .int nx, .int tn])), (cl, .inr (0, [.ref st, .ref mk, .long gn, .long ac, .long dn])), (st, .inl (cI, 82, .inl fs)), (mk, .inl (cI, 82, .inl fm))] s.heap := hP
  have hl := lv_entry ([.ref g, .int joint]) (n := 2) (Nat.le_of_ble_eq_true rfl)
  rw [lg_entry_eq]
  generalize (lg_sl ([.ref g, .int joint]) ++ List.replicate (2 - (lg_sl ([.ref g, .int joint])).length) Slot.unset).toArray = ls at hl ⊢
  have hl : lv_has ls 2 [(0, .ref g), (1, .int joint)] := hl
  rw [F_Game_bluffJoint] at hres
  refine lv_aload_n hx hb dX1_bluffJoint_0 rfl (lv_at hl 0 rfl) ?_
  refine va_get (D := (dC, dI)) (ci := 1) (v := .ref cl) (C := RX1) (T := TX1) (N := 5) hx hb hts iX1_bluffJoint_X1 hown hK hP 0 rfl rfl 0 (by decide) (hts (.fieldLink RX1 12 "TailorChalks$Game" "cloth" "LTailorChalks$Cloth;") kX1_bluffJoint_12) (fun _ h9 => h9) rfl dX1_bluffJoint_1 ?_
  refine lv_iload_n hx hb dX1_bluffJoint_4 rfl (lv_at hl 1 rfl) ?_
  obtain ⟨r_1, hr_1⟩ : ∃ z, z = F_Cloth_stateOf joint fs := ⟨_, rfl⟩
  rw [bnd_e hr_1] at hres
  refine ro_calli (va_runV (As := [.int joint]) (rest := []) ⟨hx, hb, hml, hown, hts⟩ (c_Cloth_stateOf l dC dI cI cC cG cZ cl st mk joint gn ac dn fs  r_1 hr_1) (cwV 1 hts gX1_bluffJoint_X0_stateOf rfl rfl rfl (by decide +kernel) ⟨Nat.le_of_ble_eq_true rfl, Nat.le_of_ble_eq_true rfl⟩) (ro_preV (hP.sub (ws' := [(cl, .inr (0, [.ref st, .ref mk, .long gn, .long ac, .long dn])), (st, .inl (cI, 82, .inl fs))]) [1, 2] rfl) hK (ci := 0) (q0 := 0) rfl rfl) rfl rfl hl.1 rfl (lv_room (Nat.le_of_ble_eq_true rfl)) dX1_bluffJoint_5 ⟨Nat.zero_le _, Nat.zero_le _⟩) hP hS (fun H locs hP hS => ?_)
  refine lv_iconst (v := 1) hx hb dX1_bluffJoint_8 (by decide) ?_
  refine lv_icmp_eq (tgt := 15) hx hb dX1_bluffJoint_9 (by decide) (fun c_2 => ?_) (fun c_2 => ?_)
  · rw [if_pos c_2] at hres
    refine lv_aload_n hx hb dX1_bluffJoint_15 rfl (lv_at hl 0 rfl) ?_
    refine va_get (D := (dC, dI)) (ci := 1) (v := .ref cl) (C := RX1) (T := TX1) (N := 5) hx hb hts iX1_bluffJoint_X1 hown hK hP 0 rfl rfl 0 (by decide) (hts (.fieldLink RX1 12 "TailorChalks$Game" "cloth" "LTailorChalks$Cloth;") kX1_bluffJoint_12) (fun _ h9 => h9) rfl dX1_bluffJoint_16 ?_
    refine lv_iload_n hx hb dX1_bluffJoint_19 rfl (lv_at hl 1 rfl) ?_
    refine lv_iconst (v := 3) hx hb dX1_bluffJoint_20 (by decide) ?_
    refine lv_aload_n hx hb dX1_bluffJoint_21 rfl (lv_at hl 0 rfl) ?_
    refine va_get (D := (dC, dI)) (ci := 1) (v := .int nx) (C := RX1) (T := TX1) (N := 5) hx hb hts iX1_bluffJoint_X1 hown hK hP 0 rfl rfl 3 (by decide) (hts (.fieldLink RX1 35 "TailorChalks$Game" "next" "I") kX1_bluffJoint_35) (fun _ h9 => h9) rfl dX1_bluffJoint_22 ?_
    obtain ⟨r_3, hr_3⟩ : ∃ z, z = F_Cloth_make joint (3 : Int32) nx ac dn fs fm := ⟨_, rfl⟩
    rw [bnd_e hr_3] at hres
    refine wr_callv (w1 := [(cl, .inr (0, [.ref st, .ref mk, .long gn, .long r_3.2.2.1, .long r_3.2.2.2])), (st, .inl (cI, 82, .inl r_3.1)), (mk, .inl (cI, 82, .inl r_3.2.1))]) (is := [1, 2, 3]) (va_runV (As := [.int joint, .int 3, .int nx]) (rest := []) ⟨hx, hb, hml, hown, hts⟩ (c_Cloth_make l dC dI cI cC cG cZ cl st mk joint (3 : Int32) nx gn ac dn fs fm  r_3 hr_3) (cwV 3 hts gX1_bluffJoint_X0_make rfl rfl rfl (by decide +kernel) ⟨Nat.le_of_ble_eq_true rfl, Nat.le_of_ble_eq_true rfl⟩) (wr_preV (hP.sub (ws' := [(cl, .inr (0, [.ref st, .ref mk, .long gn, .long ac, .long dn])), (st, .inl (cI, 82, .inl fs)), (mk, .inl (cI, 82, .inl fm))]) [1, 2, 3] rfl) hK (hD.sub (ws' := [(cl, .inr (0, [.ref st, .ref mk, .long gn, .long ac, .long dn])), (st, .inl (cI, 82, .inl fs)), (mk, .inl (cI, 82, .inl fm))]) [1, 2, 3] (by decide) rfl) (ci := 0) (q0 := 0) rfl rfl) rfl rfl hl.1 rfl (lv_room (Nat.le_of_ble_eq_true rfl)) dX1_bluffJoint_25 ⟨Nat.zero_le _, Nat.zero_le _⟩) hP hD hS rfl rfl rfl (fun H locs hP hD hS => ?_)
    have hP : va_P (dC, dI) vwCl [(g, .inr (1, [.ref cl, .ref t0, .ref t1, .int nx, .int tn])), (cl, .inr (0, [.ref st, .ref mk, .long gn, .long r_3.2.2.1, .long r_3.2.2.2])), (st, .inl (cI, 82, .inl r_3.1)), (mk, .inl (cI, 82, .inl r_3.2.1))] H := hP
    have hD : va_D A [(g, .inr (1, [.ref cl, .ref t0, .ref t1, .int nx, .int tn])), (cl, .inr (0, [.ref st, .ref mk, .long gn, .long r_3.2.2.1, .long r_3.2.2.2])), (st, .inl (cI, 82, .inl r_3.1)), (mk, .inl (cI, 82, .inl r_3.2.1))] := hD
    refine lv_aload_n hx hb dX1_bluffJoint_28 rfl (lv_at hl 0 rfl) ?_
    obtain ⟨r_4, hr_4⟩ : ∃ z, z = F_Game_endTurn nx tn := ⟨_, rfl⟩
    rw [bnd_e hr_4] at hres
    refine wr_callv (w1 := [(g, .inr (1, [.ref cl, .ref t0, .ref t1, .int r_4.1, .int r_4.2]))]) (is := [0]) (va_runV (As := []) (rest := []) ⟨hx, hb, hml, hown, hts⟩ (c_Game_endTurn l dC dI cI cC cG cZ g cl t0 t1 nx tn  r_4 hr_4) (cwV 0 hts gX1_bluffJoint_X1_endTurn rfl rfl rfl (by decide +kernel) ⟨Nat.le_of_ble_eq_true rfl, Nat.le_of_ble_eq_true rfl⟩) (wr_preV (hP.sub (ws' := [(g, .inr (1, [.ref cl, .ref t0, .ref t1, .int nx, .int tn]))]) [0] rfl) hK (hD.sub (ws' := [(g, .inr (1, [.ref cl, .ref t0, .ref t1, .int nx, .int tn]))]) [0] (by decide) rfl) (ci := 1) (q0 := 0) rfl rfl) rfl rfl hl.1 rfl (lv_room (Nat.le_of_ble_eq_true rfl)) dX1_bluffJoint_29 ⟨Nat.zero_le _, Nat.zero_le _⟩) hP hD hS rfl rfl rfl (fun H locs hP hD hS => ?_)
    have hP : va_P (dC, dI) vwCl [(g, .inr (1, [.ref cl, .ref t0, .ref t1, .int r_4.1, .int r_4.2])), (cl, .inr (0, [.ref st, .ref mk, .long gn, .long r_3.2.2.1, .long r_3.2.2.2])), (st, .inl (cI, 82, .inl r_3.1)), (mk, .inl (cI, 82, .inl r_3.2.1))] H := hP
    have hD : va_D A [(g, .inr (1, [.ref cl, .ref t0, .ref t1, .int r_4.1, .int r_4.2])), (cl, .inr (0, [.ref st, .ref mk, .long gn, .long r_3.2.2.1, .long r_3.2.2.2])), (st, .inl (cI, 82, .inl r_3.1)), (mk, .inl (cI, 82, .inl r_3.2.1))] := hD
    refine lv_aload_n hx hb dX1_bluffJoint_32 rfl (lv_at hl 0 rfl) ?_
    refine va_get (D := (dC, dI)) (ci := 1) (v := .ref cl) (C := RX1) (T := TX1) (N := 5) hx hb hts iX1_bluffJoint_X1 hown hK hP 0 rfl rfl 0 (by decide) (hts (.fieldLink RX1 12 "TailorChalks$Game" "cloth" "LTailorChalks$Cloth;") kX1_bluffJoint_12) (fun _ h9 => h9) rfl dX1_bluffJoint_33 ?_
    refine lv_iconst (v := 3) hx hb dX1_bluffJoint_36 (by decide) ?_
    obtain ⟨r_5, hr_5⟩ : ∃ z, z = F_Cloth_jointsThatAre (3 : Int32) gn r_3.1 := ⟨_, rfl⟩
    rw [bnd_e hr_5] at hres
    refine ro_calli (va_runV (As := [.int 3]) (rest := []) ⟨hx, hb, hml, hown, hts⟩ (c_Cloth_jointsThatAre l dC dI cI cC cG cZ cl st mk (3 : Int32) gn r_3.2.2.1 r_3.2.2.2 r_3.1  r_5 hr_5) (cwV 1 hts gX1_bluffJoint_X0_jointsThatAre rfl rfl rfl (by decide +kernel) ⟨Nat.le_of_ble_eq_true rfl, Nat.le_of_ble_eq_true rfl⟩) (ro_preV (hP.sub (ws' := [(cl, .inr (0, [.ref st, .ref mk, .long gn, .long r_3.2.2.1, .long r_3.2.2.2])), (st, .inl (cI, 82, .inl r_3.1))]) [1, 2] rfl) hK (ci := 0) (q0 := 0) rfl rfl) rfl rfl hl.1 rfl (lv_room (Nat.le_of_ble_eq_true rfl)) dX1_bluffJoint_37 ⟨Nat.zero_le _, Nat.zero_le _⟩) hP hS (fun H locs hP hS => ?_)
    subst hres
    exact W.iret (v := r_5) hx hb hr (fun t ht hW => ⟨⟨r_5, (), rfl, rfl, (by show va_P _ _ _ t.heap; rw [ht]; exact hP)⟩, hS.F ht⟩) hS.2.2 dX1_bluffJoint_40
  · rw [if_neg c_2] at hres
    refine lv_bipush (v := (-5)) hx hb dX1_bluffJoint_12 (by decide) ?_
    subst hres
    exact W.iret (v := (-5)) hx hb hr (fun t ht hW => ⟨⟨(-5), (), rfl, rfl, (by show va_P _ _ _ t.heap; rw [ht]; exact hP)⟩, hS.F ht⟩) hS.2.2 dX1_bluffJoint_14
theorem iX1_doubtJoint_X1 : ∀ w ∈ u_ws RX1 TX1 5, w ∈ wsX1_doubtJoint := by decide +kernel
theorem iX1_doubtJoint_X5 : ∀ w ∈ u_ws RX5 TX5 9, w ∈ wsX1_doubtJoint := by decide +kernel
theorem kX1_doubtJoint_12 : Cond.fieldLink RX1 12 "TailorChalks$Game" "cloth" "LTailorChalks$Cloth;" ∈ wsX1_doubtJoint := by decide +kernel
theorem kX1_doubtJoint_150 : Cond.fieldLink RX1 150 "TailorChalks$Tailor" "rightDoubts" "I" ∈ wsX1_doubtJoint := by decide +kernel
theorem kX1_doubtJoint_153 : Cond.fieldLink RX1 153 "TailorChalks$Tailor" "wrongDoubts" "I" ∈ wsX1_doubtJoint := by decide +kernel
theorem kX1_doubtJoint_35 : Cond.fieldLink RX1 35 "TailorChalks$Game" "next" "I" ∈ wsX1_doubtJoint := by decide +kernel
theorem kX1_doubtJoint_50 : Cond.fieldLink RX1 50 "TailorChalks$Tailor" "points" "I" ∈ wsX1_doubtJoint := by decide +kernel
def F_Game_doubtJoint (joint : Int32) (nx : Int32) (tn : Int32) (ac : Int64) (dn : Int64) (fs : Nat → Int32) (fm : Nat → Int32) (pts0 : Int32) (rdb0 : Int32) (wdb0 : Int32) (pts1 : Int32) (rdb1 : Int32) (wdb1 : Int32) : Int32 × Int32 × Int32 × Int64 × Int64 × (Nat → Int32) × (Nat → Int32) × Int32 × Int32 × Int32 × Int32 × Int32 × Int32 := (bnd (F_Cloth_makerOf joint fm) (fun r_1 => (if r_1 = ((1 : Int32) - nx) then (bnd (F_Cloth_stateOf joint fs) (fun r_3 => (if r_3 = 3 then (if nx = 0 then (bnd (F_Cloth_make joint (1 : Int32) (-6 : Int32) ac dn fs fm) (fun r_19 => (bnd (F_Game_endTurn nx tn) (fun r_20 => (1, r_20.1, r_20.2, r_19.2.2.1, r_19.2.2.2, r_19.1, r_19.2.1, (pts0 + 2), (rdb0 + 1), wdb0, pts1, rdb1, wdb1))))) else (bnd (F_Cloth_make joint (1 : Int32) (-6 : Int32) ac dn fs fm) (fun r_24 => (bnd (F_Game_endTurn nx tn) (fun r_25 => (1, r_25.1, r_25.2, r_24.2.2.1, r_24.2.2.2, r_24.1, r_24.2.1, pts0, rdb0, wdb0, (pts1 + 2), (rdb1 + 1), wdb1)))))) else (if nx = 0 then (bnd (F_Cloth_make joint (2 : Int32) (-6 : Int32) ac dn fs fm) (fun r_8 => (bnd (F_Game_endTurn nx tn) (fun r_9 => (0, r_9.1, r_9.2, r_8.2.2.1, r_8.2.2.2, r_8.1, r_8.2.1, (pts0 - 2), rdb0, (wdb0 + 1), pts1, rdb1, wdb1))))) else (bnd (F_Cloth_make joint (2 : Int32) (-6 : Int32) ac dn fs fm) (fun r_13 => (bnd (F_Game_endTurn nx tn) (fun r_14 => (0, r_14.1, r_14.2, r_13.2.2.1, r_13.2.2.2, r_13.1, r_13.2.1, pts0, rdb0, wdb0, (pts1 - 2), rdb1, (wdb1 + 1)))))))))) else ((-5), nx, tn, ac, dn, fs, fm, pts0, rdb0, wdb0, pts1, rdb1, wdb1))))
set_option maxHeartbeats 4000000 in
set_option maxRecDepth 100000 in
theorem c_Game_doubtJoint (l : Launch) (dC : Nat → ClassId) (dI : Nat → Nat → Nat) (cI cC cG cZ : ClassId) (g cl t0 t1 st mk ma0 ma1 : Nat) (joint : Int32) (nx : Int32) (tn : Int32) (gn : Int64) (ac : Int64) (dn : Int64) (fs : Nat → Int32) (fm : Nat → Int32) (mks0 : Int32) (pts0 : Int32) (ths0 : Int32) (rgs0 : Int32) (rgc0 : Int32) (fnd0 : Int32) (rdb0 : Int32) (wdb0 : Int32) (mks1 : Int32) (pts1 : Int32) (ths1 : Int32) (rgs1 : Int32) (rgc1 : Int32) (fnd1 : Int32) (rdb1 : Int32) (wdb1 : Int32) (res : Int32 × Int32 × Int32 × Int64 × Int64 × (Nat → Int32) × (Nat → Int32) × Int32 × Int32 × Int32 × Int32 × Int32 × Int32) (hres : res = F_Game_doubtJoint joint nx tn ac dn fs fm pts0 rdb0 wdb0 pts1 rdb1 wdb1) : Met l yX1_doubtJoint wsX1_doubtJoint ({ frames := 2, cells := 0, slots := 0, locals := 47 }) (va_Pc [.ref g, .int joint] (wr_P (dC, dI) vwCl (tyL cI cC cG cZ) [(g, .inr (1, [.ref cl, .ref t0, .ref t1, .int nx, .int tn])), (cl, .inr (0, [.ref st, .ref mk, .long gn, .long ac, .long dn])), (st, .inl (cI, 82, .inl fs)), (mk, .inl (cI, 82, .inl fm)), (t0, .inr (5, [.ref ma0, .int mks0, .int pts0, .int ths0, .int rgs0, .int rgc0, .int fnd0, .int rdb0, .int wdb0])), (t1, .inr (5, [.ref ma1, .int mks1, .int pts1, .int ths1, .int rgs1, .int rgc1, .int fnd1, .int rdb1, .int wdb1]))])) (va_Qi (fun r (_ : Unit) => r = res.1) (fun _ zt => va_P (dC, dI) vwCl [(g, .inr (1, [.ref cl, .ref t0, .ref t1, .int res.2.1, .int res.2.2.1])), (cl, .inr (0, [.ref st, .ref mk, .long gn, .long res.2.2.2.1, .long res.2.2.2.2.1])), (st, .inl (cI, 82, .inl res.2.2.2.2.2.1)), (mk, .inl (cI, 82, .inl res.2.2.2.2.2.2.1)), (t0, .inr (5, [.ref ma0, .int mks0, .int res.2.2.2.2.2.2.2.1, .int ths0, .int rgs0, .int rgc0, .int fnd0, .int res.2.2.2.2.2.2.2.2.1, .int res.2.2.2.2.2.2.2.2.2.1])), (t1, .inr (5, [.ref ma1, .int mks1, .int res.2.2.2.2.2.2.2.2.2.2.1, .int ths1, .int rgs1, .int rgc1, .int fnd1, .int res.2.2.2.2.2.2.2.2.2.2.2.1, .int res.2.2.2.2.2.2.2.2.2.2.2.2]))] zt.heap) (wr_A [(g, .inr (1, [.ref cl, .ref t0, .ref t1, .int nx, .int tn])), (cl, .inr (0, [.ref st, .ref mk, .long gn, .long ac, .long dn])), (st, .inl (cI, 82, .inl fs)), (mk, .inl (cI, 82, .inl fm)), (t0, .inr (5, [.ref ma0, .int mks0, .int pts0, .int ths0, .int rgs0, .int rgc0, .int fnd0, .int rdb0, .int wdb0])), (t1, .inr (5, [.ref ma1, .int mks1, .int pts1, .int ths1, .int rgs1, .int rgc1, .int fnd1, .int rdb1, .int wdb1]))])) 0 0 (wr_A [(g, .inr (1, [.ref cl, .ref t0, .ref t1, .int nx, .int tn])), (cl, .inr (0, [.ref st, .ref mk, .long gn, .long ac, .long dn])), (st, .inl (cI, 82, .inl fs)), (mk, .inl (cI, 82, .inl fm)), (t0, .inr (5, [.ref ma0, .int mks0, .int pts0, .int ths0, .int rgs0, .int rgc0, .int fnd0, .int rdb0, .int wdb0])), (t1, .inr (5, [.ref ma1, .int mks1, .int pts1, .int ths1, .int rgs1, .int rgc1, .int fnd1, .int rdb1, .int wdb1]))]) := by
  refine Met.ofW (cc := cX1_doubtJoint) (maxL := 4) (ret := (some .int)) (by decide) rfl ?_
  intro p e s m args below meth c s₁ B hml hv
  obtain ⟨rfl, hP, hK, hD0⟩ := hv
  have hx := B.exec
  have hb := B.bytes
  have hr := B.returns
  have hts := atoms_spec (ws := wsX1_doubtJoint) B.pre
  have hown : s.vm.findClass RX1 = some m.cls := findClass_of_methodNamed B.named
  have hlocks := B.notSynchronized
  have hD := wr_self hD0
  generalize hAe : wr_A [(g, .inr (1, [.ref cl, .ref t0, .ref t1, .int nx, .int tn])), (cl, .inr (0, [.ref st, .ref mk, .long gn, .long ac, .long dn])), (st, .inl (cI, 82, .inl fs)), (mk, .inl (cI, 82, .inl fm)), (t0, .inr (5, [.ref ma0, .int mks0, .int pts0, .int ths0, .int rgs0, .int rgc0, .int fnd0, .int rdb0, .int wdb0])), (t1, .inr (5, [.ref ma1, .int mks1, .int pts1, .int ths1, .int rgs1, .int rgc1, .int fnd1, .int rdb1, .int wdb1]))] = A at hD ⊢
  have hS : va_S A s.heap s.heap [] := va_S.rf
  have hP : va_P (dC, dI) vwCl [(g, .inr (1, [.ref cl, .ref t0, .ref t1, .int nx, .int tn])), (cl, .inr (0, [.ref st, .ref mk, .long gn, .long ac, .long dn])), (st, .inl (cI, 82, .inl fs)), (mk, .inl (cI, 82, .inl fm)), (t0, .inr (5, [.ref ma0, .int mks0, .int pts0, .int ths0, .int rgs0, .int rgc0, .int fnd0, .int rdb0, .int wdb0])), (t1, .inr (5, [.ref ma1, .int mks1, .int pts1, .int ths1, .int rgs1, .int rgc1, .int fnd1, .int rdb1, .int wdb1]))] s.heap := hP
  have hl := lv_entry ([.ref g, .int joint]) (n := 4) (Nat.le_of_ble_eq_true rfl)
  rw [lg_entry_eq]
  generalize (lg_sl ([.ref g, .int joint]) ++ List.replicate (4 - (lg_sl ([.ref g, .int joint])).length) Slot.unset).toArray = ls at hl ⊢
  have hl : lv_has ls 4 [(0, .ref g), (1, .int joint)] := hl
  rw [F_Game_doubtJoint] at hres
  refine lv_aload_n hx hb dX1_doubtJoint_0 rfl (lv_at hl 0 rfl) ?_
  refine va_get (D := (dC, dI)) (ci := 1) (v := .ref cl) (C := RX1) (T := TX1) (N := 5) hx hb hts iX1_doubtJoint_X1 hown hK hP 0 rfl rfl 0 (by decide) (hts (.fieldLink RX1 12 "TailorChalks$Game" "cloth" "LTailorChalks$Cloth;") kX1_doubtJoint_12) (fun _ h9 => h9) rfl dX1_doubtJoint_1 ?_
  refine lv_iload_n hx hb dX1_doubtJoint_4 rfl (lv_at hl 1 rfl) ?_
  obtain ⟨r_1, hr_1⟩ : ∃ z, z = F_Cloth_makerOf joint fm := ⟨_, rfl⟩
  rw [bnd_e hr_1] at hres
  refine ro_calli (va_runV (As := [.int joint]) (rest := []) ⟨hx, hb, hml, hown, hts⟩ (c_Cloth_makerOf l dC dI cI cC cG cZ cl st mk joint gn ac dn fm  r_1 hr_1) (cwV 1 hts gX1_doubtJoint_X0_makerOf rfl rfl rfl (by decide +kernel) ⟨Nat.le_of_ble_eq_true rfl, Nat.le_of_ble_eq_true rfl⟩) (ro_preV (hP.sub (ws' := [(cl, .inr (0, [.ref st, .ref mk, .long gn, .long ac, .long dn])), (mk, .inl (cI, 82, .inl fm))]) [1, 3] rfl) hK (ci := 0) (q0 := 0) rfl rfl) rfl rfl hl.1 rfl (lv_room (Nat.le_of_ble_eq_true rfl)) dX1_doubtJoint_5 ⟨Nat.zero_le _, Nat.zero_le _⟩) hP hS (fun H locs hP hS => ?_)
  refine lv_iconst (v := 1) hx hb dX1_doubtJoint_8 (by decide) ?_
  refine lv_aload_n hx hb dX1_doubtJoint_9 rfl (lv_at hl 0 rfl) ?_
  refine va_get (D := (dC, dI)) (ci := 1) (v := .int nx) (C := RX1) (T := TX1) (N := 5) hx hb hts iX1_doubtJoint_X1 hown hK hP 0 rfl rfl 3 (by decide) (hts (.fieldLink RX1 35 "TailorChalks$Game" "next" "I") kX1_doubtJoint_35) (fun _ h9 => h9) rfl dX1_doubtJoint_10 ?_
  refine lv_isub hx hb dX1_doubtJoint_13 ?_
  refine lv_icmp_eq (tgt := 20) hx hb dX1_doubtJoint_14 (by decide) (fun c_2 => ?_) (fun c_2 => ?_)
  · rw [if_pos c_2] at hres
    refine lv_aload_n hx hb dX1_doubtJoint_20 rfl (lv_at hl 0 rfl) ?_
    refine va_get (D := (dC, dI)) (ci := 1) (v := .ref cl) (C := RX1) (T := TX1) (N := 5) hx hb hts iX1_doubtJoint_X1 hown hK hP 0 rfl rfl 0 (by decide) (hts (.fieldLink RX1 12 "TailorChalks$Game" "cloth" "LTailorChalks$Cloth;") kX1_doubtJoint_12) (fun _ h9 => h9) rfl dX1_doubtJoint_21 ?_
    refine lv_iload_n hx hb dX1_doubtJoint_24 rfl (lv_at hl 1 rfl) ?_
    obtain ⟨r_3, hr_3⟩ : ∃ z, z = F_Cloth_stateOf joint fs := ⟨_, rfl⟩
    rw [bnd_e hr_3] at hres
    refine ro_calli (va_runV (As := [.int joint]) (rest := []) ⟨hx, hb, hml, hown, hts⟩ (c_Cloth_stateOf l dC dI cI cC cG cZ cl st mk joint gn ac dn fs  r_3 hr_3) (cwV 1 hts gX1_doubtJoint_X0_stateOf rfl rfl rfl (by decide +kernel) ⟨Nat.le_of_ble_eq_true rfl, Nat.le_of_ble_eq_true rfl⟩) (ro_preV (hP.sub (ws' := [(cl, .inr (0, [.ref st, .ref mk, .long gn, .long ac, .long dn])), (st, .inl (cI, 82, .inl fs))]) [1, 2] rfl) hK (ci := 0) (q0 := 0) rfl rfl) rfl rfl hl.1 rfl (lv_room (Nat.le_of_ble_eq_true rfl)) dX1_doubtJoint_25 ⟨Nat.zero_le _, Nat.zero_le _⟩) hP hS (fun H locs hP hS => ?_)
    refine lv_iconst (v := 3) hx hb dX1_doubtJoint_28 (by decide) ?_
    refine lv_icmp_ne (tgt := 36) hx hb dX1_doubtJoint_29 (by decide) (fun c_4 => ?_) (fun c_4 => ?_)
    · rw [if_neg c_4] at hres
      refine lv_iconst (v := 0) hx hb dX1_doubtJoint_36 (by decide) ?_
      refine lv_istore_n (lv' := [(2, .int 0), (0, .ref g), (1, .int joint)]) hx hb dX1_doubtJoint_37 rfl hl (by decide) rfl (fun ls hl => ?_)
      refine lv_aload_n hx hb dX1_doubtJoint_38 rfl (lv_at hl 1 rfl) ?_
      refine lv_aload_n hx hb dX1_doubtJoint_39 rfl (lv_at hl 1 rfl) ?_
      refine va_get (D := (dC, dI)) (ci := 1) (v := .int nx) (C := RX1) (T := TX1) (N := 5) hx hb hts iX1_doubtJoint_X1 hown hK hP 0 rfl rfl 3 (by decide) (hts (.fieldLink RX1 35 "TailorChalks$Game" "next" "I") kX1_doubtJoint_35) (fun _ h9 => h9) rfl dX1_doubtJoint_40 ?_
      by_cases c_5 : nx = 0
      · rw [if_pos c_5] at hres
        refine ro_callr (va_runV (As := [.int nx]) (rest := []) ⟨hx, hb, hml, hown, hts⟩ (c_Game_tailorOf l dC dI cI cC cG cZ g cl t0 t1 nx nx tn  t0 (if_pos c_5).symm) (cwV 1 hts gX1_doubtJoint_X1_tailorOf rfl rfl rfl (by decide +kernel) ⟨Nat.le_of_ble_eq_true rfl, Nat.le_of_ble_eq_true rfl⟩) (ro_preV (hP.sub (ws' := [(g, .inr (1, [.ref cl, .ref t0, .ref t1, .int nx, .int tn]))]) [0] rfl) hK (ci := 1) (q0 := 0) rfl rfl) rfl rfl hl.1 rfl (lv_room (Nat.le_of_ble_eq_true rfl)) dX1_doubtJoint_43 ⟨Nat.zero_le _, Nat.zero_le _⟩) hP hS (fun H locs hP hS => ?_)
        refine lv_astore_n (lv' := [(3, .ref t0), (2, .int 0), (0, .ref g), (1, .int joint)]) hx hb dX1_doubtJoint_46 rfl hl (by decide) rfl (fun ls hl => ?_)
        refine lv_iload_n hx hb dX1_doubtJoint_47 rfl (lv_at hl 1 rfl) ?_
        refine lv_if_eq (tgt := 74) hx hb dX1_doubtJoint_48 (by decide) (fun c_6 => ?_) (fun c_6 => ?_)
        rotate_left
        · exact absurd (by decide) c_6
        refine lv_aload_n hx hb dX1_doubtJoint_74 rfl (lv_at hl 0 rfl) ?_
        refine lv_dup hx hb dX1_doubtJoint_75 rfl ?_
        refine va_get (D := (dC, dI)) (ci := 5) (v := .int pts0) (C := RX5) (T := TX5) (N := 9) hx hb hts iX1_doubtJoint_X5 hown hK hP 4 rfl rfl 2 (by decide) (hts (.fieldLink RX1 50 "TailorChalks$Tailor" "points" "I") kX1_doubtJoint_50) (fun _ h9 => h9) rfl dX1_doubtJoint_76 ?_
        refine lv_iconst (v := 2) hx hb dX1_doubtJoint_79 (by decide) ?_
        refine lv_isub hx hb dX1_doubtJoint_80 ?_
        refine va_put (D := (dC, dI)) (ci := 5) (v := .int (pts0 - 2)) (ty := (.int)) (C := RX5) (T := TX5) (N := 9) hx hb hts iX1_doubtJoint_X5 tyX5 tyX5_ok nmX5 hown hK hP hD hS 4 rfl rfl 2 (by decide) (hts (.fieldLink RX1 50 "TailorChalks$Tailor" "points" "I") kX1_doubtJoint_50) (fun _ h9 => h9) rfl (by decide +kernel) rfl rfl (Nat.le_of_ble_eq_true rfl) dX1_doubtJoint_81 (fun H locs hP hD hS => ?_)
        have hP : va_P (dC, dI) vwCl [(g, .inr (1, [.ref cl, .ref t0, .ref t1, .int nx, .int tn])), (cl, .inr (0, [.ref st, .ref mk, .long gn, .long ac, .long dn])), (st, .inl (cI, 82, .inl fs)), (mk, .inl (cI, 82, .inl fm)), (t0, .inr (5, [.ref ma0, .int mks0, .int (pts0 - 2), .int ths0, .int rgs0, .int rgc0, .int fnd0, .int rdb0, .int wdb0])), (t1, .inr (5, [.ref ma1, .int mks1, .int pts1, .int ths1, .int rgs1, .int rgc1, .int fnd1, .int rdb1, .int wdb1]))] H := hP
        have hD : va_D A [(g, .inr (1, [.ref cl, .ref t0, .ref t1, .int nx, .int tn])), (cl, .inr (0, [.ref st, .ref mk, .long gn, .long ac, .long dn])), (st, .inl (cI, 82, .inl fs)), (mk, .inl (cI, 82, .inl fm)), (t0, .inr (5, [.ref ma0, .int mks0, .int (pts0 - 2), .int ths0, .int rgs0, .int rgc0, .int fnd0, .int rdb0, .int wdb0])), (t1, .inr (5, [.ref ma1, .int mks1, .int pts1, .int ths1, .int rgs1, .int rgc1, .int fnd1, .int rdb1, .int wdb1]))] := hD
        refine lv_aload_n hx hb dX1_doubtJoint_84 rfl (lv_at hl 0 rfl) ?_
        refine lv_dup hx hb dX1_doubtJoint_85 rfl ?_
        refine va_get (D := (dC, dI)) (ci := 5) (v := .int wdb0) (C := RX5) (T := TX5) (N := 9) hx hb hts iX1_doubtJoint_X5 hown hK hP 4 rfl rfl 8 (by decide) (hts (.fieldLink RX1 153 "TailorChalks$Tailor" "wrongDoubts" "I") kX1_doubtJoint_153) (fun _ h9 => h9) rfl dX1_doubtJoint_86 ?_
        refine lv_iconst (v := 1) hx hb dX1_doubtJoint_89 (by decide) ?_
        refine lv_iadd hx hb dX1_doubtJoint_90 ?_
        refine va_put (D := (dC, dI)) (ci := 5) (v := .int (wdb0 + 1)) (ty := (.int)) (C := RX5) (T := TX5) (N := 9) hx hb hts iX1_doubtJoint_X5 tyX5 tyX5_ok nmX5 hown hK hP hD hS 4 rfl rfl 8 (by decide) (hts (.fieldLink RX1 153 "TailorChalks$Tailor" "wrongDoubts" "I") kX1_doubtJoint_153) (fun _ h9 => h9) rfl (by decide +kernel) rfl rfl (Nat.le_of_ble_eq_true rfl) dX1_doubtJoint_91 (fun H locs hP hD hS => ?_)
        have hP : va_P (dC, dI) vwCl [(g, .inr (1, [.ref cl, .ref t0, .ref t1, .int nx, .int tn])), (cl, .inr (0, [.ref st, .ref mk, .long gn, .long ac, .long dn])), (st, .inl (cI, 82, .inl fs)), (mk, .inl (cI, 82, .inl fm)), (t0, .inr (5, [.ref ma0, .int mks0, .int (pts0 - 2), .int ths0, .int rgs0, .int rgc0, .int fnd0, .int rdb0, .int (wdb0 + 1)])), (t1, .inr (5, [.ref ma1, .int mks1, .int pts1, .int ths1, .int rgs1, .int rgc1, .int fnd1, .int rdb1, .int wdb1]))] H := hP
        have hD : va_D A [(g, .inr (1, [.ref cl, .ref t0, .ref t1, .int nx, .int tn])), (cl, .inr (0, [.ref st, .ref mk, .long gn, .long ac, .long dn])), (st, .inl (cI, 82, .inl fs)), (mk, .inl (cI, 82, .inl fm)), (t0, .inr (5, [.ref ma0, .int mks0, .int (pts0 - 2), .int ths0, .int rgs0, .int rgc0, .int fnd0, .int rdb0, .int (wdb0 + 1)])), (t1, .inr (5, [.ref ma1, .int mks1, .int pts1, .int ths1, .int rgs1, .int rgc1, .int fnd1, .int rdb1, .int wdb1]))] := hD
        refine lv_aload_n hx hb dX1_doubtJoint_94 rfl (lv_at hl 2 rfl) ?_
        refine va_get (D := (dC, dI)) (ci := 1) (v := .ref cl) (C := RX1) (T := TX1) (N := 5) hx hb hts iX1_doubtJoint_X1 hown hK hP 0 rfl rfl 0 (by decide) (hts (.fieldLink RX1 12 "TailorChalks$Game" "cloth" "LTailorChalks$Cloth;") kX1_doubtJoint_12) (fun _ h9 => h9) rfl dX1_doubtJoint_95 ?_
        refine lv_iload_n hx hb dX1_doubtJoint_98 rfl (lv_at hl 3 rfl) ?_
        refine lv_iload_n hx hb dX1_doubtJoint_99 rfl (lv_at hl 1 rfl) ?_
        refine lv_if_eq (tgt := 107) hx hb dX1_doubtJoint_100 (by decide) (fun c_7 => ?_) (fun c_7 => ?_)
        rotate_left
        · exact absurd (by decide) c_7
        refine lv_iconst (v := 2) hx hb dX1_doubtJoint_107 (by decide) ?_
        refine lv_bipush (v := (-6)) hx hb dX1_doubtJoint_108 (by decide) ?_
        obtain ⟨r_8, hr_8⟩ : ∃ z, z = F_Cloth_make joint (2 : Int32) (-6 : Int32) ac dn fs fm := ⟨_, rfl⟩
        rw [bnd_e hr_8] at hres
        refine wr_callv (w1 := [(cl, .inr (0, [.ref st, .ref mk, .long gn, .long r_8.2.2.1, .long r_8.2.2.2])), (st, .inl (cI, 82, .inl r_8.1)), (mk, .inl (cI, 82, .inl r_8.2.1))]) (is := [1, 2, 3]) (va_runV (As := [.int joint, .int 2, .int (-6)]) (rest := []) ⟨hx, hb, hml, hown, hts⟩ (c_Cloth_make l dC dI cI cC cG cZ cl st mk joint (2 : Int32) (-6 : Int32) gn ac dn fs fm  r_8 hr_8) (cwV 3 hts gX1_doubtJoint_X0_make rfl rfl rfl (by decide +kernel) ⟨Nat.le_of_ble_eq_true rfl, Nat.le_of_ble_eq_true rfl⟩) (wr_preV (hP.sub (ws' := [(cl, .inr (0, [.ref st, .ref mk, .long gn, .long ac, .long dn])), (st, .inl (cI, 82, .inl fs)), (mk, .inl (cI, 82, .inl fm))]) [1, 2, 3] rfl) hK (hD.sub (ws' := [(cl, .inr (0, [.ref st, .ref mk, .long gn, .long ac, .long dn])), (st, .inl (cI, 82, .inl fs)), (mk, .inl (cI, 82, .inl fm))]) [1, 2, 3] (by decide) rfl) (ci := 0) (q0 := 0) rfl rfl) rfl rfl hl.1 rfl (lv_room (Nat.le_of_ble_eq_true rfl)) dX1_doubtJoint_110 ⟨Nat.zero_le _, Nat.zero_le _⟩) hP hD hS rfl rfl rfl (fun H locs hP hD hS => ?_)
        have hP : va_P (dC, dI) vwCl [(g, .inr (1, [.ref cl, .ref t0, .ref t1, .int nx, .int tn])), (cl, .inr (0, [.ref st, .ref mk, .long gn, .long r_8.2.2.1, .long r_8.2.2.2])), (st, .inl (cI, 82, .inl r_8.1)), (mk, .inl (cI, 82, .inl r_8.2.1)), (t0, .inr (5, [.ref ma0, .int mks0, .int (pts0 - 2), .int ths0, .int rgs0, .int rgc0, .int fnd0, .int rdb0, .int (wdb0 + 1)])), (t1, .inr (5, [.ref ma1, .int mks1, .int pts1, .int ths1, .int rgs1, .int rgc1, .int fnd1, .int rdb1, .int wdb1]))] H := hP
        have hD : va_D A [(g, .inr (1, [.ref cl, .ref t0, .ref t1, .int nx, .int tn])), (cl, .inr (0, [.ref st, .ref mk, .long gn, .long r_8.2.2.1, .long r_8.2.2.2])), (st, .inl (cI, 82, .inl r_8.1)), (mk, .inl (cI, 82, .inl r_8.2.1)), (t0, .inr (5, [.ref ma0, .int mks0, .int (pts0 - 2), .int ths0, .int rgs0, .int rgc0, .int fnd0, .int rdb0, .int (wdb0 + 1)])), (t1, .inr (5, [.ref ma1, .int mks1, .int pts1, .int ths1, .int rgs1, .int rgc1, .int fnd1, .int rdb1, .int wdb1]))] := hD
        refine lv_aload_n hx hb dX1_doubtJoint_113 rfl (lv_at hl 2 rfl) ?_
        obtain ⟨r_9, hr_9⟩ : ∃ z, z = F_Game_endTurn nx tn := ⟨_, rfl⟩
        rw [bnd_e hr_9] at hres
        refine wr_callv (w1 := [(g, .inr (1, [.ref cl, .ref t0, .ref t1, .int r_9.1, .int r_9.2]))]) (is := [0]) (va_runV (As := []) (rest := []) ⟨hx, hb, hml, hown, hts⟩ (c_Game_endTurn l dC dI cI cC cG cZ g cl t0 t1 nx tn  r_9 hr_9) (cwV 0 hts gX1_doubtJoint_X1_endTurn rfl rfl rfl (by decide +kernel) ⟨Nat.le_of_ble_eq_true rfl, Nat.le_of_ble_eq_true rfl⟩) (wr_preV (hP.sub (ws' := [(g, .inr (1, [.ref cl, .ref t0, .ref t1, .int nx, .int tn]))]) [0] rfl) hK (hD.sub (ws' := [(g, .inr (1, [.ref cl, .ref t0, .ref t1, .int nx, .int tn]))]) [0] (by decide) rfl) (ci := 1) (q0 := 0) rfl rfl) rfl rfl hl.1 rfl (lv_room (Nat.le_of_ble_eq_true rfl)) dX1_doubtJoint_114 ⟨Nat.zero_le _, Nat.zero_le _⟩) hP hD hS rfl rfl rfl (fun H locs hP hD hS => ?_)
        have hP : va_P (dC, dI) vwCl [(g, .inr (1, [.ref cl, .ref t0, .ref t1, .int r_9.1, .int r_9.2])), (cl, .inr (0, [.ref st, .ref mk, .long gn, .long r_8.2.2.1, .long r_8.2.2.2])), (st, .inl (cI, 82, .inl r_8.1)), (mk, .inl (cI, 82, .inl r_8.2.1)), (t0, .inr (5, [.ref ma0, .int mks0, .int (pts0 - 2), .int ths0, .int rgs0, .int rgc0, .int fnd0, .int rdb0, .int (wdb0 + 1)])), (t1, .inr (5, [.ref ma1, .int mks1, .int pts1, .int ths1, .int rgs1, .int rgc1, .int fnd1, .int rdb1, .int wdb1]))] H := hP
        have hD : va_D A [(g, .inr (1, [.ref cl, .ref t0, .ref t1, .int r_9.1, .int r_9.2])), (cl, .inr (0, [.ref st, .ref mk, .long gn, .long r_8.2.2.1, .long r_8.2.2.2])), (st, .inl (cI, 82, .inl r_8.1)), (mk, .inl (cI, 82, .inl r_8.2.1)), (t0, .inr (5, [.ref ma0, .int mks0, .int (pts0 - 2), .int ths0, .int rgs0, .int rgc0, .int fnd0, .int rdb0, .int (wdb0 + 1)])), (t1, .inr (5, [.ref ma1, .int mks1, .int pts1, .int ths1, .int rgs1, .int rgc1, .int fnd1, .int rdb1, .int wdb1]))] := hD
        refine lv_iload_n hx hb dX1_doubtJoint_117 rfl (lv_at hl 1 rfl) ?_
        refine lv_if_eq (tgt := 125) hx hb dX1_doubtJoint_118 (by decide) (fun c_10 => ?_) (fun c_10 => ?_)
        rotate_left
        · exact absurd (by decide) c_10
        refine lv_iconst (v := 0) hx hb dX1_doubtJoint_125 (by decide) ?_
        subst hres
        exact W.iret (v := 0) hx hb hr (fun t ht hW => ⟨⟨0, (), rfl, rfl, (by show va_P _ _ _ t.heap; rw [ht]; exact hP)⟩, hS.F ht⟩) hS.2.2 dX1_doubtJoint_126
      · rw [if_neg c_5] at hres
        refine ro_callr (va_runV (As := [.int nx]) (rest := []) ⟨hx, hb, hml, hown, hts⟩ (c_Game_tailorOf l dC dI cI cC cG cZ g cl t0 t1 nx nx tn  t1 (if_neg c_5).symm) (cwV 1 hts gX1_doubtJoint_X1_tailorOf rfl rfl rfl (by decide +kernel) ⟨Nat.le_of_ble_eq_true rfl, Nat.le_of_ble_eq_true rfl⟩) (ro_preV (hP.sub (ws' := [(g, .inr (1, [.ref cl, .ref t0, .ref t1, .int nx, .int tn]))]) [0] rfl) hK (ci := 1) (q0 := 0) rfl rfl) rfl rfl hl.1 rfl (lv_room (Nat.le_of_ble_eq_true rfl)) dX1_doubtJoint_43 ⟨Nat.zero_le _, Nat.zero_le _⟩) hP hS (fun H locs hP hS => ?_)
        refine lv_astore_n (lv' := [(3, .ref t1), (2, .int 0), (0, .ref g), (1, .int joint)]) hx hb dX1_doubtJoint_46 rfl hl (by decide) rfl (fun ls hl => ?_)
        refine lv_iload_n hx hb dX1_doubtJoint_47 rfl (lv_at hl 1 rfl) ?_
        refine lv_if_eq (tgt := 74) hx hb dX1_doubtJoint_48 (by decide) (fun c_11 => ?_) (fun c_11 => ?_)
        rotate_left
        · exact absurd (by decide) c_11
        refine lv_aload_n hx hb dX1_doubtJoint_74 rfl (lv_at hl 0 rfl) ?_
        refine lv_dup hx hb dX1_doubtJoint_75 rfl ?_
        refine va_get (D := (dC, dI)) (ci := 5) (v := .int pts1) (C := RX5) (T := TX5) (N := 9) hx hb hts iX1_doubtJoint_X5 hown hK hP 5 rfl rfl 2 (by decide) (hts (.fieldLink RX1 50 "TailorChalks$Tailor" "points" "I") kX1_doubtJoint_50) (fun _ h9 => h9) rfl dX1_doubtJoint_76 ?_
        refine lv_iconst (v := 2) hx hb dX1_doubtJoint_79 (by decide) ?_
        refine lv_isub hx hb dX1_doubtJoint_80 ?_
        refine va_put (D := (dC, dI)) (ci := 5) (v := .int (pts1 - 2)) (ty := (.int)) (C := RX5) (T := TX5) (N := 9) hx hb hts iX1_doubtJoint_X5 tyX5 tyX5_ok nmX5 hown hK hP hD hS 5 rfl rfl 2 (by decide) (hts (.fieldLink RX1 50 "TailorChalks$Tailor" "points" "I") kX1_doubtJoint_50) (fun _ h9 => h9) rfl (by decide +kernel) rfl rfl (Nat.le_of_ble_eq_true rfl) dX1_doubtJoint_81 (fun H locs hP hD hS => ?_)
        have hP : va_P (dC, dI) vwCl [(g, .inr (1, [.ref cl, .ref t0, .ref t1, .int nx, .int tn])), (cl, .inr (0, [.ref st, .ref mk, .long gn, .long ac, .long dn])), (st, .inl (cI, 82, .inl fs)), (mk, .inl (cI, 82, .inl fm)), (t0, .inr (5, [.ref ma0, .int mks0, .int pts0, .int ths0, .int rgs0, .int rgc0, .int fnd0, .int rdb0, .int wdb0])), (t1, .inr (5, [.ref ma1, .int mks1, .int (pts1 - 2), .int ths1, .int rgs1, .int rgc1, .int fnd1, .int rdb1, .int wdb1]))] H := hP
        have hD : va_D A [(g, .inr (1, [.ref cl, .ref t0, .ref t1, .int nx, .int tn])), (cl, .inr (0, [.ref st, .ref mk, .long gn, .long ac, .long dn])), (st, .inl (cI, 82, .inl fs)), (mk, .inl (cI, 82, .inl fm)), (t0, .inr (5, [.ref ma0, .int mks0, .int pts0, .int ths0, .int rgs0, .int rgc0, .int fnd0, .int rdb0, .int wdb0])), (t1, .inr (5, [.ref ma1, .int mks1, .int (pts1 - 2), .int ths1, .int rgs1, .int rgc1, .int fnd1, .int rdb1, .int wdb1]))] := hD
        refine lv_aload_n hx hb dX1_doubtJoint_84 rfl (lv_at hl 0 rfl) ?_
        refine lv_dup hx hb dX1_doubtJoint_85 rfl ?_
        refine va_get (D := (dC, dI)) (ci := 5) (v := .int wdb1) (C := RX5) (T := TX5) (N := 9) hx hb hts iX1_doubtJoint_X5 hown hK hP 5 rfl rfl 8 (by decide) (hts (.fieldLink RX1 153 "TailorChalks$Tailor" "wrongDoubts" "I") kX1_doubtJoint_153) (fun _ h9 => h9) rfl dX1_doubtJoint_86 ?_
        refine lv_iconst (v := 1) hx hb dX1_doubtJoint_89 (by decide) ?_
        refine lv_iadd hx hb dX1_doubtJoint_90 ?_
        refine va_put (D := (dC, dI)) (ci := 5) (v := .int (wdb1 + 1)) (ty := (.int)) (C := RX5) (T := TX5) (N := 9) hx hb hts iX1_doubtJoint_X5 tyX5 tyX5_ok nmX5 hown hK hP hD hS 5 rfl rfl 8 (by decide) (hts (.fieldLink RX1 153 "TailorChalks$Tailor" "wrongDoubts" "I") kX1_doubtJoint_153) (fun _ h9 => h9) rfl (by decide +kernel) rfl rfl (Nat.le_of_ble_eq_true rfl) dX1_doubtJoint_91 (fun H locs hP hD hS => ?_)
        have hP : va_P (dC, dI) vwCl [(g, .inr (1, [.ref cl, .ref t0, .ref t1, .int nx, .int tn])), (cl, .inr (0, [.ref st, .ref mk, .long gn, .long ac, .long dn])), (st, .inl (cI, 82, .inl fs)), (mk, .inl (cI, 82, .inl fm)), (t0, .inr (5, [.ref ma0, .int mks0, .int pts0, .int ths0, .int rgs0, .int rgc0, .int fnd0, .int rdb0, .int wdb0])), (t1, .inr (5, [.ref ma1, .int mks1, .int (pts1 - 2), .int ths1, .int rgs1, .int rgc1, .int fnd1, .int rdb1, .int (wdb1 + 1)]))] H := hP
        have hD : va_D A [(g, .inr (1, [.ref cl, .ref t0, .ref t1, .int nx, .int tn])), (cl, .inr (0, [.ref st, .ref mk, .long gn, .long ac, .long dn])), (st, .inl (cI, 82, .inl fs)), (mk, .inl (cI, 82, .inl fm)), (t0, .inr (5, [.ref ma0, .int mks0, .int pts0, .int ths0, .int rgs0, .int rgc0, .int fnd0, .int rdb0, .int wdb0])), (t1, .inr (5, [.ref ma1, .int mks1, .int (pts1 - 2), .int ths1, .int rgs1, .int rgc1, .int fnd1, .int rdb1, .int (wdb1 + 1)]))] := hD
        refine lv_aload_n hx hb dX1_doubtJoint_94 rfl (lv_at hl 2 rfl) ?_
        refine va_get (D := (dC, dI)) (ci := 1) (v := .ref cl) (C := RX1) (T := TX1) (N := 5) hx hb hts iX1_doubtJoint_X1 hown hK hP 0 rfl rfl 0 (by decide) (hts (.fieldLink RX1 12 "TailorChalks$Game" "cloth" "LTailorChalks$Cloth;") kX1_doubtJoint_12) (fun _ h9 => h9) rfl dX1_doubtJoint_95 ?_
        refine lv_iload_n hx hb dX1_doubtJoint_98 rfl (lv_at hl 3 rfl) ?_
        refine lv_iload_n hx hb dX1_doubtJoint_99 rfl (lv_at hl 1 rfl) ?_
        refine lv_if_eq (tgt := 107) hx hb dX1_doubtJoint_100 (by decide) (fun c_12 => ?_) (fun c_12 => ?_)
        rotate_left
        · exact absurd (by decide) c_12
        refine lv_iconst (v := 2) hx hb dX1_doubtJoint_107 (by decide) ?_
        refine lv_bipush (v := (-6)) hx hb dX1_doubtJoint_108 (by decide) ?_
        obtain ⟨r_13, hr_13⟩ : ∃ z, z = F_Cloth_make joint (2 : Int32) (-6 : Int32) ac dn fs fm := ⟨_, rfl⟩
        rw [bnd_e hr_13] at hres
        refine wr_callv (w1 := [(cl, .inr (0, [.ref st, .ref mk, .long gn, .long r_13.2.2.1, .long r_13.2.2.2])), (st, .inl (cI, 82, .inl r_13.1)), (mk, .inl (cI, 82, .inl r_13.2.1))]) (is := [1, 2, 3]) (va_runV (As := [.int joint, .int 2, .int (-6)]) (rest := []) ⟨hx, hb, hml, hown, hts⟩ (c_Cloth_make l dC dI cI cC cG cZ cl st mk joint (2 : Int32) (-6 : Int32) gn ac dn fs fm  r_13 hr_13) (cwV 3 hts gX1_doubtJoint_X0_make rfl rfl rfl (by decide +kernel) ⟨Nat.le_of_ble_eq_true rfl, Nat.le_of_ble_eq_true rfl⟩) (wr_preV (hP.sub (ws' := [(cl, .inr (0, [.ref st, .ref mk, .long gn, .long ac, .long dn])), (st, .inl (cI, 82, .inl fs)), (mk, .inl (cI, 82, .inl fm))]) [1, 2, 3] rfl) hK (hD.sub (ws' := [(cl, .inr (0, [.ref st, .ref mk, .long gn, .long ac, .long dn])), (st, .inl (cI, 82, .inl fs)), (mk, .inl (cI, 82, .inl fm))]) [1, 2, 3] (by decide) rfl) (ci := 0) (q0 := 0) rfl rfl) rfl rfl hl.1 rfl (lv_room (Nat.le_of_ble_eq_true rfl)) dX1_doubtJoint_110 ⟨Nat.zero_le _, Nat.zero_le _⟩) hP hD hS rfl rfl rfl (fun H locs hP hD hS => ?_)
        have hP : va_P (dC, dI) vwCl [(g, .inr (1, [.ref cl, .ref t0, .ref t1, .int nx, .int tn])), (cl, .inr (0, [.ref st, .ref mk, .long gn, .long r_13.2.2.1, .long r_13.2.2.2])), (st, .inl (cI, 82, .inl r_13.1)), (mk, .inl (cI, 82, .inl r_13.2.1)), (t0, .inr (5, [.ref ma0, .int mks0, .int pts0, .int ths0, .int rgs0, .int rgc0, .int fnd0, .int rdb0, .int wdb0])), (t1, .inr (5, [.ref ma1, .int mks1, .int (pts1 - 2), .int ths1, .int rgs1, .int rgc1, .int fnd1, .int rdb1, .int (wdb1 + 1)]))] H := hP
        have hD : va_D A [(g, .inr (1, [.ref cl, .ref t0, .ref t1, .int nx, .int tn])), (cl, .inr (0, [.ref st, .ref mk, .long gn, .long r_13.2.2.1, .long r_13.2.2.2])), (st, .inl (cI, 82, .inl r_13.1)), (mk, .inl (cI, 82, .inl r_13.2.1)), (t0, .inr (5, [.ref ma0, .int mks0, .int pts0, .int ths0, .int rgs0, .int rgc0, .int fnd0, .int rdb0, .int wdb0])), (t1, .inr (5, [.ref ma1, .int mks1, .int (pts1 - 2), .int ths1, .int rgs1, .int rgc1, .int fnd1, .int rdb1, .int (wdb1 + 1)]))] := hD
        refine lv_aload_n hx hb dX1_doubtJoint_113 rfl (lv_at hl 2 rfl) ?_
        obtain ⟨r_14, hr_14⟩ : ∃ z, z = F_Game_endTurn nx tn := ⟨_, rfl⟩
        rw [bnd_e hr_14] at hres
        refine wr_callv (w1 := [(g, .inr (1, [.ref cl, .ref t0, .ref t1, .int r_14.1, .int r_14.2]))]) (is := [0]) (va_runV (As := []) (rest := []) ⟨hx, hb, hml, hown, hts⟩ (c_Game_endTurn l dC dI cI cC cG cZ g cl t0 t1 nx tn  r_14 hr_14) (cwV 0 hts gX1_doubtJoint_X1_endTurn rfl rfl rfl (by decide +kernel) ⟨Nat.le_of_ble_eq_true rfl, Nat.le_of_ble_eq_true rfl⟩) (wr_preV (hP.sub (ws' := [(g, .inr (1, [.ref cl, .ref t0, .ref t1, .int nx, .int tn]))]) [0] rfl) hK (hD.sub (ws' := [(g, .inr (1, [.ref cl, .ref t0, .ref t1, .int nx, .int tn]))]) [0] (by decide) rfl) (ci := 1) (q0 := 0) rfl rfl) rfl rfl hl.1 rfl (lv_room (Nat.le_of_ble_eq_true rfl)) dX1_doubtJoint_114 ⟨Nat.zero_le _, Nat.zero_le _⟩) hP hD hS rfl rfl rfl (fun H locs hP hD hS => ?_)
        have hP : va_P (dC, dI) vwCl [(g, .inr (1, [.ref cl, .ref t0, .ref t1, .int r_14.1, .int r_14.2])), (cl, .inr (0, [.ref st, .ref mk, .long gn, .long r_13.2.2.1, .long r_13.2.2.2])), (st, .inl (cI, 82, .inl r_13.1)), (mk, .inl (cI, 82, .inl r_13.2.1)), (t0, .inr (5, [.ref ma0, .int mks0, .int pts0, .int ths0, .int rgs0, .int rgc0, .int fnd0, .int rdb0, .int wdb0])), (t1, .inr (5, [.ref ma1, .int mks1, .int (pts1 - 2), .int ths1, .int rgs1, .int rgc1, .int fnd1, .int rdb1, .int (wdb1 + 1)]))] H := hP
        have hD : va_D A [(g, .inr (1, [.ref cl, .ref t0, .ref t1, .int r_14.1, .int r_14.2])), (cl, .inr (0, [.ref st, .ref mk, .long gn, .long r_13.2.2.1, .long r_13.2.2.2])), (st, .inl (cI, 82, .inl r_13.1)), (mk, .inl (cI, 82, .inl r_13.2.1)), (t0, .inr (5, [.ref ma0, .int mks0, .int pts0, .int ths0, .int rgs0, .int rgc0, .int fnd0, .int rdb0, .int wdb0])), (t1, .inr (5, [.ref ma1, .int mks1, .int (pts1 - 2), .int ths1, .int rgs1, .int rgc1, .int fnd1, .int rdb1, .int (wdb1 + 1)]))] := hD
        refine lv_iload_n hx hb dX1_doubtJoint_117 rfl (lv_at hl 1 rfl) ?_
        refine lv_if_eq (tgt := 125) hx hb dX1_doubtJoint_118 (by decide) (fun c_15 => ?_) (fun c_15 => ?_)
        rotate_left
        · exact absurd (by decide) c_15
        refine lv_iconst (v := 0) hx hb dX1_doubtJoint_125 (by decide) ?_
        subst hres
        exact W.iret (v := 0) hx hb hr (fun t ht hW => ⟨⟨0, (), rfl, rfl, (by show va_P _ _ _ t.heap; rw [ht]; exact hP)⟩, hS.F ht⟩) hS.2.2 dX1_doubtJoint_126
    · rw [if_pos c_4] at hres
      refine lv_iconst (v := 1) hx hb dX1_doubtJoint_32 (by decide) ?_
      refine lv_goto (tgt := 37) hx hb dX1_doubtJoint_33 (by decide) ?_
      refine lv_istore_n (lv' := [(2, .int 1), (0, .ref g), (1, .int joint)]) hx hb dX1_doubtJoint_37 rfl hl (by decide) rfl (fun ls hl => ?_)
      refine lv_aload_n hx hb dX1_doubtJoint_38 rfl (lv_at hl 1 rfl) ?_
      refine lv_aload_n hx hb dX1_doubtJoint_39 rfl (lv_at hl 1 rfl) ?_
      refine va_get (D := (dC, dI)) (ci := 1) (v := .int nx) (C := RX1) (T := TX1) (N := 5) hx hb hts iX1_doubtJoint_X1 hown hK hP 0 rfl rfl 3 (by decide) (hts (.fieldLink RX1 35 "TailorChalks$Game" "next" "I") kX1_doubtJoint_35) (fun _ h9 => h9) rfl dX1_doubtJoint_40 ?_
      by_cases c_16 : nx = 0
      · rw [if_pos c_16] at hres
        refine ro_callr (va_runV (As := [.int nx]) (rest := []) ⟨hx, hb, hml, hown, hts⟩ (c_Game_tailorOf l dC dI cI cC cG cZ g cl t0 t1 nx nx tn  t0 (if_pos c_16).symm) (cwV 1 hts gX1_doubtJoint_X1_tailorOf rfl rfl rfl (by decide +kernel) ⟨Nat.le_of_ble_eq_true rfl, Nat.le_of_ble_eq_true rfl⟩) (ro_preV (hP.sub (ws' := [(g, .inr (1, [.ref cl, .ref t0, .ref t1, .int nx, .int tn]))]) [0] rfl) hK (ci := 1) (q0 := 0) rfl rfl) rfl rfl hl.1 rfl (lv_room (Nat.le_of_ble_eq_true rfl)) dX1_doubtJoint_43 ⟨Nat.zero_le _, Nat.zero_le _⟩) hP hS (fun H locs hP hS => ?_)
        refine lv_astore_n (lv' := [(3, .ref t0), (2, .int 1), (0, .ref g), (1, .int joint)]) hx hb dX1_doubtJoint_46 rfl hl (by decide) rfl (fun ls hl => ?_)
        refine lv_iload_n hx hb dX1_doubtJoint_47 rfl (lv_at hl 1 rfl) ?_
        refine lv_if_eq (tgt := 74) hx hb dX1_doubtJoint_48 (by decide) (fun c_17 => ?_) (fun c_17 => ?_)
        · exact absurd c_17 (by decide)
        refine lv_aload_n hx hb dX1_doubtJoint_51 rfl (lv_at hl 0 rfl) ?_
        refine lv_dup hx hb dX1_doubtJoint_52 rfl ?_
        refine va_get (D := (dC, dI)) (ci := 5) (v := .int pts0) (C := RX5) (T := TX5) (N := 9) hx hb hts iX1_doubtJoint_X5 hown hK hP 4 rfl rfl 2 (by decide) (hts (.fieldLink RX1 50 "TailorChalks$Tailor" "points" "I") kX1_doubtJoint_50) (fun _ h9 => h9) rfl dX1_doubtJoint_53 ?_
        refine lv_iconst (v := 2) hx hb dX1_doubtJoint_56 (by decide) ?_
        refine lv_iadd hx hb dX1_doubtJoint_57 ?_
        refine va_put (D := (dC, dI)) (ci := 5) (v := .int (pts0 + 2)) (ty := (.int)) (C := RX5) (T := TX5) (N := 9) hx hb hts iX1_doubtJoint_X5 tyX5 tyX5_ok nmX5 hown hK hP hD hS 4 rfl rfl 2 (by decide) (hts (.fieldLink RX1 50 "TailorChalks$Tailor" "points" "I") kX1_doubtJoint_50) (fun _ h9 => h9) rfl (by decide +kernel) rfl rfl (Nat.le_of_ble_eq_true rfl) dX1_doubtJoint_58 (fun H locs hP hD hS => ?_)
        have hP : va_P (dC, dI) vwCl [(g, .inr (1, [.ref cl, .ref t0, .ref t1, .int nx, .int tn])), (cl, .inr (0, [.ref st, .ref mk, .long gn, .long ac, .long dn])), (st, .inl (cI, 82, .inl fs)), (mk, .inl (cI, 82, .inl fm)), (t0, .inr (5, [.ref ma0, .int mks0, .int (pts0 + 2), .int ths0, .int rgs0, .int rgc0, .int fnd0, .int rdb0, .int wdb0])), (t1, .inr (5, [.ref ma1, .int mks1, .int pts1, .int ths1, .int rgs1, .int rgc1, .int fnd1, .int rdb1, .int wdb1]))] H := hP
        have hD : va_D A [(g, .inr (1, [.ref cl, .ref t0, .ref t1, .int nx, .int tn])), (cl, .inr (0, [.ref st, .ref mk, .long gn, .long ac, .long dn])), (st, .inl (cI, 82, .inl fs)), (mk, .inl (cI, 82, .inl fm)), (t0, .inr (5, [.ref ma0, .int mks0, .int (pts0 + 2), .int ths0, .int rgs0, .int rgc0, .int fnd0, .int rdb0, .int wdb0])), (t1, .inr (5, [.ref ma1, .int mks1, .int pts1, .int ths1, .int rgs1, .int rgc1, .int fnd1, .int rdb1, .int wdb1]))] := hD
        refine lv_aload_n hx hb dX1_doubtJoint_61 rfl (lv_at hl 0 rfl) ?_
        refine lv_dup hx hb dX1_doubtJoint_62 rfl ?_
        refine va_get (D := (dC, dI)) (ci := 5) (v := .int rdb0) (C := RX5) (T := TX5) (N := 9) hx hb hts iX1_doubtJoint_X5 hown hK hP 4 rfl rfl 7 (by decide) (hts (.fieldLink RX1 150 "TailorChalks$Tailor" "rightDoubts" "I") kX1_doubtJoint_150) (fun _ h9 => h9) rfl dX1_doubtJoint_63 ?_
        refine lv_iconst (v := 1) hx hb dX1_doubtJoint_66 (by decide) ?_
        refine lv_iadd hx hb dX1_doubtJoint_67 ?_
        refine va_put (D := (dC, dI)) (ci := 5) (v := .int (rdb0 + 1)) (ty := (.int)) (C := RX5) (T := TX5) (N := 9) hx hb hts iX1_doubtJoint_X5 tyX5 tyX5_ok nmX5 hown hK hP hD hS 4 rfl rfl 7 (by decide) (hts (.fieldLink RX1 150 "TailorChalks$Tailor" "rightDoubts" "I") kX1_doubtJoint_150) (fun _ h9 => h9) rfl (by decide +kernel) rfl rfl (Nat.le_of_ble_eq_true rfl) dX1_doubtJoint_68 (fun H locs hP hD hS => ?_)
        have hP : va_P (dC, dI) vwCl [(g, .inr (1, [.ref cl, .ref t0, .ref t1, .int nx, .int tn])), (cl, .inr (0, [.ref st, .ref mk, .long gn, .long ac, .long dn])), (st, .inl (cI, 82, .inl fs)), (mk, .inl (cI, 82, .inl fm)), (t0, .inr (5, [.ref ma0, .int mks0, .int (pts0 + 2), .int ths0, .int rgs0, .int rgc0, .int fnd0, .int (rdb0 + 1), .int wdb0])), (t1, .inr (5, [.ref ma1, .int mks1, .int pts1, .int ths1, .int rgs1, .int rgc1, .int fnd1, .int rdb1, .int wdb1]))] H := hP
        have hD : va_D A [(g, .inr (1, [.ref cl, .ref t0, .ref t1, .int nx, .int tn])), (cl, .inr (0, [.ref st, .ref mk, .long gn, .long ac, .long dn])), (st, .inl (cI, 82, .inl fs)), (mk, .inl (cI, 82, .inl fm)), (t0, .inr (5, [.ref ma0, .int mks0, .int (pts0 + 2), .int ths0, .int rgs0, .int rgc0, .int fnd0, .int (rdb0 + 1), .int wdb0])), (t1, .inr (5, [.ref ma1, .int mks1, .int pts1, .int ths1, .int rgs1, .int rgc1, .int fnd1, .int rdb1, .int wdb1]))] := hD
        refine lv_goto (tgt := 94) hx hb dX1_doubtJoint_71 (by decide) ?_
        refine lv_aload_n hx hb dX1_doubtJoint_94 rfl (lv_at hl 2 rfl) ?_
        refine va_get (D := (dC, dI)) (ci := 1) (v := .ref cl) (C := RX1) (T := TX1) (N := 5) hx hb hts iX1_doubtJoint_X1 hown hK hP 0 rfl rfl 0 (by decide) (hts (.fieldLink RX1 12 "TailorChalks$Game" "cloth" "LTailorChalks$Cloth;") kX1_doubtJoint_12) (fun _ h9 => h9) rfl dX1_doubtJoint_95 ?_
        refine lv_iload_n hx hb dX1_doubtJoint_98 rfl (lv_at hl 3 rfl) ?_
        refine lv_iload_n hx hb dX1_doubtJoint_99 rfl (lv_at hl 1 rfl) ?_
        refine lv_if_eq (tgt := 107) hx hb dX1_doubtJoint_100 (by decide) (fun c_18 => ?_) (fun c_18 => ?_)
        · exact absurd c_18 (by decide)
        refine lv_iconst (v := 1) hx hb dX1_doubtJoint_103 (by decide) ?_
        refine lv_goto (tgt := 108) hx hb dX1_doubtJoint_104 (by decide) ?_
        refine lv_bipush (v := (-6)) hx hb dX1_doubtJoint_108 (by decide) ?_
        obtain ⟨r_19, hr_19⟩ : ∃ z, z = F_Cloth_make joint (1 : Int32) (-6 : Int32) ac dn fs fm := ⟨_, rfl⟩
        rw [bnd_e hr_19] at hres
        refine wr_callv (w1 := [(cl, .inr (0, [.ref st, .ref mk, .long gn, .long r_19.2.2.1, .long r_19.2.2.2])), (st, .inl (cI, 82, .inl r_19.1)), (mk, .inl (cI, 82, .inl r_19.2.1))]) (is := [1, 2, 3]) (va_runV (As := [.int joint, .int 1, .int (-6)]) (rest := []) ⟨hx, hb, hml, hown, hts⟩ (c_Cloth_make l dC dI cI cC cG cZ cl st mk joint (1 : Int32) (-6 : Int32) gn ac dn fs fm  r_19 hr_19) (cwV 3 hts gX1_doubtJoint_X0_make rfl rfl rfl (by decide +kernel) ⟨Nat.le_of_ble_eq_true rfl, Nat.le_of_ble_eq_true rfl⟩) (wr_preV (hP.sub (ws' := [(cl, .inr (0, [.ref st, .ref mk, .long gn, .long ac, .long dn])), (st, .inl (cI, 82, .inl fs)), (mk, .inl (cI, 82, .inl fm))]) [1, 2, 3] rfl) hK (hD.sub (ws' := [(cl, .inr (0, [.ref st, .ref mk, .long gn, .long ac, .long dn])), (st, .inl (cI, 82, .inl fs)), (mk, .inl (cI, 82, .inl fm))]) [1, 2, 3] (by decide) rfl) (ci := 0) (q0 := 0) rfl rfl) rfl rfl hl.1 rfl (lv_room (Nat.le_of_ble_eq_true rfl)) dX1_doubtJoint_110 ⟨Nat.zero_le _, Nat.zero_le _⟩) hP hD hS rfl rfl rfl (fun H locs hP hD hS => ?_)
        have hP : va_P (dC, dI) vwCl [(g, .inr (1, [.ref cl, .ref t0, .ref t1, .int nx, .int tn])), (cl, .inr (0, [.ref st, .ref mk, .long gn, .long r_19.2.2.1, .long r_19.2.2.2])), (st, .inl (cI, 82, .inl r_19.1)), (mk, .inl (cI, 82, .inl r_19.2.1)), (t0, .inr (5, [.ref ma0, .int mks0, .int (pts0 + 2), .int ths0, .int rgs0, .int rgc0, .int fnd0, .int (rdb0 + 1), .int wdb0])), (t1, .inr (5, [.ref ma1, .int mks1, .int pts1, .int ths1, .int rgs1, .int rgc1, .int fnd1, .int rdb1, .int wdb1]))] H := hP
        have hD : va_D A [(g, .inr (1, [.ref cl, .ref t0, .ref t1, .int nx, .int tn])), (cl, .inr (0, [.ref st, .ref mk, .long gn, .long r_19.2.2.1, .long r_19.2.2.2])), (st, .inl (cI, 82, .inl r_19.1)), (mk, .inl (cI, 82, .inl r_19.2.1)), (t0, .inr (5, [.ref ma0, .int mks0, .int (pts0 + 2), .int ths0, .int rgs0, .int rgc0, .int fnd0, .int (rdb0 + 1), .int wdb0])), (t1, .inr (5, [.ref ma1, .int mks1, .int pts1, .int ths1, .int rgs1, .int rgc1, .int fnd1, .int rdb1, .int wdb1]))] := hD
        refine lv_aload_n hx hb dX1_doubtJoint_113 rfl (lv_at hl 2 rfl) ?_
        obtain ⟨r_20, hr_20⟩ : ∃ z, z = F_Game_endTurn nx tn := ⟨_, rfl⟩
        rw [bnd_e hr_20] at hres
        refine wr_callv (w1 := [(g, .inr (1, [.ref cl, .ref t0, .ref t1, .int r_20.1, .int r_20.2]))]) (is := [0]) (va_runV (As := []) (rest := []) ⟨hx, hb, hml, hown, hts⟩ (c_Game_endTurn l dC dI cI cC cG cZ g cl t0 t1 nx tn  r_20 hr_20) (cwV 0 hts gX1_doubtJoint_X1_endTurn rfl rfl rfl (by decide +kernel) ⟨Nat.le_of_ble_eq_true rfl, Nat.le_of_ble_eq_true rfl⟩) (wr_preV (hP.sub (ws' := [(g, .inr (1, [.ref cl, .ref t0, .ref t1, .int nx, .int tn]))]) [0] rfl) hK (hD.sub (ws' := [(g, .inr (1, [.ref cl, .ref t0, .ref t1, .int nx, .int tn]))]) [0] (by decide) rfl) (ci := 1) (q0 := 0) rfl rfl) rfl rfl hl.1 rfl (lv_room (Nat.le_of_ble_eq_true rfl)) dX1_doubtJoint_114 ⟨Nat.zero_le _, Nat.zero_le _⟩) hP hD hS rfl rfl rfl (fun H locs hP hD hS => ?_)
        have hP : va_P (dC, dI) vwCl [(g, .inr (1, [.ref cl, .ref t0, .ref t1, .int r_20.1, .int r_20.2])), (cl, .inr (0, [.ref st, .ref mk, .long gn, .long r_19.2.2.1, .long r_19.2.2.2])), (st, .inl (cI, 82, .inl r_19.1)), (mk, .inl (cI, 82, .inl r_19.2.1)), (t0, .inr (5, [.ref ma0, .int mks0, .int (pts0 + 2), .int ths0, .int rgs0, .int rgc0, .int fnd0, .int (rdb0 + 1), .int wdb0])), (t1, .inr (5, [.ref ma1, .int mks1, .int pts1, .int ths1, .int rgs1, .int rgc1, .int fnd1, .int rdb1, .int wdb1]))] H := hP
        have hD : va_D A [(g, .inr (1, [.ref cl, .ref t0, .ref t1, .int r_20.1, .int r_20.2])), (cl, .inr (0, [.ref st, .ref mk, .long gn, .long r_19.2.2.1, .long r_19.2.2.2])), (st, .inl (cI, 82, .inl r_19.1)), (mk, .inl (cI, 82, .inl r_19.2.1)), (t0, .inr (5, [.ref ma0, .int mks0, .int (pts0 + 2), .int ths0, .int rgs0, .int rgc0, .int fnd0, .int (rdb0 + 1), .int wdb0])), (t1, .inr (5, [.ref ma1, .int mks1, .int pts1, .int ths1, .int rgs1, .int rgc1, .int fnd1, .int rdb1, .int wdb1]))] := hD
        refine lv_iload_n hx hb dX1_doubtJoint_117 rfl (lv_at hl 1 rfl) ?_
        refine lv_if_eq (tgt := 125) hx hb dX1_doubtJoint_118 (by decide) (fun c_21 => ?_) (fun c_21 => ?_)
        · exact absurd c_21 (by decide)
        refine lv_iconst (v := 1) hx hb dX1_doubtJoint_121 (by decide) ?_
        refine lv_goto (tgt := 126) hx hb dX1_doubtJoint_122 (by decide) ?_
        subst hres
        exact W.iret (v := 1) hx hb hr (fun t ht hW => ⟨⟨1, (), rfl, rfl, (by show va_P _ _ _ t.heap; rw [ht]; exact hP)⟩, hS.F ht⟩) hS.2.2 dX1_doubtJoint_126
      · rw [if_neg c_16] at hres
        refine ro_callr (va_runV (As := [.int nx]) (rest := []) ⟨hx, hb, hml, hown, hts⟩ (c_Game_tailorOf l dC dI cI cC cG cZ g cl t0 t1 nx nx tn  t1 (if_neg c_16).symm) (cwV 1 hts gX1_doubtJoint_X1_tailorOf rfl rfl rfl (by decide +kernel) ⟨Nat.le_of_ble_eq_true rfl, Nat.le_of_ble_eq_true rfl⟩) (ro_preV (hP.sub (ws' := [(g, .inr (1, [.ref cl, .ref t0, .ref t1, .int nx, .int tn]))]) [0] rfl) hK (ci := 1) (q0 := 0) rfl rfl) rfl rfl hl.1 rfl (lv_room (Nat.le_of_ble_eq_true rfl)) dX1_doubtJoint_43 ⟨Nat.zero_le _, Nat.zero_le _⟩) hP hS (fun H locs hP hS => ?_)
        refine lv_astore_n (lv' := [(3, .ref t1), (2, .int 1), (0, .ref g), (1, .int joint)]) hx hb dX1_doubtJoint_46 rfl hl (by decide) rfl (fun ls hl => ?_)
        refine lv_iload_n hx hb dX1_doubtJoint_47 rfl (lv_at hl 1 rfl) ?_
        refine lv_if_eq (tgt := 74) hx hb dX1_doubtJoint_48 (by decide) (fun c_22 => ?_) (fun c_22 => ?_)
        · exact absurd c_22 (by decide)
        refine lv_aload_n hx hb dX1_doubtJoint_51 rfl (lv_at hl 0 rfl) ?_
        refine lv_dup hx hb dX1_doubtJoint_52 rfl ?_
        refine va_get (D := (dC, dI)) (ci := 5) (v := .int pts1) (C := RX5) (T := TX5) (N := 9) hx hb hts iX1_doubtJoint_X5 hown hK hP 5 rfl rfl 2 (by decide) (hts (.fieldLink RX1 50 "TailorChalks$Tailor" "points" "I") kX1_doubtJoint_50) (fun _ h9 => h9) rfl dX1_doubtJoint_53 ?_
        refine lv_iconst (v := 2) hx hb dX1_doubtJoint_56 (by decide) ?_
        refine lv_iadd hx hb dX1_doubtJoint_57 ?_
        refine va_put (D := (dC, dI)) (ci := 5) (v := .int (pts1 + 2)) (ty := (.int)) (C := RX5) (T := TX5) (N := 9) hx hb hts iX1_doubtJoint_X5 tyX5 tyX5_ok nmX5 hown hK hP hD hS 5 rfl rfl 2 (by decide) (hts (.fieldLink RX1 50 "TailorChalks$Tailor" "points" "I") kX1_doubtJoint_50) (fun _ h9 => h9) rfl (by decide +kernel) rfl rfl (Nat.le_of_ble_eq_true rfl) dX1_doubtJoint_58 (fun H locs hP hD hS => ?_)
        have hP : va_P (dC, dI) vwCl [(g, .inr (1, [.ref cl, .ref t0, .ref t1, .int nx, .int tn])), (cl, .inr (0, [.ref st, .ref mk, .long gn, .long ac, .long dn])), (st, .inl (cI, 82, .inl fs)), (mk, .inl (cI, 82, .inl fm)), (t0, .inr (5, [.ref ma0, .int mks0, .int pts0, .int ths0, .int rgs0, .int rgc0, .int fnd0, .int rdb0, .int wdb0])), (t1, .inr (5, [.ref ma1, .int mks1, .int (pts1 + 2), .int ths1, .int rgs1, .int rgc1, .int fnd1, .int rdb1, .int wdb1]))] H := hP
        have hD : va_D A [(g, .inr (1, [.ref cl, .ref t0, .ref t1, .int nx, .int tn])), (cl, .inr (0, [.ref st, .ref mk, .long gn, .long ac, .long dn])), (st, .inl (cI, 82, .inl fs)), (mk, .inl (cI, 82, .inl fm)), (t0, .inr (5, [.ref ma0, .int mks0, .int pts0, .int ths0, .int rgs0, .int rgc0, .int fnd0, .int rdb0, .int wdb0])), (t1, .inr (5, [.ref ma1, .int mks1, .int (pts1 + 2), .int ths1, .int rgs1, .int rgc1, .int fnd1, .int rdb1, .int wdb1]))] := hD
        refine lv_aload_n hx hb dX1_doubtJoint_61 rfl (lv_at hl 0 rfl) ?_
        refine lv_dup hx hb dX1_doubtJoint_62 rfl ?_
        refine va_get (D := (dC, dI)) (ci := 5) (v := .int rdb1) (C := RX5) (T := TX5) (N := 9) hx hb hts iX1_doubtJoint_X5 hown hK hP 5 rfl rfl 7 (by decide) (hts (.fieldLink RX1 150 "TailorChalks$Tailor" "rightDoubts" "I") kX1_doubtJoint_150) (fun _ h9 => h9) rfl dX1_doubtJoint_63 ?_
        refine lv_iconst (v := 1) hx hb dX1_doubtJoint_66 (by decide) ?_
        refine lv_iadd hx hb dX1_doubtJoint_67 ?_
        refine va_put (D := (dC, dI)) (ci := 5) (v := .int (rdb1 + 1)) (ty := (.int)) (C := RX5) (T := TX5) (N := 9) hx hb hts iX1_doubtJoint_X5 tyX5 tyX5_ok nmX5 hown hK hP hD hS 5 rfl rfl 7 (by decide) (hts (.fieldLink RX1 150 "TailorChalks$Tailor" "rightDoubts" "I") kX1_doubtJoint_150) (fun _ h9 => h9) rfl (by decide +kernel) rfl rfl (Nat.le_of_ble_eq_true rfl) dX1_doubtJoint_68 (fun H locs hP hD hS => ?_)
        have hP : va_P (dC, dI) vwCl [(g, .inr (1, [.ref cl, .ref t0, .ref t1, .int nx, .int tn])), (cl, .inr (0, [.ref st, .ref mk, .long gn, .long ac, .long dn])), (st, .inl (cI, 82, .inl fs)), (mk, .inl (cI, 82, .inl fm)), (t0, .inr (5, [.ref ma0, .int mks0, .int pts0, .int ths0, .int rgs0, .int rgc0, .int fnd0, .int rdb0, .int wdb0])), (t1, .inr (5, [.ref ma1, .int mks1, .int (pts1 + 2), .int ths1, .int rgs1, .int rgc1, .int fnd1, .int (rdb1 + 1), .int wdb1]))] H := hP
        have hD : va_D A [(g, .inr (1, [.ref cl, .ref t0, .ref t1, .int nx, .int tn])), (cl, .inr (0, [.ref st, .ref mk, .long gn, .long ac, .long dn])), (st, .inl (cI, 82, .inl fs)), (mk, .inl (cI, 82, .inl fm)), (t0, .inr (5, [.ref ma0, .int mks0, .int pts0, .int ths0, .int rgs0, .int rgc0, .int fnd0, .int rdb0, .int wdb0])), (t1, .inr (5, [.ref ma1, .int mks1, .int (pts1 + 2), .int ths1, .int rgs1, .int rgc1, .int fnd1, .int (rdb1 + 1), .int wdb1]))] := hD
        refine lv_goto (tgt := 94) hx hb dX1_doubtJoint_71 (by decide) ?_
        refine lv_aload_n hx hb dX1_doubtJoint_94 rfl (lv_at hl 2 rfl) ?_
        refine va_get (D := (dC, dI)) (ci := 1) (v := .ref cl) (C := RX1) (T := TX1) (N := 5) hx hb hts iX1_doubtJoint_X1 hown hK hP 0 rfl rfl 0 (by decide) (hts (.fieldLink RX1 12 "TailorChalks$Game" "cloth" "LTailorChalks$Cloth;") kX1_doubtJoint_12) (fun _ h9 => h9) rfl dX1_doubtJoint_95 ?_
        refine lv_iload_n hx hb dX1_doubtJoint_98 rfl (lv_at hl 3 rfl) ?_
        refine lv_iload_n hx hb dX1_doubtJoint_99 rfl (lv_at hl 1 rfl) ?_
        refine lv_if_eq (tgt := 107) hx hb dX1_doubtJoint_100 (by decide) (fun c_23 => ?_) (fun c_23 => ?_)
        · exact absurd c_23 (by decide)
        refine lv_iconst (v := 1) hx hb dX1_doubtJoint_103 (by decide) ?_
        refine lv_goto (tgt := 108) hx hb dX1_doubtJoint_104 (by decide) ?_
        refine lv_bipush (v := (-6)) hx hb dX1_doubtJoint_108 (by decide) ?_
        obtain ⟨r_24, hr_24⟩ : ∃ z, z = F_Cloth_make joint (1 : Int32) (-6 : Int32) ac dn fs fm := ⟨_, rfl⟩
        rw [bnd_e hr_24] at hres
        refine wr_callv (w1 := [(cl, .inr (0, [.ref st, .ref mk, .long gn, .long r_24.2.2.1, .long r_24.2.2.2])), (st, .inl (cI, 82, .inl r_24.1)), (mk, .inl (cI, 82, .inl r_24.2.1))]) (is := [1, 2, 3]) (va_runV (As := [.int joint, .int 1, .int (-6)]) (rest := []) ⟨hx, hb, hml, hown, hts⟩ (c_Cloth_make l dC dI cI cC cG cZ cl st mk joint (1 : Int32) (-6 : Int32) gn ac dn fs fm  r_24 hr_24) (cwV 3 hts gX1_doubtJoint_X0_make rfl rfl rfl (by decide +kernel) ⟨Nat.le_of_ble_eq_true rfl, Nat.le_of_ble_eq_true rfl⟩) (wr_preV (hP.sub (ws' := [(cl, .inr (0, [.ref st, .ref mk, .long gn, .long ac, .long dn])), (st, .inl (cI, 82, .inl fs)), (mk, .inl (cI, 82, .inl fm))]) [1, 2, 3] rfl) hK (hD.sub (ws' := [(cl, .inr (0, [.ref st, .ref mk, .long gn, .long ac, .long dn])), (st, .inl (cI, 82, .inl fs)), (mk, .inl (cI, 82, .inl fm))]) [1, 2, 3] (by decide) rfl) (ci := 0) (q0 := 0) rfl rfl) rfl rfl hl.1 rfl (lv_room (Nat.le_of_ble_eq_true rfl)) dX1_doubtJoint_110 ⟨Nat.zero_le _, Nat.zero_le _⟩) hP hD hS rfl rfl rfl (fun H locs hP hD hS => ?_)
        have hP : va_P (dC, dI) vwCl [(g, .inr (1, [.ref cl, .ref t0, .ref t1, .int nx, .int tn])), (cl, .inr (0, [.ref st, .ref mk, .long gn, .long r_24.2.2.1, .long r_24.2.2.2])), (st, .inl (cI, 82, .inl r_24.1)), (mk, .inl (cI, 82, .inl r_24.2.1)), (t0, .inr (5, [.ref ma0, .int mks0, .int pts0, .int ths0, .int rgs0, .int rgc0, .int fnd0, .int rdb0, .int wdb0])), (t1, .inr (5, [.ref ma1, .int mks1, .int (pts1 + 2), .int ths1, .int rgs1, .int rgc1, .int fnd1, .int (rdb1 + 1), .int wdb1]))] H := hP
        have hD : va_D A [(g, .inr (1, [.ref cl, .ref t0, .ref t1, .int nx, .int tn])), (cl, .inr (0, [.ref st, .ref mk, .long gn, .long r_24.2.2.1, .long r_24.2.2.2])), (st, .inl (cI, 82, .inl r_24.1)), (mk, .inl (cI, 82, .inl r_24.2.1)), (t0, .inr (5, [.ref ma0, .int mks0, .int pts0, .int ths0, .int rgs0, .int rgc0, .int fnd0, .int rdb0, .int wdb0])), (t1, .inr (5, [.ref ma1, .int mks1, .int (pts1 + 2), .int ths1, .int rgs1, .int rgc1, .int fnd1, .int (rdb1 + 1), .int wdb1]))] := hD
        refine lv_aload_n hx hb dX1_doubtJoint_113 rfl (lv_at hl 2 rfl) ?_
        obtain ⟨r_25, hr_25⟩ : ∃ z, z = F_Game_endTurn nx tn := ⟨_, rfl⟩
        rw [bnd_e hr_25] at hres
        refine wr_callv (w1 := [(g, .inr (1, [.ref cl, .ref t0, .ref t1, .int r_25.1, .int r_25.2]))]) (is := [0]) (va_runV (As := []) (rest := []) ⟨hx, hb, hml, hown, hts⟩ (c_Game_endTurn l dC dI cI cC cG cZ g cl t0 t1 nx tn  r_25 hr_25) (cwV 0 hts gX1_doubtJoint_X1_endTurn rfl rfl rfl (by decide +kernel) ⟨Nat.le_of_ble_eq_true rfl, Nat.le_of_ble_eq_true rfl⟩) (wr_preV (hP.sub (ws' := [(g, .inr (1, [.ref cl, .ref t0, .ref t1, .int nx, .int tn]))]) [0] rfl) hK (hD.sub (ws' := [(g, .inr (1, [.ref cl, .ref t0, .ref t1, .int nx, .int tn]))]) [0] (by decide) rfl) (ci := 1) (q0 := 0) rfl rfl) rfl rfl hl.1 rfl (lv_room (Nat.le_of_ble_eq_true rfl)) dX1_doubtJoint_114 ⟨Nat.zero_le _, Nat.zero_le _⟩) hP hD hS rfl rfl rfl (fun H locs hP hD hS => ?_)
        have hP : va_P (dC, dI) vwCl [(g, .inr (1, [.ref cl, .ref t0, .ref t1, .int r_25.1, .int r_25.2])), (cl, .inr (0, [.ref st, .ref mk, .long gn, .long r_24.2.2.1, .long r_24.2.2.2])), (st, .inl (cI, 82, .inl r_24.1)), (mk, .inl (cI, 82, .inl r_24.2.1)), (t0, .inr (5, [.ref ma0, .int mks0, .int pts0, .int ths0, .int rgs0, .int rgc0, .int fnd0, .int rdb0, .int wdb0])), (t1, .inr (5, [.ref ma1, .int mks1, .int (pts1 + 2), .int ths1, .int rgs1, .int rgc1, .int fnd1, .int (rdb1 + 1), .int wdb1]))] H := hP
        have hD : va_D A [(g, .inr (1, [.ref cl, .ref t0, .ref t1, .int r_25.1, .int r_25.2])), (cl, .inr (0, [.ref st, .ref mk, .long gn, .long r_24.2.2.1, .long r_24.2.2.2])), (st, .inl (cI, 82, .inl r_24.1)), (mk, .inl (cI, 82, .inl r_24.2.1)), (t0, .inr (5, [.ref ma0, .int mks0, .int pts0, .int ths0, .int rgs0, .int rgc0, .int fnd0, .int rdb0, .int wdb0])), (t1, .inr (5, [.ref ma1, .int mks1, .int (pts1 + 2), .int ths1, .int rgs1, .int rgc1, .int fnd1, .int (rdb1 + 1), .int wdb1]))] := hD
        refine lv_iload_n hx hb dX1_doubtJoint_117 rfl (lv_at hl 1 rfl) ?_
        refine lv_if_eq (tgt := 125) hx hb dX1_doubtJoint_118 (by decide) (fun c_26 => ?_) (fun c_26 => ?_)
        · exact absurd c_26 (by decide)
        refine lv_iconst (v := 1) hx hb dX1_doubtJoint_121 (by decide) ?_
        refine lv_goto (tgt := 126) hx hb dX1_doubtJoint_122 (by decide) ?_
        subst hres
        exact W.iret (v := 1) hx hb hr (fun t ht hW => ⟨⟨1, (), rfl, rfl, (by show va_P _ _ _ t.heap; rw [ht]; exact hP)⟩, hS.F ht⟩) hS.2.2 dX1_doubtJoint_126
  · rw [if_neg c_2] at hres
    refine lv_bipush (v := (-5)) hx hb dX1_doubtJoint_17 (by decide) ?_
    subst hres
    exact W.iret (v := (-5)) hx hb hr (fun t ht hW => ⟨⟨(-5), (), rfl, rfl, (by show va_P _ _ _ t.heap; rw [ht]; exact hP)⟩, hS.F ht⟩) hS.2.2 dX1_doubtJoint_19
theorem iX1_loseRag_X1 : ∀ w ∈ u_ws RX1 TX1 5, w ∈ wsX1_loseRag := by decide +kernel
theorem kX1_loseRag_12 : Cond.fieldLink RX1 12 "TailorChalks$Game" "cloth" "LTailorChalks$Cloth;" ∈ wsX1_loseRag := by decide +kernel
theorem kX1_loseRag_35 : Cond.fieldLink RX1 35 "TailorChalks$Game" "next" "I" ∈ wsX1_loseRag := by decide +kernel
def F_Game_loseRag_L25 (rag : Int64) (nx : Int32) (gn : Int64) (ac : Int64) (dn : Int64) (mks0 : Int32) (pts0 : Int32) (rgs0 : Int32) (rgc0 : Int32) (fma0 : Nat → Int32) (mks1 : Int32) (pts1 : Int32) (rgs1 : Int32) (rgc1 : Int32) (fma1 : Nat → Int32) : Nat → Int32 → Int64 → Int64 → Int64 → Int32 → Int32 → Int32 → Int32 → (Nat → Int32) → Int32 → Int32 → Int32 → Int32 → (Nat → Int32) → Int32 × Int64 × Int64 × Int64 × Int32 × Int32 × Int32 × Int32 × (Nat → Int32) × Int32 × Int32 × Int32 × Int32 × (Nat → Int32)
  | 0, x3, w12, w13, w14, w21, w22, w24, w25, w3f, w41, w42, w44, w45, w5f => (x3, w12, w13, w14, w21, w22, w24, w25, w3f, w41, w42, w44, w45, w5f)
  | n + 1, x3, w12, w13, w14, w21, w22, w24, w25, w3f, w41, w42, w44, w45, w5f => (if (82 : Int32) ≤ x3 then (x3, w12, w13, w14, w21, w22, w24, w25, w3f, w41, w42, w44, w45, w5f) else (bnd (F_Cloth_isVoid x3 w12) (fun r_7 => (if r_7 = 0 then (F_Game_loseRag_L25 rag nx gn ac dn mks0 pts0 rgs0 rgc0 fma0 mks1 pts1 rgs1 rgc1 fma1 n (x3 + 1) w12 w13 w14 w21 w22 w24 w25 w3f w41 w42 w44 w45 w5f) else (bnd (F_Game_dropMarks x3 w21 w3f w41 w5f) (fun r_9 => (F_Game_loseRag_L25 rag nx gn ac dn mks0 pts0 rgs0 rgc0 fma0 mks1 pts1 rgs1 rgc1 fma1 n (x3 + 1) w12 w13 w14 r_9.1 w22 w24 w25 r_9.2.1 r_9.2.2.1 w42 w44 w45 r_9.2.2.2)))))))
def F_Game_loseRag (rag : Int64) (nx : Int32) (gn : Int64) (ac : Int64) (dn : Int64) (mks0 : Int32) (pts0 : Int32) (rgs0 : Int32) (rgc0 : Int32) (fma0 : Nat → Int32) (mks1 : Int32) (pts1 : Int32) (rgs1 : Int32) (rgc1 : Int32) (fma1 : Nat → Int32) : Int64 × Int64 × Int64 × Int32 × Int32 × Int32 × Int32 × (Nat → Int32) × Int32 × Int32 × Int32 × Int32 × (Nat → Int32) := (bnd (F_Cloth_tearOff rag gn ac dn) (fun r_1 => (if nx = 0 then (bnd (F_Long_bitCount rag) (fun r_3 => (bnd (F_Tailor_winRag r_3 pts0 rgs0 rgc0) (fun r_4 => (bnd (F_Game_loseRag_L25 rag nx gn ac dn mks0 pts0 rgs0 rgc0 fma0 mks1 pts1 rgs1 rgc1 fma1 83 (0 : Int32) r_1.1 r_1.2.1 r_1.2.2 mks0 r_4.2.2 r_4.1 r_4.2.1 fma0 mks1 pts1 rgs1 rgc1 fma1) (fun q_5 => (q_5.2.1, q_5.2.2.1, q_5.2.2.2.1, q_5.2.2.2.2.1, q_5.2.2.2.2.2.1, q_5.2.2.2.2.2.2.1, q_5.2.2.2.2.2.2.2.1, q_5.2.2.2.2.2.2.2.2.1, q_5.2.2.2.2.2.2.2.2.2.1, q_5.2.2.2.2.2.2.2.2.2.2.1, q_5.2.2.2.2.2.2.2.2.2.2.2.1, q_5.2.2.2.2.2.2.2.2.2.2.2.2.1, q_5.2.2.2.2.2.2.2.2.2.2.2.2.2))))))) else (bnd (F_Long_bitCount rag) (fun r_10 => (bnd (F_Tailor_winRag r_10 pts1 rgs1 rgc1) (fun r_11 => (bnd (F_Game_loseRag_L25 rag nx gn ac dn mks0 pts0 rgs0 rgc0 fma0 mks1 pts1 rgs1 rgc1 fma1 83 (0 : Int32) r_1.1 r_1.2.1 r_1.2.2 mks0 pts0 rgs0 rgc0 fma0 mks1 r_11.2.2 r_11.1 r_11.2.1 fma1) (fun q_12 => (q_12.2.1, q_12.2.2.1, q_12.2.2.2.1, q_12.2.2.2.2.1, q_12.2.2.2.2.2.1, q_12.2.2.2.2.2.2.1, q_12.2.2.2.2.2.2.2.1, q_12.2.2.2.2.2.2.2.2.1, q_12.2.2.2.2.2.2.2.2.2.1, q_12.2.2.2.2.2.2.2.2.2.2.1, q_12.2.2.2.2.2.2.2.2.2.2.2.1, q_12.2.2.2.2.2.2.2.2.2.2.2.2.1, q_12.2.2.2.2.2.2.2.2.2.2.2.2.2))))))))))
set_option maxHeartbeats 4000000 in
set_option maxRecDepth 100000 in
theorem c_Game_loseRag (l : Launch) (dC : Nat → ClassId) (dI : Nat → Nat → Nat) (cI cC cG cZ : ClassId) (g cl t0 t1 st mk ma0 ma1 : Nat) (rag : Int64) (nx : Int32) (tn : Int32) (gn : Int64) (ac : Int64) (dn : Int64) (mks0 : Int32) (pts0 : Int32) (ths0 : Int32) (rgs0 : Int32) (rgc0 : Int32) (fnd0 : Int32) (rdb0 : Int32) (wdb0 : Int32) (fma0 : Nat → Int32) (mks1 : Int32) (pts1 : Int32) (ths1 : Int32) (rgs1 : Int32) (rgc1 : Int32) (fnd1 : Int32) (rdb1 : Int32) (wdb1 : Int32) (fma1 : Nat → Int32) (hM0 : tm_ok 8 mks0) (hM1 : tm_ok 8 mks1) (res : Int64 × Int64 × Int64 × Int32 × Int32 × Int32 × Int32 × (Nat → Int32) × Int32 × Int32 × Int32 × Int32 × (Nat → Int32)) (hres : res = F_Game_loseRag rag nx gn ac dn mks0 pts0 rgs0 rgc0 fma0 mks1 pts1 rgs1 rgc1 fma1) : Met l yX1_loseRag wsX1_loseRag ({ frames := 2, cells := 0, slots := 0, locals := 45 }) (va_Pc [.ref g, .long rag] (wr_P (dC, dI) vwCl (tyL cI cC cG cZ) [(g, .inr (1, [.ref cl, .ref t0, .ref t1, .int nx, .int tn])), (cl, .inr (0, [.ref st, .ref mk, .long gn, .long ac, .long dn])), (t0, .inr (5, [.ref ma0, .int mks0, .int pts0, .int ths0, .int rgs0, .int rgc0, .int fnd0, .int rdb0, .int wdb0])), (ma0, .inl (cI, 8, .inl fma0)), (t1, .inr (5, [.ref ma1, .int mks1, .int pts1, .int ths1, .int rgs1, .int rgc1, .int fnd1, .int rdb1, .int wdb1])), (ma1, .inl (cI, 8, .inl fma1))])) (va_Qv (fun (_ : Unit) => True) (fun _ zt => va_P (dC, dI) vwCl [(g, .inr (1, [.ref cl, .ref t0, .ref t1, .int nx, .int tn])), (cl, .inr (0, [.ref st, .ref mk, .long res.1, .long res.2.1, .long res.2.2.1])), (t0, .inr (5, [.ref ma0, .int res.2.2.2.1, .int res.2.2.2.2.1, .int ths0, .int res.2.2.2.2.2.1, .int res.2.2.2.2.2.2.1, .int fnd0, .int rdb0, .int wdb0])), (ma0, .inl (cI, 8, .inl res.2.2.2.2.2.2.2.1)), (t1, .inr (5, [.ref ma1, .int res.2.2.2.2.2.2.2.2.1, .int res.2.2.2.2.2.2.2.2.2.1, .int ths1, .int res.2.2.2.2.2.2.2.2.2.2.1, .int res.2.2.2.2.2.2.2.2.2.2.2.1, .int fnd1, .int rdb1, .int wdb1])), (ma1, .inl (cI, 8, .inl res.2.2.2.2.2.2.2.2.2.2.2.2))] zt.heap) (wr_A [(g, .inr (1, [.ref cl, .ref t0, .ref t1, .int nx, .int tn])), (cl, .inr (0, [.ref st, .ref mk, .long gn, .long ac, .long dn])), (t0, .inr (5, [.ref ma0, .int mks0, .int pts0, .int ths0, .int rgs0, .int rgc0, .int fnd0, .int rdb0, .int wdb0])), (ma0, .inl (cI, 8, .inl fma0)), (t1, .inr (5, [.ref ma1, .int mks1, .int pts1, .int ths1, .int rgs1, .int rgc1, .int fnd1, .int rdb1, .int wdb1])), (ma1, .inl (cI, 8, .inl fma1))])) 0 0 (wr_A [(g, .inr (1, [.ref cl, .ref t0, .ref t1, .int nx, .int tn])), (cl, .inr (0, [.ref st, .ref mk, .long gn, .long ac, .long dn])), (t0, .inr (5, [.ref ma0, .int mks0, .int pts0, .int ths0, .int rgs0, .int rgc0, .int fnd0, .int rdb0, .int wdb0])), (ma0, .inl (cI, 8, .inl fma0)), (t1, .inr (5, [.ref ma1, .int mks1, .int pts1, .int ths1, .int rgs1, .int rgc1, .int fnd1, .int rdb1, .int wdb1])), (ma1, .inl (cI, 8, .inl fma1))]) := by
  refine Met.ofW (cc := cX1_loseRag) (maxL := 4) (ret := none) (by decide) rfl ?_
  intro p e s m args below meth c s₁ B hml hv
  obtain ⟨rfl, hP, hK, hD0⟩ := hv
  have hx := B.exec
  have hb := B.bytes
  have hr := B.returns
  have hts := atoms_spec (ws := wsX1_loseRag) B.pre
  have hown : s.vm.findClass RX1 = some m.cls := findClass_of_methodNamed B.named
  have hlocks := B.notSynchronized
  have hD := wr_self hD0
  generalize hAe : wr_A [(g, .inr (1, [.ref cl, .ref t0, .ref t1, .int nx, .int tn])), (cl, .inr (0, [.ref st, .ref mk, .long gn, .long ac, .long dn])), (t0, .inr (5, [.ref ma0, .int mks0, .int pts0, .int ths0, .int rgs0, .int rgc0, .int fnd0, .int rdb0, .int wdb0])), (ma0, .inl (cI, 8, .inl fma0)), (t1, .inr (5, [.ref ma1, .int mks1, .int pts1, .int ths1, .int rgs1, .int rgc1, .int fnd1, .int rdb1, .int wdb1])), (ma1, .inl (cI, 8, .inl fma1))] = A at hD ⊢
  have hS : va_S A s.heap s.heap [] := va_S.rf
  have hP : va_P (dC, dI) vwCl [(g, .inr (1, [.ref cl, .ref t0, .ref t1, .int nx, .int tn])), (cl, .inr (0, [.ref st, .ref mk, .long gn, .long ac, .long dn])), (t0, .inr (5, [.ref ma0, .int mks0, .int pts0, .int ths0, .int rgs0, .int rgc0, .int fnd0, .int rdb0, .int wdb0])), (ma0, .inl (cI, 8, .inl fma0)), (t1, .inr (5, [.ref ma1, .int mks1, .int pts1, .int ths1, .int rgs1, .int rgc1, .int fnd1, .int rdb1, .int wdb1])), (ma1, .inl (cI, 8, .inl fma1))] s.heap := hP
  have hl := lv_entry ([.ref g, .long rag]) (n := 4) (Nat.le_of_ble_eq_true rfl)
  rw [lg_entry_eq]
  generalize (lg_sl ([.ref g, .long rag]) ++ List.replicate (4 - (lg_sl ([.ref g, .long rag])).length) Slot.unset).toArray = ls at hl ⊢
  have hl : lv_has ls 4 [(0, .ref g), (1, .long rag)] := hl
  rw [F_Game_loseRag] at hres
  refine lv_aload_n hx hb dX1_loseRag_0 rfl (lv_at hl 0 rfl) ?_
  refine va_get (D := (dC, dI)) (ci := 1) (v := .ref cl) (C := RX1) (T := TX1) (N := 5) hx hb hts iX1_loseRag_X1 hown hK hP 0 rfl rfl 0 (by decide) (hts (.fieldLink RX1 12 "TailorChalks$Game" "cloth" "LTailorChalks$Cloth;") kX1_loseRag_12) (fun _ h9 => h9) rfl dX1_loseRag_1 ?_
  refine lv_lload_n hx hb dX1_loseRag_4 rfl (lv_at hl 1 rfl) ?_
  obtain ⟨r_1, hr_1⟩ : ∃ z, z = F_Cloth_tearOff rag gn ac dn := ⟨_, rfl⟩
  rw [bnd_e hr_1] at hres
  refine wr_callv (w1 := [(cl, .inr (0, [.ref st, .ref mk, .long r_1.1, .long r_1.2.1, .long r_1.2.2]))]) (is := [1]) (va_runV (As := [.long rag]) (rest := []) ⟨hx, hb, hml, hown, hts⟩ (c_Cloth_tearOff l dC dI cI cC cG cZ cl st mk rag gn ac dn  r_1 hr_1) (cwV 1 hts gX1_loseRag_X0_tearOff rfl rfl rfl (by decide +kernel) ⟨Nat.le_of_ble_eq_true rfl, Nat.le_of_ble_eq_true rfl⟩) (wr_preV (hP.sub (ws' := [(cl, .inr (0, [.ref st, .ref mk, .long gn, .long ac, .long dn]))]) [1] rfl) hK (hD.sub (ws' := [(cl, .inr (0, [.ref st, .ref mk, .long gn, .long ac, .long dn]))]) [1] (by decide) rfl) (ci := 0) (q0 := 0) rfl rfl) rfl rfl hl.1 rfl (lv_room (Nat.le_of_ble_eq_true rfl)) dX1_loseRag_5 ⟨Nat.zero_le _, Nat.zero_le _⟩) hP hD hS rfl rfl rfl (fun H locs hP hD hS => ?_)
  have hP : va_P (dC, dI) vwCl [(g, .inr (1, [.ref cl, .ref t0, .ref t1, .int nx, .int tn])), (cl, .inr (0, [.ref st, .ref mk, .long r_1.1, .long r_1.2.1, .long r_1.2.2])), (t0, .inr (5, [.ref ma0, .int mks0, .int pts0, .int ths0, .int rgs0, .int rgc0, .int fnd0, .int rdb0, .int wdb0])), (ma0, .inl (cI, 8, .inl fma0)), (t1, .inr (5, [.ref ma1, .int mks1, .int pts1, .int ths1, .int rgs1, .int rgc1, .int fnd1, .int rdb1, .int wdb1])), (ma1, .inl (cI, 8, .inl fma1))] H := hP
  have hD : va_D A [(g, .inr (1, [.ref cl, .ref t0, .ref t1, .int nx, .int tn])), (cl, .inr (0, [.ref st, .ref mk, .long r_1.1, .long r_1.2.1, .long r_1.2.2])), (t0, .inr (5, [.ref ma0, .int mks0, .int pts0, .int ths0, .int rgs0, .int rgc0, .int fnd0, .int rdb0, .int wdb0])), (ma0, .inl (cI, 8, .inl fma0)), (t1, .inr (5, [.ref ma1, .int mks1, .int pts1, .int ths1, .int rgs1, .int rgc1, .int fnd1, .int rdb1, .int wdb1])), (ma1, .inl (cI, 8, .inl fma1))] := hD
  refine lv_aload_n hx hb dX1_loseRag_8 rfl (lv_at hl 0 rfl) ?_
  refine lv_aload_n hx hb dX1_loseRag_9 rfl (lv_at hl 0 rfl) ?_
  refine va_get (D := (dC, dI)) (ci := 1) (v := .int nx) (C := RX1) (T := TX1) (N := 5) hx hb hts iX1_loseRag_X1 hown hK hP 0 rfl rfl 3 (by decide) (hts (.fieldLink RX1 35 "TailorChalks$Game" "next" "I") kX1_loseRag_35) (fun _ h9 => h9) rfl dX1_loseRag_10 ?_
  by_cases c_2 : nx = 0
  · rw [if_pos c_2] at hres
    refine ro_callr (va_runV (As := [.int nx]) (rest := []) ⟨hx, hb, hml, hown, hts⟩ (c_Game_tailorOf l dC dI cI cC cG cZ g cl t0 t1 nx nx tn  t0 (if_pos c_2).symm) (cwV 1 hts gX1_loseRag_X1_tailorOf rfl rfl rfl (by decide +kernel) ⟨Nat.le_of_ble_eq_true rfl, Nat.le_of_ble_eq_true rfl⟩) (ro_preV (hP.sub (ws' := [(g, .inr (1, [.ref cl, .ref t0, .ref t1, .int nx, .int tn]))]) [0] rfl) hK (ci := 1) (q0 := 0) rfl rfl) rfl rfl hl.1 rfl (lv_room (Nat.le_of_ble_eq_true rfl)) dX1_loseRag_13 ⟨Nat.zero_le _, Nat.zero_le _⟩) hP hS (fun H locs hP hS => ?_)
    refine lv_lload_n hx hb dX1_loseRag_16 rfl (lv_at hl 1 rfl) ?_
    obtain ⟨r_3, hr_3⟩ : ∃ z, z = F_Long_bitCount rag := ⟨_, rfl⟩
    rw [bnd_e hr_3] at hres
    refine ro_calli (va_runS (As := [.long rag]) (rest := [.ref t0]) ⟨hx, hb, hml, hown, hts⟩ (c_Long_bitCount l dC dI cI cC cG cZ  rag  r_3 hr_3) (va_cwS 1 hts gX1_loseRag_J13_bitCount_95d88 rfl rfl rfl (by decide +kernel) ⟨Nat.le_of_ble_eq_true rfl, Nat.le_of_ble_eq_true rfl⟩) (ro_preS (hP.sub (ws' := []) [] rfl) hK) rfl rfl hl.1 rfl (lv_room (Nat.le_of_ble_eq_true rfl)) dX1_loseRag_17 ⟨Nat.zero_le _, Nat.zero_le _⟩) hP hS (fun H locs hP hS => ?_)
    obtain ⟨r_4, hr_4⟩ : ∃ z, z = F_Tailor_winRag r_3 pts0 rgs0 rgc0 := ⟨_, rfl⟩
    rw [bnd_e hr_4] at hres
    refine wr_callv (w1 := [(t0, .inr (5, [.ref ma0, .int mks0, .int r_4.2.2, .int ths0, .int r_4.1, .int r_4.2.1, .int fnd0, .int rdb0, .int wdb0]))]) (is := [2]) (va_runV (As := [.int r_3]) (rest := []) ⟨hx, hb, hml, hown, hts⟩ (c_Tailor_winRag l dC dI cI cC cG cZ t0 ma0 r_3 mks0 pts0 ths0 rgs0 rgc0 fnd0 rdb0 wdb0  r_4 hr_4) (cwV 1 hts gX1_loseRag_X5_winRag rfl rfl rfl (by decide +kernel) ⟨Nat.le_of_ble_eq_true rfl, Nat.le_of_ble_eq_true rfl⟩) (wr_preV (hP.sub (ws' := [(t0, .inr (5, [.ref ma0, .int mks0, .int pts0, .int ths0, .int rgs0, .int rgc0, .int fnd0, .int rdb0, .int wdb0]))]) [2] rfl) hK (hD.sub (ws' := [(t0, .inr (5, [.ref ma0, .int mks0, .int pts0, .int ths0, .int rgs0, .int rgc0, .int fnd0, .int rdb0, .int wdb0]))]) [2] (by decide) rfl) (ci := 5) (q0 := 0) rfl rfl) rfl rfl hl.1 rfl (lv_room (Nat.le_of_ble_eq_true rfl)) dX1_loseRag_20 ⟨Nat.zero_le _, Nat.zero_le _⟩) hP hD hS rfl rfl rfl (fun H locs hP hD hS => ?_)
    have hP : va_P (dC, dI) vwCl [(g, .inr (1, [.ref cl, .ref t0, .ref t1, .int nx, .int tn])), (cl, .inr (0, [.ref st, .ref mk, .long r_1.1, .long r_1.2.1, .long r_1.2.2])), (t0, .inr (5, [.ref ma0, .int mks0, .int r_4.2.2, .int ths0, .int r_4.1, .int r_4.2.1, .int fnd0, .int rdb0, .int wdb0])), (ma0, .inl (cI, 8, .inl fma0)), (t1, .inr (5, [.ref ma1, .int mks1, .int pts1, .int ths1, .int rgs1, .int rgc1, .int fnd1, .int rdb1, .int wdb1])), (ma1, .inl (cI, 8, .inl fma1))] H := hP
    have hD : va_D A [(g, .inr (1, [.ref cl, .ref t0, .ref t1, .int nx, .int tn])), (cl, .inr (0, [.ref st, .ref mk, .long r_1.1, .long r_1.2.1, .long r_1.2.2])), (t0, .inr (5, [.ref ma0, .int mks0, .int r_4.2.2, .int ths0, .int r_4.1, .int r_4.2.1, .int fnd0, .int rdb0, .int wdb0])), (ma0, .inl (cI, 8, .inl fma0)), (t1, .inr (5, [.ref ma1, .int mks1, .int pts1, .int ths1, .int rgs1, .int rgc1, .int fnd1, .int rdb1, .int wdb1])), (ma1, .inl (cI, 8, .inl fma1))] := hD
    refine lv_iconst (v := 0) hx hb dX1_loseRag_23 (by decide) ?_
    refine lv_istore_n (lv' := [(3, .int 0), (0, .ref g), (1, .long rag)]) hx hb dX1_loseRag_24 rfl hl (by decide) rfl (fun ls hl => ?_)
    obtain ⟨q_5, hq_5⟩ : ∃ z, z = F_Game_loseRag_L25 rag nx gn ac dn mks0 pts0 rgs0 rgc0 fma0 mks1 pts1 rgs1 rgc1 fma1 83 (0 : Int32) r_1.1 r_1.2.1 r_1.2.2 mks0 r_4.2.2 r_4.1 r_4.2.1 fma0 mks1 pts1 rgs1 rgc1 fma1 := ⟨_, rfl⟩
    rw [bnd_e hq_5] at hres
    have hexit25 : ∀ (H : Heap) (locs : List Loc) (ls : Array Slot), va_P (dC, dI) vwCl [(g, .inr (1, [.ref cl, .ref t0, .ref t1, .int nx, .int tn])), (cl, .inr (0, [.ref st, .ref mk, .long q_5.2.1, .long q_5.2.2.1, .long q_5.2.2.2.1])), (t0, .inr (5, [.ref ma0, .int q_5.2.2.2.2.1, .int q_5.2.2.2.2.2.1, .int ths0, .int q_5.2.2.2.2.2.2.1, .int q_5.2.2.2.2.2.2.2.1, .int fnd0, .int rdb0, .int wdb0])), (ma0, .inl (cI, 8, .inl q_5.2.2.2.2.2.2.2.2.1)), (t1, .inr (5, [.ref ma1, .int q_5.2.2.2.2.2.2.2.2.2.1, .int q_5.2.2.2.2.2.2.2.2.2.2.1, .int ths1, .int q_5.2.2.2.2.2.2.2.2.2.2.2.1, .int q_5.2.2.2.2.2.2.2.2.2.2.2.2.1, .int fnd1, .int rdb1, .int wdb1])), (ma1, .inl (cI, 8, .inl q_5.2.2.2.2.2.2.2.2.2.2.2.2.2))] H → va_D A [(g, .inr (1, [.ref cl, .ref t0, .ref t1, .int nx, .int tn])), (cl, .inr (0, [.ref st, .ref mk, .long q_5.2.1, .long q_5.2.2.1, .long q_5.2.2.2.1])), (t0, .inr (5, [.ref ma0, .int q_5.2.2.2.2.1, .int q_5.2.2.2.2.2.1, .int ths0, .int q_5.2.2.2.2.2.2.1, .int q_5.2.2.2.2.2.2.2.1, .int fnd0, .int rdb0, .int wdb0])), (ma0, .inl (cI, 8, .inl q_5.2.2.2.2.2.2.2.2.1)), (t1, .inr (5, [.ref ma1, .int q_5.2.2.2.2.2.2.2.2.2.1, .int q_5.2.2.2.2.2.2.2.2.2.2.1, .int ths1, .int q_5.2.2.2.2.2.2.2.2.2.2.2.1, .int q_5.2.2.2.2.2.2.2.2.2.2.2.2.1, .int fnd1, .int rdb1, .int wdb1])), (ma1, .inl (cI, 8, .inl q_5.2.2.2.2.2.2.2.2.2.2.2.2.2))] → va_S A s.heap H locs → lv_has ls 4 [(3, .int q_5.1), (0, .ref g), (1, .long rag)] → W p l e (headSpec wsX1_loseRag ({ frames := 2, cells := 0, slots := 0, locals := 45 })).room s m ([.ref g, .long rag] : List Value).toArray below meth c H locs 0 0 (MQ below (va_Qv (fun (_ : Unit) => True) (fun _ zt => va_P (dC, dI) vwCl [(g, .inr (1, [.ref cl, .ref t0, .ref t1, .int nx, .int tn])), (cl, .inr (0, [.ref st, .ref mk, .long res.1, .long res.2.1, .long res.2.2.1])), (t0, .inr (5, [.ref ma0, .int res.2.2.2.1, .int res.2.2.2.2.1, .int ths0, .int res.2.2.2.2.2.1, .int res.2.2.2.2.2.2.1, .int fnd0, .int rdb0, .int wdb0])), (ma0, .inl (cI, 8, .inl res.2.2.2.2.2.2.2.1)), (t1, .inr (5, [.ref ma1, .int res.2.2.2.2.2.2.2.2.1, .int res.2.2.2.2.2.2.2.2.2.1, .int ths1, .int res.2.2.2.2.2.2.2.2.2.2.1, .int res.2.2.2.2.2.2.2.2.2.2.2.1, .int fnd1, .int rdb1, .int wdb1])), (ma1, .inl (cI, 8, .inl res.2.2.2.2.2.2.2.2.2.2.2.2))] zt.heap) A) ([.ref g, .long rag] : List Value).toArray s 0 0 A) (F0 m 53 ls []) := by
      intro H locs ls  hP hD hS hl
      subst hres
      exact W.vret hx hb hr (fun t ht hW => ⟨⟨(), rfl, trivial, (by show va_P _ _ _ t.heap; rw [ht]; exact hP)⟩, hS.F ht⟩) hS.2.2 dX1_loseRag_53
    have hloop25 : ∀ (n k25 : Nat) (x3 : Int32) (w12 : Int64) (w13 : Int64) (w14 : Int64) (w21 : Int32) (w22 : Int32) (w24 : Int32) (w25 : Int32) (w3f : Nat → Int32) (w41 : Int32) (w42 : Int32) (w44 : Int32) (w45 : Int32) (w5f : Nat → Int32) (H : Heap) (locs : List Loc) (ls : Array Slot), k25 ≤ 82 → 82 - k25 < n → x3 = nI k25 → tm_ok 8 w21 → tm_ok 8 w41 → q_5 = F_Game_loseRag_L25 rag nx gn ac dn mks0 pts0 rgs0 rgc0 fma0 mks1 pts1 rgs1 rgc1 fma1 n x3 w12 w13 w14 w21 w22 w24 w25 w3f w41 w42 w44 w45 w5f → va_P (dC, dI) vwCl [(g, .inr (1, [.ref cl, .ref t0, .ref t1, .int nx, .int tn])), (cl, .inr (0, [.ref st, .ref mk, .long w12, .long w13, .long w14])), (t0, .inr (5, [.ref ma0, .int w21, .int w22, .int ths0, .int w24, .int w25, .int fnd0, .int rdb0, .int wdb0])), (ma0, .inl (cI, 8, .inl w3f)), (t1, .inr (5, [.ref ma1, .int w41, .int w42, .int ths1, .int w44, .int w45, .int fnd1, .int rdb1, .int wdb1])), (ma1, .inl (cI, 8, .inl w5f))] H → va_D A [(g, .inr (1, [.ref cl, .ref t0, .ref t1, .int nx, .int tn])), (cl, .inr (0, [.ref st, .ref mk, .long w12, .long w13, .long w14])), (t0, .inr (5, [.ref ma0, .int w21, .int w22, .int ths0, .int w24, .int w25, .int fnd0, .int rdb0, .int wdb0])), (ma0, .inl (cI, 8, .inl w3f)), (t1, .inr (5, [.ref ma1, .int w41, .int w42, .int ths1, .int w44, .int w45, .int fnd1, .int rdb1, .int wdb1])), (ma1, .inl (cI, 8, .inl w5f))] → va_S A s.heap H locs → lv_has ls 4 [(3, .int x3), (0, .ref g), (1, .long rag)] → W p l e (headSpec wsX1_loseRag ({ frames := 2, cells := 0, slots := 0, locals := 45 })).room s m ([.ref g, .long rag] : List Value).toArray below meth c H locs 0 0 (MQ below (va_Qv (fun (_ : Unit) => True) (fun _ zt => va_P (dC, dI) vwCl [(g, .inr (1, [.ref cl, .ref t0, .ref t1, .int nx, .int tn])), (cl, .inr (0, [.ref st, .ref mk, .long res.1, .long res.2.1, .long res.2.2.1])), (t0, .inr (5, [.ref ma0, .int res.2.2.2.1, .int res.2.2.2.2.1, .int ths0, .int res.2.2.2.2.2.1, .int res.2.2.2.2.2.2.1, .int fnd0, .int rdb0, .int wdb0])), (ma0, .inl (cI, 8, .inl res.2.2.2.2.2.2.2.1)), (t1, .inr (5, [.ref ma1, .int res.2.2.2.2.2.2.2.2.1, .int res.2.2.2.2.2.2.2.2.2.1, .int ths1, .int res.2.2.2.2.2.2.2.2.2.2.1, .int res.2.2.2.2.2.2.2.2.2.2.2.1, .int fnd1, .int rdb1, .int wdb1])), (ma1, .inl (cI, 8, .inl res.2.2.2.2.2.2.2.2.2.2.2.2))] zt.heap) A) ([.ref g, .long rag] : List Value).toArray s 0 0 A) (F0 m 25 ls []) := by
      intro n
      induction n with
      | zero => intro k25 x3 w12 w13 w14 w21 w22 w24 w25 w3f w41 w42 w44 w45 w5f _ _ _ _ hm; exact absurd hm (Nat.not_lt_zero _)
      | succ n ih25 =>
        intro k25 x3 w12 w13 w14 w21 w22 w24 w25 w3f w41 w42 w44 w45 w5f H locs ls hk25 hm25 ex25 hm0 hm1 hq_5 hP hD hS hl
        rw [F_Game_loseRag_L25] at hq_5
        refine lv_iload_n hx hb dX1_loseRag_25 rfl (lv_at hl 0 rfl) ?_
        refine lv_bipush (v := 82) hx hb dX1_loseRag_26 (by decide) ?_
        refine lv_icmp_ge (tgt := 53) hx hb dX1_loseRag_28 (by decide) (fun c_6 => ?_) (fun c_6 => ?_)
        · rw [if_pos c_6] at hq_5
          subst hq_5
          exact hexit25 _ _ _  hP hD hS (lv_sub hl [0, 1, 2] rfl)
        · rw [if_neg c_6] at hq_5
          have hlt_k25 : k25 < 82 := lp_lt rfl ex25 hk25 c_6
          refine lv_aload_n hx hb dX1_loseRag_31 rfl (lv_at hl 1 rfl) ?_
          refine va_get (D := (dC, dI)) (ci := 1) (v := .ref cl) (C := RX1) (T := TX1) (N := 5) hx hb hts iX1_loseRag_X1 hown hK hP 0 rfl rfl 0 (by decide) (hts (.fieldLink RX1 12 "TailorChalks$Game" "cloth" "LTailorChalks$Cloth;") kX1_loseRag_12) (fun _ h9 => h9) rfl dX1_loseRag_32 ?_
          refine lv_iload_n hx hb dX1_loseRag_35 rfl (lv_at hl 0 rfl) ?_
          obtain ⟨r_7, hr_7⟩ : ∃ z, z = F_Cloth_isVoid x3 w12 := ⟨_, rfl⟩
          rw [bnd_e hr_7] at hq_5
          refine ro_calli (va_runV (As := [.int x3]) (rest := []) ⟨hx, hb, hml, hown, hts⟩ (c_Cloth_isVoid l dC dI cI cC cG cZ cl st mk x3 w12 w13 w14  r_7 hr_7) (cwV 1 hts gX1_loseRag_X0_isVoid rfl rfl rfl (by decide +kernel) ⟨Nat.le_of_ble_eq_true rfl, Nat.le_of_ble_eq_true rfl⟩) (ro_preV (hP.sub (ws' := [(cl, .inr (0, [.ref st, .ref mk, .long w12, .long w13, .long w14]))]) [1] rfl) hK (ci := 0) (q0 := 0) rfl rfl) rfl rfl hl.1 rfl (lv_room (Nat.le_of_ble_eq_true rfl)) dX1_loseRag_36 ⟨Nat.zero_le _, Nat.zero_le _⟩) hP hS (fun H locs hP hS => ?_)
          refine lv_if_eq (tgt := 47) hx hb dX1_loseRag_39 (by decide) (fun c_8 => ?_) (fun c_8 => ?_)
          · rw [if_pos c_8] at hq_5
            refine lv_iinc (v := (x3 + 1)) (lv' := [(3, .int (x3 + 1)), (0, .ref g), (1, .long rag)]) hx hb dX1_loseRag_47 hl (k := 0) rfl rfl (by decide) rfl (fun ls hl => ?_)
            refine lv_goto (tgt := 25) hx hb dX1_loseRag_50 (by decide) ?_
            exact ih25 (k25 + 1) (x3 + 1) w12 w13 w14 w21 w22 w24 w25 w3f w41 w42 w44 w45 w5f _ _ _ (by omega) (by omega) (by rw [ex25]; exact nI_1 _) (by first | exact hm0 | (subst_vars; exact dropMarks_ok0 hm0)) (by first | exact hm1 | (subst_vars; exact dropMarks_ok1 hm1)) hq_5 hP hD hS (lv_sub hl [0, 1, 2] rfl)
          · rw [if_neg c_8] at hq_5
            refine lv_aload_n hx hb dX1_loseRag_42 rfl (lv_at hl 1 rfl) ?_
            refine lv_iload_n hx hb dX1_loseRag_43 rfl (lv_at hl 0 rfl) ?_
            obtain ⟨r_9, hr_9⟩ : ∃ z, z = F_Game_dropMarks x3 w21 w3f w41 w5f := ⟨_, rfl⟩
            rw [bnd_e hr_9] at hq_5
            refine wr_callv (w1 := [(g, .inr (1, [.ref cl, .ref t0, .ref t1, .int nx, .int tn])), (t0, .inr (5, [.ref ma0, .int r_9.1, .int w22, .int ths0, .int w24, .int w25, .int fnd0, .int rdb0, .int wdb0])), (ma0, .inl (cI, 8, .inl r_9.2.1)), (t1, .inr (5, [.ref ma1, .int r_9.2.2.1, .int w42, .int ths1, .int w44, .int w45, .int fnd1, .int rdb1, .int wdb1])), (ma1, .inl (cI, 8, .inl r_9.2.2.2))]) (is := [0, 2, 3, 4, 5]) (va_runV (As := [.int x3]) (rest := []) ⟨hx, hb, hml, hown, hts⟩ (c_Game_dropMarks l dC dI cI cC cG cZ g cl t0 t1 ma0 ma1 x3 nx tn w21 w22 ths0 w24 w25 fnd0 rdb0 wdb0 w3f w41 w42 ths1 w44 w45 fnd1 rdb1 wdb1 w5f hm0 hm1 r_9 hr_9) (cwV 1 hts gX1_loseRag_X1_dropMarks rfl rfl rfl (by decide +kernel) ⟨Nat.le_of_ble_eq_true rfl, Nat.le_of_ble_eq_true rfl⟩) (wr_preV (hP.sub (ws' := [(g, .inr (1, [.ref cl, .ref t0, .ref t1, .int nx, .int tn])), (t0, .inr (5, [.ref ma0, .int w21, .int w22, .int ths0, .int w24, .int w25, .int fnd0, .int rdb0, .int wdb0])), (ma0, .inl (cI, 8, .inl w3f)), (t1, .inr (5, [.ref ma1, .int w41, .int w42, .int ths1, .int w44, .int w45, .int fnd1, .int rdb1, .int wdb1])), (ma1, .inl (cI, 8, .inl w5f))]) [0, 2, 3, 4, 5] rfl) hK (hD.sub (ws' := [(g, .inr (1, [.ref cl, .ref t0, .ref t1, .int nx, .int tn])), (t0, .inr (5, [.ref ma0, .int w21, .int w22, .int ths0, .int w24, .int w25, .int fnd0, .int rdb0, .int wdb0])), (ma0, .inl (cI, 8, .inl w3f)), (t1, .inr (5, [.ref ma1, .int w41, .int w42, .int ths1, .int w44, .int w45, .int fnd1, .int rdb1, .int wdb1])), (ma1, .inl (cI, 8, .inl w5f))]) [0, 2, 3, 4, 5] (by decide) rfl) (ci := 1) (q0 := 0) rfl rfl) rfl rfl hl.1 rfl (lv_room (Nat.le_of_ble_eq_true rfl)) dX1_loseRag_44 ⟨Nat.zero_le _, Nat.zero_le _⟩) hP hD hS rfl rfl rfl (fun H locs hP hD hS => ?_)
            have hP : va_P (dC, dI) vwCl [(g, .inr (1, [.ref cl, .ref t0, .ref t1, .int nx, .int tn])), (cl, .inr (0, [.ref st, .ref mk, .long w12, .long w13, .long w14])), (t0, .inr (5, [.ref ma0, .int r_9.1, .int w22, .int ths0, .int w24, .int w25, .int fnd0, .int rdb0, .int wdb0])), (ma0, .inl (cI, 8, .inl r_9.2.1)), (t1, .inr (5, [.ref ma1, .int r_9.2.2.1, .int w42, .int ths1, .int w44, .int w45, .int fnd1, .int rdb1, .int wdb1])), (ma1, .inl (cI, 8, .inl r_9.2.2.2))] H := hP
            have hD : va_D A [(g, .inr (1, [.ref cl, .ref t0, .ref t1, .int nx, .int tn])), (cl, .inr (0, [.ref st, .ref mk, .long w12, .long w13, .long w14])), (t0, .inr (5, [.ref ma0, .int r_9.1, .int w22, .int ths0, .int w24, .int w25, .int fnd0, .int rdb0, .int wdb0])), (ma0, .inl (cI, 8, .inl r_9.2.1)), (t1, .inr (5, [.ref ma1, .int r_9.2.2.1, .int w42, .int ths1, .int w44, .int w45, .int fnd1, .int rdb1, .int wdb1])), (ma1, .inl (cI, 8, .inl r_9.2.2.2))] := hD
            refine lv_iinc (v := (x3 + 1)) (lv' := [(3, .int (x3 + 1)), (0, .ref g), (1, .long rag)]) hx hb dX1_loseRag_47 hl (k := 0) rfl rfl (by decide) rfl (fun ls hl => ?_)
            refine lv_goto (tgt := 25) hx hb dX1_loseRag_50 (by decide) ?_
            exact ih25 (k25 + 1) (x3 + 1) w12 w13 w14 r_9.1 w22 w24 w25 r_9.2.1 r_9.2.2.1 w42 w44 w45 r_9.2.2.2 _ _ _ (by omega) (by omega) (by rw [ex25]; exact nI_1 _) (by first | exact hm0 | (subst_vars; exact dropMarks_ok0 hm0)) (by first | exact hm1 | (subst_vars; exact dropMarks_ok1 hm1)) hq_5 hP hD hS (lv_sub hl [0, 1, 2] rfl)
    exact hloop25 83 0 (0 : Int32) r_1.1 r_1.2.1 r_1.2.2 mks0 r_4.2.2 r_4.1 r_4.2.1 fma0 mks1 pts1 rgs1 rgc1 fma1 _ _ _ (by omega) (by omega) nI_0.symm hM0 hM1 hq_5 hP hD hS (lv_sub hl [0, 1, 2] rfl)
  · rw [if_neg c_2] at hres
    refine ro_callr (va_runV (As := [.int nx]) (rest := []) ⟨hx, hb, hml, hown, hts⟩ (c_Game_tailorOf l dC dI cI cC cG cZ g cl t0 t1 nx nx tn  t1 (if_neg c_2).symm) (cwV 1 hts gX1_loseRag_X1_tailorOf rfl rfl rfl (by decide +kernel) ⟨Nat.le_of_ble_eq_true rfl, Nat.le_of_ble_eq_true rfl⟩) (ro_preV (hP.sub (ws' := [(g, .inr (1, [.ref cl, .ref t0, .ref t1, .int nx, .int tn]))]) [0] rfl) hK (ci := 1) (q0 := 0) rfl rfl) rfl rfl hl.1 rfl (lv_room (Nat.le_of_ble_eq_true rfl)) dX1_loseRag_13 ⟨Nat.zero_le _, Nat.zero_le _⟩) hP hS (fun H locs hP hS => ?_)
    refine lv_lload_n hx hb dX1_loseRag_16 rfl (lv_at hl 1 rfl) ?_
    obtain ⟨r_10, hr_10⟩ : ∃ z, z = F_Long_bitCount rag := ⟨_, rfl⟩
    rw [bnd_e hr_10] at hres
    refine ro_calli (va_runS (As := [.long rag]) (rest := [.ref t1]) ⟨hx, hb, hml, hown, hts⟩ (c_Long_bitCount l dC dI cI cC cG cZ  rag  r_10 hr_10) (va_cwS 1 hts gX1_loseRag_J13_bitCount_95d88 rfl rfl rfl (by decide +kernel) ⟨Nat.le_of_ble_eq_true rfl, Nat.le_of_ble_eq_true rfl⟩) (ro_preS (hP.sub (ws' := []) [] rfl) hK) rfl rfl hl.1 rfl (lv_room (Nat.le_of_ble_eq_true rfl)) dX1_loseRag_17 ⟨Nat.zero_le _, Nat.zero_le _⟩) hP hS (fun H locs hP hS => ?_)
    obtain ⟨r_11, hr_11⟩ : ∃ z, z = F_Tailor_winRag r_10 pts1 rgs1 rgc1 := ⟨_, rfl⟩
    rw [bnd_e hr_11] at hres
    refine wr_callv (w1 := [(t1, .inr (5, [.ref ma1, .int mks1, .int r_11.2.2, .int ths1, .int r_11.1, .int r_11.2.1, .int fnd1, .int rdb1, .int wdb1]))]) (is := [4]) (va_runV (As := [.int r_10]) (rest := []) ⟨hx, hb, hml, hown, hts⟩ (c_Tailor_winRag l dC dI cI cC cG cZ t1 ma1 r_10 mks1 pts1 ths1 rgs1 rgc1 fnd1 rdb1 wdb1  r_11 hr_11) (cwV 1 hts gX1_loseRag_X5_winRag rfl rfl rfl (by decide +kernel) ⟨Nat.le_of_ble_eq_true rfl, Nat.le_of_ble_eq_true rfl⟩) (wr_preV (hP.sub (ws' := [(t1, .inr (5, [.ref ma1, .int mks1, .int pts1, .int ths1, .int rgs1, .int rgc1, .int fnd1, .int rdb1, .int wdb1]))]) [4] rfl) hK (hD.sub (ws' := [(t1, .inr (5, [.ref ma1, .int mks1, .int pts1, .int ths1, .int rgs1, .int rgc1, .int fnd1, .int rdb1, .int wdb1]))]) [4] (by decide) rfl) (ci := 5) (q0 := 0) rfl rfl) rfl rfl hl.1 rfl (lv_room (Nat.le_of_ble_eq_true rfl)) dX1_loseRag_20 ⟨Nat.zero_le _, Nat.zero_le _⟩) hP hD hS rfl rfl rfl (fun H locs hP hD hS => ?_)
    have hP : va_P (dC, dI) vwCl [(g, .inr (1, [.ref cl, .ref t0, .ref t1, .int nx, .int tn])), (cl, .inr (0, [.ref st, .ref mk, .long r_1.1, .long r_1.2.1, .long r_1.2.2])), (t0, .inr (5, [.ref ma0, .int mks0, .int pts0, .int ths0, .int rgs0, .int rgc0, .int fnd0, .int rdb0, .int wdb0])), (ma0, .inl (cI, 8, .inl fma0)), (t1, .inr (5, [.ref ma1, .int mks1, .int r_11.2.2, .int ths1, .int r_11.1, .int r_11.2.1, .int fnd1, .int rdb1, .int wdb1])), (ma1, .inl (cI, 8, .inl fma1))] H := hP
    have hD : va_D A [(g, .inr (1, [.ref cl, .ref t0, .ref t1, .int nx, .int tn])), (cl, .inr (0, [.ref st, .ref mk, .long r_1.1, .long r_1.2.1, .long r_1.2.2])), (t0, .inr (5, [.ref ma0, .int mks0, .int pts0, .int ths0, .int rgs0, .int rgc0, .int fnd0, .int rdb0, .int wdb0])), (ma0, .inl (cI, 8, .inl fma0)), (t1, .inr (5, [.ref ma1, .int mks1, .int r_11.2.2, .int ths1, .int r_11.1, .int r_11.2.1, .int fnd1, .int rdb1, .int wdb1])), (ma1, .inl (cI, 8, .inl fma1))] := hD
    refine lv_iconst (v := 0) hx hb dX1_loseRag_23 (by decide) ?_
    refine lv_istore_n (lv' := [(3, .int 0), (0, .ref g), (1, .long rag)]) hx hb dX1_loseRag_24 rfl hl (by decide) rfl (fun ls hl => ?_)
    obtain ⟨q_12, hq_12⟩ : ∃ z, z = F_Game_loseRag_L25 rag nx gn ac dn mks0 pts0 rgs0 rgc0 fma0 mks1 pts1 rgs1 rgc1 fma1 83 (0 : Int32) r_1.1 r_1.2.1 r_1.2.2 mks0 pts0 rgs0 rgc0 fma0 mks1 r_11.2.2 r_11.1 r_11.2.1 fma1 := ⟨_, rfl⟩
    rw [bnd_e hq_12] at hres
    have hexit25 : ∀ (H : Heap) (locs : List Loc) (ls : Array Slot), va_P (dC, dI) vwCl [(g, .inr (1, [.ref cl, .ref t0, .ref t1, .int nx, .int tn])), (cl, .inr (0, [.ref st, .ref mk, .long q_12.2.1, .long q_12.2.2.1, .long q_12.2.2.2.1])), (t0, .inr (5, [.ref ma0, .int q_12.2.2.2.2.1, .int q_12.2.2.2.2.2.1, .int ths0, .int q_12.2.2.2.2.2.2.1, .int q_12.2.2.2.2.2.2.2.1, .int fnd0, .int rdb0, .int wdb0])), (ma0, .inl (cI, 8, .inl q_12.2.2.2.2.2.2.2.2.1)), (t1, .inr (5, [.ref ma1, .int q_12.2.2.2.2.2.2.2.2.2.1, .int q_12.2.2.2.2.2.2.2.2.2.2.1, .int ths1, .int q_12.2.2.2.2.2.2.2.2.2.2.2.1, .int q_12.2.2.2.2.2.2.2.2.2.2.2.2.1, .int fnd1, .int rdb1, .int wdb1])), (ma1, .inl (cI, 8, .inl q_12.2.2.2.2.2.2.2.2.2.2.2.2.2))] H → va_D A [(g, .inr (1, [.ref cl, .ref t0, .ref t1, .int nx, .int tn])), (cl, .inr (0, [.ref st, .ref mk, .long q_12.2.1, .long q_12.2.2.1, .long q_12.2.2.2.1])), (t0, .inr (5, [.ref ma0, .int q_12.2.2.2.2.1, .int q_12.2.2.2.2.2.1, .int ths0, .int q_12.2.2.2.2.2.2.1, .int q_12.2.2.2.2.2.2.2.1, .int fnd0, .int rdb0, .int wdb0])), (ma0, .inl (cI, 8, .inl q_12.2.2.2.2.2.2.2.2.1)), (t1, .inr (5, [.ref ma1, .int q_12.2.2.2.2.2.2.2.2.2.1, .int q_12.2.2.2.2.2.2.2.2.2.2.1, .int ths1, .int q_12.2.2.2.2.2.2.2.2.2.2.2.1, .int q_12.2.2.2.2.2.2.2.2.2.2.2.2.1, .int fnd1, .int rdb1, .int wdb1])), (ma1, .inl (cI, 8, .inl q_12.2.2.2.2.2.2.2.2.2.2.2.2.2))] → va_S A s.heap H locs → lv_has ls 4 [(3, .int q_12.1), (0, .ref g), (1, .long rag)] → W p l e (headSpec wsX1_loseRag ({ frames := 2, cells := 0, slots := 0, locals := 45 })).room s m ([.ref g, .long rag] : List Value).toArray below meth c H locs 0 0 (MQ below (va_Qv (fun (_ : Unit) => True) (fun _ zt => va_P (dC, dI) vwCl [(g, .inr (1, [.ref cl, .ref t0, .ref t1, .int nx, .int tn])), (cl, .inr (0, [.ref st, .ref mk, .long res.1, .long res.2.1, .long res.2.2.1])), (t0, .inr (5, [.ref ma0, .int res.2.2.2.1, .int res.2.2.2.2.1, .int ths0, .int res.2.2.2.2.2.1, .int res.2.2.2.2.2.2.1, .int fnd0, .int rdb0, .int wdb0])), (ma0, .inl (cI, 8, .inl res.2.2.2.2.2.2.2.1)), (t1, .inr (5, [.ref ma1, .int res.2.2.2.2.2.2.2.2.1, .int res.2.2.2.2.2.2.2.2.2.1, .int ths1, .int res.2.2.2.2.2.2.2.2.2.2.1, .int res.2.2.2.2.2.2.2.2.2.2.2.1, .int fnd1, .int rdb1, .int wdb1])), (ma1, .inl (cI, 8, .inl res.2.2.2.2.2.2.2.2.2.2.2.2))] zt.heap) A) ([.ref g, .long rag] : List Value).toArray s 0 0 A) (F0 m 53 ls []) := by
      intro H locs ls  hP hD hS hl
      subst hres
      exact W.vret hx hb hr (fun t ht hW => ⟨⟨(), rfl, trivial, (by show va_P _ _ _ t.heap; rw [ht]; exact hP)⟩, hS.F ht⟩) hS.2.2 dX1_loseRag_53
    have hloop25 : ∀ (n k25 : Nat) (x3 : Int32) (w12 : Int64) (w13 : Int64) (w14 : Int64) (w21 : Int32) (w22 : Int32) (w24 : Int32) (w25 : Int32) (w3f : Nat → Int32) (w41 : Int32) (w42 : Int32) (w44 : Int32) (w45 : Int32) (w5f : Nat → Int32) (H : Heap) (locs : List Loc) (ls : Array Slot), k25 ≤ 82 → 82 - k25 < n → x3 = nI k25 → tm_ok 8 w21 → tm_ok 8 w41 → q_12 = F_Game_loseRag_L25 rag nx gn ac dn mks0 pts0 rgs0 rgc0 fma0 mks1 pts1 rgs1 rgc1 fma1 n x3 w12 w13 w14 w21 w22 w24 w25 w3f w41 w42 w44 w45 w5f → va_P (dC, dI) vwCl [(g, .inr (1, [.ref cl, .ref t0, .ref t1, .int nx, .int tn])), (cl, .inr (0, [.ref st, .ref mk, .long w12, .long w13, .long w14])), (t0, .inr (5, [.ref ma0, .int w21, .int w22, .int ths0, .int w24, .int w25, .int fnd0, .int rdb0, .int wdb0])), (ma0, .inl (cI, 8, .inl w3f)), (t1, .inr (5, [.ref ma1, .int w41, .int w42, .int ths1, .int w44, .int w45, .int fnd1, .int rdb1, .int wdb1])), (ma1, .inl (cI, 8, .inl w5f))] H → va_D A [(g, .inr (1, [.ref cl, .ref t0, .ref t1, .int nx, .int tn])), (cl, .inr (0, [.ref st, .ref mk, .long w12, .long w13, .long w14])), (t0, .inr (5, [.ref ma0, .int w21, .int w22, .int ths0, .int w24, .int w25, .int fnd0, .int rdb0, .int wdb0])), (ma0, .inl (cI, 8, .inl w3f)), (t1, .inr (5, [.ref ma1, .int w41, .int w42, .int ths1, .int w44, .int w45, .int fnd1, .int rdb1, .int wdb1])), (ma1, .inl (cI, 8, .inl w5f))] → va_S A s.heap H locs → lv_has ls 4 [(3, .int x3), (0, .ref g), (1, .long rag)] → W p l e (headSpec wsX1_loseRag ({ frames := 2, cells := 0, slots := 0, locals := 45 })).room s m ([.ref g, .long rag] : List Value).toArray below meth c H locs 0 0 (MQ below (va_Qv (fun (_ : Unit) => True) (fun _ zt => va_P (dC, dI) vwCl [(g, .inr (1, [.ref cl, .ref t0, .ref t1, .int nx, .int tn])), (cl, .inr (0, [.ref st, .ref mk, .long res.1, .long res.2.1, .long res.2.2.1])), (t0, .inr (5, [.ref ma0, .int res.2.2.2.1, .int res.2.2.2.2.1, .int ths0, .int res.2.2.2.2.2.1, .int res.2.2.2.2.2.2.1, .int fnd0, .int rdb0, .int wdb0])), (ma0, .inl (cI, 8, .inl res.2.2.2.2.2.2.2.1)), (t1, .inr (5, [.ref ma1, .int res.2.2.2.2.2.2.2.2.1, .int res.2.2.2.2.2.2.2.2.2.1, .int ths1, .int res.2.2.2.2.2.2.2.2.2.2.1, .int res.2.2.2.2.2.2.2.2.2.2.2.1, .int fnd1, .int rdb1, .int wdb1])), (ma1, .inl (cI, 8, .inl res.2.2.2.2.2.2.2.2.2.2.2.2))] zt.heap) A) ([.ref g, .long rag] : List Value).toArray s 0 0 A) (F0 m 25 ls []) := by
      intro n
      induction n with
      | zero => intro k25 x3 w12 w13 w14 w21 w22 w24 w25 w3f w41 w42 w44 w45 w5f _ _ _ _ hm; exact absurd hm (Nat.not_lt_zero _)
      | succ n ih25 =>
        intro k25 x3 w12 w13 w14 w21 w22 w24 w25 w3f w41 w42 w44 w45 w5f H locs ls hk25 hm25 ex25 hm0 hm1 hq_12 hP hD hS hl
        rw [F_Game_loseRag_L25] at hq_12
        refine lv_iload_n hx hb dX1_loseRag_25 rfl (lv_at hl 0 rfl) ?_
        refine lv_bipush (v := 82) hx hb dX1_loseRag_26 (by decide) ?_
        refine lv_icmp_ge (tgt := 53) hx hb dX1_loseRag_28 (by decide) (fun c_13 => ?_) (fun c_13 => ?_)
        · rw [if_pos c_13] at hq_12
          subst hq_12
          exact hexit25 _ _ _  hP hD hS (lv_sub hl [0, 1, 2] rfl)
        · rw [if_neg c_13] at hq_12
          have hlt_k25 : k25 < 82 := lp_lt rfl ex25 hk25 c_13
          refine lv_aload_n hx hb dX1_loseRag_31 rfl (lv_at hl 1 rfl) ?_
          refine va_get (D := (dC, dI)) (ci := 1) (v := .ref cl) (C := RX1) (T := TX1) (N := 5) hx hb hts iX1_loseRag_X1 hown hK hP 0 rfl rfl 0 (by decide) (hts (.fieldLink RX1 12 "TailorChalks$Game" "cloth" "LTailorChalks$Cloth;") kX1_loseRag_12) (fun _ h9 => h9) rfl dX1_loseRag_32 ?_
          refine lv_iload_n hx hb dX1_loseRag_35 rfl (lv_at hl 0 rfl) ?_
          obtain ⟨r_14, hr_14⟩ : ∃ z, z = F_Cloth_isVoid x3 w12 := ⟨_, rfl⟩
          rw [bnd_e hr_14] at hq_12
          refine ro_calli (va_runV (As := [.int x3]) (rest := []) ⟨hx, hb, hml, hown, hts⟩ (c_Cloth_isVoid l dC dI cI cC cG cZ cl st mk x3 w12 w13 w14  r_14 hr_14) (cwV 1 hts gX1_loseRag_X0_isVoid rfl rfl rfl (by decide +kernel) ⟨Nat.le_of_ble_eq_true rfl, Nat.le_of_ble_eq_true rfl⟩) (ro_preV (hP.sub (ws' := [(cl, .inr (0, [.ref st, .ref mk, .long w12, .long w13, .long w14]))]) [1] rfl) hK (ci := 0) (q0 := 0) rfl rfl) rfl rfl hl.1 rfl (lv_room (Nat.le_of_ble_eq_true rfl)) dX1_loseRag_36 ⟨Nat.zero_le _, Nat.zero_le _⟩) hP hS (fun H locs hP hS => ?_)
          refine lv_if_eq (tgt := 47) hx hb dX1_loseRag_39 (by decide) (fun c_15 => ?_) (fun c_15 => ?_)
          · rw [if_pos c_15] at hq_12
            refine lv_iinc (v := (x3 + 1)) (lv' := [(3, .int (x3 + 1)), (0, .ref g), (1, .long rag)]) hx hb dX1_loseRag_47 hl (k := 0) rfl rfl (by decide) rfl (fun ls hl => ?_)
            refine lv_goto (tgt := 25) hx hb dX1_loseRag_50 (by decide) ?_
            exact ih25 (k25 + 1) (x3 + 1) w12 w13 w14 w21 w22 w24 w25 w3f w41 w42 w44 w45 w5f _ _ _ (by omega) (by omega) (by rw [ex25]; exact nI_1 _) (by first | exact hm0 | (subst_vars; exact dropMarks_ok0 hm0)) (by first | exact hm1 | (subst_vars; exact dropMarks_ok1 hm1)) hq_12 hP hD hS (lv_sub hl [0, 1, 2] rfl)
          · rw [if_neg c_15] at hq_12
            refine lv_aload_n hx hb dX1_loseRag_42 rfl (lv_at hl 1 rfl) ?_
            refine lv_iload_n hx hb dX1_loseRag_43 rfl (lv_at hl 0 rfl) ?_
            obtain ⟨r_16, hr_16⟩ : ∃ z, z = F_Game_dropMarks x3 w21 w3f w41 w5f := ⟨_, rfl⟩
            rw [bnd_e hr_16] at hq_12
            refine wr_callv (w1 := [(g, .inr (1, [.ref cl, .ref t0, .ref t1, .int nx, .int tn])), (t0, .inr (5, [.ref ma0, .int r_16.1, .int w22, .int ths0, .int w24, .int w25, .int fnd0, .int rdb0, .int wdb0])), (ma0, .inl (cI, 8, .inl r_16.2.1)), (t1, .inr (5, [.ref ma1, .int r_16.2.2.1, .int w42, .int ths1, .int w44, .int w45, .int fnd1, .int rdb1, .int wdb1])), (ma1, .inl (cI, 8, .inl r_16.2.2.2))]) (is := [0, 2, 3, 4, 5]) (va_runV (As := [.int x3]) (rest := []) ⟨hx, hb, hml, hown, hts⟩ (c_Game_dropMarks l dC dI cI cC cG cZ g cl t0 t1 ma0 ma1 x3 nx tn w21 w22 ths0 w24 w25 fnd0 rdb0 wdb0 w3f w41 w42 ths1 w44 w45 fnd1 rdb1 wdb1 w5f hm0 hm1 r_16 hr_16) (cwV 1 hts gX1_loseRag_X1_dropMarks rfl rfl rfl (by decide +kernel) ⟨Nat.le_of_ble_eq_true rfl, Nat.le_of_ble_eq_true rfl⟩) (wr_preV (hP.sub (ws' := [(g, .inr (1, [.ref cl, .ref t0, .ref t1, .int nx, .int tn])), (t0, .inr (5, [.ref ma0, .int w21, .int w22, .int ths0, .int w24, .int w25, .int fnd0, .int rdb0, .int wdb0])), (ma0, .inl (cI, 8, .inl w3f)), (t1, .inr (5, [.ref ma1, .int w41, .int w42, .int ths1, .int w44, .int w45, .int fnd1, .int rdb1, .int wdb1])), (ma1, .inl (cI, 8, .inl w5f))]) [0, 2, 3, 4, 5] rfl) hK (hD.sub (ws' := [(g, .inr (1, [.ref cl, .ref t0, .ref t1, .int nx, .int tn])), (t0, .inr (5, [.ref ma0, .int w21, .int w22, .int ths0, .int w24, .int w25, .int fnd0, .int rdb0, .int wdb0])), (ma0, .inl (cI, 8, .inl w3f)), (t1, .inr (5, [.ref ma1, .int w41, .int w42, .int ths1, .int w44, .int w45, .int fnd1, .int rdb1, .int wdb1])), (ma1, .inl (cI, 8, .inl w5f))]) [0, 2, 3, 4, 5] (by decide) rfl) (ci := 1) (q0 := 0) rfl rfl) rfl rfl hl.1 rfl (lv_room (Nat.le_of_ble_eq_true rfl)) dX1_loseRag_44 ⟨Nat.zero_le _, Nat.zero_le _⟩) hP hD hS rfl rfl rfl (fun H locs hP hD hS => ?_)
            have hP : va_P (dC, dI) vwCl [(g, .inr (1, [.ref cl, .ref t0, .ref t1, .int nx, .int tn])), (cl, .inr (0, [.ref st, .ref mk, .long w12, .long w13, .long w14])), (t0, .inr (5, [.ref ma0, .int r_16.1, .int w22, .int ths0, .int w24, .int w25, .int fnd0, .int rdb0, .int wdb0])), (ma0, .inl (cI, 8, .inl r_16.2.1)), (t1, .inr (5, [.ref ma1, .int r_16.2.2.1, .int w42, .int ths1, .int w44, .int w45, .int fnd1, .int rdb1, .int wdb1])), (ma1, .inl (cI, 8, .inl r_16.2.2.2))] H := hP
            have hD : va_D A [(g, .inr (1, [.ref cl, .ref t0, .ref t1, .int nx, .int tn])), (cl, .inr (0, [.ref st, .ref mk, .long w12, .long w13, .long w14])), (t0, .inr (5, [.ref ma0, .int r_16.1, .int w22, .int ths0, .int w24, .int w25, .int fnd0, .int rdb0, .int wdb0])), (ma0, .inl (cI, 8, .inl r_16.2.1)), (t1, .inr (5, [.ref ma1, .int r_16.2.2.1, .int w42, .int ths1, .int w44, .int w45, .int fnd1, .int rdb1, .int wdb1])), (ma1, .inl (cI, 8, .inl r_16.2.2.2))] := hD
            refine lv_iinc (v := (x3 + 1)) (lv' := [(3, .int (x3 + 1)), (0, .ref g), (1, .long rag)]) hx hb dX1_loseRag_47 hl (k := 0) rfl rfl (by decide) rfl (fun ls hl => ?_)
            refine lv_goto (tgt := 25) hx hb dX1_loseRag_50 (by decide) ?_
            exact ih25 (k25 + 1) (x3 + 1) w12 w13 w14 r_16.1 w22 w24 w25 r_16.2.1 r_16.2.2.1 w42 w44 w45 r_16.2.2.2 _ _ _ (by omega) (by omega) (by rw [ex25]; exact nI_1 _) (by first | exact hm0 | (subst_vars; exact dropMarks_ok0 hm0)) (by first | exact hm1 | (subst_vars; exact dropMarks_ok1 hm1)) hq_12 hP hD hS (lv_sub hl [0, 1, 2] rfl)
    exact hloop25 83 0 (0 : Int32) r_1.1 r_1.2.1 r_1.2.2 mks0 pts0 rgs0 rgc0 fma0 mks1 r_11.2.2 r_11.1 r_11.2.1 fma1 _ _ _ (by omega) (by omega) nI_0.symm hM0 hM1 hq_12 hP hD hS (lv_sub hl [0, 1, 2] rfl)
theorem iX1_snipJoint_X1 : ∀ w ∈ u_ws RX1 TX1 5, w ∈ wsX1_snipJoint := by decide +kernel
theorem kX1_snipJoint_12 : Cond.fieldLink RX1 12 "TailorChalks$Game" "cloth" "LTailorChalks$Cloth;" ∈ wsX1_snipJoint := by decide +kernel
def F_Game_snipJoint (joint : Int32) (nx : Int32) (tn : Int32) (gn : Int64) (ac : Int64) (dn : Int64) (fs : Nat → Int32) (fm : Nat → Int32) (mks0 : Int32) (pts0 : Int32) (rgs0 : Int32) (rgc0 : Int32) (fnd0 : Int32) (fma0 : Nat → Int32) (mks1 : Int32) (pts1 : Int32) (rgs1 : Int32) (rgc1 : Int32) (fnd1 : Int32) (fma1 : Nat → Int32) : Int32 × Int32 × Int32 × Int64 × Int64 × Int64 × (Nat → Int32) × (Nat → Int32) × Int32 × Int32 × Int32 × Int32 × Int32 × (Nat → Int32) × Int32 × Int32 × Int32 × Int32 × Int32 × (Nat → Int32) := (bnd (F_Game_whyNoSnip joint tn gn fs) (fun r_1 => (if r_1 = 0 then (bnd (F_Game_findChalk joint nx mks0 pts0 fnd0 fma0 mks1 pts1 fnd1 fma1) (fun r_3 => (bnd (F_Cloth_ragOf joint ac dn) (fun r_4 => (bnd (F_Cloth_make joint (1 : Int32) (-6 : Int32) ac dn fs fm) (fun r_5 => (if (lg_cmp r_4 0) = 0 then (bnd (F_Game_endTurn nx tn) (fun r_7 => (bnd (F_Long_bitCount r_4) (fun r_8 => (r_8, r_7.1, r_7.2, gn, r_5.2.2.1, r_5.2.2.2, r_5.1, r_5.2.1, r_3.1, r_3.2.1, rgs0, rgc0, r_3.2.2.1, r_3.2.2.2.1, r_3.2.2.2.2.1, r_3.2.2.2.2.2.1, rgs1, rgc1, r_3.2.2.2.2.2.2.1, r_3.2.2.2.2.2.2.2))))) else (bnd (F_Game_loseRag r_4 nx gn r_5.2.2.1 r_5.2.2.2 r_3.1 r_3.2.1 rgs0 rgc0 r_3.2.2.2.1 r_3.2.2.2.2.1 r_3.2.2.2.2.2.1 rgs1 rgc1 r_3.2.2.2.2.2.2.2) (fun r_9 => (bnd (F_Game_endTurn nx tn) (fun r_10 => (bnd (F_Long_bitCount r_4) (fun r_11 => (r_11, r_10.1, r_10.2, r_9.1, r_9.2.1, r_9.2.2.1, r_5.1, r_5.2.1, r_9.2.2.2.1, r_9.2.2.2.2.1, r_9.2.2.2.2.2.1, r_9.2.2.2.2.2.2.1, r_3.2.2.1, r_9.2.2.2.2.2.2.2.1, r_9.2.2.2.2.2.2.2.2.1, r_9.2.2.2.2.2.2.2.2.2.1, r_9.2.2.2.2.2.2.2.2.2.2.1, r_9.2.2.2.2.2.2.2.2.2.2.2.1, r_3.2.2.2.2.2.2.1, r_9.2.2.2.2.2.2.2.2.2.2.2.2)))))))))))))) else ((-5), nx, tn, gn, ac, dn, fs, fm, mks0, pts0, rgs0, rgc0, fnd0, fma0, mks1, pts1, rgs1, rgc1, fnd1, fma1))))
set_option maxHeartbeats 4000000 in
set_option maxRecDepth 100000 in
theorem c_Game_snipJoint (l : Launch) (dC : Nat → ClassId) (dI : Nat → Nat → Nat) (cI cC cG cZ : ClassId) (g cl t0 t1 st mk ma0 ma1 : Nat) (joint : Int32) (nx : Int32) (tn : Int32) (gn : Int64) (ac : Int64) (dn : Int64) (fs : Nat → Int32) (fm : Nat → Int32) (mks0 : Int32) (pts0 : Int32) (ths0 : Int32) (rgs0 : Int32) (rgc0 : Int32) (fnd0 : Int32) (rdb0 : Int32) (wdb0 : Int32) (fma0 : Nat → Int32) (mks1 : Int32) (pts1 : Int32) (ths1 : Int32) (rgs1 : Int32) (rgc1 : Int32) (fnd1 : Int32) (rdb1 : Int32) (wdb1 : Int32) (fma1 : Nat → Int32) (hM0 : tm_ok 8 mks0) (hM1 : tm_ok 8 mks1) (res : Int32 × Int32 × Int32 × Int64 × Int64 × Int64 × (Nat → Int32) × (Nat → Int32) × Int32 × Int32 × Int32 × Int32 × Int32 × (Nat → Int32) × Int32 × Int32 × Int32 × Int32 × Int32 × (Nat → Int32)) (hres : res = F_Game_snipJoint joint nx tn gn ac dn fs fm mks0 pts0 rgs0 rgc0 fnd0 fma0 mks1 pts1 rgs1 rgc1 fnd1 fma1) : Met l yX1_snipJoint wsX1_snipJoint ({ frames := 4, cells := 0, slots := 0, locals := 82 }) (va_Pc [.ref g, .int joint] (wr_P (dC, dI) vwCl (tyL cI cC cG cZ) [(g, .inr (1, [.ref cl, .ref t0, .ref t1, .int nx, .int tn])), (cl, .inr (0, [.ref st, .ref mk, .long gn, .long ac, .long dn])), (st, .inl (cI, 82, .inl fs)), (mk, .inl (cI, 82, .inl fm)), (t0, .inr (5, [.ref ma0, .int mks0, .int pts0, .int ths0, .int rgs0, .int rgc0, .int fnd0, .int rdb0, .int wdb0])), (ma0, .inl (cI, 8, .inl fma0)), (t1, .inr (5, [.ref ma1, .int mks1, .int pts1, .int ths1, .int rgs1, .int rgc1, .int fnd1, .int rdb1, .int wdb1])), (ma1, .inl (cI, 8, .inl fma1))])) (va_Qi (fun r (_ : Unit) => r = res.1) (fun _ zt => va_P (dC, dI) vwCl [(g, .inr (1, [.ref cl, .ref t0, .ref t1, .int res.2.1, .int res.2.2.1])), (cl, .inr (0, [.ref st, .ref mk, .long res.2.2.2.1, .long res.2.2.2.2.1, .long res.2.2.2.2.2.1])), (st, .inl (cI, 82, .inl res.2.2.2.2.2.2.1)), (mk, .inl (cI, 82, .inl res.2.2.2.2.2.2.2.1)), (t0, .inr (5, [.ref ma0, .int res.2.2.2.2.2.2.2.2.1, .int res.2.2.2.2.2.2.2.2.2.1, .int ths0, .int res.2.2.2.2.2.2.2.2.2.2.1, .int res.2.2.2.2.2.2.2.2.2.2.2.1, .int res.2.2.2.2.2.2.2.2.2.2.2.2.1, .int rdb0, .int wdb0])), (ma0, .inl (cI, 8, .inl res.2.2.2.2.2.2.2.2.2.2.2.2.2.1)), (t1, .inr (5, [.ref ma1, .int res.2.2.2.2.2.2.2.2.2.2.2.2.2.2.1, .int res.2.2.2.2.2.2.2.2.2.2.2.2.2.2.2.1, .int ths1, .int res.2.2.2.2.2.2.2.2.2.2.2.2.2.2.2.2.1, .int res.2.2.2.2.2.2.2.2.2.2.2.2.2.2.2.2.2.1, .int res.2.2.2.2.2.2.2.2.2.2.2.2.2.2.2.2.2.2.1, .int rdb1, .int wdb1])), (ma1, .inl (cI, 8, .inl res.2.2.2.2.2.2.2.2.2.2.2.2.2.2.2.2.2.2.2))] zt.heap) (wr_A [(g, .inr (1, [.ref cl, .ref t0, .ref t1, .int nx, .int tn])), (cl, .inr (0, [.ref st, .ref mk, .long gn, .long ac, .long dn])), (st, .inl (cI, 82, .inl fs)), (mk, .inl (cI, 82, .inl fm)), (t0, .inr (5, [.ref ma0, .int mks0, .int pts0, .int ths0, .int rgs0, .int rgc0, .int fnd0, .int rdb0, .int wdb0])), (ma0, .inl (cI, 8, .inl fma0)), (t1, .inr (5, [.ref ma1, .int mks1, .int pts1, .int ths1, .int rgs1, .int rgc1, .int fnd1, .int rdb1, .int wdb1])), (ma1, .inl (cI, 8, .inl fma1))])) 0 0 (wr_A [(g, .inr (1, [.ref cl, .ref t0, .ref t1, .int nx, .int tn])), (cl, .inr (0, [.ref st, .ref mk, .long gn, .long ac, .long dn])), (st, .inl (cI, 82, .inl fs)), (mk, .inl (cI, 82, .inl fm)), (t0, .inr (5, [.ref ma0, .int mks0, .int pts0, .int ths0, .int rgs0, .int rgc0, .int fnd0, .int rdb0, .int wdb0])), (ma0, .inl (cI, 8, .inl fma0)), (t1, .inr (5, [.ref ma1, .int mks1, .int pts1, .int ths1, .int rgs1, .int rgc1, .int fnd1, .int rdb1, .int wdb1])), (ma1, .inl (cI, 8, .inl fma1))]) := by
  refine Met.ofW (cc := cX1_snipJoint) (maxL := 4) (ret := (some .int)) (by decide) rfl ?_
  intro p e s m args below meth c s₁ B hml hv
  obtain ⟨rfl, hP, hK, hD0⟩ := hv
  have hx := B.exec
  have hb := B.bytes
  have hr := B.returns
  have hts := atoms_spec (ws := wsX1_snipJoint) B.pre
  have hown : s.vm.findClass RX1 = some m.cls := findClass_of_methodNamed B.named
  have hlocks := B.notSynchronized
  have hD := wr_self hD0
  generalize hAe : wr_A [(g, .inr (1, [.ref cl, .ref t0, .ref t1, .int nx, .int tn])), (cl, .inr (0, [.ref st, .ref mk, .long gn, .long ac, .long dn])), (st, .inl (cI, 82, .inl fs)), (mk, .inl (cI, 82, .inl fm)), (t0, .inr (5, [.ref ma0, .int mks0, .int pts0, .int ths0, .int rgs0, .int rgc0, .int fnd0, .int rdb0, .int wdb0])), (ma0, .inl (cI, 8, .inl fma0)), (t1, .inr (5, [.ref ma1, .int mks1, .int pts1, .int ths1, .int rgs1, .int rgc1, .int fnd1, .int rdb1, .int wdb1])), (ma1, .inl (cI, 8, .inl fma1))] = A at hD ⊢
  have hS : va_S A s.heap s.heap [] := va_S.rf
  have hP : va_P (dC, dI) vwCl [(g, .inr (1, [.ref cl, .ref t0, .ref t1, .int nx, .int tn])), (cl, .inr (0, [.ref st, .ref mk, .long gn, .long ac, .long dn])), (st, .inl (cI, 82, .inl fs)), (mk, .inl (cI, 82, .inl fm)), (t0, .inr (5, [.ref ma0, .int mks0, .int pts0, .int ths0, .int rgs0, .int rgc0, .int fnd0, .int rdb0, .int wdb0])), (ma0, .inl (cI, 8, .inl fma0)), (t1, .inr (5, [.ref ma1, .int mks1, .int pts1, .int ths1, .int rgs1, .int rgc1, .int fnd1, .int rdb1, .int wdb1])), (ma1, .inl (cI, 8, .inl fma1))] s.heap := hP
  have hl := lv_entry ([.ref g, .int joint]) (n := 4) (Nat.le_of_ble_eq_true rfl)
  rw [lg_entry_eq]
  generalize (lg_sl ([.ref g, .int joint]) ++ List.replicate (4 - (lg_sl ([.ref g, .int joint])).length) Slot.unset).toArray = ls at hl ⊢
  have hl : lv_has ls 4 [(0, .ref g), (1, .int joint)] := hl
  rw [F_Game_snipJoint] at hres
  refine lv_aload_n hx hb dX1_snipJoint_0 rfl (lv_at hl 0 rfl) ?_
  refine lv_iload_n hx hb dX1_snipJoint_1 rfl (lv_at hl 1 rfl) ?_
  obtain ⟨r_1, hr_1⟩ : ∃ z, z = F_Game_whyNoSnip joint tn gn fs := ⟨_, rfl⟩
  rw [bnd_e hr_1] at hres
  refine ro_calli (va_runV (As := [.int joint]) (rest := []) ⟨hx, hb, hml, hown, hts⟩ (c_Game_whyNoSnip l dC dI cI cC cG cZ g cl t0 t1 st mk joint nx tn gn ac dn fs  r_1 hr_1) (cwV 1 hts gX1_snipJoint_X1_whyNoSnip rfl rfl rfl (by decide +kernel) ⟨Nat.le_of_ble_eq_true rfl, Nat.le_of_ble_eq_true rfl⟩) (ro_preV (hP.sub (ws' := [(g, .inr (1, [.ref cl, .ref t0, .ref t1, .int nx, .int tn])), (cl, .inr (0, [.ref st, .ref mk, .long gn, .long ac, .long dn])), (st, .inl (cI, 82, .inl fs))]) [0, 1, 2] rfl) hK (ci := 1) (q0 := 0) rfl rfl) rfl rfl hl.1 rfl (lv_room (Nat.le_of_ble_eq_true rfl)) dX1_snipJoint_2 ⟨Nat.zero_le _, Nat.zero_le _⟩) hP hS (fun H locs hP hS => ?_)
  refine lv_if_eq (tgt := 11) hx hb dX1_snipJoint_5 (by decide) (fun c_2 => ?_) (fun c_2 => ?_)
  · rw [if_pos c_2] at hres
    refine lv_aload_n hx hb dX1_snipJoint_11 rfl (lv_at hl 0 rfl) ?_
    refine lv_iload_n hx hb dX1_snipJoint_12 rfl (lv_at hl 1 rfl) ?_
    obtain ⟨r_3, hr_3⟩ : ∃ z, z = F_Game_findChalk joint nx mks0 pts0 fnd0 fma0 mks1 pts1 fnd1 fma1 := ⟨_, rfl⟩
    rw [bnd_e hr_3] at hres
    refine wr_callv (w1 := [(g, .inr (1, [.ref cl, .ref t0, .ref t1, .int nx, .int tn])), (t0, .inr (5, [.ref ma0, .int r_3.1, .int r_3.2.1, .int ths0, .int rgs0, .int rgc0, .int r_3.2.2.1, .int rdb0, .int wdb0])), (ma0, .inl (cI, 8, .inl r_3.2.2.2.1)), (t1, .inr (5, [.ref ma1, .int r_3.2.2.2.2.1, .int r_3.2.2.2.2.2.1, .int ths1, .int rgs1, .int rgc1, .int r_3.2.2.2.2.2.2.1, .int rdb1, .int wdb1])), (ma1, .inl (cI, 8, .inl r_3.2.2.2.2.2.2.2))]) (is := [0, 4, 5, 6, 7]) (va_runV (As := [.int joint]) (rest := []) ⟨hx, hb, hml, hown, hts⟩ (c_Game_findChalk l dC dI cI cC cG cZ g cl t0 t1 ma0 ma1 joint nx tn mks0 pts0 ths0 rgs0 rgc0 fnd0 rdb0 wdb0 fma0 mks1 pts1 ths1 rgs1 rgc1 fnd1 rdb1 wdb1 fma1 hM0 hM1 r_3 hr_3) (cwV 1 hts gX1_snipJoint_X1_findChalk rfl rfl rfl (by decide +kernel) ⟨Nat.le_of_ble_eq_true rfl, Nat.le_of_ble_eq_true rfl⟩) (wr_preV (hP.sub (ws' := [(g, .inr (1, [.ref cl, .ref t0, .ref t1, .int nx, .int tn])), (t0, .inr (5, [.ref ma0, .int mks0, .int pts0, .int ths0, .int rgs0, .int rgc0, .int fnd0, .int rdb0, .int wdb0])), (ma0, .inl (cI, 8, .inl fma0)), (t1, .inr (5, [.ref ma1, .int mks1, .int pts1, .int ths1, .int rgs1, .int rgc1, .int fnd1, .int rdb1, .int wdb1])), (ma1, .inl (cI, 8, .inl fma1))]) [0, 4, 5, 6, 7] rfl) hK (hD.sub (ws' := [(g, .inr (1, [.ref cl, .ref t0, .ref t1, .int nx, .int tn])), (t0, .inr (5, [.ref ma0, .int mks0, .int pts0, .int ths0, .int rgs0, .int rgc0, .int fnd0, .int rdb0, .int wdb0])), (ma0, .inl (cI, 8, .inl fma0)), (t1, .inr (5, [.ref ma1, .int mks1, .int pts1, .int ths1, .int rgs1, .int rgc1, .int fnd1, .int rdb1, .int wdb1])), (ma1, .inl (cI, 8, .inl fma1))]) [0, 4, 5, 6, 7] (by decide) rfl) (ci := 1) (q0 := 0) rfl rfl) rfl rfl hl.1 rfl (lv_room (Nat.le_of_ble_eq_true rfl)) dX1_snipJoint_13 ⟨Nat.zero_le _, Nat.zero_le _⟩) hP hD hS rfl rfl rfl (fun H locs hP hD hS => ?_)
    have hP : va_P (dC, dI) vwCl [(g, .inr (1, [.ref cl, .ref t0, .ref t1, .int nx, .int tn])), (cl, .inr (0, [.ref st, .ref mk, .long gn, .long ac, .long dn])), (st, .inl (cI, 82, .inl fs)), (mk, .inl (cI, 82, .inl fm)), (t0, .inr (5, [.ref ma0, .int r_3.1, .int r_3.2.1, .int ths0, .int rgs0, .int rgc0, .int r_3.2.2.1, .int rdb0, .int wdb0])), (ma0, .inl (cI, 8, .inl r_3.2.2.2.1)), (t1, .inr (5, [.ref ma1, .int r_3.2.2.2.2.1, .int r_3.2.2.2.2.2.1, .int ths1, .int rgs1, .int rgc1, .int r_3.2.2.2.2.2.2.1, .int rdb1, .int wdb1])), (ma1, .inl (cI, 8, .inl r_3.2.2.2.2.2.2.2))] H := hP
    have hD : va_D A [(g, .inr (1, [.ref cl, .ref t0, .ref t1, .int nx, .int tn])), (cl, .inr (0, [.ref st, .ref mk, .long gn, .long ac, .long dn])), (st, .inl (cI, 82, .inl fs)), (mk, .inl (cI, 82, .inl fm)), (t0, .inr (5, [.ref ma0, .int r_3.1, .int r_3.2.1, .int ths0, .int rgs0, .int rgc0, .int r_3.2.2.1, .int rdb0, .int wdb0])), (ma0, .inl (cI, 8, .inl r_3.2.2.2.1)), (t1, .inr (5, [.ref ma1, .int r_3.2.2.2.2.1, .int r_3.2.2.2.2.2.1, .int ths1, .int rgs1, .int rgc1, .int r_3.2.2.2.2.2.2.1, .int rdb1, .int wdb1])), (ma1, .inl (cI, 8, .inl r_3.2.2.2.2.2.2.2))] := hD
    refine lv_aload_n hx hb dX1_snipJoint_16 rfl (lv_at hl 0 rfl) ?_
    refine va_get (D := (dC, dI)) (ci := 1) (v := .ref cl) (C := RX1) (T := TX1) (N := 5) hx hb hts iX1_snipJoint_X1 hown hK hP 0 rfl rfl 0 (by decide) (hts (.fieldLink RX1 12 "TailorChalks$Game" "cloth" "LTailorChalks$Cloth;") kX1_snipJoint_12) (fun _ h9 => h9) rfl dX1_snipJoint_17 ?_
    refine lv_iload_n hx hb dX1_snipJoint_20 rfl (lv_at hl 1 rfl) ?_
    obtain ⟨r_4, hr_4⟩ : ∃ z, z = F_Cloth_ragOf joint ac dn := ⟨_, rfl⟩
    rw [bnd_e hr_4] at hres
    refine ro_calll (va_runV (As := [.int joint]) (rest := []) ⟨hx, hb, hml, hown, hts⟩ (c_Cloth_ragOf l dC dI cI cC cG cZ cl st mk joint gn ac dn  r_4 hr_4) (cwV 1 hts gX1_snipJoint_X0_ragOf rfl rfl rfl (by decide +kernel) ⟨Nat.le_of_ble_eq_true rfl, Nat.le_of_ble_eq_true rfl⟩) (ro_preV (hP.sub (ws' := [(cl, .inr (0, [.ref st, .ref mk, .long gn, .long ac, .long dn]))]) [1] rfl) hK (ci := 0) (q0 := 0) rfl rfl) rfl rfl hl.1 rfl (lv_room (Nat.le_of_ble_eq_true rfl)) dX1_snipJoint_21 ⟨Nat.zero_le _, Nat.zero_le _⟩) hP hS (fun H locs hP hS => ?_)
    refine lv_lstore_n (lv' := [(2, .long r_4), (0, .ref g), (1, .int joint)]) hx hb dX1_snipJoint_24 rfl hl (by decide) rfl (fun ls hl => ?_)
    refine lv_aload_n hx hb dX1_snipJoint_25 rfl (lv_at hl 1 rfl) ?_
    refine va_get (D := (dC, dI)) (ci := 1) (v := .ref cl) (C := RX1) (T := TX1) (N := 5) hx hb hts iX1_snipJoint_X1 hown hK hP 0 rfl rfl 0 (by decide) (hts (.fieldLink RX1 12 "TailorChalks$Game" "cloth" "LTailorChalks$Cloth;") kX1_snipJoint_12) (fun _ h9 => h9) rfl dX1_snipJoint_26 ?_
    refine lv_iload_n hx hb dX1_snipJoint_29 rfl (lv_at hl 2 rfl) ?_
    refine lv_iconst (v := 1) hx hb dX1_snipJoint_30 (by decide) ?_
    refine lv_bipush (v := (-6)) hx hb dX1_snipJoint_31 (by decide) ?_
    obtain ⟨r_5, hr_5⟩ : ∃ z, z = F_Cloth_make joint (1 : Int32) (-6 : Int32) ac dn fs fm := ⟨_, rfl⟩
    rw [bnd_e hr_5] at hres
    refine wr_callv (w1 := [(cl, .inr (0, [.ref st, .ref mk, .long gn, .long r_5.2.2.1, .long r_5.2.2.2])), (st, .inl (cI, 82, .inl r_5.1)), (mk, .inl (cI, 82, .inl r_5.2.1))]) (is := [1, 2, 3]) (va_runV (As := [.int joint, .int 1, .int (-6)]) (rest := []) ⟨hx, hb, hml, hown, hts⟩ (c_Cloth_make l dC dI cI cC cG cZ cl st mk joint (1 : Int32) (-6 : Int32) gn ac dn fs fm  r_5 hr_5) (cwV 3 hts gX1_snipJoint_X0_make rfl rfl rfl (by decide +kernel) ⟨Nat.le_of_ble_eq_true rfl, Nat.le_of_ble_eq_true rfl⟩) (wr_preV (hP.sub (ws' := [(cl, .inr (0, [.ref st, .ref mk, .long gn, .long ac, .long dn])), (st, .inl (cI, 82, .inl fs)), (mk, .inl (cI, 82, .inl fm))]) [1, 2, 3] rfl) hK (hD.sub (ws' := [(cl, .inr (0, [.ref st, .ref mk, .long gn, .long ac, .long dn])), (st, .inl (cI, 82, .inl fs)), (mk, .inl (cI, 82, .inl fm))]) [1, 2, 3] (by decide) rfl) (ci := 0) (q0 := 0) rfl rfl) rfl rfl hl.1 rfl (lv_room (Nat.le_of_ble_eq_true rfl)) dX1_snipJoint_33 ⟨Nat.zero_le _, Nat.zero_le _⟩) hP hD hS rfl rfl rfl (fun H locs hP hD hS => ?_)
    have hP : va_P (dC, dI) vwCl [(g, .inr (1, [.ref cl, .ref t0, .ref t1, .int nx, .int tn])), (cl, .inr (0, [.ref st, .ref mk, .long gn, .long r_5.2.2.1, .long r_5.2.2.2])), (st, .inl (cI, 82, .inl r_5.1)), (mk, .inl (cI, 82, .inl r_5.2.1)), (t0, .inr (5, [.ref ma0, .int r_3.1, .int r_3.2.1, .int ths0, .int rgs0, .int rgc0, .int r_3.2.2.1, .int rdb0, .int wdb0])), (ma0, .inl (cI, 8, .inl r_3.2.2.2.1)), (t1, .inr (5, [.ref ma1, .int r_3.2.2.2.2.1, .int r_3.2.2.2.2.2.1, .int ths1, .int rgs1, .int rgc1, .int r_3.2.2.2.2.2.2.1, .int rdb1, .int wdb1])), (ma1, .inl (cI, 8, .inl r_3.2.2.2.2.2.2.2))] H := hP
    have hD : va_D A [(g, .inr (1, [.ref cl, .ref t0, .ref t1, .int nx, .int tn])), (cl, .inr (0, [.ref st, .ref mk, .long gn, .long r_5.2.2.1, .long r_5.2.2.2])), (st, .inl (cI, 82, .inl r_5.1)), (mk, .inl (cI, 82, .inl r_5.2.1)), (t0, .inr (5, [.ref ma0, .int r_3.1, .int r_3.2.1, .int ths0, .int rgs0, .int rgc0, .int r_3.2.2.1, .int rdb0, .int wdb0])), (ma0, .inl (cI, 8, .inl r_3.2.2.2.1)), (t1, .inr (5, [.ref ma1, .int r_3.2.2.2.2.1, .int r_3.2.2.2.2.2.1, .int ths1, .int rgs1, .int rgc1, .int r_3.2.2.2.2.2.2.1, .int rdb1, .int wdb1])), (ma1, .inl (cI, 8, .inl r_3.2.2.2.2.2.2.2))] := hD
    refine lv_lload_n hx hb dX1_snipJoint_36 rfl (lv_at hl 0 rfl) ?_
    refine lv_lconst (v := 0) hx hb dX1_snipJoint_37 (by decide) ?_
    refine W.lcmp hx hb dX1_snipJoint_38 ?_
    refine lv_if_eq (tgt := 47) hx hb dX1_snipJoint_39 (by decide) (fun c_6 => ?_) (fun c_6 => ?_)
    · rw [if_pos c_6] at hres
      refine lv_aload_n hx hb dX1_snipJoint_47 rfl (lv_at hl 1 rfl) ?_
      obtain ⟨r_7, hr_7⟩ : ∃ z, z = F_Game_endTurn nx tn := ⟨_, rfl⟩
      rw [bnd_e hr_7] at hres
      refine wr_callv (w1 := [(g, .inr (1, [.ref cl, .ref t0, .ref t1, .int r_7.1, .int r_7.2]))]) (is := [0]) (va_runV (As := []) (rest := []) ⟨hx, hb, hml, hown, hts⟩ (c_Game_endTurn l dC dI cI cC cG cZ g cl t0 t1 nx tn  r_7 hr_7) (cwV 0 hts gX1_snipJoint_X1_endTurn rfl rfl rfl (by decide +kernel) ⟨Nat.le_of_ble_eq_true rfl, Nat.le_of_ble_eq_true rfl⟩) (wr_preV (hP.sub (ws' := [(g, .inr (1, [.ref cl, .ref t0, .ref t1, .int nx, .int tn]))]) [0] rfl) hK (hD.sub (ws' := [(g, .inr (1, [.ref cl, .ref t0, .ref t1, .int nx, .int tn]))]) [0] (by decide) rfl) (ci := 1) (q0 := 0) rfl rfl) rfl rfl hl.1 rfl (lv_room (Nat.le_of_ble_eq_true rfl)) dX1_snipJoint_48 ⟨Nat.zero_le _, Nat.zero_le _⟩) hP hD hS rfl rfl rfl (fun H locs hP hD hS => ?_)
      have hP : va_P (dC, dI) vwCl [(g, .inr (1, [.ref cl, .ref t0, .ref t1, .int r_7.1, .int r_7.2])), (cl, .inr (0, [.ref st, .ref mk, .long gn, .long r_5.2.2.1, .long r_5.2.2.2])), (st, .inl (cI, 82, .inl r_5.1)), (mk, .inl (cI, 82, .inl r_5.2.1)), (t0, .inr (5, [.ref ma0, .int r_3.1, .int r_3.2.1, .int ths0, .int rgs0, .int rgc0, .int r_3.2.2.1, .int rdb0, .int wdb0])), (ma0, .inl (cI, 8, .inl r_3.2.2.2.1)), (t1, .inr (5, [.ref ma1, .int r_3.2.2.2.2.1, .int r_3.2.2.2.2.2.1, .int ths1, .int rgs1, .int rgc1, .int r_3.2.2.2.2.2.2.1, .int rdb1, .int wdb1])), (ma1, .inl (cI, 8, .inl r_3.2.2.2.2.2.2.2))] H := hP
      have hD : va_D A [(g, .inr (1, [.ref cl, .ref t0, .ref t1, .int r_7.1, .int r_7.2])), (cl, .inr (0, [.ref st, .ref mk, .long gn, .long r_5.2.2.1, .long r_5.2.2.2])), (st, .inl (cI, 82, .inl r_5.1)), (mk, .inl (cI, 82, .inl r_5.2.1)), (t0, .inr (5, [.ref ma0, .int r_3.1, .int r_3.2.1, .int ths0, .int rgs0, .int rgc0, .int r_3.2.2.1, .int rdb0, .int wdb0])), (ma0, .inl (cI, 8, .inl r_3.2.2.2.1)), (t1, .inr (5, [.ref ma1, .int r_3.2.2.2.2.1, .int r_3.2.2.2.2.2.1, .int ths1, .int rgs1, .int rgc1, .int r_3.2.2.2.2.2.2.1, .int rdb1, .int wdb1])), (ma1, .inl (cI, 8, .inl r_3.2.2.2.2.2.2.2))] := hD
      refine lv_lload_n hx hb dX1_snipJoint_51 rfl (lv_at hl 0 rfl) ?_
      obtain ⟨r_8, hr_8⟩ : ∃ z, z = F_Long_bitCount r_4 := ⟨_, rfl⟩
      rw [bnd_e hr_8] at hres
      refine ro_calli (va_runS (As := [.long r_4]) (rest := []) ⟨hx, hb, hml, hown, hts⟩ (c_Long_bitCount l dC dI cI cC cG cZ  r_4  r_8 hr_8) (va_cwS 1 hts gX1_snipJoint_J13_bitCount_95d88 rfl rfl rfl (by decide +kernel) ⟨Nat.le_of_ble_eq_true rfl, Nat.le_of_ble_eq_true rfl⟩) (ro_preS (hP.sub (ws' := []) [] rfl) hK) rfl rfl hl.1 rfl (lv_room (Nat.le_of_ble_eq_true rfl)) dX1_snipJoint_52 ⟨Nat.zero_le _, Nat.zero_le _⟩) hP hS (fun H locs hP hS => ?_)
      subst hres
      exact W.iret (v := r_8) hx hb hr (fun t ht hW => ⟨⟨r_8, (), rfl, rfl, (by show va_P _ _ _ t.heap; rw [ht]; exact hP)⟩, hS.F ht⟩) hS.2.2 dX1_snipJoint_55
    · rw [if_neg c_6] at hres
      refine lv_aload_n hx hb dX1_snipJoint_42 rfl (lv_at hl 1 rfl) ?_
      refine lv_lload_n hx hb dX1_snipJoint_43 rfl (lv_at hl 0 rfl) ?_
      obtain ⟨r_9, hr_9⟩ : ∃ z, z = F_Game_loseRag r_4 nx gn r_5.2.2.1 r_5.2.2.2 r_3.1 r_3.2.1 rgs0 rgc0 r_3.2.2.2.1 r_3.2.2.2.2.1 r_3.2.2.2.2.2.1 rgs1 rgc1 r_3.2.2.2.2.2.2.2 := ⟨_, rfl⟩
      rw [bnd_e hr_9] at hres
      refine wr_callv (w1 := [(g, .inr (1, [.ref cl, .ref t0, .ref t1, .int nx, .int tn])), (cl, .inr (0, [.ref st, .ref mk, .long r_9.1, .long r_9.2.1, .long r_9.2.2.1])), (t0, .inr (5, [.ref ma0, .int r_9.2.2.2.1, .int r_9.2.2.2.2.1, .int ths0, .int r_9.2.2.2.2.2.1, .int r_9.2.2.2.2.2.2.1, .int r_3.2.2.1, .int rdb0, .int wdb0])), (ma0, .inl (cI, 8, .inl r_9.2.2.2.2.2.2.2.1)), (t1, .inr (5, [.ref ma1, .int r_9.2.2.2.2.2.2.2.2.1, .int r_9.2.2.2.2.2.2.2.2.2.1, .int ths1, .int r_9.2.2.2.2.2.2.2.2.2.2.1, .int r_9.2.2.2.2.2.2.2.2.2.2.2.1, .int r_3.2.2.2.2.2.2.1, .int rdb1, .int wdb1])), (ma1, .inl (cI, 8, .inl r_9.2.2.2.2.2.2.2.2.2.2.2.2))]) (is := [0, 1, 4, 5, 6, 7]) (va_runV (As := [.long r_4]) (rest := []) ⟨hx, hb, hml, hown, hts⟩ (c_Game_loseRag l dC dI cI cC cG cZ g cl t0 t1 st mk ma0 ma1 r_4 nx tn gn r_5.2.2.1 r_5.2.2.2 r_3.1 r_3.2.1 ths0 rgs0 rgc0 r_3.2.2.1 rdb0 wdb0 r_3.2.2.2.1 r_3.2.2.2.2.1 r_3.2.2.2.2.2.1 ths1 rgs1 rgc1 r_3.2.2.2.2.2.2.1 rdb1 wdb1 r_3.2.2.2.2.2.2.2 (by rw [hr_3]; exact findChalk_ok0 hM0) (by rw [hr_3]; exact findChalk_ok1 hM1) r_9 hr_9) (cwV 1 hts gX1_snipJoint_X1_loseRag rfl rfl rfl (by decide +kernel) ⟨Nat.le_of_ble_eq_true rfl, Nat.le_of_ble_eq_true rfl⟩) (wr_preV (hP.sub (ws' := [(g, .inr (1, [.ref cl, .ref t0, .ref t1, .int nx, .int tn])), (cl, .inr (0, [.ref st, .ref mk, .long gn, .long r_5.2.2.1, .long r_5.2.2.2])), (t0, .inr (5, [.ref ma0, .int r_3.1, .int r_3.2.1, .int ths0, .int rgs0, .int rgc0, .int r_3.2.2.1, .int rdb0, .int wdb0])), (ma0, .inl (cI, 8, .inl r_3.2.2.2.1)), (t1, .inr (5, [.ref ma1, .int r_3.2.2.2.2.1, .int r_3.2.2.2.2.2.1, .int ths1, .int rgs1, .int rgc1, .int r_3.2.2.2.2.2.2.1, .int rdb1, .int wdb1])), (ma1, .inl (cI, 8, .inl r_3.2.2.2.2.2.2.2))]) [0, 1, 4, 5, 6, 7] rfl) hK (hD.sub (ws' := [(g, .inr (1, [.ref cl, .ref t0, .ref t1, .int nx, .int tn])), (cl, .inr (0, [.ref st, .ref mk, .long gn, .long r_5.2.2.1, .long r_5.2.2.2])), (t0, .inr (5, [.ref ma0, .int r_3.1, .int r_3.2.1, .int ths0, .int rgs0, .int rgc0, .int r_3.2.2.1, .int rdb0, .int wdb0])), (ma0, .inl (cI, 8, .inl r_3.2.2.2.1)), (t1, .inr (5, [.ref ma1, .int r_3.2.2.2.2.1, .int r_3.2.2.2.2.2.1, .int ths1, .int rgs1, .int rgc1, .int r_3.2.2.2.2.2.2.1, .int rdb1, .int wdb1])), (ma1, .inl (cI, 8, .inl r_3.2.2.2.2.2.2.2))]) [0, 1, 4, 5, 6, 7] (by decide) rfl) (ci := 1) (q0 := 0) rfl rfl) rfl rfl hl.1 rfl (lv_room (Nat.le_of_ble_eq_true rfl)) dX1_snipJoint_44 ⟨Nat.zero_le _, Nat.zero_le _⟩) hP hD hS rfl rfl rfl (fun H locs hP hD hS => ?_)
      have hP : va_P (dC, dI) vwCl [(g, .inr (1, [.ref cl, .ref t0, .ref t1, .int nx, .int tn])), (cl, .inr (0, [.ref st, .ref mk, .long r_9.1, .long r_9.2.1, .long r_9.2.2.1])), (st, .inl (cI, 82, .inl r_5.1)), (mk, .inl (cI, 82, .inl r_5.2.1)), (t0, .inr (5, [.ref ma0, .int r_9.2.2.2.1, .int r_9.2.2.2.2.1, .int ths0, .int r_9.2.2.2.2.2.1, .int r_9.2.2.2.2.2.2.1, .int r_3.2.2.1, .int rdb0, .int wdb0])), (ma0, .inl (cI, 8, .inl r_9.2.2.2.2.2.2.2.1)), (t1, .inr (5, [.ref ma1, .int r_9.2.2.2.2.2.2.2.2.1, .int r_9.2.2.2.2.2.2.2.2.2.1, .int ths1, .int r_9.2.2.2.2.2.2.2.2.2.2.1, .int r_9.2.2.2.2.2.2.2.2.2.2.2.1, .int r_3.2.2.2.2.2.2.1, .int rdb1, .int wdb1])), (ma1, .inl (cI, 8, .inl r_9.2.2.2.2.2.2.2.2.2.2.2.2))] H := hP
      have hD : va_D A [(g, .inr (1, [.ref cl, .ref t0, .ref t1, .int nx, .int tn])), (cl, .inr (0, [.ref st, .ref mk, .long r_9.1, .long r_9.2.1, .long r_9.2.2.1])), (st, .inl (cI, 82, .inl r_5.1)), (mk, .inl (cI, 82, .inl r_5.2.1)), (t0, .inr (5, [.ref ma0, .int r_9.2.2.2.1, .int r_9.2.2.2.2.1, .int ths0, .int r_9.2.2.2.2.2.1, .int r_9.2.2.2.2.2.2.1, .int r_3.2.2.1, .int rdb0, .int wdb0])), (ma0, .inl (cI, 8, .inl r_9.2.2.2.2.2.2.2.1)), (t1, .inr (5, [.ref ma1, .int r_9.2.2.2.2.2.2.2.2.1, .int r_9.2.2.2.2.2.2.2.2.2.1, .int ths1, .int r_9.2.2.2.2.2.2.2.2.2.2.1, .int r_9.2.2.2.2.2.2.2.2.2.2.2.1, .int r_3.2.2.2.2.2.2.1, .int rdb1, .int wdb1])), (ma1, .inl (cI, 8, .inl r_9.2.2.2.2.2.2.2.2.2.2.2.2))] := hD
      refine lv_aload_n hx hb dX1_snipJoint_47 rfl (lv_at hl 1 rfl) ?_
      obtain ⟨r_10, hr_10⟩ : ∃ z, z = F_Game_endTurn nx tn := ⟨_, rfl⟩
      rw [bnd_e hr_10] at hres
      refine wr_callv (w1 := [(g, .inr (1, [.ref cl, .ref t0, .ref t1, .int r_10.1, .int r_10.2]))]) (is := [0]) (va_runV (As := []) (rest := []) ⟨hx, hb, hml, hown, hts⟩ (c_Game_endTurn l dC dI cI cC cG cZ g cl t0 t1 nx tn  r_10 hr_10) (cwV 0 hts gX1_snipJoint_X1_endTurn rfl rfl rfl (by decide +kernel) ⟨Nat.le_of_ble_eq_true rfl, Nat.le_of_ble_eq_true rfl⟩) (wr_preV (hP.sub (ws' := [(g, .inr (1, [.ref cl, .ref t0, .ref t1, .int nx, .int tn]))]) [0] rfl) hK (hD.sub (ws' := [(g, .inr (1, [.ref cl, .ref t0, .ref t1, .int nx, .int tn]))]) [0] (by decide) rfl) (ci := 1) (q0 := 0) rfl rfl) rfl rfl hl.1 rfl (lv_room (Nat.le_of_ble_eq_true rfl)) dX1_snipJoint_48 ⟨Nat.zero_le _, Nat.zero_le _⟩) hP hD hS rfl rfl rfl (fun H locs hP hD hS => ?_)
      have hP : va_P (dC, dI) vwCl [(g, .inr (1, [.ref cl, .ref t0, .ref t1, .int r_10.1, .int r_10.2])), (cl, .inr (0, [.ref st, .ref mk, .long r_9.1, .long r_9.2.1, .long r_9.2.2.1])), (st, .inl (cI, 82, .inl r_5.1)), (mk, .inl (cI, 82, .inl r_5.2.1)), (t0, .inr (5, [.ref ma0, .int r_9.2.2.2.1, .int r_9.2.2.2.2.1, .int ths0, .int r_9.2.2.2.2.2.1, .int r_9.2.2.2.2.2.2.1, .int r_3.2.2.1, .int rdb0, .int wdb0])), (ma0, .inl (cI, 8, .inl r_9.2.2.2.2.2.2.2.1)), (t1, .inr (5, [.ref ma1, .int r_9.2.2.2.2.2.2.2.2.1, .int r_9.2.2.2.2.2.2.2.2.2.1, .int ths1, .int r_9.2.2.2.2.2.2.2.2.2.2.1, .int r_9.2.2.2.2.2.2.2.2.2.2.2.1, .int r_3.2.2.2.2.2.2.1, .int rdb1, .int wdb1])), (ma1, .inl (cI, 8, .inl r_9.2.2.2.2.2.2.2.2.2.2.2.2))] H := hP
      have hD : va_D A [(g, .inr (1, [.ref cl, .ref t0, .ref t1, .int r_10.1, .int r_10.2])), (cl, .inr (0, [.ref st, .ref mk, .long r_9.1, .long r_9.2.1, .long r_9.2.2.1])), (st, .inl (cI, 82, .inl r_5.1)), (mk, .inl (cI, 82, .inl r_5.2.1)), (t0, .inr (5, [.ref ma0, .int r_9.2.2.2.1, .int r_9.2.2.2.2.1, .int ths0, .int r_9.2.2.2.2.2.1, .int r_9.2.2.2.2.2.2.1, .int r_3.2.2.1, .int rdb0, .int wdb0])), (ma0, .inl (cI, 8, .inl r_9.2.2.2.2.2.2.2.1)), (t1, .inr (5, [.ref ma1, .int r_9.2.2.2.2.2.2.2.2.1, .int r_9.2.2.2.2.2.2.2.2.2.1, .int ths1, .int r_9.2.2.2.2.2.2.2.2.2.2.1, .int r_9.2.2.2.2.2.2.2.2.2.2.2.1, .int r_3.2.2.2.2.2.2.1, .int rdb1, .int wdb1])), (ma1, .inl (cI, 8, .inl r_9.2.2.2.2.2.2.2.2.2.2.2.2))] := hD
      refine lv_lload_n hx hb dX1_snipJoint_51 rfl (lv_at hl 0 rfl) ?_
      obtain ⟨r_11, hr_11⟩ : ∃ z, z = F_Long_bitCount r_4 := ⟨_, rfl⟩
      rw [bnd_e hr_11] at hres
      refine ro_calli (va_runS (As := [.long r_4]) (rest := []) ⟨hx, hb, hml, hown, hts⟩ (c_Long_bitCount l dC dI cI cC cG cZ  r_4  r_11 hr_11) (va_cwS 1 hts gX1_snipJoint_J13_bitCount_95d88 rfl rfl rfl (by decide +kernel) ⟨Nat.le_of_ble_eq_true rfl, Nat.le_of_ble_eq_true rfl⟩) (ro_preS (hP.sub (ws' := []) [] rfl) hK) rfl rfl hl.1 rfl (lv_room (Nat.le_of_ble_eq_true rfl)) dX1_snipJoint_52 ⟨Nat.zero_le _, Nat.zero_le _⟩) hP hS (fun H locs hP hS => ?_)
      subst hres
      exact W.iret (v := r_11) hx hb hr (fun t ht hW => ⟨⟨r_11, (), rfl, rfl, (by show va_P _ _ _ t.heap; rw [ht]; exact hP)⟩, hS.F ht⟩) hS.2.2 dX1_snipJoint_55
  · rw [if_neg c_2] at hres
    refine lv_bipush (v := (-5)) hx hb dX1_snipJoint_8 (by decide) ?_
    subst hres
    exact W.iret (v := (-5)) hx hb hr (fun t ht hW => ⟨⟨(-5), (), rfl, rfl, (by show va_P _ _ _ t.heap; rw [ht]; exact hP)⟩, hS.F ht⟩) hS.2.2 dX1_snipJoint_10
theorem iX1_obey_X1 : ∀ w ∈ u_ws RX1 TX1 5, w ∈ wsX1_obey := by decide +kernel
theorem kX1_obey_12 : Cond.fieldLink RX1 12 "TailorChalks$Game" "cloth" "LTailorChalks$Cloth;" ∈ wsX1_obey := by decide +kernel
def F_Game_obey (order : Int32) (joint : Int32) (nx : Int32) (tn : Int32) (gn : Int64) (ac : Int64) (dn : Int64) (fs : Nat → Int32) (fm : Nat → Int32) (mks0 : Int32) (pts0 : Int32) (ths0 : Int32) (rgs0 : Int32) (rgc0 : Int32) (fnd0 : Int32) (rdb0 : Int32) (wdb0 : Int32) (fma0 : Nat → Int32) (mks1 : Int32) (pts1 : Int32) (ths1 : Int32) (rgs1 : Int32) (rgc1 : Int32) (fnd1 : Int32) (rdb1 : Int32) (wdb1 : Int32) (fma1 : Nat → Int32) : Int32 × Int32 × Int32 × Int64 × Int64 × Int64 × (Nat → Int32) × (Nat → Int32) × Int32 × Int32 × Int32 × Int32 × Int32 × Int32 × Int32 × Int32 × (Nat → Int32) × Int32 × Int32 × Int32 × Int32 × Int32 × Int32 × Int32 × Int32 × (Nat → Int32) := (if order = 112 then (bnd (F_Game_passOn nx tn gn) (fun r_18 => (r_18.1, r_18.2.1, r_18.2.2, gn, ac, dn, fs, fm, mks0, pts0, ths0, rgs0, rgc0, fnd0, rdb0, wdb0, fma0, mks1, pts1, ths1, rgs1, rgc1, fnd1, rdb1, wdb1, fma1))) else (bnd (F_Cloth_isJoint joint) (fun r_2 => (if r_2 = 0 then ((-1), nx, tn, gn, ac, dn, fs, fm, mks0, pts0, ths0, rgs0, rgc0, fnd0, rdb0, wdb0, fma0, mks1, pts1, ths1, rgs1, rgc1, fnd1, rdb1, wdb1, fma1) else (bnd (F_Game_isOver tn gn) (fun r_4 => (if r_4 = 0 then (bnd (F_Cloth_isVoid joint gn) (fun r_6 => (if r_6 = 0 then (if order = 98 then (bnd (F_Game_bluffJoint joint nx tn gn ac dn fs fm) (fun r_9 => (r_9.1, r_9.2.1, r_9.2.2.1, gn, r_9.2.2.2.1, r_9.2.2.2.2.1, r_9.2.2.2.2.2.1, r_9.2.2.2.2.2.2, mks0, pts0, ths0, rgs0, rgc0, fnd0, rdb0, wdb0, fma0, mks1, pts1, ths1, rgs1, rgc1, fnd1, rdb1, wdb1, fma1))) else (if order = 99 then (bnd (F_Game_markJoint joint nx tn ac dn mks0 fma0 mks1 fma1) (fun r_11 => (r_11.1, r_11.2.1, r_11.2.2.1, gn, ac, dn, fs, fm, r_11.2.2.2.1, pts0, ths0, rgs0, rgc0, fnd0, rdb0, wdb0, r_11.2.2.2.2.1, r_11.2.2.2.2.2.1, pts1, ths1, rgs1, rgc1, fnd1, rdb1, wdb1, r_11.2.2.2.2.2.2))) else (if order = 100 then (bnd (F_Game_doubtJoint joint nx tn ac dn fs fm pts0 rdb0 wdb0 pts1 rdb1 wdb1) (fun r_13 => (r_13.1, r_13.2.1, r_13.2.2.1, gn, r_13.2.2.2.1, r_13.2.2.2.2.1, r_13.2.2.2.2.2.1, r_13.2.2.2.2.2.2.1, mks0, r_13.2.2.2.2.2.2.2.1, ths0, rgs0, rgc0, fnd0, r_13.2.2.2.2.2.2.2.2.1, r_13.2.2.2.2.2.2.2.2.2.1, fma0, mks1, r_13.2.2.2.2.2.2.2.2.2.2.1, ths1, rgs1, rgc1, fnd1, r_13.2.2.2.2.2.2.2.2.2.2.2.1, r_13.2.2.2.2.2.2.2.2.2.2.2.2, fma1))) else (if order = 115 then (bnd (F_Game_snipJoint joint nx tn gn ac dn fs fm mks0 pts0 rgs0 rgc0 fnd0 fma0 mks1 pts1 rgs1 rgc1 fnd1 fma1) (fun r_15 => (r_15.1, r_15.2.1, r_15.2.2.1, r_15.2.2.2.1, r_15.2.2.2.2.1, r_15.2.2.2.2.2.1, r_15.2.2.2.2.2.2.1, r_15.2.2.2.2.2.2.2.1, r_15.2.2.2.2.2.2.2.2.1, r_15.2.2.2.2.2.2.2.2.2.1, ths0, r_15.2.2.2.2.2.2.2.2.2.2.1, r_15.2.2.2.2.2.2.2.2.2.2.2.1, r_15.2.2.2.2.2.2.2.2.2.2.2.2.1, rdb0, wdb0, r_15.2.2.2.2.2.2.2.2.2.2.2.2.2.1, r_15.2.2.2.2.2.2.2.2.2.2.2.2.2.2.1, r_15.2.2.2.2.2.2.2.2.2.2.2.2.2.2.2.1, ths1, r_15.2.2.2.2.2.2.2.2.2.2.2.2.2.2.2.2.1, r_15.2.2.2.2.2.2.2.2.2.2.2.2.2.2.2.2.2.1, r_15.2.2.2.2.2.2.2.2.2.2.2.2.2.2.2.2.2.2.1, rdb1, wdb1, r_15.2.2.2.2.2.2.2.2.2.2.2.2.2.2.2.2.2.2.2))) else (if order = 119 then (bnd (F_Game_sewJoint joint nx tn ac dn fs fm ths0 ths1) (fun r_17 => (r_17.1, r_17.2.1, r_17.2.2.1, gn, r_17.2.2.2.1, r_17.2.2.2.2.1, r_17.2.2.2.2.2.1, r_17.2.2.2.2.2.2.1, mks0, pts0, r_17.2.2.2.2.2.2.2.1, rgs0, rgc0, fnd0, rdb0, wdb0, fma0, mks1, pts1, r_17.2.2.2.2.2.2.2.2, rgs1, rgc1, fnd1, rdb1, wdb1, fma1))) else ((-5), nx, tn, gn, ac, dn, fs, fm, mks0, pts0, ths0, rgs0, rgc0, fnd0, rdb0, wdb0, fma0, mks1, pts1, ths1, rgs1, rgc1, fnd1, rdb1, wdb1, fma1)))))) else ((-5), nx, tn, gn, ac, dn, fs, fm, mks0, pts0, ths0, rgs0, rgc0, fnd0, rdb0, wdb0, fma0, mks1, pts1, ths1, rgs1, rgc1, fnd1, rdb1, wdb1, fma1)))) else ((-5), nx, tn, gn, ac, dn, fs, fm, mks0, pts0, ths0, rgs0, rgc0, fnd0, rdb0, wdb0, fma0, mks1, pts1, ths1, rgs1, rgc1, fnd1, rdb1, wdb1, fma1))))))))
set_option maxHeartbeats 4000000 in
set_option maxRecDepth 100000 in
theorem c_Game_obey (l : Launch) (dC : Nat → ClassId) (dI : Nat → Nat → Nat) (cI cC cG cZ : ClassId) (g cl t0 t1 st mk ma0 ma1 : Nat) (order : Int32) (joint : Int32) (nx : Int32) (tn : Int32) (gn : Int64) (ac : Int64) (dn : Int64) (fs : Nat → Int32) (fm : Nat → Int32) (mks0 : Int32) (pts0 : Int32) (ths0 : Int32) (rgs0 : Int32) (rgc0 : Int32) (fnd0 : Int32) (rdb0 : Int32) (wdb0 : Int32) (fma0 : Nat → Int32) (mks1 : Int32) (pts1 : Int32) (ths1 : Int32) (rgs1 : Int32) (rgc1 : Int32) (fnd1 : Int32) (rdb1 : Int32) (wdb1 : Int32) (fma1 : Nat → Int32) (hM0 : tm_ok 8 mks0) (hM1 : tm_ok 8 mks1) (res : Int32 × Int32 × Int32 × Int64 × Int64 × Int64 × (Nat → Int32) × (Nat → Int32) × Int32 × Int32 × Int32 × Int32 × Int32 × Int32 × Int32 × Int32 × (Nat → Int32) × Int32 × Int32 × Int32 × Int32 × Int32 × Int32 × Int32 × Int32 × (Nat → Int32)) (hres : res = F_Game_obey order joint nx tn gn ac dn fs fm mks0 pts0 ths0 rgs0 rgc0 fnd0 rdb0 wdb0 fma0 mks1 pts1 ths1 rgs1 rgc1 fnd1 rdb1 wdb1 fma1) : Met l yX1_obey wsX1_obey ({ frames := 5, cells := 0, slots := 0, locals := 105 }) (va_Pc [.ref g, .int order, .int joint] (wr_P (dC, dI) vwCl (tyL cI cC cG cZ) [(g, .inr (1, [.ref cl, .ref t0, .ref t1, .int nx, .int tn])), (cl, .inr (0, [.ref st, .ref mk, .long gn, .long ac, .long dn])), (st, .inl (cI, 82, .inl fs)), (mk, .inl (cI, 82, .inl fm)), (t0, .inr (5, [.ref ma0, .int mks0, .int pts0, .int ths0, .int rgs0, .int rgc0, .int fnd0, .int rdb0, .int wdb0])), (ma0, .inl (cI, 8, .inl fma0)), (t1, .inr (5, [.ref ma1, .int mks1, .int pts1, .int ths1, .int rgs1, .int rgc1, .int fnd1, .int rdb1, .int wdb1])), (ma1, .inl (cI, 8, .inl fma1))])) (va_Qi (fun r (_ : Unit) => r = res.1) (fun _ zt => va_P (dC, dI) vwCl [(g, .inr (1, [.ref cl, .ref t0, .ref t1, .int res.2.1, .int res.2.2.1])), (cl, .inr (0, [.ref st, .ref mk, .long res.2.2.2.1, .long res.2.2.2.2.1, .long res.2.2.2.2.2.1])), (st, .inl (cI, 82, .inl res.2.2.2.2.2.2.1)), (mk, .inl (cI, 82, .inl res.2.2.2.2.2.2.2.1)), (t0, .inr (5, [.ref ma0, .int res.2.2.2.2.2.2.2.2.1, .int res.2.2.2.2.2.2.2.2.2.1, .int res.2.2.2.2.2.2.2.2.2.2.1, .int res.2.2.2.2.2.2.2.2.2.2.2.1, .int res.2.2.2.2.2.2.2.2.2.2.2.2.1, .int res.2.2.2.2.2.2.2.2.2.2.2.2.2.1, .int res.2.2.2.2.2.2.2.2.2.2.2.2.2.2.1, .int res.2.2.2.2.2.2.2.2.2.2.2.2.2.2.2.1])), (ma0, .inl (cI, 8, .inl res.2.2.2.2.2.2.2.2.2.2.2.2.2.2.2.2.1)), (t1, .inr (5, [.ref ma1, .int res.2.2.2.2.2.2.2.2.2.2.2.2.2.2.2.2.2.1, .int res.2.2.2.2.2.2.2.2.2.2.2.2.2.2.2.2.2.2.1, .int res.2.2.2.2.2.2.2.2.2.2.2.2.2.2.2.2.2.2.2.1, .int res.2.2.2.2.2.2.2.2.2.2.2.2.2.2.2.2.2.2.2.2.1, .int res.2.2.2.2.2.2.2.2.2.2.2.2.2.2.2.2.2.2.2.2.2.1, .int res.2.2.2.2.2.2.2.2.2.2.2.2.2.2.2.2.2.2.2.2.2.2.1, .int res.2.2.2.2.2.2.2.2.2.2.2.2.2.2.2.2.2.2.2.2.2.2.2.1, .int res.2.2.2.2.2.2.2.2.2.2.2.2.2.2.2.2.2.2.2.2.2.2.2.2.1])), (ma1, .inl (cI, 8, .inl res.2.2.2.2.2.2.2.2.2.2.2.2.2.2.2.2.2.2.2.2.2.2.2.2.2))] zt.heap) (wr_A [(g, .inr (1, [.ref cl, .ref t0, .ref t1, .int nx, .int tn])), (cl, .inr (0, [.ref st, .ref mk, .long gn, .long ac, .long dn])), (st, .inl (cI, 82, .inl fs)), (mk, .inl (cI, 82, .inl fm)), (t0, .inr (5, [.ref ma0, .int mks0, .int pts0, .int ths0, .int rgs0, .int rgc0, .int fnd0, .int rdb0, .int wdb0])), (ma0, .inl (cI, 8, .inl fma0)), (t1, .inr (5, [.ref ma1, .int mks1, .int pts1, .int ths1, .int rgs1, .int rgc1, .int fnd1, .int rdb1, .int wdb1])), (ma1, .inl (cI, 8, .inl fma1))])) 0 0 (wr_A [(g, .inr (1, [.ref cl, .ref t0, .ref t1, .int nx, .int tn])), (cl, .inr (0, [.ref st, .ref mk, .long gn, .long ac, .long dn])), (st, .inl (cI, 82, .inl fs)), (mk, .inl (cI, 82, .inl fm)), (t0, .inr (5, [.ref ma0, .int mks0, .int pts0, .int ths0, .int rgs0, .int rgc0, .int fnd0, .int rdb0, .int wdb0])), (ma0, .inl (cI, 8, .inl fma0)), (t1, .inr (5, [.ref ma1, .int mks1, .int pts1, .int ths1, .int rgs1, .int rgc1, .int fnd1, .int rdb1, .int wdb1])), (ma1, .inl (cI, 8, .inl fma1))]) := by
  refine Met.ofW (cc := cX1_obey) (maxL := 3) (ret := (some .int)) (by decide) rfl ?_
  intro p e s m args below meth c s₁ B hml hv
  obtain ⟨rfl, hP, hK, hD0⟩ := hv
  have hx := B.exec
  have hb := B.bytes
  have hr := B.returns
  have hts := atoms_spec (ws := wsX1_obey) B.pre
  have hown : s.vm.findClass RX1 = some m.cls := findClass_of_methodNamed B.named
  have hlocks := B.notSynchronized
  have hD := wr_self hD0
  generalize hAe : wr_A [(g, .inr (1, [.ref cl, .ref t0, .ref t1, .int nx, .int tn])), (cl, .inr (0, [.ref st, .ref mk, .long gn, .long ac, .long dn])), (st, .inl (cI, 82, .inl fs)), (mk, .inl (cI, 82, .inl fm)), (t0, .inr (5, [.ref ma0, .int mks0, .int pts0, .int ths0, .int rgs0, .int rgc0, .int fnd0, .int rdb0, .int wdb0])), (ma0, .inl (cI, 8, .inl fma0)), (t1, .inr (5, [.ref ma1, .int mks1, .int pts1, .int ths1, .int rgs1, .int rgc1, .int fnd1, .int rdb1, .int wdb1])), (ma1, .inl (cI, 8, .inl fma1))] = A at hD ⊢
  have hS : va_S A s.heap s.heap [] := va_S.rf
  have hP : va_P (dC, dI) vwCl [(g, .inr (1, [.ref cl, .ref t0, .ref t1, .int nx, .int tn])), (cl, .inr (0, [.ref st, .ref mk, .long gn, .long ac, .long dn])), (st, .inl (cI, 82, .inl fs)), (mk, .inl (cI, 82, .inl fm)), (t0, .inr (5, [.ref ma0, .int mks0, .int pts0, .int ths0, .int rgs0, .int rgc0, .int fnd0, .int rdb0, .int wdb0])), (ma0, .inl (cI, 8, .inl fma0)), (t1, .inr (5, [.ref ma1, .int mks1, .int pts1, .int ths1, .int rgs1, .int rgc1, .int fnd1, .int rdb1, .int wdb1])), (ma1, .inl (cI, 8, .inl fma1))] s.heap := hP
  have hl := lv_entry ([.ref g, .int order, .int joint]) (n := 3) (Nat.le_of_ble_eq_true rfl)
  rw [lg_entry_eq]
  generalize (lg_sl ([.ref g, .int order, .int joint]) ++ List.replicate (3 - (lg_sl ([.ref g, .int order, .int joint])).length) Slot.unset).toArray = ls at hl ⊢
  have hl : lv_has ls 3 [(0, .ref g), (1, .int order), (2, .int joint)] := hl
  rw [F_Game_obey] at hres
  refine lv_iload_n hx hb dX1_obey_0 rfl (lv_at hl 1 rfl) ?_
  refine lv_bipush (v := 112) hx hb dX1_obey_1 (by decide) ?_
  refine lv_icmp_ne (tgt := 11) hx hb dX1_obey_3 (by decide) (fun c_1 => ?_) (fun c_1 => ?_)
  · rw [if_neg c_1] at hres
    refine lv_iload_n hx hb dX1_obey_11 rfl (lv_at hl 2 rfl) ?_
    obtain ⟨r_2, hr_2⟩ : ∃ z, z = F_Cloth_isJoint joint := ⟨_, rfl⟩
    rw [bnd_e hr_2] at hres
    refine ro_calli (va_runS (As := [.int joint]) (rest := []) ⟨hx, hb, hml, hown, hts⟩ (c_Cloth_isJoint l dC dI cI cC cG cZ  joint  r_2 hr_2) (va_cwS 1 hts gX1_obey_X0_isJoint rfl rfl rfl (by decide +kernel) ⟨Nat.le_of_ble_eq_true rfl, Nat.le_of_ble_eq_true rfl⟩) (ro_preS (hP.sub (ws' := []) [] rfl) hK) rfl rfl hl.1 rfl (lv_room (Nat.le_of_ble_eq_true rfl)) dX1_obey_12 ⟨Nat.zero_le _, Nat.zero_le _⟩) hP hS (fun H locs hP hS => ?_)
    refine lv_if_ne (tgt := 20) hx hb dX1_obey_15 (by decide) (fun c_3 => ?_) (fun c_3 => ?_)
    · rw [if_neg c_3] at hres
      refine lv_aload_n hx hb dX1_obey_20 rfl (lv_at hl 0 rfl) ?_
      obtain ⟨r_4, hr_4⟩ : ∃ z, z = F_Game_isOver tn gn := ⟨_, rfl⟩
      rw [bnd_e hr_4] at hres
      refine ro_calli (va_runV (As := []) (rest := []) ⟨hx, hb, hml, hown, hts⟩ (c_Game_isOver l dC dI cI cC cG cZ g cl t0 t1 st mk nx tn gn ac dn  r_4 hr_4) (cwV 0 hts gX1_obey_X1_isOver rfl rfl rfl (by decide +kernel) ⟨Nat.le_of_ble_eq_true rfl, Nat.le_of_ble_eq_true rfl⟩) (ro_preV (hP.sub (ws' := [(g, .inr (1, [.ref cl, .ref t0, .ref t1, .int nx, .int tn])), (cl, .inr (0, [.ref st, .ref mk, .long gn, .long ac, .long dn]))]) [0, 1] rfl) hK (ci := 1) (q0 := 0) rfl rfl) rfl rfl hl.1 rfl (lv_room (Nat.le_of_ble_eq_true rfl)) dX1_obey_21 ⟨Nat.zero_le _, Nat.zero_le _⟩) hP hS (fun H locs hP hS => ?_)
      refine lv_if_ne (tgt := 38) hx hb dX1_obey_24 (by decide) (fun c_5 => ?_) (fun c_5 => ?_)
      · rw [if_neg c_5] at hres
        refine lv_bipush (v := (-5)) hx hb dX1_obey_38 (by decide) ?_
        subst hres
        exact W.iret (v := (-5)) hx hb hr (fun t ht hW => ⟨⟨(-5), (), rfl, rfl, (by show va_P _ _ _ t.heap; rw [ht]; exact hP)⟩, hS.F ht⟩) hS.2.2 dX1_obey_40
      · rw [if_pos c_5] at hres
        refine lv_aload_n hx hb dX1_obey_27 rfl (lv_at hl 0 rfl) ?_
        refine va_get (D := (dC, dI)) (ci := 1) (v := .ref cl) (C := RX1) (T := TX1) (N := 5) hx hb hts iX1_obey_X1 hown hK hP 0 rfl rfl 0 (by decide) (hts (.fieldLink RX1 12 "TailorChalks$Game" "cloth" "LTailorChalks$Cloth;") kX1_obey_12) (fun _ h9 => h9) rfl dX1_obey_28 ?_
        refine lv_iload_n hx hb dX1_obey_31 rfl (lv_at hl 2 rfl) ?_
        obtain ⟨r_6, hr_6⟩ : ∃ z, z = F_Cloth_isVoid joint gn := ⟨_, rfl⟩
        rw [bnd_e hr_6] at hres
        refine ro_calli (va_runV (As := [.int joint]) (rest := []) ⟨hx, hb, hml, hown, hts⟩ (c_Cloth_isVoid l dC dI cI cC cG cZ cl st mk joint gn ac dn  r_6 hr_6) (cwV 1 hts gX1_obey_X0_isVoid rfl rfl rfl (by decide +kernel) ⟨Nat.le_of_ble_eq_true rfl, Nat.le_of_ble_eq_true rfl⟩) (ro_preV (hP.sub (ws' := [(cl, .inr (0, [.ref st, .ref mk, .long gn, .long ac, .long dn]))]) [1] rfl) hK (ci := 0) (q0 := 0) rfl rfl) rfl rfl hl.1 rfl (lv_room (Nat.le_of_ble_eq_true rfl)) dX1_obey_32 ⟨Nat.zero_le _, Nat.zero_le _⟩) hP hS (fun H locs hP hS => ?_)
        refine lv_if_eq (tgt := 41) hx hb dX1_obey_35 (by decide) (fun c_7 => ?_) (fun c_7 => ?_)
        · rw [if_pos c_7] at hres
          refine lv_iload_n hx hb dX1_obey_41 rfl (lv_at hl 1 rfl) ?_
          by_cases c_8 : order = 98
          · rw [if_pos c_8] at hres
            refine lv_lookup (off := 68) (tgt := 110) hx hb dX1_obey_42 (by decide) (by rw [c_8]; rfl) (by decide) ?_
            refine lv_aload_n hx hb dX1_obey_110 rfl (lv_at hl 0 rfl) ?_
            refine lv_iload_n hx hb dX1_obey_111 rfl (lv_at hl 2 rfl) ?_
            obtain ⟨r_9, hr_9⟩ : ∃ z, z = F_Game_bluffJoint joint nx tn gn ac dn fs fm := ⟨_, rfl⟩
            rw [bnd_e hr_9] at hres
            refine wr_calli (w1 := [(g, .inr (1, [.ref cl, .ref t0, .ref t1, .int r_9.2.1, .int r_9.2.2.1])), (cl, .inr (0, [.ref st, .ref mk, .long gn, .long r_9.2.2.2.1, .long r_9.2.2.2.2.1])), (st, .inl (cI, 82, .inl r_9.2.2.2.2.2.1)), (mk, .inl (cI, 82, .inl r_9.2.2.2.2.2.2))]) (is := [0, 1, 2, 3]) (va_runV (As := [.int joint]) (rest := []) ⟨hx, hb, hml, hown, hts⟩ (c_Game_bluffJoint l dC dI cI cC cG cZ g cl t0 t1 st mk joint nx tn gn ac dn fs fm  r_9 hr_9) (cwV 1 hts gX1_obey_X1_bluffJoint rfl rfl rfl (by decide +kernel) ⟨Nat.le_of_ble_eq_true rfl, Nat.le_of_ble_eq_true rfl⟩) (wr_preV (hP.sub (ws' := [(g, .inr (1, [.ref cl, .ref t0, .ref t1, .int nx, .int tn])), (cl, .inr (0, [.ref st, .ref mk, .long gn, .long ac, .long dn])), (st, .inl (cI, 82, .inl fs)), (mk, .inl (cI, 82, .inl fm))]) [0, 1, 2, 3] rfl) hK (hD.sub (ws' := [(g, .inr (1, [.ref cl, .ref t0, .ref t1, .int nx, .int tn])), (cl, .inr (0, [.ref st, .ref mk, .long gn, .long ac, .long dn])), (st, .inl (cI, 82, .inl fs)), (mk, .inl (cI, 82, .inl fm))]) [0, 1, 2, 3] (by decide) rfl) (ci := 1) (q0 := 0) rfl rfl) rfl rfl hl.1 rfl (lv_room (Nat.le_of_ble_eq_true rfl)) dX1_obey_112 ⟨Nat.zero_le _, Nat.zero_le _⟩) hP hD hS rfl rfl rfl (fun H locs hP hD hS => ?_)
            have hP : va_P (dC, dI) vwCl [(g, .inr (1, [.ref cl, .ref t0, .ref t1, .int r_9.2.1, .int r_9.2.2.1])), (cl, .inr (0, [.ref st, .ref mk, .long gn, .long r_9.2.2.2.1, .long r_9.2.2.2.2.1])), (st, .inl (cI, 82, .inl r_9.2.2.2.2.2.1)), (mk, .inl (cI, 82, .inl r_9.2.2.2.2.2.2)), (t0, .inr (5, [.ref ma0, .int mks0, .int pts0, .int ths0, .int rgs0, .int rgc0, .int fnd0, .int rdb0, .int wdb0])), (ma0, .inl (cI, 8, .inl fma0)), (t1, .inr (5, [.ref ma1, .int mks1, .int pts1, .int ths1, .int rgs1, .int rgc1, .int fnd1, .int rdb1, .int wdb1])), (ma1, .inl (cI, 8, .inl fma1))] H := hP
            have hD : va_D A [(g, .inr (1, [.ref cl, .ref t0, .ref t1, .int r_9.2.1, .int r_9.2.2.1])), (cl, .inr (0, [.ref st, .ref mk, .long gn, .long r_9.2.2.2.1, .long r_9.2.2.2.2.1])), (st, .inl (cI, 82, .inl r_9.2.2.2.2.2.1)), (mk, .inl (cI, 82, .inl r_9.2.2.2.2.2.2)), (t0, .inr (5, [.ref ma0, .int mks0, .int pts0, .int ths0, .int rgs0, .int rgc0, .int fnd0, .int rdb0, .int wdb0])), (ma0, .inl (cI, 8, .inl fma0)), (t1, .inr (5, [.ref ma1, .int mks1, .int pts1, .int ths1, .int rgs1, .int rgc1, .int fnd1, .int rdb1, .int wdb1])), (ma1, .inl (cI, 8, .inl fma1))] := hD
            subst hres
            exact W.iret (v := r_9.1) hx hb hr (fun t ht hW => ⟨⟨r_9.1, (), rfl, rfl, (by show va_P _ _ _ t.heap; rw [ht]; exact hP)⟩, hS.F ht⟩) hS.2.2 dX1_obey_115
          · rw [if_neg c_8] at hres
            by_cases c_10 : order = 99
            · rw [if_pos c_10] at hres
              refine lv_lookup (off := 50) (tgt := 92) hx hb dX1_obey_42 (by decide) (by rw [c_10]; rfl) (by decide) ?_
              refine lv_aload_n hx hb dX1_obey_92 rfl (lv_at hl 0 rfl) ?_
              refine lv_iload_n hx hb dX1_obey_93 rfl (lv_at hl 2 rfl) ?_
              obtain ⟨r_11, hr_11⟩ : ∃ z, z = F_Game_markJoint joint nx tn ac dn mks0 fma0 mks1 fma1 := ⟨_, rfl⟩
              rw [bnd_e hr_11] at hres
              refine wr_calli (w1 := [(g, .inr (1, [.ref cl, .ref t0, .ref t1, .int r_11.2.1, .int r_11.2.2.1])), (cl, .inr (0, [.ref st, .ref mk, .long gn, .long ac, .long dn])), (t0, .inr (5, [.ref ma0, .int r_11.2.2.2.1, .int pts0, .int ths0, .int rgs0, .int rgc0, .int fnd0, .int rdb0, .int wdb0])), (ma0, .inl (cI, 8, .inl r_11.2.2.2.2.1)), (t1, .inr (5, [.ref ma1, .int r_11.2.2.2.2.2.1, .int pts1, .int ths1, .int rgs1, .int rgc1, .int fnd1, .int rdb1, .int wdb1])), (ma1, .inl (cI, 8, .inl r_11.2.2.2.2.2.2))]) (is := [0, 1, 4, 5, 6, 7]) (va_runV (As := [.int joint]) (rest := []) ⟨hx, hb, hml, hown, hts⟩ (c_Game_markJoint l dC dI cI cC cG cZ g cl t0 t1 st mk ma0 ma1 joint nx tn gn ac dn mks0 pts0 ths0 rgs0 rgc0 fnd0 rdb0 wdb0 fma0 mks1 pts1 ths1 rgs1 rgc1 fnd1 rdb1 wdb1 fma1 hM0 hM1 r_11 hr_11) (cwV 1 hts gX1_obey_X1_markJoint rfl rfl rfl (by decide +kernel) ⟨Nat.le_of_ble_eq_true rfl, Nat.le_of_ble_eq_true rfl⟩) (wr_preV (hP.sub (ws' := [(g, .inr (1, [.ref cl, .ref t0, .ref t1, .int nx, .int tn])), (cl, .inr (0, [.ref st, .ref mk, .long gn, .long ac, .long dn])), (t0, .inr (5, [.ref ma0, .int mks0, .int pts0, .int ths0, .int rgs0, .int rgc0, .int fnd0, .int rdb0, .int wdb0])), (ma0, .inl (cI, 8, .inl fma0)), (t1, .inr (5, [.ref ma1, .int mks1, .int pts1, .int ths1, .int rgs1, .int rgc1, .int fnd1, .int rdb1, .int wdb1])), (ma1, .inl (cI, 8, .inl fma1))]) [0, 1, 4, 5, 6, 7] rfl) hK (hD.sub (ws' := [(g, .inr (1, [.ref cl, .ref t0, .ref t1, .int nx, .int tn])), (cl, .inr (0, [.ref st, .ref mk, .long gn, .long ac, .long dn])), (t0, .inr (5, [.ref ma0, .int mks0, .int pts0, .int ths0, .int rgs0, .int rgc0, .int fnd0, .int rdb0, .int wdb0])), (ma0, .inl (cI, 8, .inl fma0)), (t1, .inr (5, [.ref ma1, .int mks1, .int pts1, .int ths1, .int rgs1, .int rgc1, .int fnd1, .int rdb1, .int wdb1])), (ma1, .inl (cI, 8, .inl fma1))]) [0, 1, 4, 5, 6, 7] (by decide) rfl) (ci := 1) (q0 := 0) rfl rfl) rfl rfl hl.1 rfl (lv_room (Nat.le_of_ble_eq_true rfl)) dX1_obey_94 ⟨Nat.zero_le _, Nat.zero_le _⟩) hP hD hS rfl rfl rfl (fun H locs hP hD hS => ?_)
              have hP : va_P (dC, dI) vwCl [(g, .inr (1, [.ref cl, .ref t0, .ref t1, .int r_11.2.1, .int r_11.2.2.1])), (cl, .inr (0, [.ref st, .ref mk, .long gn, .long ac, .long dn])), (st, .inl (cI, 82, .inl fs)), (mk, .inl (cI, 82, .inl fm)), (t0, .inr (5, [.ref ma0, .int r_11.2.2.2.1, .int pts0, .int ths0, .int rgs0, .int rgc0, .int fnd0, .int rdb0, .int wdb0])), (ma0, .inl (cI, 8, .inl r_11.2.2.2.2.1)), (t1, .inr (5, [.ref ma1, .int r_11.2.2.2.2.2.1, .int pts1, .int ths1, .int rgs1, .int rgc1, .int fnd1, .int rdb1, .int wdb1])), (ma1, .inl (cI, 8, .inl r_11.2.2.2.2.2.2))] H := hP
              have hD : va_D A [(g, .inr (1, [.ref cl, .ref t0, .ref t1, .int r_11.2.1, .int r_11.2.2.1])), (cl, .inr (0, [.ref st, .ref mk, .long gn, .long ac, .long dn])), (st, .inl (cI, 82, .inl fs)), (mk, .inl (cI, 82, .inl fm)), (t0, .inr (5, [.ref ma0, .int r_11.2.2.2.1, .int pts0, .int ths0, .int rgs0, .int rgc0, .int fnd0, .int rdb0, .int wdb0])), (ma0, .inl (cI, 8, .inl r_11.2.2.2.2.1)), (t1, .inr (5, [.ref ma1, .int r_11.2.2.2.2.2.1, .int pts1, .int ths1, .int rgs1, .int rgc1, .int fnd1, .int rdb1, .int wdb1])), (ma1, .inl (cI, 8, .inl r_11.2.2.2.2.2.2))] := hD
              subst hres
              exact W.iret (v := r_11.1) hx hb hr (fun t ht hW => ⟨⟨r_11.1, (), rfl, rfl, (by show va_P _ _ _ t.heap; rw [ht]; exact hP)⟩, hS.F ht⟩) hS.2.2 dX1_obey_97
            · rw [if_neg c_10] at hres
              by_cases c_12 : order = 100
              · rw [if_pos c_12] at hres
                refine lv_lookup (off := 74) (tgt := 116) hx hb dX1_obey_42 (by decide) (by rw [c_12]; rfl) (by decide) ?_
                refine lv_aload_n hx hb dX1_obey_116 rfl (lv_at hl 0 rfl) ?_
                refine lv_iload_n hx hb dX1_obey_117 rfl (lv_at hl 2 rfl) ?_
                obtain ⟨r_13, hr_13⟩ : ∃ z, z = F_Game_doubtJoint joint nx tn ac dn fs fm pts0 rdb0 wdb0 pts1 rdb1 wdb1 := ⟨_, rfl⟩
                rw [bnd_e hr_13] at hres
                refine wr_calli (w1 := [(g, .inr (1, [.ref cl, .ref t0, .ref t1, .int r_13.2.1, .int r_13.2.2.1])), (cl, .inr (0, [.ref st, .ref mk, .long gn, .long r_13.2.2.2.1, .long r_13.2.2.2.2.1])), (st, .inl (cI, 82, .inl r_13.2.2.2.2.2.1)), (mk, .inl (cI, 82, .inl r_13.2.2.2.2.2.2.1)), (t0, .inr (5, [.ref ma0, .int mks0, .int r_13.2.2.2.2.2.2.2.1, .int ths0, .int rgs0, .int rgc0, .int fnd0, .int r_13.2.2.2.2.2.2.2.2.1, .int r_13.2.2.2.2.2.2.2.2.2.1])), (t1, .inr (5, [.ref ma1, .int mks1, .int r_13.2.2.2.2.2.2.2.2.2.2.1, .int ths1, .int rgs1, .int rgc1, .int fnd1, .int r_13.2.2.2.2.2.2.2.2.2.2.2.1, .int r_13.2.2.2.2.2.2.2.2.2.2.2.2]))]) (is := [0, 1, 2, 3, 4, 6]) (va_runV (As := [.int joint]) (rest := []) ⟨hx, hb, hml, hown, hts⟩ (c_Game_doubtJoint l dC dI cI cC cG cZ g cl t0 t1 st mk ma0 ma1 joint nx tn gn ac dn fs fm mks0 pts0 ths0 rgs0 rgc0 fnd0 rdb0 wdb0 mks1 pts1 ths1 rgs1 rgc1 fnd1 rdb1 wdb1  r_13 hr_13) (cwV 1 hts gX1_obey_X1_doubtJoint rfl rfl rfl (by decide +kernel) ⟨Nat.le_of_ble_eq_true rfl, Nat.le_of_ble_eq_true rfl⟩) (wr_preV (hP.sub (ws' := [(g, .inr (1, [.ref cl, .ref t0, .ref t1, .int nx, .int tn])), (cl, .inr (0, [.ref st, .ref mk, .long gn, .long ac, .long dn])), (st, .inl (cI, 82, .inl fs)), (mk, .inl (cI, 82, .inl fm)), (t0, .inr (5, [.ref ma0, .int mks0, .int pts0, .int ths0, .int rgs0, .int rgc0, .int fnd0, .int rdb0, .int wdb0])), (t1, .inr (5, [.ref ma1, .int mks1, .int pts1, .int ths1, .int rgs1, .int rgc1, .int fnd1, .int rdb1, .int wdb1]))]) [0, 1, 2, 3, 4, 6] rfl) hK (hD.sub (ws' := [(g, .inr (1, [.ref cl, .ref t0, .ref t1, .int nx, .int tn])), (cl, .inr (0, [.ref st, .ref mk, .long gn, .long ac, .long dn])), (st, .inl (cI, 82, .inl fs)), (mk, .inl (cI, 82, .inl fm)), (t0, .inr (5, [.ref ma0, .int mks0, .int pts0, .int ths0, .int rgs0, .int rgc0, .int fnd0, .int rdb0, .int wdb0])), (t1, .inr (5, [.ref ma1, .int mks1, .int pts1, .int ths1, .int rgs1, .int rgc1, .int fnd1, .int rdb1, .int wdb1]))]) [0, 1, 2, 3, 4, 6] (by decide) rfl) (ci := 1) (q0 := 0) rfl rfl) rfl rfl hl.1 rfl (lv_room (Nat.le_of_ble_eq_true rfl)) dX1_obey_118 ⟨Nat.zero_le _, Nat.zero_le _⟩) hP hD hS rfl rfl rfl (fun H locs hP hD hS => ?_)
                have hP : va_P (dC, dI) vwCl [(g, .inr (1, [.ref cl, .ref t0, .ref t1, .int r_13.2.1, .int r_13.2.2.1])), (cl, .inr (0, [.ref st, .ref mk, .long gn, .long r_13.2.2.2.1, .long r_13.2.2.2.2.1])), (st, .inl (cI, 82, .inl r_13.2.2.2.2.2.1)), (mk, .inl (cI, 82, .inl r_13.2.2.2.2.2.2.1)), (t0, .inr (5, [.ref ma0, .int mks0, .int r_13.2.2.2.2.2.2.2.1, .int ths0, .int rgs0, .int rgc0, .int fnd0, .int r_13.2.2.2.2.2.2.2.2.1, .int r_13.2.2.2.2.2.2.2.2.2.1])), (ma0, .inl (cI, 8, .inl fma0)), (t1, .inr (5, [.ref ma1, .int mks1, .int r_13.2.2.2.2.2.2.2.2.2.2.1, .int ths1, .int rgs1, .int rgc1, .int fnd1, .int r_13.2.2.2.2.2.2.2.2.2.2.2.1, .int r_13.2.2.2.2.2.2.2.2.2.2.2.2])), (ma1, .inl (cI, 8, .inl fma1))] H := hP
                have hD : va_D A [(g, .inr (1, [.ref cl, .ref t0, .ref t1, .int r_13.2.1, .int r_13.2.2.1])), (cl, .inr (0, [.ref st, .ref mk, .long gn, .long r_13.2.2.2.1, .long r_13.2.2.2.2.1])), (st, .inl (cI, 82, .inl r_13.2.2.2.2.2.1)), (mk, .inl (cI, 82, .inl r_13.2.2.2.2.2.2.1)), (t0, .inr (5, [.ref ma0, .int mks0, .int r_13.2.2.2.2.2.2.2.1, .int ths0, .int rgs0, .int rgc0, .int fnd0, .int r_13.2.2.2.2.2.2.2.2.1, .int r_13.2.2.2.2.2.2.2.2.2.1])), (ma0, .inl (cI, 8, .inl fma0)), (t1, .inr (5, [.ref ma1, .int mks1, .int r_13.2.2.2.2.2.2.2.2.2.2.1, .int ths1, .int rgs1, .int rgc1, .int fnd1, .int r_13.2.2.2.2.2.2.2.2.2.2.2.1, .int r_13.2.2.2.2.2.2.2.2.2.2.2.2])), (ma1, .inl (cI, 8, .inl fma1))] := hD
                subst hres
                exact W.iret (v := r_13.1) hx hb hr (fun t ht hW => ⟨⟨r_13.1, (), rfl, rfl, (by show va_P _ _ _ t.heap; rw [ht]; exact hP)⟩, hS.F ht⟩) hS.2.2 dX1_obey_121
              · rw [if_neg c_12] at hres
                by_cases c_14 : order = 115
                · rw [if_pos c_14] at hres
                  refine lv_lookup (off := 56) (tgt := 98) hx hb dX1_obey_42 (by decide) (by rw [c_14]; rfl) (by decide) ?_
                  refine lv_aload_n hx hb dX1_obey_98 rfl (lv_at hl 0 rfl) ?_
                  refine lv_iload_n hx hb dX1_obey_99 rfl (lv_at hl 2 rfl) ?_
                  obtain ⟨r_15, hr_15⟩ : ∃ z, z = F_Game_snipJoint joint nx tn gn ac dn fs fm mks0 pts0 rgs0 rgc0 fnd0 fma0 mks1 pts1 rgs1 rgc1 fnd1 fma1 := ⟨_, rfl⟩
                  rw [bnd_e hr_15] at hres
                  refine wr_calli (w1 := [(g, .inr (1, [.ref cl, .ref t0, .ref t1, .int r_15.2.1, .int r_15.2.2.1])), (cl, .inr (0, [.ref st, .ref mk, .long r_15.2.2.2.1, .long r_15.2.2.2.2.1, .long r_15.2.2.2.2.2.1])), (st, .inl (cI, 82, .inl r_15.2.2.2.2.2.2.1)), (mk, .inl (cI, 82, .inl r_15.2.2.2.2.2.2.2.1)), (t0, .inr (5, [.ref ma0, .int r_15.2.2.2.2.2.2.2.2.1, .int r_15.2.2.2.2.2.2.2.2.2.1, .int ths0, .int r_15.2.2.2.2.2.2.2.2.2.2.1, .int r_15.2.2.2.2.2.2.2.2.2.2.2.1, .int r_15.2.2.2.2.2.2.2.2.2.2.2.2.1, .int rdb0, .int wdb0])), (ma0, .inl (cI, 8, .inl r_15.2.2.2.2.2.2.2.2.2.2.2.2.2.1)), (t1, .inr (5, [.ref ma1, .int r_15.2.2.2.2.2.2.2.2.2.2.2.2.2.2.1, .int r_15.2.2.2.2.2.2.2.2.2.2.2.2.2.2.2.1, .int ths1, .int r_15.2.2.2.2.2.2.2.2.2.2.2.2.2.2.2.2.1, .int r_15.2.2.2.2.2.2.2.2.2.2.2.2.2.2.2.2.2.1, .int r_15.2.2.2.2.2.2.2.2.2.2.2.2.2.2.2.2.2.2.1, .int rdb1, .int wdb1])), (ma1, .inl (cI, 8, .inl r_15.2.2.2.2.2.2.2.2.2.2.2.2.2.2.2.2.2.2.2))]) (is := [0, 1, 2, 3, 4, 5, 6, 7]) (va_runV (As := [.int joint]) (rest := []) ⟨hx, hb, hml, hown, hts⟩ (c_Game_snipJoint l dC dI cI cC cG cZ g cl t0 t1 st mk ma0 ma1 joint nx tn gn ac dn fs fm mks0 pts0 ths0 rgs0 rgc0 fnd0 rdb0 wdb0 fma0 mks1 pts1 ths1 rgs1 rgc1 fnd1 rdb1 wdb1 fma1 hM0 hM1 r_15 hr_15) (cwV 1 hts gX1_obey_X1_snipJoint rfl rfl rfl (by decide +kernel) ⟨Nat.le_of_ble_eq_true rfl, Nat.le_of_ble_eq_true rfl⟩) (wr_preV (hP.sub (ws' := [(g, .inr (1, [.ref cl, .ref t0, .ref t1, .int nx, .int tn])), (cl, .inr (0, [.ref st, .ref mk, .long gn, .long ac, .long dn])), (st, .inl (cI, 82, .inl fs)), (mk, .inl (cI, 82, .inl fm)), (t0, .inr (5, [.ref ma0, .int mks0, .int pts0, .int ths0, .int rgs0, .int rgc0, .int fnd0, .int rdb0, .int wdb0])), (ma0, .inl (cI, 8, .inl fma0)), (t1, .inr (5, [.ref ma1, .int mks1, .int pts1, .int ths1, .int rgs1, .int rgc1, .int fnd1, .int rdb1, .int wdb1])), (ma1, .inl (cI, 8, .inl fma1))]) [0, 1, 2, 3, 4, 5, 6, 7] rfl) hK (hD.sub (ws' := [(g, .inr (1, [.ref cl, .ref t0, .ref t1, .int nx, .int tn])), (cl, .inr (0, [.ref st, .ref mk, .long gn, .long ac, .long dn])), (st, .inl (cI, 82, .inl fs)), (mk, .inl (cI, 82, .inl fm)), (t0, .inr (5, [.ref ma0, .int mks0, .int pts0, .int ths0, .int rgs0, .int rgc0, .int fnd0, .int rdb0, .int wdb0])), (ma0, .inl (cI, 8, .inl fma0)), (t1, .inr (5, [.ref ma1, .int mks1, .int pts1, .int ths1, .int rgs1, .int rgc1, .int fnd1, .int rdb1, .int wdb1])), (ma1, .inl (cI, 8, .inl fma1))]) [0, 1, 2, 3, 4, 5, 6, 7] (by decide) rfl) (ci := 1) (q0 := 0) rfl rfl) rfl rfl hl.1 rfl (lv_room (Nat.le_of_ble_eq_true rfl)) dX1_obey_100 ⟨Nat.zero_le _, Nat.zero_le _⟩) hP hD hS rfl rfl rfl (fun H locs hP hD hS => ?_)
                  have hP : va_P (dC, dI) vwCl [(g, .inr (1, [.ref cl, .ref t0, .ref t1, .int r_15.2.1, .int r_15.2.2.1])), (cl, .inr (0, [.ref st, .ref mk, .long r_15.2.2.2.1, .long r_15.2.2.2.2.1, .long r_15.2.2.2.2.2.1])), (st, .inl (cI, 82, .inl r_15.2.2.2.2.2.2.1)), (mk, .inl (cI, 82, .inl r_15.2.2.2.2.2.2.2.1)), (t0, .inr (5, [.ref ma0, .int r_15.2.2.2.2.2.2.2.2.1, .int r_15.2.2.2.2.2.2.2.2.2.1, .int ths0, .int r_15.2.2.2.2.2.2.2.2.2.2.1, .int r_15.2.2.2.2.2.2.2.2.2.2.2.1, .int r_15.2.2.2.2.2.2.2.2.2.2.2.2.1, .int rdb0, .int wdb0])), (ma0, .inl (cI, 8, .inl r_15.2.2.2.2.2.2.2.2.2.2.2.2.2.1)), (t1, .inr (5, [.ref ma1, .int r_15.2.2.2.2.2.2.2.2.2.2.2.2.2.2.1, .int r_15.2.2.2.2.2.2.2.2.2.2.2.2.2.2.2.1, .int ths1, .int r_15.2.2.2.2.2.2.2.2.2.2.2.2.2.2.2.2.1, .int r_15.2.2.2.2.2.2.2.2.2.2.2.2.2.2.2.2.2.1, .int r_15.2.2.2.2.2.2.2.2.2.2.2.2.2.2.2.2.2.2.1, .int rdb1, .int wdb1])), (ma1, .inl (cI, 8, .inl r_15.2.2.2.2.2.2.2.2.2.2.2.2.2.2.2.2.2.2.2))] H := hP
                  have hD : va_D A [(g, .inr (1, [.ref cl, .ref t0, .ref t1, .int r_15.2.1, .int r_15.2.2.1])), (cl, .inr (0, [.ref st, .ref mk, .long r_15.2.2.2.1, .long r_15.2.2.2.2.1, .long r_15.2.2.2.2.2.1])), (st, .inl (cI, 82, .inl r_15.2.2.2.2.2.2.1)), (mk, .inl (cI, 82, .inl r_15.2.2.2.2.2.2.2.1)), (t0, .inr (5, [.ref ma0, .int r_15.2.2.2.2.2.2.2.2.1, .int r_15.2.2.2.2.2.2.2.2.2.1, .int ths0, .int r_15.2.2.2.2.2.2.2.2.2.2.1, .int r_15.2.2.2.2.2.2.2.2.2.2.2.1, .int r_15.2.2.2.2.2.2.2.2.2.2.2.2.1, .int rdb0, .int wdb0])), (ma0, .inl (cI, 8, .inl r_15.2.2.2.2.2.2.2.2.2.2.2.2.2.1)), (t1, .inr (5, [.ref ma1, .int r_15.2.2.2.2.2.2.2.2.2.2.2.2.2.2.1, .int r_15.2.2.2.2.2.2.2.2.2.2.2.2.2.2.2.1, .int ths1, .int r_15.2.2.2.2.2.2.2.2.2.2.2.2.2.2.2.2.1, .int r_15.2.2.2.2.2.2.2.2.2.2.2.2.2.2.2.2.2.1, .int r_15.2.2.2.2.2.2.2.2.2.2.2.2.2.2.2.2.2.2.1, .int rdb1, .int wdb1])), (ma1, .inl (cI, 8, .inl r_15.2.2.2.2.2.2.2.2.2.2.2.2.2.2.2.2.2.2.2))] := hD
                  subst hres
                  exact W.iret (v := r_15.1) hx hb hr (fun t ht hW => ⟨⟨r_15.1, (), rfl, rfl, (by show va_P _ _ _ t.heap; rw [ht]; exact hP)⟩, hS.F ht⟩) hS.2.2 dX1_obey_103
                · rw [if_neg c_14] at hres
                  by_cases c_16 : order = 119
                  · rw [if_pos c_16] at hres
                    refine lv_lookup (off := 62) (tgt := 104) hx hb dX1_obey_42 (by decide) (by rw [c_16]; rfl) (by decide) ?_
                    refine lv_aload_n hx hb dX1_obey_104 rfl (lv_at hl 0 rfl) ?_
                    refine lv_iload_n hx hb dX1_obey_105 rfl (lv_at hl 2 rfl) ?_
                    obtain ⟨r_17, hr_17⟩ : ∃ z, z = F_Game_sewJoint joint nx tn ac dn fs fm ths0 ths1 := ⟨_, rfl⟩
                    rw [bnd_e hr_17] at hres
                    refine wr_calli (w1 := [(g, .inr (1, [.ref cl, .ref t0, .ref t1, .int r_17.2.1, .int r_17.2.2.1])), (cl, .inr (0, [.ref st, .ref mk, .long gn, .long r_17.2.2.2.1, .long r_17.2.2.2.2.1])), (st, .inl (cI, 82, .inl r_17.2.2.2.2.2.1)), (mk, .inl (cI, 82, .inl r_17.2.2.2.2.2.2.1)), (t0, .inr (5, [.ref ma0, .int mks0, .int pts0, .int r_17.2.2.2.2.2.2.2.1, .int rgs0, .int rgc0, .int fnd0, .int rdb0, .int wdb0])), (t1, .inr (5, [.ref ma1, .int mks1, .int pts1, .int r_17.2.2.2.2.2.2.2.2, .int rgs1, .int rgc1, .int fnd1, .int rdb1, .int wdb1]))]) (is := [0, 1, 2, 3, 4, 6]) (va_runV (As := [.int joint]) (rest := []) ⟨hx, hb, hml, hown, hts⟩ (c_Game_sewJoint l dC dI cI cC cG cZ g cl t0 t1 st mk ma0 ma1 joint nx tn gn ac dn fs fm mks0 pts0 ths0 rgs0 rgc0 fnd0 rdb0 wdb0 mks1 pts1 ths1 rgs1 rgc1 fnd1 rdb1 wdb1  r_17 hr_17) (cwV 1 hts gX1_obey_X1_sewJoint rfl rfl rfl (by decide +kernel) ⟨Nat.le_of_ble_eq_true rfl, Nat.le_of_ble_eq_true rfl⟩) (wr_preV (hP.sub (ws' := [(g, .inr (1, [.ref cl, .ref t0, .ref t1, .int nx, .int tn])), (cl, .inr (0, [.ref st, .ref mk, .long gn, .long ac, .long dn])), (st, .inl (cI, 82, .inl fs)), (mk, .inl (cI, 82, .inl fm)), (t0, .inr (5, [.ref ma0, .int mks0, .int pts0, .int ths0, .int rgs0, .int rgc0, .int fnd0, .int rdb0, .int wdb0])), (t1, .inr (5, [.ref ma1, .int mks1, .int pts1, .int ths1, .int rgs1, .int rgc1, .int fnd1, .int rdb1, .int wdb1]))]) [0, 1, 2, 3, 4, 6] rfl) hK (hD.sub (ws' := [(g, .inr (1, [.ref cl, .ref t0, .ref t1, .int nx, .int tn])), (cl, .inr (0, [.ref st, .ref mk, .long gn, .long ac, .long dn])), (st, .inl (cI, 82, .inl fs)), (mk, .inl (cI, 82, .inl fm)), (t0, .inr (5, [.ref ma0, .int mks0, .int pts0, .int ths0, .int rgs0, .int rgc0, .int fnd0, .int rdb0, .int wdb0])), (t1, .inr (5, [.ref ma1, .int mks1, .int pts1, .int ths1, .int rgs1, .int rgc1, .int fnd1, .int rdb1, .int wdb1]))]) [0, 1, 2, 3, 4, 6] (by decide) rfl) (ci := 1) (q0 := 0) rfl rfl) rfl rfl hl.1 rfl (lv_room (Nat.le_of_ble_eq_true rfl)) dX1_obey_106 ⟨Nat.zero_le _, Nat.zero_le _⟩) hP hD hS rfl rfl rfl (fun H locs hP hD hS => ?_)
                    have hP : va_P (dC, dI) vwCl [(g, .inr (1, [.ref cl, .ref t0, .ref t1, .int r_17.2.1, .int r_17.2.2.1])), (cl, .inr (0, [.ref st, .ref mk, .long gn, .long r_17.2.2.2.1, .long r_17.2.2.2.2.1])), (st, .inl (cI, 82, .inl r_17.2.2.2.2.2.1)), (mk, .inl (cI, 82, .inl r_17.2.2.2.2.2.2.1)), (t0, .inr (5, [.ref ma0, .int mks0, .int pts0, .int r_17.2.2.2.2.2.2.2.1, .int rgs0, .int rgc0, .int fnd0, .int rdb0, .int wdb0])), (ma0, .inl (cI, 8, .inl fma0)), (t1, .inr (5, [.ref ma1, .int mks1, .int pts1, .int r_17.2.2.2.2.2.2.2.2, .int rgs1, .int rgc1, .int fnd1, .int rdb1, .int wdb1])), (ma1, .inl (cI, 8, .inl fma1))] H := hP
                    have hD : va_D A [(g, .inr (1, [.ref cl, .ref t0, .ref t1, .int r_17.2.1, .int r_17.2.2.1])), (cl, .inr (0, [.ref st, .ref mk, .long gn, .long r_17.2.2.2.1, .long r_17.2.2.2.2.1])), (st, .inl (cI, 82, .inl r_17.2.2.2.2.2.1)), (mk, .inl (cI, 82, .inl r_17.2.2.2.2.2.2.1)), (t0, .inr (5, [.ref ma0, .int mks0, .int pts0, .int r_17.2.2.2.2.2.2.2.1, .int rgs0, .int rgc0, .int fnd0, .int rdb0, .int wdb0])), (ma0, .inl (cI, 8, .inl fma0)), (t1, .inr (5, [.ref ma1, .int mks1, .int pts1, .int r_17.2.2.2.2.2.2.2.2, .int rgs1, .int rgc1, .int fnd1, .int rdb1, .int wdb1])), (ma1, .inl (cI, 8, .inl fma1))] := hD
                    subst hres
                    exact W.iret (v := r_17.1) hx hb hr (fun t ht hW => ⟨⟨r_17.1, (), rfl, rfl, (by show va_P _ _ _ t.heap; rw [ht]; exact hP)⟩, hS.F ht⟩) hS.2.2 dX1_obey_109
                  · rw [if_neg c_16] at hres
                    refine lv_lookup (off := 80) (tgt := 122) hx hb dX1_obey_42 (by decide) (by show Op.lookupswitch.offset [(98, 68), (99, 50), (100, 74), (115, 56), (119, 62)] 80 _ = _; rw [lv_osw (a := 98) c_8 rfl, lv_osw (a := 99) c_10 rfl, lv_osw (a := 100) c_12 rfl, lv_osw (a := 115) c_14 rfl, lv_osw (a := 119) c_16 rfl]; rfl) (by decide) ?_
                    refine lv_bipush (v := (-5)) hx hb dX1_obey_122 (by decide) ?_
                    subst hres
                    exact W.iret (v := (-5)) hx hb hr (fun t ht hW => ⟨⟨(-5), (), rfl, rfl, (by show va_P _ _ _ t.heap; rw [ht]; exact hP)⟩, hS.F ht⟩) hS.2.2 dX1_obey_124
        · rw [if_neg c_7] at hres
          refine lv_bipush (v := (-5)) hx hb dX1_obey_38 (by decide) ?_
          subst hres
          exact W.iret (v := (-5)) hx hb hr (fun t ht hW => ⟨⟨(-5), (), rfl, rfl, (by show va_P _ _ _ t.heap; rw [ht]; exact hP)⟩, hS.F ht⟩) hS.2.2 dX1_obey_40
    · rw [if_pos c_3] at hres
      refine lv_iconst (v := (-1)) hx hb dX1_obey_18 (by decide) ?_
      subst hres
      exact W.iret (v := (-1)) hx hb hr (fun t ht hW => ⟨⟨(-1), (), rfl, rfl, (by show va_P _ _ _ t.heap; rw [ht]; exact hP)⟩, hS.F ht⟩) hS.2.2 dX1_obey_19
  · rw [if_pos c_1] at hres
    refine lv_aload_n hx hb dX1_obey_6 rfl (lv_at hl 0 rfl) ?_
    obtain ⟨r_18, hr_18⟩ : ∃ z, z = F_Game_passOn nx tn gn := ⟨_, rfl⟩
    rw [bnd_e hr_18] at hres
    refine wr_calli (w1 := [(g, .inr (1, [.ref cl, .ref t0, .ref t1, .int r_18.2.1, .int r_18.2.2])), (cl, .inr (0, [.ref st, .ref mk, .long gn, .long ac, .long dn]))]) (is := [0, 1]) (va_runV (As := []) (rest := []) ⟨hx, hb, hml, hown, hts⟩ (c_Game_passOn l dC dI cI cC cG cZ g cl t0 t1 st mk nx tn gn ac dn  r_18 hr_18) (cwV 0 hts gX1_obey_X1_passOn rfl rfl rfl (by decide +kernel) ⟨Nat.le_of_ble_eq_true rfl, Nat.le_of_ble_eq_true rfl⟩) (wr_preV (hP.sub (ws' := [(g, .inr (1, [.ref cl, .ref t0, .ref t1, .int nx, .int tn])), (cl, .inr (0, [.ref st, .ref mk, .long gn, .long ac, .long dn]))]) [0, 1] rfl) hK (hD.sub (ws' := [(g, .inr (1, [.ref cl, .ref t0, .ref t1, .int nx, .int tn])), (cl, .inr (0, [.ref st, .ref mk, .long gn, .long ac, .long dn]))]) [0, 1] (by decide) rfl) (ci := 1) (q0 := 0) rfl rfl) rfl rfl hl.1 rfl (lv_room (Nat.le_of_ble_eq_true rfl)) dX1_obey_7 ⟨Nat.zero_le _, Nat.zero_le _⟩) hP hD hS rfl rfl rfl (fun H locs hP hD hS => ?_)
    have hP : va_P (dC, dI) vwCl [(g, .inr (1, [.ref cl, .ref t0, .ref t1, .int r_18.2.1, .int r_18.2.2])), (cl, .inr (0, [.ref st, .ref mk, .long gn, .long ac, .long dn])), (st, .inl (cI, 82, .inl fs)), (mk, .inl (cI, 82, .inl fm)), (t0, .inr (5, [.ref ma0, .int mks0, .int pts0, .int ths0, .int rgs0, .int rgc0, .int fnd0, .int rdb0, .int wdb0])), (ma0, .inl (cI, 8, .inl fma0)), (t1, .inr (5, [.ref ma1, .int mks1, .int pts1, .int ths1, .int rgs1, .int rgc1, .int fnd1, .int rdb1, .int wdb1])), (ma1, .inl (cI, 8, .inl fma1))] H := hP
    have hD : va_D A [(g, .inr (1, [.ref cl, .ref t0, .ref t1, .int r_18.2.1, .int r_18.2.2])), (cl, .inr (0, [.ref st, .ref mk, .long gn, .long ac, .long dn])), (st, .inl (cI, 82, .inl fs)), (mk, .inl (cI, 82, .inl fm)), (t0, .inr (5, [.ref ma0, .int mks0, .int pts0, .int ths0, .int rgs0, .int rgc0, .int fnd0, .int rdb0, .int wdb0])), (ma0, .inl (cI, 8, .inl fma0)), (t1, .inr (5, [.ref ma1, .int mks1, .int pts1, .int ths1, .int rgs1, .int rgc1, .int fnd1, .int rdb1, .int wdb1])), (ma1, .inl (cI, 8, .inl fma1))] := hD
    subst hres
    exact W.iret (v := r_18.1) hx hb hr (fun t ht hW => ⟨⟨r_18.1, (), rfl, rfl, (by show va_P _ _ _ t.heap; rw [ht]; exact hP)⟩, hS.F ht⟩) hS.2.2 dX1_obey_10
theorem iX1_openGain_X1 : ∀ w ∈ u_ws RX1 TX1 5, w ∈ wsX1_openGain := by decide +kernel
theorem kX1_openGain_12 : Cond.fieldLink RX1 12 "TailorChalks$Game" "cloth" "LTailorChalks$Cloth;" ∈ wsX1_openGain := by decide +kernel
theorem kX1_openGain_35 : Cond.fieldLink RX1 35 "TailorChalks$Game" "next" "I" ∈ wsX1_openGain := by decide +kernel
def F_Game_openGain (joint : Int32) (nx : Int32) (ac : Int64) (dn : Int64) (mks0 : Int32) (fma0 : Nat → Int32) (mks1 : Int32) (fma1 : Nat → Int32) : Int32 := (if nx = 0 then (bnd (F_Tailor_hasMark joint mks0 fma0) (fun r_2 => (if r_2 = 0 then (bnd (F_Cloth_ragOf joint ac dn) (fun r_4 => (bnd (F_Long_bitCount r_4) (fun r_5 => (r_5 + 0))))) else (bnd (F_Cloth_ragOf joint ac dn) (fun r_6 => (bnd (F_Long_bitCount r_6) (fun r_7 => (r_7 + 1)))))))) else (bnd (F_Tailor_hasMark joint mks1 fma1) (fun r_8 => (if r_8 = 0 then (bnd (F_Cloth_ragOf joint ac dn) (fun r_10 => (bnd (F_Long_bitCount r_10) (fun r_11 => (r_11 + 0))))) else (bnd (F_Cloth_ragOf joint ac dn) (fun r_12 => (bnd (F_Long_bitCount r_12) (fun r_13 => (r_13 + 1)))))))))
set_option maxHeartbeats 4000000 in
set_option maxRecDepth 100000 in
theorem c_Game_openGain (l : Launch) (dC : Nat → ClassId) (dI : Nat → Nat → Nat) (cI cC cG cZ : ClassId) (g cl t0 t1 st mk ma0 ma1 : Nat) (joint : Int32) (nx : Int32) (tn : Int32) (gn : Int64) (ac : Int64) (dn : Int64) (mks0 : Int32) (pts0 : Int32) (ths0 : Int32) (rgs0 : Int32) (rgc0 : Int32) (fnd0 : Int32) (rdb0 : Int32) (wdb0 : Int32) (fma0 : Nat → Int32) (mks1 : Int32) (pts1 : Int32) (ths1 : Int32) (rgs1 : Int32) (rgc1 : Int32) (fnd1 : Int32) (rdb1 : Int32) (wdb1 : Int32) (fma1 : Nat → Int32) (hM0 : tm_ok 8 mks0) (hM1 : tm_ok 8 mks1) (res : Int32) (hres : res = F_Game_openGain joint nx ac dn mks0 fma0 mks1 fma1) : Met l yX1_openGain wsX1_openGain ({ frames := 3, cells := 0, slots := 0, locals := 73 }) (va_Pc [.ref g, .int joint] (ro_P (dC, dI) vwCl (tyL cI cC cG cZ) [(g, .inr (1, [.ref cl, .ref t0, .ref t1, .int nx, .int tn])), (cl, .inr (0, [.ref st, .ref mk, .long gn, .long ac, .long dn])), (t0, .inr (5, [.ref ma0, .int mks0, .int pts0, .int ths0, .int rgs0, .int rgc0, .int fnd0, .int rdb0, .int wdb0])), (ma0, .inl (cI, 8, .inl fma0)), (t1, .inr (5, [.ref ma1, .int mks1, .int pts1, .int ths1, .int rgs1, .int rgc1, .int fnd1, .int rdb1, .int wdb1])), (ma1, .inl (cI, 8, .inl fma1))])) (va_Qi (fun r (_ : Unit) => r = res) (fun _ _ => True) ro_F) 0 0 ro_F := by
  refine Met.ofW (cc := cX1_openGain) (maxL := 3) (ret := (some .int)) (by decide) rfl ?_
  intro p e s m args below meth c s₁ B hml hv
  obtain ⟨rfl, hP, hK⟩ := hv
  have hx := B.exec
  have hb := B.bytes
  have hr := B.returns
  have hts := atoms_spec (ws := wsX1_openGain) B.pre
  have hown : s.vm.findClass RX1 = some m.cls := findClass_of_methodNamed B.named
  have hlocks := B.notSynchronized
  have hS : va_S ro_F s.heap s.heap [] := va_S.rf
  have hl := lv_entry ([.ref g, .int joint]) (n := 3) (Nat.le_of_ble_eq_true rfl)
  rw [lg_entry_eq]
  generalize (lg_sl ([.ref g, .int joint]) ++ List.replicate (3 - (lg_sl ([.ref g, .int joint])).length) Slot.unset).toArray = ls at hl ⊢
  have hl : lv_has ls 3 [(0, .ref g), (1, .int joint)] := hl
  rw [F_Game_openGain] at hres
  refine lv_aload_n hx hb dX1_openGain_0 rfl (lv_at hl 0 rfl) ?_
  refine lv_aload_n hx hb dX1_openGain_1 rfl (lv_at hl 0 rfl) ?_
  refine va_get (D := (dC, dI)) (ci := 1) (v := .int nx) (C := RX1) (T := TX1) (N := 5) hx hb hts iX1_openGain_X1 hown hK hP 0 rfl rfl 3 (by decide) (hts (.fieldLink RX1 35 "TailorChalks$Game" "next" "I") kX1_openGain_35) (fun _ h9 => h9) rfl dX1_openGain_2 ?_
  by_cases c_1 : nx = 0
  · rw [if_pos c_1] at hres
    refine ro_callr (va_runV (As := [.int nx]) (rest := []) ⟨hx, hb, hml, hown, hts⟩ (c_Game_tailorOf l dC dI cI cC cG cZ g cl t0 t1 nx nx tn  t0 (if_pos c_1).symm) (cwV 1 hts gX1_openGain_X1_tailorOf rfl rfl rfl (by decide +kernel) ⟨Nat.le_of_ble_eq_true rfl, Nat.le_of_ble_eq_true rfl⟩) (ro_preV (hP.sub (ws' := [(g, .inr (1, [.ref cl, .ref t0, .ref t1, .int nx, .int tn]))]) [0] rfl) hK (ci := 1) (q0 := 0) rfl rfl) rfl rfl hl.1 rfl (lv_room (Nat.le_of_ble_eq_true rfl)) dX1_openGain_5 ⟨Nat.zero_le _, Nat.zero_le _⟩) hP hS (fun H locs hP hS => ?_)
    refine lv_iload_n hx hb dX1_openGain_8 rfl (lv_at hl 1 rfl) ?_
    obtain ⟨r_2, hr_2⟩ : ∃ z, z = F_Tailor_hasMark joint mks0 fma0 := ⟨_, rfl⟩
    rw [bnd_e hr_2] at hres
    refine ro_calli (va_runV (As := [.int joint]) (rest := []) ⟨hx, hb, hml, hown, hts⟩ (c_Tailor_hasMark l dC dI cI cC cG cZ t0 ma0 joint mks0 pts0 ths0 rgs0 rgc0 fnd0 rdb0 wdb0 fma0 hM0 r_2 hr_2) (cwV 1 hts gX1_openGain_X5_hasMark rfl rfl rfl (by decide +kernel) ⟨Nat.le_of_ble_eq_true rfl, Nat.le_of_ble_eq_true rfl⟩) (ro_preV (hP.sub (ws' := [(t0, .inr (5, [.ref ma0, .int mks0, .int pts0, .int ths0, .int rgs0, .int rgc0, .int fnd0, .int rdb0, .int wdb0])), (ma0, .inl (cI, 8, .inl fma0))]) [2, 3] rfl) hK (ci := 5) (q0 := 0) rfl rfl) rfl rfl hl.1 rfl (lv_room (Nat.le_of_ble_eq_true rfl)) dX1_openGain_9 ⟨Nat.zero_le _, Nat.zero_le _⟩) hP hS (fun H locs hP hS => ?_)
    refine lv_if_eq (tgt := 19) hx hb dX1_openGain_12 (by decide) (fun c_3 => ?_) (fun c_3 => ?_)
    · rw [if_pos c_3] at hres
      refine lv_iconst (v := 0) hx hb dX1_openGain_19 (by decide) ?_
      refine lv_istore_n (lv' := [(2, .int 0), (0, .ref g), (1, .int joint)]) hx hb dX1_openGain_20 rfl hl (by decide) rfl (fun ls hl => ?_)
      refine lv_aload_n hx hb dX1_openGain_21 rfl (lv_at hl 1 rfl) ?_
      refine va_get (D := (dC, dI)) (ci := 1) (v := .ref cl) (C := RX1) (T := TX1) (N := 5) hx hb hts iX1_openGain_X1 hown hK hP 0 rfl rfl 0 (by decide) (hts (.fieldLink RX1 12 "TailorChalks$Game" "cloth" "LTailorChalks$Cloth;") kX1_openGain_12) (fun _ h9 => h9) rfl dX1_openGain_22 ?_
      refine lv_iload_n hx hb dX1_openGain_25 rfl (lv_at hl 2 rfl) ?_
      obtain ⟨r_4, hr_4⟩ : ∃ z, z = F_Cloth_ragOf joint ac dn := ⟨_, rfl⟩
      rw [bnd_e hr_4] at hres
      refine ro_calll (va_runV (As := [.int joint]) (rest := []) ⟨hx, hb, hml, hown, hts⟩ (c_Cloth_ragOf l dC dI cI cC cG cZ cl st mk joint gn ac dn  r_4 hr_4) (cwV 1 hts gX1_openGain_X0_ragOf rfl rfl rfl (by decide +kernel) ⟨Nat.le_of_ble_eq_true rfl, Nat.le_of_ble_eq_true rfl⟩) (ro_preV (hP.sub (ws' := [(cl, .inr (0, [.ref st, .ref mk, .long gn, .long ac, .long dn]))]) [1] rfl) hK (ci := 0) (q0 := 0) rfl rfl) rfl rfl hl.1 rfl (lv_room (Nat.le_of_ble_eq_true rfl)) dX1_openGain_26 ⟨Nat.zero_le _, Nat.zero_le _⟩) hP hS (fun H locs hP hS => ?_)
      obtain ⟨r_5, hr_5⟩ : ∃ z, z = F_Long_bitCount r_4 := ⟨_, rfl⟩
      rw [bnd_e hr_5] at hres
      refine ro_calli (va_runS (As := [.long r_4]) (rest := []) ⟨hx, hb, hml, hown, hts⟩ (c_Long_bitCount l dC dI cI cC cG cZ  r_4  r_5 hr_5) (va_cwS 1 hts gX1_openGain_J13_bitCount_95d88 rfl rfl rfl (by decide +kernel) ⟨Nat.le_of_ble_eq_true rfl, Nat.le_of_ble_eq_true rfl⟩) (ro_preS (hP.sub (ws' := []) [] rfl) hK) rfl rfl hl.1 rfl (lv_room (Nat.le_of_ble_eq_true rfl)) dX1_openGain_29 ⟨Nat.zero_le _, Nat.zero_le _⟩) hP hS (fun H locs hP hS => ?_)
      refine lv_iload_n hx hb dX1_openGain_32 rfl (lv_at hl 0 rfl) ?_
      refine lv_iadd hx hb dX1_openGain_33 ?_
      exact W.iret (v := (r_5 + 0)) hx hb hr (fun t ht hW => ⟨⟨(r_5 + 0), (), rfl, hres.symm, trivial⟩, hS.F ht⟩) hS.2.2 dX1_openGain_34
    · rw [if_neg c_3] at hres
      refine lv_iconst (v := 1) hx hb dX1_openGain_15 (by decide) ?_
      refine lv_goto (tgt := 20) hx hb dX1_openGain_16 (by decide) ?_
      refine lv_istore_n (lv' := [(2, .int 1), (0, .ref g), (1, .int joint)]) hx hb dX1_openGain_20 rfl hl (by decide) rfl (fun ls hl => ?_)
      refine lv_aload_n hx hb dX1_openGain_21 rfl (lv_at hl 1 rfl) ?_
      refine va_get (D := (dC, dI)) (ci := 1) (v := .ref cl) (C := RX1) (T := TX1) (N := 5) hx hb hts iX1_openGain_X1 hown hK hP 0 rfl rfl 0 (by decide) (hts (.fieldLink RX1 12 "TailorChalks$Game" "cloth" "LTailorChalks$Cloth;") kX1_openGain_12) (fun _ h9 => h9) rfl dX1_openGain_22 ?_
      refine lv_iload_n hx hb dX1_openGain_25 rfl (lv_at hl 2 rfl) ?_
      obtain ⟨r_6, hr_6⟩ : ∃ z, z = F_Cloth_ragOf joint ac dn := ⟨_, rfl⟩
      rw [bnd_e hr_6] at hres
      refine ro_calll (va_runV (As := [.int joint]) (rest := []) ⟨hx, hb, hml, hown, hts⟩ (c_Cloth_ragOf l dC dI cI cC cG cZ cl st mk joint gn ac dn  r_6 hr_6) (cwV 1 hts gX1_openGain_X0_ragOf rfl rfl rfl (by decide +kernel) ⟨Nat.le_of_ble_eq_true rfl, Nat.le_of_ble_eq_true rfl⟩) (ro_preV (hP.sub (ws' := [(cl, .inr (0, [.ref st, .ref mk, .long gn, .long ac, .long dn]))]) [1] rfl) hK (ci := 0) (q0 := 0) rfl rfl) rfl rfl hl.1 rfl (lv_room (Nat.le_of_ble_eq_true rfl)) dX1_openGain_26 ⟨Nat.zero_le _, Nat.zero_le _⟩) hP hS (fun H locs hP hS => ?_)
      obtain ⟨r_7, hr_7⟩ : ∃ z, z = F_Long_bitCount r_6 := ⟨_, rfl⟩
      rw [bnd_e hr_7] at hres
      refine ro_calli (va_runS (As := [.long r_6]) (rest := []) ⟨hx, hb, hml, hown, hts⟩ (c_Long_bitCount l dC dI cI cC cG cZ  r_6  r_7 hr_7) (va_cwS 1 hts gX1_openGain_J13_bitCount_95d88 rfl rfl rfl (by decide +kernel) ⟨Nat.le_of_ble_eq_true rfl, Nat.le_of_ble_eq_true rfl⟩) (ro_preS (hP.sub (ws' := []) [] rfl) hK) rfl rfl hl.1 rfl (lv_room (Nat.le_of_ble_eq_true rfl)) dX1_openGain_29 ⟨Nat.zero_le _, Nat.zero_le _⟩) hP hS (fun H locs hP hS => ?_)
      refine lv_iload_n hx hb dX1_openGain_32 rfl (lv_at hl 0 rfl) ?_
      refine lv_iadd hx hb dX1_openGain_33 ?_
      exact W.iret (v := (r_7 + 1)) hx hb hr (fun t ht hW => ⟨⟨(r_7 + 1), (), rfl, hres.symm, trivial⟩, hS.F ht⟩) hS.2.2 dX1_openGain_34
  · rw [if_neg c_1] at hres
    refine ro_callr (va_runV (As := [.int nx]) (rest := []) ⟨hx, hb, hml, hown, hts⟩ (c_Game_tailorOf l dC dI cI cC cG cZ g cl t0 t1 nx nx tn  t1 (if_neg c_1).symm) (cwV 1 hts gX1_openGain_X1_tailorOf rfl rfl rfl (by decide +kernel) ⟨Nat.le_of_ble_eq_true rfl, Nat.le_of_ble_eq_true rfl⟩) (ro_preV (hP.sub (ws' := [(g, .inr (1, [.ref cl, .ref t0, .ref t1, .int nx, .int tn]))]) [0] rfl) hK (ci := 1) (q0 := 0) rfl rfl) rfl rfl hl.1 rfl (lv_room (Nat.le_of_ble_eq_true rfl)) dX1_openGain_5 ⟨Nat.zero_le _, Nat.zero_le _⟩) hP hS (fun H locs hP hS => ?_)
    refine lv_iload_n hx hb dX1_openGain_8 rfl (lv_at hl 1 rfl) ?_
    obtain ⟨r_8, hr_8⟩ : ∃ z, z = F_Tailor_hasMark joint mks1 fma1 := ⟨_, rfl⟩
    rw [bnd_e hr_8] at hres
    refine ro_calli (va_runV (As := [.int joint]) (rest := []) ⟨hx, hb, hml, hown, hts⟩ (c_Tailor_hasMark l dC dI cI cC cG cZ t1 ma1 joint mks1 pts1 ths1 rgs1 rgc1 fnd1 rdb1 wdb1 fma1 hM1 r_8 hr_8) (cwV 1 hts gX1_openGain_X5_hasMark rfl rfl rfl (by decide +kernel) ⟨Nat.le_of_ble_eq_true rfl, Nat.le_of_ble_eq_true rfl⟩) (ro_preV (hP.sub (ws' := [(t1, .inr (5, [.ref ma1, .int mks1, .int pts1, .int ths1, .int rgs1, .int rgc1, .int fnd1, .int rdb1, .int wdb1])), (ma1, .inl (cI, 8, .inl fma1))]) [4, 5] rfl) hK (ci := 5) (q0 := 0) rfl rfl) rfl rfl hl.1 rfl (lv_room (Nat.le_of_ble_eq_true rfl)) dX1_openGain_9 ⟨Nat.zero_le _, Nat.zero_le _⟩) hP hS (fun H locs hP hS => ?_)
    refine lv_if_eq (tgt := 19) hx hb dX1_openGain_12 (by decide) (fun c_9 => ?_) (fun c_9 => ?_)
    · rw [if_pos c_9] at hres
      refine lv_iconst (v := 0) hx hb dX1_openGain_19 (by decide) ?_
      refine lv_istore_n (lv' := [(2, .int 0), (0, .ref g), (1, .int joint)]) hx hb dX1_openGain_20 rfl hl (by decide) rfl (fun ls hl => ?_)
      refine lv_aload_n hx hb dX1_openGain_21 rfl (lv_at hl 1 rfl) ?_
      refine va_get (D := (dC, dI)) (ci := 1) (v := .ref cl) (C := RX1) (T := TX1) (N := 5) hx hb hts iX1_openGain_X1 hown hK hP 0 rfl rfl 0 (by decide) (hts (.fieldLink RX1 12 "TailorChalks$Game" "cloth" "LTailorChalks$Cloth;") kX1_openGain_12) (fun _ h9 => h9) rfl dX1_openGain_22 ?_
      refine lv_iload_n hx hb dX1_openGain_25 rfl (lv_at hl 2 rfl) ?_
      obtain ⟨r_10, hr_10⟩ : ∃ z, z = F_Cloth_ragOf joint ac dn := ⟨_, rfl⟩
      rw [bnd_e hr_10] at hres
      refine ro_calll (va_runV (As := [.int joint]) (rest := []) ⟨hx, hb, hml, hown, hts⟩ (c_Cloth_ragOf l dC dI cI cC cG cZ cl st mk joint gn ac dn  r_10 hr_10) (cwV 1 hts gX1_openGain_X0_ragOf rfl rfl rfl (by decide +kernel) ⟨Nat.le_of_ble_eq_true rfl, Nat.le_of_ble_eq_true rfl⟩) (ro_preV (hP.sub (ws' := [(cl, .inr (0, [.ref st, .ref mk, .long gn, .long ac, .long dn]))]) [1] rfl) hK (ci := 0) (q0 := 0) rfl rfl) rfl rfl hl.1 rfl (lv_room (Nat.le_of_ble_eq_true rfl)) dX1_openGain_26 ⟨Nat.zero_le _, Nat.zero_le _⟩) hP hS (fun H locs hP hS => ?_)
      obtain ⟨r_11, hr_11⟩ : ∃ z, z = F_Long_bitCount r_10 := ⟨_, rfl⟩
      rw [bnd_e hr_11] at hres
      refine ro_calli (va_runS (As := [.long r_10]) (rest := []) ⟨hx, hb, hml, hown, hts⟩ (c_Long_bitCount l dC dI cI cC cG cZ  r_10  r_11 hr_11) (va_cwS 1 hts gX1_openGain_J13_bitCount_95d88 rfl rfl rfl (by decide +kernel) ⟨Nat.le_of_ble_eq_true rfl, Nat.le_of_ble_eq_true rfl⟩) (ro_preS (hP.sub (ws' := []) [] rfl) hK) rfl rfl hl.1 rfl (lv_room (Nat.le_of_ble_eq_true rfl)) dX1_openGain_29 ⟨Nat.zero_le _, Nat.zero_le _⟩) hP hS (fun H locs hP hS => ?_)
      refine lv_iload_n hx hb dX1_openGain_32 rfl (lv_at hl 0 rfl) ?_
      refine lv_iadd hx hb dX1_openGain_33 ?_
      exact W.iret (v := (r_11 + 0)) hx hb hr (fun t ht hW => ⟨⟨(r_11 + 0), (), rfl, hres.symm, trivial⟩, hS.F ht⟩) hS.2.2 dX1_openGain_34
    · rw [if_neg c_9] at hres
      refine lv_iconst (v := 1) hx hb dX1_openGain_15 (by decide) ?_
      refine lv_goto (tgt := 20) hx hb dX1_openGain_16 (by decide) ?_
      refine lv_istore_n (lv' := [(2, .int 1), (0, .ref g), (1, .int joint)]) hx hb dX1_openGain_20 rfl hl (by decide) rfl (fun ls hl => ?_)
      refine lv_aload_n hx hb dX1_openGain_21 rfl (lv_at hl 1 rfl) ?_
      refine va_get (D := (dC, dI)) (ci := 1) (v := .ref cl) (C := RX1) (T := TX1) (N := 5) hx hb hts iX1_openGain_X1 hown hK hP 0 rfl rfl 0 (by decide) (hts (.fieldLink RX1 12 "TailorChalks$Game" "cloth" "LTailorChalks$Cloth;") kX1_openGain_12) (fun _ h9 => h9) rfl dX1_openGain_22 ?_
      refine lv_iload_n hx hb dX1_openGain_25 rfl (lv_at hl 2 rfl) ?_
      obtain ⟨r_12, hr_12⟩ : ∃ z, z = F_Cloth_ragOf joint ac dn := ⟨_, rfl⟩
      rw [bnd_e hr_12] at hres
      refine ro_calll (va_runV (As := [.int joint]) (rest := []) ⟨hx, hb, hml, hown, hts⟩ (c_Cloth_ragOf l dC dI cI cC cG cZ cl st mk joint gn ac dn  r_12 hr_12) (cwV 1 hts gX1_openGain_X0_ragOf rfl rfl rfl (by decide +kernel) ⟨Nat.le_of_ble_eq_true rfl, Nat.le_of_ble_eq_true rfl⟩) (ro_preV (hP.sub (ws' := [(cl, .inr (0, [.ref st, .ref mk, .long gn, .long ac, .long dn]))]) [1] rfl) hK (ci := 0) (q0 := 0) rfl rfl) rfl rfl hl.1 rfl (lv_room (Nat.le_of_ble_eq_true rfl)) dX1_openGain_26 ⟨Nat.zero_le _, Nat.zero_le _⟩) hP hS (fun H locs hP hS => ?_)
      obtain ⟨r_13, hr_13⟩ : ∃ z, z = F_Long_bitCount r_12 := ⟨_, rfl⟩
      rw [bnd_e hr_13] at hres
      refine ro_calli (va_runS (As := [.long r_12]) (rest := []) ⟨hx, hb, hml, hown, hts⟩ (c_Long_bitCount l dC dI cI cC cG cZ  r_12  r_13 hr_13) (va_cwS 1 hts gX1_openGain_J13_bitCount_95d88 rfl rfl rfl (by decide +kernel) ⟨Nat.le_of_ble_eq_true rfl, Nat.le_of_ble_eq_true rfl⟩) (ro_preS (hP.sub (ws' := []) [] rfl) hK) rfl rfl hl.1 rfl (lv_room (Nat.le_of_ble_eq_true rfl)) dX1_openGain_29 ⟨Nat.zero_le _, Nat.zero_le _⟩) hP hS (fun H locs hP hS => ?_)
      refine lv_iload_n hx hb dX1_openGain_32 rfl (lv_at hl 0 rfl) ?_
      refine lv_iadd hx hb dX1_openGain_33 ?_
      exact W.iret (v := (r_13 + 1)) hx hb hr (fun t ht hW => ⟨⟨(r_13 + 1), (), rfl, hres.symm, trivial⟩, hS.F ht⟩) hS.2.2 dX1_openGain_34
def F_Game_bestJoint_L7 (nx : Int32) (tn : Int32) (gn : Int64) (ac : Int64) (dn : Int64) (fs : Nat → Int32) (mks0 : Int32) (fma0 : Nat → Int32) (mks1 : Int32) (fma1 : Nat → Int32) : Nat → Int32 → Int32 → Int32 → Int32 × Int32 × Int32
  | 0, x3, x2, x1 => (x3, x2, x1)
  | n + 1, x3, x2, x1 => (if (82 : Int32) ≤ x3 then (x3, x2, x1) else (bnd (F_Game_whyNoSnip x3 tn gn fs) (fun r_3 => (if r_3 = 0 then (bnd (F_Game_openGain x3 nx ac dn mks0 fma0 mks1 fma1) (fun r_6 => (if r_6 ≤ x2 then (F_Game_bestJoint_L7 nx tn gn ac dn fs mks0 fma0 mks1 fma1 n (x3 + 1) x2 x1) else (F_Game_bestJoint_L7 nx tn gn ac dn fs mks0 fma0 mks1 fma1 n (x3 + 1) r_6 x3)))) else (if (-1 : Int32) ≤ x2 then (F_Game_bestJoint_L7 nx tn gn ac dn fs mks0 fma0 mks1 fma1 n (x3 + 1) x2 x1) else (F_Game_bestJoint_L7 nx tn gn ac dn fs mks0 fma0 mks1 fma1 n (x3 + 1) (-1 : Int32) x3))))))
def F_Game_bestJoint (nx : Int32) (tn : Int32) (gn : Int64) (ac : Int64) (dn : Int64) (fs : Nat → Int32) (mks0 : Int32) (fma0 : Nat → Int32) (mks1 : Int32) (fma1 : Nat → Int32) : Int32 := (bnd (F_Game_bestJoint_L7 nx tn gn ac dn fs mks0 fma0 mks1 fma1 83 (0 : Int32) (-1 : Int32) (-6 : Int32)) (fun q_1 => q_1.2.2))
set_option maxHeartbeats 4000000 in
set_option maxRecDepth 100000 in
theorem c_Game_bestJoint (l : Launch) (dC : Nat → ClassId) (dI : Nat → Nat → Nat) (cI cC cG cZ : ClassId) (g cl t0 t1 st mk ma0 ma1 : Nat) (nx : Int32) (tn : Int32) (gn : Int64) (ac : Int64) (dn : Int64) (fs : Nat → Int32) (mks0 : Int32) (pts0 : Int32) (ths0 : Int32) (rgs0 : Int32) (rgc0 : Int32) (fnd0 : Int32) (rdb0 : Int32) (wdb0 : Int32) (fma0 : Nat → Int32) (mks1 : Int32) (pts1 : Int32) (ths1 : Int32) (rgs1 : Int32) (rgc1 : Int32) (fnd1 : Int32) (rdb1 : Int32) (wdb1 : Int32) (fma1 : Nat → Int32) (hM0 : tm_ok 8 mks0) (hM1 : tm_ok 8 mks1) (res : Int32) (hres : res = F_Game_bestJoint nx tn gn ac dn fs mks0 fma0 mks1 fma1) : Met l yX1_bestJoint wsX1_bestJoint ({ frames := 4, cells := 0, slots := 0, locals := 95 }) (va_Pc [.ref g] (ro_P (dC, dI) vwCl (tyL cI cC cG cZ) [(g, .inr (1, [.ref cl, .ref t0, .ref t1, .int nx, .int tn])), (cl, .inr (0, [.ref st, .ref mk, .long gn, .long ac, .long dn])), (st, .inl (cI, 82, .inl fs)), (t0, .inr (5, [.ref ma0, .int mks0, .int pts0, .int ths0, .int rgs0, .int rgc0, .int fnd0, .int rdb0, .int wdb0])), (ma0, .inl (cI, 8, .inl fma0)), (t1, .inr (5, [.ref ma1, .int mks1, .int pts1, .int ths1, .int rgs1, .int rgc1, .int fnd1, .int rdb1, .int wdb1])), (ma1, .inl (cI, 8, .inl fma1))])) (va_Qi (fun r (_ : Unit) => r = res) (fun _ _ => True) ro_F) 0 0 ro_F := by
  refine Met.ofW (cc := cX1_bestJoint) (maxL := 5) (ret := (some .int)) (by decide) rfl ?_
  intro p e s m args below meth c s₁ B hml hv
  obtain ⟨rfl, hP, hK⟩ := hv
  have hx := B.exec
  have hb := B.bytes
  have hr := B.returns
  have hts := atoms_spec (ws := wsX1_bestJoint) B.pre
  have hown : s.vm.findClass RX1 = some m.cls := findClass_of_methodNamed B.named
  have hlocks := B.notSynchronized
  have hS : va_S ro_F s.heap s.heap [] := va_S.rf
  have hl := lv_entry ([.ref g]) (n := 5) (Nat.le_of_ble_eq_true rfl)
  rw [lg_entry_eq]
  generalize (lg_sl ([.ref g]) ++ List.replicate (5 - (lg_sl ([.ref g])).length) Slot.unset).toArray = ls at hl ⊢
  have hl : lv_has ls 5 [(0, .ref g)] := hl
  rw [F_Game_bestJoint] at hres
  refine lv_bipush (v := (-6)) hx hb dX1_bestJoint_0 (by decide) ?_
  refine lv_istore_n (lv' := [(1, .int (-6)), (0, .ref g)]) hx hb dX1_bestJoint_2 rfl hl (by decide) rfl (fun ls hl => ?_)
  refine lv_iconst (v := (-1)) hx hb dX1_bestJoint_3 (by decide) ?_
  refine lv_istore_n (lv' := [(2, .int (-1)), (1, .int (-6)), (0, .ref g)]) hx hb dX1_bestJoint_4 rfl hl (by decide) rfl (fun ls hl => ?_)
  refine lv_iconst (v := 0) hx hb dX1_bestJoint_5 (by decide) ?_
  refine lv_istore_n (lv' := [(3, .int 0), (2, .int (-1)), (1, .int (-6)), (0, .ref g)]) hx hb dX1_bestJoint_6 rfl hl (by decide) rfl (fun ls hl => ?_)
  obtain ⟨q_1, hq_1⟩ : ∃ z, z = F_Game_bestJoint_L7 nx tn gn ac dn fs mks0 fma0 mks1 fma1 83 (0 : Int32) (-1 : Int32) (-6 : Int32) := ⟨_, rfl⟩
  rw [bnd_e hq_1] at hres
  have hexit7 : ∀ (H : Heap) (locs : List Loc) (ls : Array Slot), va_P (dC, dI) vwCl [(g, .inr (1, [.ref cl, .ref t0, .ref t1, .int nx, .int tn])), (cl, .inr (0, [.ref st, .ref mk, .long gn, .long ac, .long dn])), (st, .inl (cI, 82, .inl fs)), (t0, .inr (5, [.ref ma0, .int mks0, .int pts0, .int ths0, .int rgs0, .int rgc0, .int fnd0, .int rdb0, .int wdb0])), (ma0, .inl (cI, 8, .inl fma0)), (t1, .inr (5, [.ref ma1, .int mks1, .int pts1, .int ths1, .int rgs1, .int rgc1, .int fnd1, .int rdb1, .int wdb1])), (ma1, .inl (cI, 8, .inl fma1))] H → va_S ro_F s.heap H locs → lv_has ls 5 [(3, .int q_1.1), (2, .int q_1.2.1), (1, .int q_1.2.2), (0, .ref g)] → W p l e (headSpec wsX1_bestJoint ({ frames := 4, cells := 0, slots := 0, locals := 95 })).room s m ([.ref g] : List Value).toArray below meth c H locs 0 0 (MQ below (va_Qi (fun r (_ : Unit) => r = res) (fun _ _ => True) ro_F) ([.ref g] : List Value).toArray s 0 0 ro_F) (F0 m 49 ls []) := by
    intro H locs ls  hP hS hl
    refine lv_iload_n hx hb dX1_bestJoint_49 rfl (lv_at hl 2 rfl) ?_
    exact W.iret (v := q_1.2.2) hx hb hr (fun t ht hW => ⟨⟨q_1.2.2, (), rfl, hres.symm, trivial⟩, hS.F ht⟩) hS.2.2 dX1_bestJoint_50
  have hloop7 : ∀ (n k7 : Nat) (x3 : Int32) (x2 : Int32) (x1 : Int32) (H : Heap) (locs : List Loc) (ls : Array Slot), k7 ≤ 82 → 82 - k7 < n → x3 = nI k7 → q_1 = F_Game_bestJoint_L7 nx tn gn ac dn fs mks0 fma0 mks1 fma1 n x3 x2 x1 → va_P (dC, dI) vwCl [(g, .inr (1, [.ref cl, .ref t0, .ref t1, .int nx, .int tn])), (cl, .inr (0, [.ref st, .ref mk, .long gn, .long ac, .long dn])), (st, .inl (cI, 82, .inl fs)), (t0, .inr (5, [.ref ma0, .int mks0, .int pts0, .int ths0, .int rgs0, .int rgc0, .int fnd0, .int rdb0, .int wdb0])), (ma0, .inl (cI, 8, .inl fma0)), (t1, .inr (5, [.ref ma1, .int mks1, .int pts1, .int ths1, .int rgs1, .int rgc1, .int fnd1, .int rdb1, .int wdb1])), (ma1, .inl (cI, 8, .inl fma1))] H → va_S ro_F s.heap H locs → lv_has ls 5 [(3, .int x3), (2, .int x2), (1, .int x1), (0, .ref g)] → W p l e (headSpec wsX1_bestJoint ({ frames := 4, cells := 0, slots := 0, locals := 95 })).room s m ([.ref g] : List Value).toArray below meth c H locs 0 0 (MQ below (va_Qi (fun r (_ : Unit) => r = res) (fun _ _ => True) ro_F) ([.ref g] : List Value).toArray s 0 0 ro_F) (F0 m 7 ls []) := by
    intro n
    induction n with
    | zero => intro k7 x3 x2 x1 _ _ _ _ hm; exact absurd hm (Nat.not_lt_zero _)
    | succ n ih7 =>
      intro k7 x3 x2 x1 H locs ls hk7 hm7 ex7  hq_1 hP hS hl
      rw [F_Game_bestJoint_L7] at hq_1
      refine lv_iload_n hx hb dX1_bestJoint_7 rfl (lv_at hl 0 rfl) ?_
      refine lv_bipush (v := 82) hx hb dX1_bestJoint_8 (by decide) ?_
      refine lv_icmp_ge (tgt := 49) hx hb dX1_bestJoint_10 (by decide) (fun c_2 => ?_) (fun c_2 => ?_)
      · rw [if_pos c_2] at hq_1
        subst hq_1
        exact hexit7 _ _ _  hP hS (lv_sub hl [0, 1, 2, 3] rfl)
      · rw [if_neg c_2] at hq_1
        have hlt_k7 : k7 < 82 := lp_lt rfl ex7 hk7 c_2
        refine lv_aload_n hx hb dX1_bestJoint_13 rfl (lv_at hl 3 rfl) ?_
        refine lv_iload_n hx hb dX1_bestJoint_14 rfl (lv_at hl 0 rfl) ?_
        obtain ⟨r_3, hr_3⟩ : ∃ z, z = F_Game_whyNoSnip x3 tn gn fs := ⟨_, rfl⟩
        rw [bnd_e hr_3] at hq_1
        refine ro_calli (va_runV (As := [.int x3]) (rest := []) ⟨hx, hb, hml, hown, hts⟩ (c_Game_whyNoSnip l dC dI cI cC cG cZ g cl t0 t1 st mk x3 nx tn gn ac dn fs  r_3 hr_3) (cwV 1 hts gX1_bestJoint_X1_whyNoSnip rfl rfl rfl (by decide +kernel) ⟨Nat.le_of_ble_eq_true rfl, Nat.le_of_ble_eq_true rfl⟩) (ro_preV (hP.sub (ws' := [(g, .inr (1, [.ref cl, .ref t0, .ref t1, .int nx, .int tn])), (cl, .inr (0, [.ref st, .ref mk, .long gn, .long ac, .long dn])), (st, .inl (cI, 82, .inl fs))]) [0, 1, 2] rfl) hK (ci := 1) (q0 := 0) rfl rfl) rfl rfl hl.1 rfl (lv_room (Nat.le_of_ble_eq_true rfl)) dX1_bestJoint_15 ⟨Nat.zero_le _, Nat.zero_le _⟩) hP hS (fun H locs hP hS => ?_)
        refine lv_if_ne (tgt := 29) hx hb dX1_bestJoint_18 (by decide) (fun c_4 => ?_) (fun c_4 => ?_)
        · rw [if_neg c_4] at hq_1
          refine lv_iconst (v := (-1)) hx hb dX1_bestJoint_29 (by decide) ?_
          refine lv_istore (lv' := [(4, .int (-1)), (3, .int x3), (2, .int x2), (1, .int x1), (0, .ref g)]) hx hb dX1_bestJoint_30 hl (by decide) rfl (fun ls hl => ?_)
          refine lv_iload hx hb dX1_bestJoint_32 (lv_at hl 0 rfl) ?_
          refine lv_iload_n hx hb dX1_bestJoint_34 rfl (lv_at hl 2 rfl) ?_
          refine lv_icmp_le (tgt := 43) hx hb dX1_bestJoint_35 (by decide) (fun c_5 => ?_) (fun c_5 => ?_)
          · rw [if_pos c_5] at hq_1
            refine lv_iinc (v := (x3 + 1)) (lv' := [(3, .int (x3 + 1)), (4, .int (-1)), (2, .int x2), (1, .int x1), (0, .ref g)]) hx hb dX1_bestJoint_43 hl (k := 1) rfl rfl (by decide) rfl (fun ls hl => ?_)
            refine lv_goto (tgt := 7) hx hb dX1_bestJoint_46 (by decide) ?_
            exact ih7 (k7 + 1) (x3 + 1) x2 x1 _ _ _ (by omega) (by omega) (by rw [ex7]; exact nI_1 _)  hq_1 hP hS (lv_sub hl [0, 2, 3, 4] rfl)
          · rw [if_neg c_5] at hq_1
            refine lv_iload hx hb dX1_bestJoint_38 (lv_at hl 0 rfl) ?_
            refine lv_istore_n (lv' := [(2, .int (-1)), (4, .int (-1)), (3, .int x3), (1, .int x1), (0, .ref g)]) hx hb dX1_bestJoint_40 rfl hl (by decide) rfl (fun ls hl => ?_)
            refine lv_iload_n hx hb dX1_bestJoint_41 rfl (lv_at hl 2 rfl) ?_
            refine lv_istore_n (lv' := [(1, .int x3), (2, .int (-1)), (4, .int (-1)), (3, .int x3), (0, .ref g)]) hx hb dX1_bestJoint_42 rfl hl (by decide) rfl (fun ls hl => ?_)
            refine lv_iinc (v := (x3 + 1)) (lv' := [(3, .int (x3 + 1)), (1, .int x3), (2, .int (-1)), (4, .int (-1)), (0, .ref g)]) hx hb dX1_bestJoint_43 hl (k := 3) rfl rfl (by decide) rfl (fun ls hl => ?_)
            refine lv_goto (tgt := 7) hx hb dX1_bestJoint_46 (by decide) ?_
            exact ih7 (k7 + 1) (x3 + 1) (-1 : Int32) x3 _ _ _ (by omega) (by omega) (by rw [ex7]; exact nI_1 _)  hq_1 hP hS (lv_sub hl [0, 2, 1, 4] rfl)
        · rw [if_pos c_4] at hq_1
          refine lv_aload_n hx hb dX1_bestJoint_21 rfl (lv_at hl 3 rfl) ?_
          refine lv_iload_n hx hb dX1_bestJoint_22 rfl (lv_at hl 0 rfl) ?_
          obtain ⟨r_6, hr_6⟩ : ∃ z, z = F_Game_openGain x3 nx ac dn mks0 fma0 mks1 fma1 := ⟨_, rfl⟩
          rw [bnd_e hr_6] at hq_1
          refine ro_calli (va_runV (As := [.int x3]) (rest := []) ⟨hx, hb, hml, hown, hts⟩ (c_Game_openGain l dC dI cI cC cG cZ g cl t0 t1 st mk ma0 ma1 x3 nx tn gn ac dn mks0 pts0 ths0 rgs0 rgc0 fnd0 rdb0 wdb0 fma0 mks1 pts1 ths1 rgs1 rgc1 fnd1 rdb1 wdb1 fma1 hM0 hM1 r_6 hr_6) (cwV 1 hts gX1_bestJoint_X1_openGain rfl rfl rfl (by decide +kernel) ⟨Nat.le_of_ble_eq_true rfl, Nat.le_of_ble_eq_true rfl⟩) (ro_preV (hP.sub (ws' := [(g, .inr (1, [.ref cl, .ref t0, .ref t1, .int nx, .int tn])), (cl, .inr (0, [.ref st, .ref mk, .long gn, .long ac, .long dn])), (t0, .inr (5, [.ref ma0, .int mks0, .int pts0, .int ths0, .int rgs0, .int rgc0, .int fnd0, .int rdb0, .int wdb0])), (ma0, .inl (cI, 8, .inl fma0)), (t1, .inr (5, [.ref ma1, .int mks1, .int pts1, .int ths1, .int rgs1, .int rgc1, .int fnd1, .int rdb1, .int wdb1])), (ma1, .inl (cI, 8, .inl fma1))]) [0, 1, 3, 4, 5, 6] rfl) hK (ci := 1) (q0 := 0) rfl rfl) rfl rfl hl.1 rfl (lv_room (Nat.le_of_ble_eq_true rfl)) dX1_bestJoint_23 ⟨Nat.zero_le _, Nat.zero_le _⟩) hP hS (fun H locs hP hS => ?_)
          refine lv_goto (tgt := 30) hx hb dX1_bestJoint_26 (by decide) ?_
          refine lv_istore (lv' := [(4, .int r_6), (3, .int x3), (2, .int x2), (1, .int x1), (0, .ref g)]) hx hb dX1_bestJoint_30 hl (by decide) rfl (fun ls hl => ?_)
          refine lv_iload hx hb dX1_bestJoint_32 (lv_at hl 0 rfl) ?_
          refine lv_iload_n hx hb dX1_bestJoint_34 rfl (lv_at hl 2 rfl) ?_
          refine lv_icmp_le (tgt := 43) hx hb dX1_bestJoint_35 (by decide) (fun c_7 => ?_) (fun c_7 => ?_)
          · rw [if_pos c_7] at hq_1
            refine lv_iinc (v := (x3 + 1)) (lv' := [(3, .int (x3 + 1)), (4, .int r_6), (2, .int x2), (1, .int x1), (0, .ref g)]) hx hb dX1_bestJoint_43 hl (k := 1) rfl rfl (by decide) rfl (fun ls hl => ?_)
            refine lv_goto (tgt := 7) hx hb dX1_bestJoint_46 (by decide) ?_
            exact ih7 (k7 + 1) (x3 + 1) x2 x1 _ _ _ (by omega) (by omega) (by rw [ex7]; exact nI_1 _)  hq_1 hP hS (lv_sub hl [0, 2, 3, 4] rfl)
          · rw [if_neg c_7] at hq_1
            refine lv_iload hx hb dX1_bestJoint_38 (lv_at hl 0 rfl) ?_
            refine lv_istore_n (lv' := [(2, .int r_6), (4, .int r_6), (3, .int x3), (1, .int x1), (0, .ref g)]) hx hb dX1_bestJoint_40 rfl hl (by decide) rfl (fun ls hl => ?_)
            refine lv_iload_n hx hb dX1_bestJoint_41 rfl (lv_at hl 2 rfl) ?_
            refine lv_istore_n (lv' := [(1, .int x3), (2, .int r_6), (4, .int r_6), (3, .int x3), (0, .ref g)]) hx hb dX1_bestJoint_42 rfl hl (by decide) rfl (fun ls hl => ?_)
            refine lv_iinc (v := (x3 + 1)) (lv' := [(3, .int (x3 + 1)), (1, .int x3), (2, .int r_6), (4, .int r_6), (0, .ref g)]) hx hb dX1_bestJoint_43 hl (k := 3) rfl rfl (by decide) rfl (fun ls hl => ?_)
            refine lv_goto (tgt := 7) hx hb dX1_bestJoint_46 (by decide) ?_
            exact ih7 (k7 + 1) (x3 + 1) r_6 x3 _ _ _ (by omega) (by omega) (by rw [ex7]; exact nI_1 _)  hq_1 hP hS (lv_sub hl [0, 2, 1, 4] rfl)
  exact hloop7 83 0 (0 : Int32) (-1 : Int32) (-6 : Int32) _ _ _ (by omega) (by omega) nI_0.symm  hq_1 hP hS (lv_sub hl [0, 1, 2, 3] rfl)
