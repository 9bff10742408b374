theorem iX6_count_X1 : ∀ w ∈ u_ws RX1 TX1 5, w ∈ wsX6_count := by decide +kernel
theorem iX6_count_X2 : ∀ w ∈ u_ws RX2 TX2 3, w ∈ wsX6_count := by decide +kernel
theorem iX6_count_X3 : ∀ w ∈ u_ws RX3 TX3 2, w ∈ wsX6_count := by decide +kernel
theorem iX6_count_X6 : ∀ w ∈ u_ws RX6 TX6 5, w ∈ wsX6_count := by decide +kernel
theorem kX6_count_10 : Cond.fieldLink RX6 10 "TailorChalks" "game" "LTailorChalks$Game;" ∈ wsX6_count := by decide +kernel
theorem kX6_count_149 : Cond.fieldLink RX6 149 "TailorChalks$Game" "turns" "I" ∈ wsX6_count := by decide +kernel
theorem kX6_count_152 : Cond.fieldLink RX6 152 "TailorChalks$Game" "next" "I" ∈ wsX6_count := by decide +kernel
theorem kX6_count_172 : Cond.fieldLink RX6 172 "TailorChalks$Pad" "length" "I" ∈ wsX6_count := by decide +kernel
theorem kX6_count_175 : Cond.fieldLink RX6 175 "TailorChalks$History" "kept" "I" ∈ wsX6_count := by decide +kernel
theorem kX6_count_19 : Cond.fieldLink RX6 19 "TailorChalks" "history" "LTailorChalks$History;" ∈ wsX6_count := by decide +kernel
theorem kX6_count_36 : Cond.fieldLink RX6 36 "TailorChalks" "pad" "LTailorChalks$Pad;" ∈ wsX6_count := by decide +kernel
theorem kX6_count_60 : Cond.fieldLink RX6 60 "TailorChalks$Game" "cloth" "LTailorChalks$Cloth;" ∈ wsX6_count := by decide +kernel
def F_TC_count (what : Int32) (nx : Int32) (tn : Int32) (gn : Int64) (ac : Int64) (dn : Int64) (fs : Nat → Int32) (pts0 : Int32) (pts1 : Int32) (ln : Int32) (hk : Int32) : Int32 := (if what = 0 then tn else (if what = 1 then nx else (if what = 2 then (bnd (F_Game_isOver tn gn) (fun r_4 => (bnd (F_TC_asNumber r_4) (fun r_5 => r_5)))) else (if what = 3 then (bnd (F_Game_winner tn gn pts0 pts1) (fun r_7 => r_7)) else (if what = 4 then (bnd (F_Cloth_cellsLeft gn) (fun r_9 => r_9)) else (if what = 5 then (bnd (F_Cloth_pieces gn ac dn) (fun r_11 => r_11)) else (if what = 6 then (bnd (F_Cloth_jointsThatAre (1 : Int32) gn fs) (fun r_13 => r_13)) else (if what = 7 then (bnd (F_Cloth_jointsThatAre (2 : Int32) gn fs) (fun r_15 => r_15)) else (if what = 8 then (bnd (F_Cloth_jointsThatAre (3 : Int32) gn fs) (fun r_17 => r_17)) else (if what = 9 then ln else (if what = 10 then hk else (-2))))))))))))
set_option maxHeartbeats 4000000 in
set_option maxRecDepth 100000 in
theorem c_TC_count (l : Launch) (dC : Nat → ClassId) (dI : Nat → Nat → Nat) (cI cC cG cZ : ClassId) (tc g h s0 s1 pd cl t0 t1 st mk ma0 ma1 sg hs gn_ : Nat) (what : Int32) (nx : Int32) (tn : Int32) (gn : Int64) (ac : Int64) (dn : Int64) (fs : Nat → Int32) (mks0 : Int32) (pts0 : Int32) (ths0 : Int32) (rgs0 : Int32) (rgc0 : Int32) (fnd0 : Int32) (rdb0 : Int32) (wdb0 : Int32) (mks1 : Int32) (pts1 : Int32) (ths1 : Int32) (rgs1 : Int32) (rgc1 : Int32) (fnd1 : Int32) (rdb1 : Int32) (wdb1 : Int32) (ln : Int32) (hk : Int32) (res : Int32) (hres : res = F_TC_count what nx tn gn ac dn fs pts0 pts1 ln hk) : Met l yX6_count wsX6_count ({ frames := 4, cells := 0, slots := 0, locals := 88 }) (va_Pc [.ref tc, .int what] (ro_P (dC, dI) vwCl (tyL cI cC cG cZ) [(tc, .inr (6, [.ref g, .ref h, .ref s0, .ref s1, .ref pd])), (g, .inr (1, [.ref cl, .ref t0, .ref t1, .int nx, .int tn])), (cl, .inr (0, [.ref st, .ref mk, .long gn, .long ac, .long dn])), (st, .inl (cI, 82, .inl fs)), (t0, .inr (5, [.ref ma0, .int mks0, .int pts0, .int ths0, .int rgs0, .int rgc0, .int fnd0, .int rdb0, .int wdb0])), (t1, .inr (5, [.ref ma1, .int mks1, .int pts1, .int ths1, .int rgs1, .int rgc1, .int fnd1, .int rdb1, .int wdb1])), (pd, .inr (3, [.ref sg, .int ln])), (h, .inr (2, [.ref hs, .int hk, .ref gn_]))])) (va_Qi (fun r (_ : Unit) => r = res) (fun _ _ => True) ro_F) 0 0 ro_F := by
  refine Met.ofW (cc := cX6_count) (maxL := 2) (ret := (some .int)) (by decide) rfl ?_
  intro p e s m args below meth c s₁ B hml hv
  obtain ⟨rfl, hP, hK⟩ := hv
  have hx := B.exec
  have hb := B.bytes
  have hr := B.returns
  have hts := atoms_spec (ws := wsX6_count) B.pre
  have hown : s.vm.findClass RX6 = some m.cls := findClass_of_methodNamed B.named
  have hlocks := B.notSynchronized
  have hS : va_S ro_F s.heap s.heap [] := va_S.rf
  have hl := lv_entry ([.ref tc, .int what]) (n := 2) (Nat.le_of_ble_eq_true rfl)
  rw [lg_entry_eq]
  generalize (lg_sl ([.ref tc, .int what]) ++ List.replicate (2 - (lg_sl ([.ref tc, .int what])).length) Slot.unset).toArray = ls at hl ⊢
  have hl : lv_has ls 2 [(0, .ref tc), (1, .int what)] := hl
  rw [F_TC_count] at hres
  refine lv_iload_n hx hb dX6_count_0 rfl (lv_at hl 1 rfl) ?_
  by_cases c_1 : what = 0
  · rw [if_pos c_1] at hres
    refine lv_tableIn (off := 59) (tgt := 60) hx hb dX6_count_1 (by rw [c_1]; decide) (by rw [c_1]; decide) (by rw [c_1]; rfl) (by decide) ?_
    refine lv_aload_n hx hb dX6_count_60 rfl (lv_at hl 0 rfl) ?_
    refine va_get (D := (dC, dI)) (ci := 6) (v := .ref g) (C := RX6) (T := TX6) (N := 5) hx hb hts iX6_count_X6 hown hK hP 0 rfl rfl 0 (by decide) (hts (.fieldLink RX6 10 "TailorChalks" "game" "LTailorChalks$Game;") kX6_count_10) (fun _ h9 => h9) rfl dX6_count_61 ?_
    refine va_get (D := (dC, dI)) (ci := 1) (v := .int tn) (C := RX1) (T := TX1) (N := 5) hx hb hts iX6_count_X1 hown hK hP 1 rfl rfl 4 (by decide) (hts (.fieldLink RX6 149 "TailorChalks$Game" "turns" "I") kX6_count_149) (fun _ h9 => h9) rfl dX6_count_64 ?_
    exact W.iret (v := tn) hx hb hr (fun t ht hW => ⟨⟨tn, (), rfl, hres.symm, trivial⟩, hS.F ht⟩) hS.2.2 dX6_count_67
  · rw [if_neg c_1] at hres
    by_cases c_2 : what = 1
    · rw [if_pos c_2] at hres
      refine lv_tableIn (off := 67) (tgt := 68) hx hb dX6_count_1 (by rw [c_2]; decide) (by rw [c_2]; decide) (by rw [c_2]; rfl) (by decide) ?_
      refine lv_aload_n hx hb dX6_count_68 rfl (lv_at hl 0 rfl) ?_
      refine va_get (D := (dC, dI)) (ci := 6) (v := .ref g) (C := RX6) (T := TX6) (N := 5) hx hb hts iX6_count_X6 hown hK hP 0 rfl rfl 0 (by decide) (hts (.fieldLink RX6 10 "TailorChalks" "game" "LTailorChalks$Game;") kX6_count_10) (fun _ h9 => h9) rfl dX6_count_69 ?_
      refine va_get (D := (dC, dI)) (ci := 1) (v := .int nx) (C := RX1) (T := TX1) (N := 5) hx hb hts iX6_count_X1 hown hK hP 1 rfl rfl 3 (by decide) (hts (.fieldLink RX6 152 "TailorChalks$Game" "next" "I") kX6_count_152) (fun _ h9 => h9) rfl dX6_count_72 ?_
      exact W.iret (v := nx) hx hb hr (fun t ht hW => ⟨⟨nx, (), rfl, hres.symm, trivial⟩, hS.F ht⟩) hS.2.2 dX6_count_75
    · rw [if_neg c_2] at hres
      by_cases c_3 : what = 2
      · rw [if_pos c_3] at hres
        refine lv_tableIn (off := 75) (tgt := 76) hx hb dX6_count_1 (by rw [c_3]; decide) (by rw [c_3]; decide) (by rw [c_3]; rfl) (by decide) ?_
        refine lv_aload_n hx hb dX6_count_76 rfl (lv_at hl 0 rfl) ?_
        refine va_get (D := (dC, dI)) (ci := 6) (v := .ref g) (C := RX6) (T := TX6) (N := 5) hx hb hts iX6_count_X6 hown hK hP 0 rfl rfl 0 (by decide) (hts (.fieldLink RX6 10 "TailorChalks" "game" "LTailorChalks$Game;") kX6_count_10) (fun _ h9 => h9) rfl dX6_count_77 ?_
        obtain ⟨r_4, hr_4⟩ : ∃ z, z = F_Game_isOver tn gn := ⟨_, rfl⟩
        rw [bnd_e hr_4] at hres
        refine ro_calli (va_runV (As := []) (rest := []) ⟨hx, hb, hml, hown, hts⟩ (c_Game_isOver l dC dI cI cC cG cZ g cl t0 t1 st mk nx tn gn ac dn  r_4 hr_4) (cwV 0 hts gX6_count_X1_isOver rfl rfl rfl (by decide +kernel) ⟨Nat.le_of_ble_eq_true rfl, Nat.le_of_ble_eq_true rfl⟩) (ro_preV (hP.sub (ws' := [(g, .inr (1, [.ref cl, .ref t0, .ref t1, .int nx, .int tn])), (cl, .inr (0, [.ref st, .ref mk, .long gn, .long ac, .long dn]))]) [1, 2] rfl) hK (ci := 1) (q0 := 0) rfl rfl) rfl rfl hl.1 rfl (lv_room (Nat.le_of_ble_eq_true rfl)) dX6_count_80 ⟨Nat.zero_le _, Nat.zero_le _⟩) hP hS (fun H locs hP hS => ?_)
        obtain ⟨r_5, hr_5⟩ : ∃ z, z = F_TC_asNumber r_4 := ⟨_, rfl⟩
        rw [bnd_e hr_5] at hres
        refine ro_calli (va_runS (As := [.int r_4]) (rest := []) ⟨hx, hb, hml, hown, hts⟩ (c_TC_asNumber l dC dI cI cC cG cZ  r_4  r_5 hr_5) (va_cwS 1 hts gX6_count_X6_asNumber rfl rfl rfl (by decide +kernel) ⟨Nat.le_of_ble_eq_true rfl, Nat.le_of_ble_eq_true rfl⟩) (ro_preS (hP.sub (ws' := []) [] rfl) hK) rfl rfl hl.1 rfl (lv_room (Nat.le_of_ble_eq_true rfl)) dX6_count_83 ⟨Nat.zero_le _, Nat.zero_le _⟩) hP hS (fun H locs hP hS => ?_)
        exact W.iret (v := r_5) hx hb hr (fun t ht hW => ⟨⟨r_5, (), rfl, hres.symm, trivial⟩, hS.F ht⟩) hS.2.2 dX6_count_86
      · rw [if_neg c_3] at hres
        by_cases c_6 : what = 3
        · rw [if_pos c_6] at hres
          refine lv_tableIn (off := 86) (tgt := 87) hx hb dX6_count_1 (by rw [c_6]; decide) (by rw [c_6]; decide) (by rw [c_6]; rfl) (by decide) ?_
          refine lv_aload_n hx hb dX6_count_87 rfl (lv_at hl 0 rfl) ?_
          refine va_get (D := (dC, dI)) (ci := 6) (v := .ref g) (C := RX6) (T := TX6) (N := 5) hx hb hts iX6_count_X6 hown hK hP 0 rfl rfl 0 (by decide) (hts (.fieldLink RX6 10 "TailorChalks" "game" "LTailorChalks$Game;") kX6_count_10) (fun _ h9 => h9) rfl dX6_count_88 ?_
          obtain ⟨r_7, hr_7⟩ : ∃ z, z = F_Game_winner tn gn pts0 pts1 := ⟨_, rfl⟩
          rw [bnd_e hr_7] at hres
          refine ro_calli (va_runV (As := []) (rest := []) ⟨hx, hb, hml, hown, hts⟩ (c_Game_winner l dC dI cI cC cG cZ g cl t0 t1 st mk ma0 ma1 nx tn gn ac dn mks0 pts0 ths0 rgs0 rgc0 fnd0 rdb0 wdb0 mks1 pts1 ths1 rgs1 rgc1 fnd1 rdb1 wdb1  r_7 hr_7) (cwV 0 hts gX6_count_X1_winner rfl rfl rfl (by decide +kernel) ⟨Nat.le_of_ble_eq_true rfl, Nat.le_of_ble_eq_true rfl⟩) (ro_preV (hP.sub (ws' := [(g, .inr (1, [.ref cl, .ref t0, .ref t1, .int nx, .int tn])), (cl, .inr (0, [.ref st, .ref mk, .long gn, .long ac, .long dn])), (t0, .inr (5, [.ref ma0, .int mks0, .int pts0, .int ths0, .int rgs0, .int rgc0, .int fnd0, .int rdb0, .int wdb0])), (t1, .inr (5, [.ref ma1, .int mks1, .int pts1, .int ths1, .int rgs1, .int rgc1, .int fnd1, .int rdb1, .int wdb1]))]) [1, 2, 4, 5] rfl) hK (ci := 1) (q0 := 0) rfl rfl) rfl rfl hl.1 rfl (lv_room (Nat.le_of_ble_eq_true rfl)) dX6_count_91 ⟨Nat.zero_le _, Nat.zero_le _⟩) hP hS (fun H locs hP hS => ?_)
          exact W.iret (v := r_7) hx hb hr (fun t ht hW => ⟨⟨r_7, (), rfl, hres.symm, trivial⟩, hS.F ht⟩) hS.2.2 dX6_count_94
        · rw [if_neg c_6] at hres
          by_cases c_8 : what = 4
          · rw [if_pos c_8] at hres
            refine lv_tableIn (off := 94) (tgt := 95) hx hb dX6_count_1 (by rw [c_8]; decide) (by rw [c_8]; decide) (by rw [c_8]; rfl) (by decide) ?_
            refine lv_aload_n hx hb dX6_count_95 rfl (lv_at hl 0 rfl) ?_
            refine va_get (D := (dC, dI)) (ci := 6) (v := .ref g) (C := RX6) (T := TX6) (N := 5) hx hb hts iX6_count_X6 hown hK hP 0 rfl rfl 0 (by decide) (hts (.fieldLink RX6 10 "TailorChalks" "game" "LTailorChalks$Game;") kX6_count_10) (fun _ h9 => h9) rfl dX6_count_96 ?_
            refine va_get (D := (dC, dI)) (ci := 1) (v := .ref cl) (C := RX1) (T := TX1) (N := 5) hx hb hts iX6_count_X1 hown hK hP 1 rfl rfl 0 (by decide) (hts (.fieldLink RX6 60 "TailorChalks$Game" "cloth" "LTailorChalks$Cloth;") kX6_count_60) (fun _ h9 => h9) rfl dX6_count_99 ?_
            obtain ⟨r_9, hr_9⟩ : ∃ z, z = F_Cloth_cellsLeft gn := ⟨_, rfl⟩
            rw [bnd_e hr_9] at hres
            refine ro_calli (va_runV (As := []) (rest := []) ⟨hx, hb, hml, hown, hts⟩ (c_Cloth_cellsLeft l dC dI cI cC cG cZ cl st mk gn ac dn  r_9 hr_9) (cwV 0 hts gX6_count_X0_cellsLeft rfl rfl rfl (by decide +kernel) ⟨Nat.le_of_ble_eq_true rfl, Nat.le_of_ble_eq_true rfl⟩) (ro_preV (hP.sub (ws' := [(cl, .inr (0, [.ref st, .ref mk, .long gn, .long ac, .long dn]))]) [2] rfl) hK (ci := 0) (q0 := 0) rfl rfl) rfl rfl hl.1 rfl (lv_room (Nat.le_of_ble_eq_true rfl)) dX6_count_102 ⟨Nat.zero_le _, Nat.zero_le _⟩) hP hS (fun H locs hP hS => ?_)
            exact W.iret (v := r_9) hx hb hr (fun t ht hW => ⟨⟨r_9, (), rfl, hres.symm, trivial⟩, hS.F ht⟩) hS.2.2 dX6_count_105
          · rw [if_neg c_8] at hres
            by_cases c_10 : what = 5
            · rw [if_pos c_10] at hres
              refine lv_tableIn (off := 105) (tgt := 106) hx hb dX6_count_1 (by rw [c_10]; decide) (by rw [c_10]; decide) (by rw [c_10]; rfl) (by decide) ?_
              refine lv_aload_n hx hb dX6_count_106 rfl (lv_at hl 0 rfl) ?_
              refine va_get (D := (dC, dI)) (ci := 6) (v := .ref g) (C := RX6) (T := TX6) (N := 5) hx hb hts iX6_count_X6 hown hK hP 0 rfl rfl 0 (by decide) (hts (.fieldLink RX6 10 "TailorChalks" "game" "LTailorChalks$Game;") kX6_count_10) (fun _ h9 => h9) rfl dX6_count_107 ?_
              refine va_get (D := (dC, dI)) (ci := 1) (v := .ref cl) (C := RX1) (T := TX1) (N := 5) hx hb hts iX6_count_X1 hown hK hP 1 rfl rfl 0 (by decide) (hts (.fieldLink RX6 60 "TailorChalks$Game" "cloth" "LTailorChalks$Cloth;") kX6_count_60) (fun _ h9 => h9) rfl dX6_count_110 ?_
              obtain ⟨r_11, hr_11⟩ : ∃ z, z = F_Cloth_pieces gn ac dn := ⟨_, rfl⟩
              rw [bnd_e hr_11] at hres
              refine ro_calli (va_runV (As := []) (rest := []) ⟨hx, hb, hml, hown, hts⟩ (c_Cloth_pieces l dC dI cI cC cG cZ cl st mk gn ac dn  r_11 hr_11) (cwV 0 hts gX6_count_X0_pieces rfl rfl rfl (by decide +kernel) ⟨Nat.le_of_ble_eq_true rfl, Nat.le_of_ble_eq_true rfl⟩) (ro_preV (hP.sub (ws' := [(cl, .inr (0, [.ref st, .ref mk, .long gn, .long ac, .long dn]))]) [2] rfl) hK (ci := 0) (q0 := 0) rfl rfl) rfl rfl hl.1 rfl (lv_room (Nat.le_of_ble_eq_true rfl)) dX6_count_113 ⟨Nat.zero_le _, Nat.zero_le _⟩) hP hS (fun H locs hP hS => ?_)
              exact W.iret (v := r_11) hx hb hr (fun t ht hW => ⟨⟨r_11, (), rfl, hres.symm, trivial⟩, hS.F ht⟩) hS.2.2 dX6_count_116
            · rw [if_neg c_10] at hres
              by_cases c_12 : what = 6
              · rw [if_pos c_12] at hres
                refine lv_tableIn (off := 116) (tgt := 117) hx hb dX6_count_1 (by rw [c_12]; decide) (by rw [c_12]; decide) (by rw [c_12]; rfl) (by decide) ?_
                refine lv_aload_n hx hb dX6_count_117 rfl (lv_at hl 0 rfl) ?_
                refine va_get (D := (dC, dI)) (ci := 6) (v := .ref g) (C := RX6) (T := TX6) (N := 5) hx hb hts iX6_count_X6 hown hK hP 0 rfl rfl 0 (by decide) (hts (.fieldLink RX6 10 "TailorChalks" "game" "LTailorChalks$Game;") kX6_count_10) (fun _ h9 => h9) rfl dX6_count_118 ?_
                refine va_get (D := (dC, dI)) (ci := 1) (v := .ref cl) (C := RX1) (T := TX1) (N := 5) hx hb hts iX6_count_X1 hown hK hP 1 rfl rfl 0 (by decide) (hts (.fieldLink RX6 60 "TailorChalks$Game" "cloth" "LTailorChalks$Cloth;") kX6_count_60) (fun _ h9 => h9) rfl dX6_count_121 ?_
                refine lv_iconst (v := 1) hx hb dX6_count_124 (by decide) ?_
                obtain ⟨r_13, hr_13⟩ : ∃ z, z = F_Cloth_jointsThatAre (1 : Int32) gn fs := ⟨_, rfl⟩
                rw [bnd_e hr_13] at hres
                refine ro_calli (va_runV (As := [.int 1]) (rest := []) ⟨hx, hb, hml, hown, hts⟩ (c_Cloth_jointsThatAre l dC dI cI cC cG cZ cl st mk (1 : Int32) gn ac dn fs  r_13 hr_13) (cwV 1 hts gX6_count_X0_jointsThatAre rfl rfl rfl (by decide +kernel) ⟨Nat.le_of_ble_eq_true rfl, Nat.le_of_ble_eq_true rfl⟩) (ro_preV (hP.sub (ws' := [(cl, .inr (0, [.ref st, .ref mk, .long gn, .long ac, .long dn])), (st, .inl (cI, 82, .inl fs))]) [2, 3] rfl) hK (ci := 0) (q0 := 0) rfl rfl) rfl rfl hl.1 rfl (lv_room (Nat.le_of_ble_eq_true rfl)) dX6_count_125 ⟨Nat.zero_le _, Nat.zero_le _⟩) hP hS (fun H locs hP hS => ?_)
                exact W.iret (v := r_13) hx hb hr (fun t ht hW => ⟨⟨r_13, (), rfl, hres.symm, trivial⟩, hS.F ht⟩) hS.2.2 dX6_count_128
              · rw [if_neg c_12] at hres
                by_cases c_14 : what = 7
                · rw [if_pos c_14] at hres
                  refine lv_tableIn (off := 128) (tgt := 129) hx hb dX6_count_1 (by rw [c_14]; decide) (by rw [c_14]; decide) (by rw [c_14]; rfl) (by decide) ?_
                  refine lv_aload_n hx hb dX6_count_129 rfl (lv_at hl 0 rfl) ?_
                  refine va_get (D := (dC, dI)) (ci := 6) (v := .ref g) (C := RX6) (T := TX6) (N := 5) hx hb hts iX6_count_X6 hown hK hP 0 rfl rfl 0 (by decide) (hts (.fieldLink RX6 10 "TailorChalks" "game" "LTailorChalks$Game;") kX6_count_10) (fun _ h9 => h9) rfl dX6_count_130 ?_
                  refine va_get (D := (dC, dI)) (ci := 1) (v := .ref cl) (C := RX1) (T := TX1) (N := 5) hx hb hts iX6_count_X1 hown hK hP 1 rfl rfl 0 (by decide) (hts (.fieldLink RX6 60 "TailorChalks$Game" "cloth" "LTailorChalks$Cloth;") kX6_count_60) (fun _ h9 => h9) rfl dX6_count_133 ?_
                  refine lv_iconst (v := 2) hx hb dX6_count_136 (by decide) ?_
                  obtain ⟨r_15, hr_15⟩ : ∃ z, z = F_Cloth_jointsThatAre (2 : Int32) gn fs := ⟨_, rfl⟩
                  rw [bnd_e hr_15] at hres
                  refine ro_calli (va_runV (As := [.int 2]) (rest := []) ⟨hx, hb, hml, hown, hts⟩ (c_Cloth_jointsThatAre l dC dI cI cC cG cZ cl st mk (2 : Int32) gn ac dn fs  r_15 hr_15) (cwV 1 hts gX6_count_X0_jointsThatAre rfl rfl rfl (by decide +kernel) ⟨Nat.le_of_ble_eq_true rfl, Nat.le_of_ble_eq_true rfl⟩) (ro_preV (hP.sub (ws' := [(cl, .inr (0, [.ref st, .ref mk, .long gn, .long ac, .long dn])), (st, .inl (cI, 82, .inl fs))]) [2, 3] rfl) hK (ci := 0) (q0 := 0) rfl rfl) rfl rfl hl.1 rfl (lv_room (Nat.le_of_ble_eq_true rfl)) dX6_count_137 ⟨Nat.zero_le _, Nat.zero_le _⟩) hP hS (fun H locs hP hS => ?_)
                  exact W.iret (v := r_15) hx hb hr (fun t ht hW => ⟨⟨r_15, (), rfl, hres.symm, trivial⟩, hS.F ht⟩) hS.2.2 dX6_count_140
                · rw [if_neg c_14] at hres
                  by_cases c_16 : what = 8
                  · rw [if_pos c_16] at hres
                    refine lv_tableIn (off := 140) (tgt := 141) hx hb dX6_count_1 (by rw [c_16]; decide) (by rw [c_16]; decide) (by rw [c_16]; rfl) (by decide) ?_
                    refine lv_aload_n hx hb dX6_count_141 rfl (lv_at hl 0 rfl) ?_
                    refine va_get (D := (dC, dI)) (ci := 6) (v := .ref g) (C := RX6) (T := TX6) (N := 5) hx hb hts iX6_count_X6 hown hK hP 0 rfl rfl 0 (by decide) (hts (.fieldLink RX6 10 "TailorChalks" "game" "LTailorChalks$Game;") kX6_count_10) (fun _ h9 => h9) rfl dX6_count_142 ?_
                    refine va_get (D := (dC, dI)) (ci := 1) (v := .ref cl) (C := RX1) (T := TX1) (N := 5) hx hb hts iX6_count_X1 hown hK hP 1 rfl rfl 0 (by decide) (hts (.fieldLink RX6 60 "TailorChalks$Game" "cloth" "LTailorChalks$Cloth;") kX6_count_60) (fun _ h9 => h9) rfl dX6_count_145 ?_
                    refine lv_iconst (v := 3) hx hb dX6_count_148 (by decide) ?_
                    obtain ⟨r_17, hr_17⟩ : ∃ z, z = F_Cloth_jointsThatAre (3 : Int32) gn fs := ⟨_, rfl⟩
                    rw [bnd_e hr_17] at hres
                    refine ro_calli (va_runV (As := [.int 3]) (rest := []) ⟨hx, hb, hml, hown, hts⟩ (c_Cloth_jointsThatAre l dC dI cI cC cG cZ cl st mk (3 : Int32) gn ac dn fs  r_17 hr_17) (cwV 1 hts gX6_count_X0_jointsThatAre rfl rfl rfl (by decide +kernel) ⟨Nat.le_of_ble_eq_true rfl, Nat.le_of_ble_eq_true rfl⟩) (ro_preV (hP.sub (ws' := [(cl, .inr (0, [.ref st, .ref mk, .long gn, .long ac, .long dn])), (st, .inl (cI, 82, .inl fs))]) [2, 3] rfl) hK (ci := 0) (q0 := 0) rfl rfl) rfl rfl hl.1 rfl (lv_room (Nat.le_of_ble_eq_true rfl)) dX6_count_149 ⟨Nat.zero_le _, Nat.zero_le _⟩) hP hS (fun H locs hP hS => ?_)
                    exact W.iret (v := r_17) hx hb hr (fun t ht hW => ⟨⟨r_17, (), rfl, hres.symm, trivial⟩, hS.F ht⟩) hS.2.2 dX6_count_152
                  · rw [if_neg c_16] at hres
                    by_cases c_18 : what = 9
                    · rw [if_pos c_18] at hres
                      refine lv_tableIn (off := 152) (tgt := 153) hx hb dX6_count_1 (by rw [c_18]; decide) (by rw [c_18]; decide) (by rw [c_18]; rfl) (by decide) ?_
                      refine lv_aload_n hx hb dX6_count_153 rfl (lv_at hl 0 rfl) ?_
                      refine va_get (D := (dC, dI)) (ci := 6) (v := .ref pd) (C := RX6) (T := TX6) (N := 5) hx hb hts iX6_count_X6 hown hK hP 0 rfl rfl 4 (by decide) (hts (.fieldLink RX6 36 "TailorChalks" "pad" "LTailorChalks$Pad;") kX6_count_36) (fun _ h9 => h9) rfl dX6_count_154 ?_
                      refine va_get (D := (dC, dI)) (ci := 3) (v := .int ln) (C := RX3) (T := TX3) (N := 2) hx hb hts iX6_count_X3 hown hK hP 6 rfl rfl 1 (by decide) (hts (.fieldLink RX6 172 "TailorChalks$Pad" "length" "I") kX6_count_172) (fun _ h9 => h9) rfl dX6_count_157 ?_
                      exact W.iret (v := ln) hx hb hr (fun t ht hW => ⟨⟨ln, (), rfl, hres.symm, trivial⟩, hS.F ht⟩) hS.2.2 dX6_count_160
                    · rw [if_neg c_18] at hres
                      by_cases c_19 : what = 10
                      · rw [if_pos c_19] at hres
                        refine lv_tableIn (off := 160) (tgt := 161) hx hb dX6_count_1 (by rw [c_19]; decide) (by rw [c_19]; decide) (by rw [c_19]; rfl) (by decide) ?_
                        refine lv_aload_n hx hb dX6_count_161 rfl (lv_at hl 0 rfl) ?_
                        refine va_get (D := (dC, dI)) (ci := 6) (v := .ref h) (C := RX6) (T := TX6) (N := 5) hx hb hts iX6_count_X6 hown hK hP 0 rfl rfl 1 (by decide) (hts (.fieldLink RX6 19 "TailorChalks" "history" "LTailorChalks$History;") kX6_count_19) (fun _ h9 => h9) rfl dX6_count_162 ?_
                        refine va_get (D := (dC, dI)) (ci := 2) (v := .int hk) (C := RX2) (T := TX2) (N := 3) hx hb hts iX6_count_X2 hown hK hP 7 rfl rfl 1 (by decide) (hts (.fieldLink RX6 175 "TailorChalks$History" "kept" "I") kX6_count_175) (fun _ h9 => h9) rfl dX6_count_165 ?_
                        exact W.iret (v := hk) hx hb hr (fun t ht hW => ⟨⟨hk, (), rfl, hres.symm, trivial⟩, hS.F ht⟩) hS.2.2 dX6_count_168
                      · rw [if_neg c_19] at hres
                        refine lv_tableOut (tgt := 169) hx hb dX6_count_1 (by have o_20_0 := lv_neT (a := 0) c_1 rfl; have o_20_1 := lv_neT (a := 1) c_2 rfl; have o_20_2 := lv_neT (a := 2) c_3 rfl; have o_20_3 := lv_neT (a := 3) c_6 rfl; have o_20_4 := lv_neT (a := 4) c_8 rfl; have o_20_5 := lv_neT (a := 5) c_10 rfl; have o_20_6 := lv_neT (a := 6) c_12 rfl; have o_20_7 := lv_neT (a := 7) c_14 rfl; have o_20_8 := lv_neT (a := 8) c_16 rfl; have o_20_9 := lv_neT (a := 9) c_18 rfl; have o_20_10 := lv_neT (a := 10) c_19 rfl; omega) (by decide) ?_
                        refine lv_bipush (v := (-2)) hx hb dX6_count_169 (by decide) ?_
                        exact W.iret (v := (-2)) hx hb hr (fun t ht hW => ⟨⟨(-2), (), rfl, hres.symm, trivial⟩, hS.F ht⟩) hS.2.2 dX6_count_171
theorem iX6_why_X6 : ∀ w ∈ u_ws RX6 TX6 5, w ∈ wsX6_why := by decide +kernel
theorem kX6_why_10 : Cond.fieldLink RX6 10 "TailorChalks" "game" "LTailorChalks$Game;" ∈ wsX6_why := by decide +kernel
def F_TC_why (joint : Int32) (tn : Int32) (gn : Int64) (fs : Nat → Int32) : Int32 := (bnd (F_Cloth_isJoint joint) (fun r_1 => (if r_1 = 0 then (-1) else (bnd (F_Game_whyNoSnip joint tn gn fs) (fun r_3 => r_3)))))
set_option maxHeartbeats 4000000 in
set_option maxRecDepth 100000 in
theorem c_TC_why (l : Launch) (dC : Nat → ClassId) (dI : Nat → Nat → Nat) (cI cC cG cZ : ClassId) (tc g h s0 s1 pd cl t0 t1 st mk : Nat) (joint : Int32) (nx : Int32) (tn : Int32) (gn : Int64) (ac : Int64) (dn : Int64) (fs : Nat → Int32) (res : Int32) (hres : res = F_TC_why joint tn gn fs) : Met l yX6_why wsX6_why ({ frames := 4, cells := 0, slots := 0, locals := 82 }) (va_Pc [.ref tc, .int joint] (ro_P (dC, dI) vwCl (tyL cI cC cG cZ) [(tc, .inr (6, [.ref g, .ref h, .ref s0, .ref s1, .ref pd])), (g, .inr (1, [.ref cl, .ref t0, .ref t1, .int nx, .int tn])), (cl, .inr (0, [.ref st, .ref mk, .long gn, .long ac, .long dn])), (st, .inl (cI, 82, .inl fs))])) (va_Qi (fun r (_ : Unit) => r = res) (fun _ _ => True) ro_F) 0 0 ro_F := by
  refine Met.ofW (cc := cX6_why) (maxL := 2) (ret := (some .int)) (by decide) rfl ?_
  intro p e s m args below meth c s₁ B hml hv
  obtain ⟨rfl, hP, hK⟩ := hv
  have hx := B.exec
  have hb := B.bytes
  have hr := B.returns
  have hts := atoms_spec (ws := wsX6_why) B.pre
  have hown : s.vm.findClass RX6 = some m.cls := findClass_of_methodNamed B.named
  have hlocks := B.notSynchronized
  have hS : va_S ro_F s.heap s.heap [] := va_S.rf
  have hl := lv_entry ([.ref tc, .int joint]) (n := 2) (Nat.le_of_ble_eq_true rfl)
  rw [lg_entry_eq]
  generalize (lg_sl ([.ref tc, .int joint]) ++ List.replicate (2 - (lg_sl ([.ref tc, .int joint])).length) Slot.unset).toArray = ls at hl ⊢
  have hl : lv_has ls 2 [(0, .ref tc), (1, .int joint)] := hl
  rw [F_TC_why] at hres
  refine lv_iload_n hx hb dX6_why_0 rfl (lv_at hl 1 rfl) ?_
  obtain ⟨r_1, hr_1⟩ : ∃ z, z = F_Cloth_isJoint joint := ⟨_, rfl⟩
  rw [bnd_e hr_1] at hres
  refine ro_calli (va_runS (As := [.int joint]) (rest := []) ⟨hx, hb, hml, hown, hts⟩ (c_Cloth_isJoint l dC dI cI cC cG cZ  joint  r_1 hr_1) (va_cwS 1 hts gX6_why_X0_isJoint rfl rfl rfl (by decide +kernel) ⟨Nat.le_of_ble_eq_true rfl, Nat.le_of_ble_eq_true rfl⟩) (ro_preS (hP.sub (ws' := []) [] rfl) hK) rfl rfl hl.1 rfl (lv_room (Nat.le_of_ble_eq_true rfl)) dX6_why_1 ⟨Nat.zero_le _, Nat.zero_le _⟩) hP hS (fun H locs hP hS => ?_)
  refine lv_if_eq (tgt := 18) hx hb dX6_why_4 (by decide) (fun c_2 => ?_) (fun c_2 => ?_)
  · rw [if_pos c_2] at hres
    refine lv_iconst (v := (-1)) hx hb dX6_why_18 (by decide) ?_
    exact W.iret (v := (-1)) hx hb hr (fun t ht hW => ⟨⟨(-1), (), rfl, hres.symm, trivial⟩, hS.F ht⟩) hS.2.2 dX6_why_19
  · rw [if_neg c_2] at hres
    refine lv_aload_n hx hb dX6_why_7 rfl (lv_at hl 0 rfl) ?_
    refine va_get (D := (dC, dI)) (ci := 6) (v := .ref g) (C := RX6) (T := TX6) (N := 5) hx hb hts iX6_why_X6 hown hK hP 0 rfl rfl 0 (by decide) (hts (.fieldLink RX6 10 "TailorChalks" "game" "LTailorChalks$Game;") kX6_why_10) (fun _ h9 => h9) rfl dX6_why_8 ?_
    refine lv_iload_n hx hb dX6_why_11 rfl (lv_at hl 1 rfl) ?_
    obtain ⟨r_3, hr_3⟩ : ∃ z, z = F_Game_whyNoSnip joint tn gn fs := ⟨_, rfl⟩
    rw [bnd_e hr_3] at hres
    refine ro_calli (va_runV (As := [.int joint]) (rest := []) ⟨hx, hb, hml, hown, hts⟩ (c_Game_whyNoSnip l dC dI cI cC cG cZ g cl t0 t1 st mk joint nx tn gn ac dn fs  r_3 hr_3) (cwV 1 hts gX6_why_X1_whyNoSnip rfl rfl rfl (by decide +kernel) ⟨Nat.le_of_ble_eq_true rfl, Nat.le_of_ble_eq_true rfl⟩) (ro_preV (hP.sub (ws' := [(g, .inr (1, [.ref cl, .ref t0, .ref t1, .int nx, .int tn])), (cl, .inr (0, [.ref st, .ref mk, .long gn, .long ac, .long dn])), (st, .inl (cI, 82, .inl fs))]) [1, 2, 3] rfl) hK (ci := 1) (q0 := 0) rfl rfl) rfl rfl hl.1 rfl (lv_room (Nat.le_of_ble_eq_true rfl)) dX6_why_12 ⟨Nat.zero_le _, Nat.zero_le _⟩) hP hS (fun H locs hP hS => ?_)
    refine lv_goto (tgt := 19) hx hb dX6_why_15 (by decide) ?_
    exact W.iret (v := r_3) hx hb hr (fun t ht hW => ⟨⟨r_3, (), rfl, hres.symm, trivial⟩, hS.F ht⟩) hS.2.2 dX6_why_19
theorem iX6_ifSnipped_X1 : ∀ w ∈ u_ws RX1 TX1 5, w ∈ wsX6_ifSnipped := by decide +kernel
theorem iX6_ifSnipped_X6 : ∀ w ∈ u_ws RX6 TX6 5, w ∈ wsX6_ifSnipped := by decide +kernel
theorem kX6_ifSnipped_10 : Cond.fieldLink RX6 10 "TailorChalks" "game" "LTailorChalks$Game;" ∈ wsX6_ifSnipped := by decide +kernel
theorem kX6_ifSnipped_60 : Cond.fieldLink RX6 60 "TailorChalks$Game" "cloth" "LTailorChalks$Cloth;" ∈ wsX6_ifSnipped := by decide +kernel
def F_TC_ifSnipped (joint : Int32) (tn : Int32) (gn : Int64) (ac : Int64) (dn : Int64) (fs : Nat → Int32) : Int32 := (bnd (F_Cloth_isJoint joint) (fun r_1 => (if r_1 = 0 then (-1) else (bnd (F_Game_whyNoSnip joint tn gn fs) (fun r_3 => (if r_3 = 0 then (bnd (F_Cloth_ragOf joint ac dn) (fun r_5 => (bnd (F_Long_bitCount r_5) (fun r_6 => r_6)))) else (-5)))))))
set_option maxHeartbeats 4000000 in
set_option maxRecDepth 100000 in
theorem c_TC_ifSnipped (l : Launch) (dC : Nat → ClassId) (dI : Nat → Nat → Nat) (cI cC cG cZ : ClassId) (tc g h s0 s1 pd cl t0 t1 st mk : Nat) (joint : Int32) (nx : Int32) (tn : Int32) (gn : Int64) (ac : Int64) (dn : Int64) (fs : Nat → Int32) (res : Int32) (hres : res = F_TC_ifSnipped joint tn gn ac dn fs) : Met l yX6_ifSnipped wsX6_ifSnipped ({ frames := 4, cells := 0, slots := 0, locals := 82 }) (va_Pc [.ref tc, .int joint] (ro_P (dC, dI) vwCl (tyL cI cC cG cZ) [(tc, .inr (6, [.ref g, .ref h, .ref s0, .ref s1, .ref pd])), (g, .inr (1, [.ref cl, .ref t0, .ref t1, .int nx, .int tn])), (cl, .inr (0, [.ref st, .ref mk, .long gn, .long ac, .long dn])), (st, .inl (cI, 82, .inl fs))])) (va_Qi (fun r (_ : Unit) => r = res) (fun _ _ => True) ro_F) 0 0 ro_F := by
  refine Met.ofW (cc := cX6_ifSnipped) (maxL := 2) (ret := (some .int)) (by decide) rfl ?_
  intro p e s m args below meth c s₁ B hml hv
  obtain ⟨rfl, hP, hK⟩ := hv
  have hx := B.exec
  have hb := B.bytes
  have hr := B.returns
  have hts := atoms_spec (ws := wsX6_ifSnipped) B.pre
  have hown : s.vm.findClass RX6 = some m.cls := findClass_of_methodNamed B.named
  have hlocks := B.notSynchronized
  have hS : va_S ro_F s.heap s.heap [] := va_S.rf
  have hl := lv_entry ([.ref tc, .int joint]) (n := 2) (Nat.le_of_ble_eq_true rfl)
  rw [lg_entry_eq]
  generalize (lg_sl ([.ref tc, .int joint]) ++ List.replicate (2 - (lg_sl ([.ref tc, .int joint])).length) Slot.unset).toArray = ls at hl ⊢
  have hl : lv_has ls 2 [(0, .ref tc), (1, .int joint)] := hl
  rw [F_TC_ifSnipped] at hres
  refine lv_iload_n hx hb dX6_ifSnipped_0 rfl (lv_at hl 1 rfl) ?_
  obtain ⟨r_1, hr_1⟩ : ∃ z, z = F_Cloth_isJoint joint := ⟨_, rfl⟩
  rw [bnd_e hr_1] at hres
  refine ro_calli (va_runS (As := [.int joint]) (rest := []) ⟨hx, hb, hml, hown, hts⟩ (c_Cloth_isJoint l dC dI cI cC cG cZ  joint  r_1 hr_1) (va_cwS 1 hts gX6_ifSnipped_X0_isJoint rfl rfl rfl (by decide +kernel) ⟨Nat.le_of_ble_eq_true rfl, Nat.le_of_ble_eq_true rfl⟩) (ro_preS (hP.sub (ws' := []) [] rfl) hK) rfl rfl hl.1 rfl (lv_room (Nat.le_of_ble_eq_true rfl)) dX6_ifSnipped_1 ⟨Nat.zero_le _, Nat.zero_le _⟩) hP hS (fun H locs hP hS => ?_)
  refine lv_if_ne (tgt := 9) hx hb dX6_ifSnipped_4 (by decide) (fun c_2 => ?_) (fun c_2 => ?_)
  · rw [if_neg c_2] at hres
    refine lv_aload_n hx hb dX6_ifSnipped_9 rfl (lv_at hl 0 rfl) ?_
    refine va_get (D := (dC, dI)) (ci := 6) (v := .ref g) (C := RX6) (T := TX6) (N := 5) hx hb hts iX6_ifSnipped_X6 hown hK hP 0 rfl rfl 0 (by decide) (hts (.fieldLink RX6 10 "TailorChalks" "game" "LTailorChalks$Game;") kX6_ifSnipped_10) (fun _ h9 => h9) rfl dX6_ifSnipped_10 ?_
    refine lv_iload_n hx hb dX6_ifSnipped_13 rfl (lv_at hl 1 rfl) ?_
    obtain ⟨r_3, hr_3⟩ : ∃ z, z = F_Game_whyNoSnip joint tn gn fs := ⟨_, rfl⟩
    rw [bnd_e hr_3] at hres
    refine ro_calli (va_runV (As := [.int joint]) (rest := []) ⟨hx, hb, hml, hown, hts⟩ (c_Game_whyNoSnip l dC dI cI cC cG cZ g cl t0 t1 st mk joint nx tn gn ac dn fs  r_3 hr_3) (cwV 1 hts gX6_ifSnipped_X1_whyNoSnip rfl rfl rfl (by decide +kernel) ⟨Nat.le_of_ble_eq_true rfl, Nat.le_of_ble_eq_true rfl⟩) (ro_preV (hP.sub (ws' := [(g, .inr (1, [.ref cl, .ref t0, .ref t1, .int nx, .int tn])), (cl, .inr (0, [.ref st, .ref mk, .long gn, .long ac, .long dn])), (st, .inl (cI, 82, .inl fs))]) [1, 2, 3] rfl) hK (ci := 1) (q0 := 0) rfl rfl) rfl rfl hl.1 rfl (lv_room (Nat.le_of_ble_eq_true rfl)) dX6_ifSnipped_14 ⟨Nat.zero_le _, Nat.zero_le _⟩) hP hS (fun H locs hP hS => ?_)
    refine lv_if_eq (tgt := 23) hx hb dX6_ifSnipped_17 (by decide) (fun c_4 => ?_) (fun c_4 => ?_)
    · rw [if_pos c_4] at hres
      refine lv_aload_n hx hb dX6_ifSnipped_23 rfl (lv_at hl 0 rfl) ?_
      refine va_get (D := (dC, dI)) (ci := 6) (v := .ref g) (C := RX6) (T := TX6) (N := 5) hx hb hts iX6_ifSnipped_X6 hown hK hP 0 rfl rfl 0 (by decide) (hts (.fieldLink RX6 10 "TailorChalks" "game" "LTailorChalks$Game;") kX6_ifSnipped_10) (fun _ h9 => h9) rfl dX6_ifSnipped_24 ?_
      refine va_get (D := (dC, dI)) (ci := 1) (v := .ref cl) (C := RX1) (T := TX1) (N := 5) hx hb hts iX6_ifSnipped_X1 hown hK hP 1 rfl rfl 0 (by decide) (hts (.fieldLink RX6 60 "TailorChalks$Game" "cloth" "LTailorChalks$Cloth;") kX6_ifSnipped_60) (fun _ h9 => h9) rfl dX6_ifSnipped_27 ?_
      refine lv_iload_n hx hb dX6_ifSnipped_30 rfl (lv_at hl 1 rfl) ?_
      obtain ⟨r_5, hr_5⟩ : ∃ z, z = F_Cloth_ragOf joint ac dn := ⟨_, rfl⟩
      rw [bnd_e hr_5] at hres
      refine ro_calll (va_runV (As := [.int joint]) (rest := []) ⟨hx, hb, hml, hown, hts⟩ (c_Cloth_ragOf l dC dI cI cC cG cZ cl st mk joint gn ac dn  r_5 hr_5) (cwV 1 hts gX6_ifSnipped_X0_ragOf rfl rfl rfl (by decide +kernel) ⟨Nat.le_of_ble_eq_true rfl, Nat.le_of_ble_eq_true rfl⟩) (ro_preV (hP.sub (ws' := [(cl, .inr (0, [.ref st, .ref mk, .long gn, .long ac, .long dn]))]) [2] rfl) hK (ci := 0) (q0 := 0) rfl rfl) rfl rfl hl.1 rfl (lv_room (Nat.le_of_ble_eq_true rfl)) dX6_ifSnipped_31 ⟨Nat.zero_le _, Nat.zero_le _⟩) hP hS (fun H locs hP hS => ?_)
      obtain ⟨r_6, hr_6⟩ : ∃ z, z = F_Long_bitCount r_5 := ⟨_, rfl⟩
      rw [bnd_e hr_6] at hres
      refine ro_calli (va_runS (As := [.long r_5]) (rest := []) ⟨hx, hb, hml, hown, hts⟩ (c_Long_bitCount l dC dI cI cC cG cZ  r_5  r_6 hr_6) (va_cwS 1 hts gX6_ifSnipped_J13_bitCount_95d88 rfl rfl rfl (by decide +kernel) ⟨Nat.le_of_ble_eq_true rfl, Nat.le_of_ble_eq_true rfl⟩) (ro_preS (hP.sub (ws' := []) [] rfl) hK) rfl rfl hl.1 rfl (lv_room (Nat.le_of_ble_eq_true rfl)) dX6_ifSnipped_34 ⟨Nat.zero_le _, Nat.zero_le _⟩) hP hS (fun H locs hP hS => ?_)
      exact W.iret (v := r_6) hx hb hr (fun t ht hW => ⟨⟨r_6, (), rfl, hres.symm, trivial⟩, hS.F ht⟩) hS.2.2 dX6_ifSnipped_37
    · rw [if_neg c_4] at hres
      refine lv_bipush (v := (-5)) hx hb dX6_ifSnipped_20 (by decide) ?_
      exact W.iret (v := (-5)) hx hb hr (fun t ht hW => ⟨⟨(-5), (), rfl, hres.symm, trivial⟩, hS.F ht⟩) hS.2.2 dX6_ifSnipped_22
  · rw [if_pos c_2] at hres
    refine lv_iconst (v := (-1)) hx hb dX6_ifSnipped_7 (by decide) ?_
    exact W.iret (v := (-1)) hx hb hr (fun t ht hW => ⟨⟨(-1), (), rfl, hres.symm, trivial⟩, hS.F ht⟩) hS.2.2 dX6_ifSnipped_8
theorem iX6_bestSnip_X6 : ∀ w ∈ u_ws RX6 TX6 5, w ∈ wsX6_bestSnip := by decide +kernel
theorem kX6_bestSnip_10 : Cond.fieldLink RX6 10 "TailorChalks" "game" "LTailorChalks$Game;" ∈ wsX6_bestSnip := by decide +kernel
def F_TC_bestSnip (what : Int32) (nx : Int32) (tn : Int32) (gn : Int64) (ac : Int64) (dn : Int64) (fs : Nat → Int32) (mks0 : Int32) (fma0 : Nat → Int32) (mks1 : Int32) (fma1 : Nat → Int32) : Int32 := (if what = 0 then (bnd (F_Game_bestJoint nx tn gn ac dn fs mks0 fma0 mks1 fma1) (fun r_2 => r_2)) else (if what = 1 then (bnd (F_Game_bestJoint nx tn gn ac dn fs mks0 fma0 mks1 fma1) (fun r_5 => (if r_5 = (-6) then r_5 else (bnd (F_Game_openGain r_5 nx ac dn mks0 fma0 mks1 fma1) (fun r_8 => r_8))))) else (-2)))
set_option maxHeartbeats 4000000 in
set_option maxRecDepth 100000 in
theorem c_TC_bestSnip (l : Launch) (dC : Nat → ClassId) (dI : Nat → Nat → Nat) (cI cC cG cZ : ClassId) (tc g h s0 s1 pd cl t0 t1 st mk ma0 ma1 : Nat) (what : Int32) (nx : Int32) (tn : Int32) (gn : Int64) (ac : Int64) (dn : Int64) (fs : Nat → Int32) (mks0 : Int32) (pts0 : Int32) (ths0 : Int32) (rgs0 : Int32) (rgc0 : Int32) (fnd0 : Int32) (rdb0 : Int32) (wdb0 : Int32) (fma0 : Nat → Int32) (mks1 : Int32) (pts1 : Int32) (ths1 : Int32) (rgs1 : Int32) (rgc1 : Int32) (fnd1 : Int32) (rdb1 : Int32) (wdb1 : Int32) (fma1 : Nat → Int32) (hM0 : tm_ok 8 mks0) (hM1 : tm_ok 8 mks1) (res : Int32) (hres : res = F_TC_bestSnip what nx tn gn ac dn fs mks0 fma0 mks1 fma1) : Met l yX6_bestSnip wsX6_bestSnip ({ frames := 5, cells := 0, slots := 0, locals := 119 }) (va_Pc [.ref tc, .int what] (ro_P (dC, dI) vwCl (tyL cI cC cG cZ) [(tc, .inr (6, [.ref g, .ref h, .ref s0, .ref s1, .ref pd])), (g, .inr (1, [.ref cl, .ref t0, .ref t1, .int nx, .int tn])), (cl, .inr (0, [.ref st, .ref mk, .long gn, .long ac, .long dn])), (st, .inl (cI, 82, .inl fs)), (t0, .inr (5, [.ref ma0, .int mks0, .int pts0, .int ths0, .int rgs0, .int rgc0, .int fnd0, .int rdb0, .int wdb0])), (ma0, .inl (cI, 8, .inl fma0)), (t1, .inr (5, [.ref ma1, .int mks1, .int pts1, .int ths1, .int rgs1, .int rgc1, .int fnd1, .int rdb1, .int wdb1])), (ma1, .inl (cI, 8, .inl fma1))])) (va_Qi (fun r (_ : Unit) => r = res) (fun _ _ => True) ro_F) 0 0 ro_F := by
  refine Met.ofW (cc := cX6_bestSnip) (maxL := 3) (ret := (some .int)) (by decide) rfl ?_
  intro p e s m args below meth c s₁ B hml hv
  obtain ⟨rfl, hP, hK⟩ := hv
  have hx := B.exec
  have hb := B.bytes
  have hr := B.returns
  have hts := atoms_spec (ws := wsX6_bestSnip) B.pre
  have hown : s.vm.findClass RX6 = some m.cls := findClass_of_methodNamed B.named
  have hlocks := B.notSynchronized
  have hS : va_S ro_F s.heap s.heap [] := va_S.rf
  have hl := lv_entry ([.ref tc, .int what]) (n := 3) (Nat.le_of_ble_eq_true rfl)
  rw [lg_entry_eq]
  generalize (lg_sl ([.ref tc, .int what]) ++ List.replicate (3 - (lg_sl ([.ref tc, .int what])).length) Slot.unset).toArray = ls at hl ⊢
  have hl : lv_has ls 3 [(0, .ref tc), (1, .int what)] := hl
  rw [F_TC_bestSnip] at hres
  refine lv_iload_n hx hb dX6_bestSnip_0 rfl (lv_at hl 1 rfl) ?_
  refine lv_if_eq (tgt := 12) hx hb dX6_bestSnip_1 (by decide) (fun c_1 => ?_) (fun c_1 => ?_)
  · rw [if_pos c_1] at hres
    refine lv_aload_n hx hb dX6_bestSnip_12 rfl (lv_at hl 0 rfl) ?_
    refine va_get (D := (dC, dI)) (ci := 6) (v := .ref g) (C := RX6) (T := TX6) (N := 5) hx hb hts iX6_bestSnip_X6 hown hK hP 0 rfl rfl 0 (by decide) (hts (.fieldLink RX6 10 "TailorChalks" "game" "LTailorChalks$Game;") kX6_bestSnip_10) (fun _ h9 => h9) rfl dX6_bestSnip_13 ?_
    obtain ⟨r_2, hr_2⟩ : ∃ z, z = F_Game_bestJoint nx tn gn ac dn fs mks0 fma0 mks1 fma1 := ⟨_, rfl⟩
    rw [bnd_e hr_2] at hres
    refine ro_calli (va_runV (As := []) (rest := []) ⟨hx, hb, hml, hown, hts⟩ (c_Game_bestJoint l dC dI cI cC cG cZ g cl t0 t1 st mk ma0 ma1 nx tn gn ac dn fs mks0 pts0 ths0 rgs0 rgc0 fnd0 rdb0 wdb0 fma0 mks1 pts1 ths1 rgs1 rgc1 fnd1 rdb1 wdb1 fma1 hM0 hM1 r_2 hr_2) (cwV 0 hts gX6_bestSnip_X1_bestJoint rfl rfl rfl (by decide +kernel) ⟨Nat.le_of_ble_eq_true rfl, Nat.le_of_ble_eq_true rfl⟩) (ro_preV (hP.sub (ws' := [(g, .inr (1, [.ref cl, .ref t0, .ref t1, .int nx, .int tn])), (cl, .inr (0, [.ref st, .ref mk, .long gn, .long ac, .long dn])), (st, .inl (cI, 82, .inl fs)), (t0, .inr (5, [.ref ma0, .int mks0, .int pts0, .int ths0, .int rgs0, .int rgc0, .int fnd0, .int rdb0, .int wdb0])), (ma0, .inl (cI, 8, .inl fma0)), (t1, .inr (5, [.ref ma1, .int mks1, .int pts1, .int ths1, .int rgs1, .int rgc1, .int fnd1, .int rdb1, .int wdb1])), (ma1, .inl (cI, 8, .inl fma1))]) [1, 2, 3, 4, 5, 6, 7] rfl) hK (ci := 1) (q0 := 0) rfl rfl) rfl rfl hl.1 rfl (lv_room (Nat.le_of_ble_eq_true rfl)) dX6_bestSnip_16 ⟨Nat.zero_le _, Nat.zero_le _⟩) hP hS (fun H locs hP hS => ?_)
    refine lv_istore_n (lv' := [(2, .int r_2), (0, .ref tc), (1, .int what)]) hx hb dX6_bestSnip_19 rfl hl (by decide) rfl (fun ls hl => ?_)
    refine lv_iload_n hx hb dX6_bestSnip_20 rfl (lv_at hl 2 rfl) ?_
    refine lv_if_eq (tgt := 30) hx hb dX6_bestSnip_21 (by decide) (fun c_3 => ?_) (fun c_3 => ?_)
    rotate_left
    · exact absurd c_1 c_3
    refine lv_iload_n hx hb dX6_bestSnip_30 rfl (lv_at hl 0 rfl) ?_
    refine lv_goto (tgt := 42) hx hb dX6_bestSnip_31 (by decide) ?_
    exact W.iret (v := r_2) hx hb hr (fun t ht hW => ⟨⟨r_2, (), rfl, hres.symm, trivial⟩, hS.F ht⟩) hS.2.2 dX6_bestSnip_42
  · rw [if_neg c_1] at hres
    refine lv_iload_n hx hb dX6_bestSnip_4 rfl (lv_at hl 1 rfl) ?_
    refine lv_iconst (v := 1) hx hb dX6_bestSnip_5 (by decide) ?_
    refine lv_icmp_eq (tgt := 12) hx hb dX6_bestSnip_6 (by decide) (fun c_4 => ?_) (fun c_4 => ?_)
    · rw [if_pos c_4] at hres
      refine lv_aload_n hx hb dX6_bestSnip_12 rfl (lv_at hl 0 rfl) ?_
      refine va_get (D := (dC, dI)) (ci := 6) (v := .ref g) (C := RX6) (T := TX6) (N := 5) hx hb hts iX6_bestSnip_X6 hown hK hP 0 rfl rfl 0 (by decide) (hts (.fieldLink RX6 10 "TailorChalks" "game" "LTailorChalks$Game;") kX6_bestSnip_10) (fun _ h9 => h9) rfl dX6_bestSnip_13 ?_
      obtain ⟨r_5, hr_5⟩ : ∃ z, z = F_Game_bestJoint nx tn gn ac dn fs mks0 fma0 mks1 fma1 := ⟨_, rfl⟩
      rw [bnd_e hr_5] at hres
      refine ro_calli (va_runV (As := []) (rest := []) ⟨hx, hb, hml, hown, hts⟩ (c_Game_bestJoint l dC dI cI cC cG cZ g cl t0 t1 st mk ma0 ma1 nx tn gn ac dn fs mks0 pts0 ths0 rgs0 rgc0 fnd0 rdb0 wdb0 fma0 mks1 pts1 ths1 rgs1 rgc1 fnd1 rdb1 wdb1 fma1 hM0 hM1 r_5 hr_5) (cwV 0 hts gX6_bestSnip_X1_bestJoint rfl rfl rfl (by decide +kernel) ⟨Nat.le_of_ble_eq_true rfl, Nat.le_of_ble_eq_true rfl⟩) (ro_preV (hP.sub (ws' := [(g, .inr (1, [.ref cl, .ref t0, .ref t1, .int nx, .int tn])), (cl, .inr (0, [.ref st, .ref mk, .long gn, .long ac, .long dn])), (st, .inl (cI, 82, .inl fs)), (t0, .inr (5, [.ref ma0, .int mks0, .int pts0, .int ths0, .int rgs0, .int rgc0, .int fnd0, .int rdb0, .int wdb0])), (ma0, .inl (cI, 8, .inl fma0)), (t1, .inr (5, [.ref ma1, .int mks1, .int pts1, .int ths1, .int rgs1, .int rgc1, .int fnd1, .int rdb1, .int wdb1])), (ma1, .inl (cI, 8, .inl fma1))]) [1, 2, 3, 4, 5, 6, 7] rfl) hK (ci := 1) (q0 := 0) rfl rfl) rfl rfl hl.1 rfl (lv_room (Nat.le_of_ble_eq_true rfl)) dX6_bestSnip_16 ⟨Nat.zero_le _, Nat.zero_le _⟩) hP hS (fun H locs hP hS => ?_)
      refine lv_istore_n (lv' := [(2, .int r_5), (0, .ref tc), (1, .int what)]) hx hb dX6_bestSnip_19 rfl hl (by decide) rfl (fun ls hl => ?_)
      refine lv_iload_n hx hb dX6_bestSnip_20 rfl (lv_at hl 2 rfl) ?_
      refine lv_if_eq (tgt := 30) hx hb dX6_bestSnip_21 (by decide) (fun c_6 => ?_) (fun c_6 => ?_)
      · exact absurd c_6 c_1
      refine lv_iload_n hx hb dX6_bestSnip_24 rfl (lv_at hl 0 rfl) ?_
      refine lv_bipush (v := (-6)) hx hb dX6_bestSnip_25 (by decide) ?_
      refine lv_icmp_ne (tgt := 34) hx hb dX6_bestSnip_27 (by decide) (fun c_7 => ?_) (fun c_7 => ?_)
      · rw [if_neg c_7] at hres
        refine lv_aload_n hx hb dX6_bestSnip_34 rfl (lv_at hl 1 rfl) ?_
        refine va_get (D := (dC, dI)) (ci := 6) (v := .ref g) (C := RX6) (T := TX6) (N := 5) hx hb hts iX6_bestSnip_X6 hown hK hP 0 rfl rfl 0 (by decide) (hts (.fieldLink RX6 10 "TailorChalks" "game" "LTailorChalks$Game;") kX6_bestSnip_10) (fun _ h9 => h9) rfl dX6_bestSnip_35 ?_
        refine lv_iload_n hx hb dX6_bestSnip_38 rfl (lv_at hl 0 rfl) ?_
        obtain ⟨r_8, hr_8⟩ : ∃ z, z = F_Game_openGain r_5 nx ac dn mks0 fma0 mks1 fma1 := ⟨_, rfl⟩
        rw [bnd_e hr_8] at hres
        refine ro_calli (va_runV (As := [.int r_5]) (rest := []) ⟨hx, hb, hml, hown, hts⟩ (c_Game_openGain l dC dI cI cC cG cZ g cl t0 t1 st mk ma0 ma1 r_5 nx tn gn ac dn mks0 pts0 ths0 rgs0 rgc0 fnd0 rdb0 wdb0 fma0 mks1 pts1 ths1 rgs1 rgc1 fnd1 rdb1 wdb1 fma1 hM0 hM1 r_8 hr_8) (cwV 1 hts gX6_bestSnip_X1_openGain rfl rfl rfl (by decide +kernel) ⟨Nat.le_of_ble_eq_true rfl, Nat.le_of_ble_eq_true rfl⟩) (ro_preV (hP.sub (ws' := [(g, .inr (1, [.ref cl, .ref t0, .ref t1, .int nx, .int tn])), (cl, .inr (0, [.ref st, .ref mk, .long gn, .long ac, .long dn])), (t0, .inr (5, [.ref ma0, .int mks0, .int pts0, .int ths0, .int rgs0, .int rgc0, .int fnd0, .int rdb0, .int wdb0])), (ma0, .inl (cI, 8, .inl fma0)), (t1, .inr (5, [.ref ma1, .int mks1, .int pts1, .int ths1, .int rgs1, .int rgc1, .int fnd1, .int rdb1, .int wdb1])), (ma1, .inl (cI, 8, .inl fma1))]) [1, 2, 4, 5, 6, 7] rfl) hK (ci := 1) (q0 := 0) rfl rfl) rfl rfl hl.1 rfl (lv_room (Nat.le_of_ble_eq_true rfl)) dX6_bestSnip_39 ⟨Nat.zero_le _, Nat.zero_le _⟩) hP hS (fun H locs hP hS => ?_)
        exact W.iret (v := r_8) hx hb hr (fun t ht hW => ⟨⟨r_8, (), rfl, hres.symm, trivial⟩, hS.F ht⟩) hS.2.2 dX6_bestSnip_42
      · rw [if_pos c_7] at hres
        refine lv_iload_n hx hb dX6_bestSnip_30 rfl (lv_at hl 0 rfl) ?_
        refine lv_goto (tgt := 42) hx hb dX6_bestSnip_31 (by decide) ?_
        exact W.iret (v := r_5) hx hb hr (fun t ht hW => ⟨⟨r_5, (), rfl, hres.symm, trivial⟩, hS.F ht⟩) hS.2.2 dX6_bestSnip_42
    · rw [if_neg c_4] at hres
      refine lv_bipush (v := (-2)) hx hb dX6_bestSnip_9 (by decide) ?_
      exact W.iret (v := (-2)) hx hb hr (fun t ht hW => ⟨⟨(-2), (), rfl, hres.symm, trivial⟩, hS.F ht⟩) hS.2.2 dX6_bestSnip_11
theorem iX6_weak_X1 : ∀ w ∈ u_ws RX1 TX1 5, w ∈ wsX6_weak := by decide +kernel
theorem iX6_weak_X6 : ∀ w ∈ u_ws RX6 TX6 5, w ∈ wsX6_weak := by decide +kernel
theorem kX6_weak_10 : Cond.fieldLink RX6 10 "TailorChalks" "game" "LTailorChalks$Game;" ∈ wsX6_weak := by decide +kernel
theorem kX6_weak_60 : Cond.fieldLink RX6 60 "TailorChalks$Game" "cloth" "LTailorChalks$Cloth;" ∈ wsX6_weak := by decide +kernel
def F_TC_weak (tn : Int32) (gn : Int64) (ac : Int64) (dn : Int64) : Int32 := (bnd (F_Game_isOver tn gn) (fun r_1 => (if r_1 = 0 then (bnd (F_Cloth_weakJoints ac dn) (fun r_3 => r_3)) else 0)))
set_option maxHeartbeats 4000000 in
set_option maxRecDepth 100000 in
theorem c_TC_weak (l : Launch) (dC : Nat → ClassId) (dI : Nat → Nat → Nat) (cI cC cG cZ : ClassId) (tc g h s0 s1 pd cl t0 t1 st mk : Nat) (nx : Int32) (tn : Int32) (gn : Int64) (ac : Int64) (dn : Int64) (res : Int32) (hres : res = F_TC_weak tn gn ac dn) : Met l yX6_weak wsX6_weak ({ frames := 4, cells := 0, slots := 0, locals := 95 }) (va_Pc [.ref tc] (ro_P (dC, dI) vwCl (tyL cI cC cG cZ) [(tc, .inr (6, [.ref g, .ref h, .ref s0, .ref s1, .ref pd])), (g, .inr (1, [.ref cl, .ref t0, .ref t1, .int nx, .int tn])), (cl, .inr (0, [.ref st, .ref mk, .long gn, .long ac, .long dn]))])) (va_Qi (fun r (_ : Unit) => r = res) (fun _ _ => True) ro_F) 0 0 ro_F := by
  refine Met.ofW (cc := cX6_weak) (maxL := 1) (ret := (some .int)) (by decide) rfl ?_
  intro p e s m args below meth c s₁ B hml hv
  obtain ⟨rfl, hP, hK⟩ := hv
  have hx := B.exec
  have hb := B.bytes
  have hr := B.returns
  have hts := atoms_spec (ws := wsX6_weak) B.pre
  have hown : s.vm.findClass RX6 = some m.cls := findClass_of_methodNamed B.named
  have hlocks := B.notSynchronized
  have hS : va_S ro_F s.heap s.heap [] := va_S.rf
  have hl := lv_entry ([.ref tc]) (n := 1) (Nat.le_of_ble_eq_true rfl)
  rw [lg_entry_eq]
  generalize (lg_sl ([.ref tc]) ++ List.replicate (1 - (lg_sl ([.ref tc])).length) Slot.unset).toArray = ls at hl ⊢
  have hl : lv_has ls 1 [(0, .ref tc)] := hl
  rw [F_TC_weak] at hres
  refine lv_aload_n hx hb dX6_weak_0 rfl (lv_at hl 0 rfl) ?_
  refine va_get (D := (dC, dI)) (ci := 6) (v := .ref g) (C := RX6) (T := TX6) (N := 5) hx hb hts iX6_weak_X6 hown hK hP 0 rfl rfl 0 (by decide) (hts (.fieldLink RX6 10 "TailorChalks" "game" "LTailorChalks$Game;") kX6_weak_10) (fun _ h9 => h9) rfl dX6_weak_1 ?_
  obtain ⟨r_1, hr_1⟩ : ∃ z, z = F_Game_isOver tn gn := ⟨_, rfl⟩
  rw [bnd_e hr_1] at hres
  refine ro_calli (va_runV (As := []) (rest := []) ⟨hx, hb, hml, hown, hts⟩ (c_Game_isOver l dC dI cI cC cG cZ g cl t0 t1 st mk nx tn gn ac dn  r_1 hr_1) (cwV 0 hts gX6_weak_X1_isOver rfl rfl rfl (by decide +kernel) ⟨Nat.le_of_ble_eq_true rfl, Nat.le_of_ble_eq_true rfl⟩) (ro_preV (hP.sub (ws' := [(g, .inr (1, [.ref cl, .ref t0, .ref t1, .int nx, .int tn])), (cl, .inr (0, [.ref st, .ref mk, .long gn, .long ac, .long dn]))]) [1, 2] rfl) hK (ci := 1) (q0 := 0) rfl rfl) rfl rfl hl.1 rfl (lv_room (Nat.le_of_ble_eq_true rfl)) dX6_weak_4 ⟨Nat.zero_le _, Nat.zero_le _⟩) hP hS (fun H locs hP hS => ?_)
  refine lv_if_eq (tgt := 14) hx hb dX6_weak_7 (by decide) (fun c_2 => ?_) (fun c_2 => ?_)
  · rw [if_pos c_2] at hres
    refine lv_aload_n hx hb dX6_weak_14 rfl (lv_at hl 0 rfl) ?_
    refine va_get (D := (dC, dI)) (ci := 6) (v := .ref g) (C := RX6) (T := TX6) (N := 5) hx hb hts iX6_weak_X6 hown hK hP 0 rfl rfl 0 (by decide) (hts (.fieldLink RX6 10 "TailorChalks" "game" "LTailorChalks$Game;") kX6_weak_10) (fun _ h9 => h9) rfl dX6_weak_15 ?_
    refine va_get (D := (dC, dI)) (ci := 1) (v := .ref cl) (C := RX1) (T := TX1) (N := 5) hx hb hts iX6_weak_X1 hown hK hP 1 rfl rfl 0 (by decide) (hts (.fieldLink RX6 60 "TailorChalks$Game" "cloth" "LTailorChalks$Cloth;") kX6_weak_60) (fun _ h9 => h9) rfl dX6_weak_18 ?_
    obtain ⟨r_3, hr_3⟩ : ∃ z, z = F_Cloth_weakJoints ac dn := ⟨_, rfl⟩
    rw [bnd_e hr_3] at hres
    refine ro_calli (va_runV (As := []) (rest := []) ⟨hx, hb, hml, hown, hts⟩ (c_Cloth_weakJoints l dC dI cI cC cG cZ cl st mk gn ac dn  r_3 hr_3) (cwV 0 hts gX6_weak_X0_weakJoints rfl rfl rfl (by decide +kernel) ⟨Nat.le_of_ble_eq_true rfl, Nat.le_of_ble_eq_true rfl⟩) (ro_preV (hP.sub (ws' := [(cl, .inr (0, [.ref st, .ref mk, .long gn, .long ac, .long dn]))]) [2] rfl) hK (ci := 0) (q0 := 0) rfl rfl) rfl rfl hl.1 rfl (lv_room (Nat.le_of_ble_eq_true rfl)) dX6_weak_21 ⟨Nat.zero_le _, Nat.zero_le _⟩) hP hS (fun H locs hP hS => ?_)
    exact W.iret (v := r_3) hx hb hr (fun t ht hW => ⟨⟨r_3, (), rfl, hres.symm, trivial⟩, hS.F ht⟩) hS.2.2 dX6_weak_24
  · rw [if_neg c_2] at hres
    refine lv_iconst (v := 0) hx hb dX6_weak_10 (by decide) ?_
    refine lv_goto (tgt := 24) hx hb dX6_weak_11 (by decide) ?_
    exact W.iret (v := 0) hx hb hr (fun t ht hW => ⟨⟨0, (), rfl, hres.symm, trivial⟩, hS.F ht⟩) hS.2.2 dX6_weak_24
theorem iX6_together_X1 : ∀ w ∈ u_ws RX1 TX1 5, w ∈ wsX6_together := by decide +kernel
theorem iX6_together_X6 : ∀ w ∈ u_ws RX6 TX6 5, w ∈ wsX6_together := by decide +kernel
theorem kX6_together_10 : Cond.fieldLink RX6 10 "TailorChalks" "game" "LTailorChalks$Game;" ∈ wsX6_together := by decide +kernel
theorem kX6_together_60 : Cond.fieldLink RX6 60 "TailorChalks$Game" "cloth" "LTailorChalks$Cloth;" ∈ wsX6_together := by decide +kernel
def F_TC_together (cell : Int32) (other : Int32) (way : Int32) (gn : Int64) (ac : Int64) (dn : Int64) (fs : Nat → Int32) : Int32 := (bnd (F_Cloth_isCell cell) (fun r_1 => (if r_1 = 0 then (-1) else (bnd (F_Cloth_isCell other) (fun r_3 => (if r_3 = 0 then (-1) else (if way = 0 then (bnd (F_Cloth_isGone cell gn) (fun r_6 => (if r_6 = 0 then (bnd (F_Cloth_isGone other gn) (fun r_8 => (if r_8 = 0 then (bnd (F_Cloth_pieceOf cell gn ac dn) (fun r_11 => (bnd (F_Cloth_has r_11 other) (fun r_12 => (bnd (F_TC_asNumber r_12) (fun r_13 => r_13)))))) else (-5)))) else (-5)))) else (if way = 1 then (bnd (F_Cloth_isGone cell gn) (fun r_15 => (if r_15 = 0 then (bnd (F_Cloth_isGone other gn) (fun r_17 => (if r_17 = 0 then (bnd (F_Cloth_pieceIfBluffedHeld cell gn ac dn fs) (fun r_20 => (bnd (F_Cloth_has r_20 other) (fun r_21 => (bnd (F_TC_asNumber r_21) (fun r_22 => r_22)))))) else (-5)))) else (-5)))) else (-2)))))))))
set_option maxHeartbeats 4000000 in
set_option maxRecDepth 100000 in
theorem c_TC_together (l : Launch) (dC : Nat → ClassId) (dI : Nat → Nat → Nat) (cI cC cG cZ : ClassId) (tc g h s0 s1 pd cl t0 t1 st mk : Nat) (cell : Int32) (other : Int32) (way : Int32) (nx : Int32) (tn : Int32) (gn : Int64) (ac : Int64) (dn : Int64) (fs : Nat → Int32) (res : Int32) (hres : res = F_TC_together cell other way gn ac dn fs) : Met l yX6_together wsX6_together ({ frames := 3, cells := 0, slots := 0, locals := 73 }) (va_Pc [.ref tc, .int cell, .int other, .int way] (ro_P (dC, dI) vwCl (tyL cI cC cG cZ) [(tc, .inr (6, [.ref g, .ref h, .ref s0, .ref s1, .ref pd])), (g, .inr (1, [.ref cl, .ref t0, .ref t1, .int nx, .int tn])), (cl, .inr (0, [.ref st, .ref mk, .long gn, .long ac, .long dn])), (st, .inl (cI, 82, .inl fs))])) (va_Qi (fun r (_ : Unit) => r = res) (fun _ _ => True) ro_F) 0 0 ro_F := by
  refine Met.ofW (cc := cX6_together) (maxL := 6) (ret := (some .int)) (by decide) rfl ?_
  intro p e s m args below meth c s₁ B hml hv
  obtain ⟨rfl, hP, hK⟩ := hv
  have hx := B.exec
  have hb := B.bytes
  have hr := B.returns
  have hts := atoms_spec (ws := wsX6_together) B.pre
  have hown : s.vm.findClass RX6 = some m.cls := findClass_of_methodNamed B.named
  have hlocks := B.notSynchronized
  have hS : va_S ro_F s.heap s.heap [] := va_S.rf
  have hl := lv_entry ([.ref tc, .int cell, .int other, .int way]) (n := 6) (Nat.le_of_ble_eq_true rfl)
  rw [lg_entry_eq]
  generalize (lg_sl ([.ref tc, .int cell, .int other, .int way]) ++ List.replicate (6 - (lg_sl ([.ref tc, .int cell, .int other, .int way])).length) Slot.unset).toArray = ls at hl ⊢
  have hl : lv_has ls 6 [(0, .ref tc), (1, .int cell), (2, .int other), (3, .int way)] := hl
  rw [F_TC_together] at hres
  refine lv_iload_n hx hb dX6_together_0 rfl (lv_at hl 1 rfl) ?_
  obtain ⟨r_1, hr_1⟩ : ∃ z, z = F_Cloth_isCell cell := ⟨_, rfl⟩
  rw [bnd_e hr_1] at hres
  refine ro_calli (va_runS (As := [.int cell]) (rest := []) ⟨hx, hb, hml, hown, hts⟩ (c_Cloth_isCell l dC dI cI cC cG cZ  cell  r_1 hr_1) (va_cwS 1 hts gX6_together_X0_isCell rfl rfl rfl (by decide +kernel) ⟨Nat.le_of_ble_eq_true rfl, Nat.le_of_ble_eq_true rfl⟩) (ro_preS (hP.sub (ws' := []) [] rfl) hK) rfl rfl hl.1 rfl (lv_room (Nat.le_of_ble_eq_true rfl)) dX6_together_1 ⟨Nat.zero_le _, Nat.zero_le _⟩) hP hS (fun H locs hP hS => ?_)
  refine lv_if_eq (tgt := 14) hx hb dX6_together_4 (by decide) (fun c_2 => ?_) (fun c_2 => ?_)
  · rw [if_pos c_2] at hres
    refine lv_iconst (v := (-1)) hx hb dX6_together_14 (by decide) ?_
    exact W.iret (v := (-1)) hx hb hr (fun t ht hW => ⟨⟨(-1), (), rfl, hres.symm, trivial⟩, hS.F ht⟩) hS.2.2 dX6_together_15
  · rw [if_neg c_2] at hres
    refine lv_iload_n hx hb dX6_together_7 rfl (lv_at hl 2 rfl) ?_
    obtain ⟨r_3, hr_3⟩ : ∃ z, z = F_Cloth_isCell other := ⟨_, rfl⟩
    rw [bnd_e hr_3] at hres
    refine ro_calli (va_runS (As := [.int other]) (rest := []) ⟨hx, hb, hml, hown, hts⟩ (c_Cloth_isCell l dC dI cI cC cG cZ  other  r_3 hr_3) (va_cwS 1 hts gX6_together_X0_isCell rfl rfl rfl (by decide +kernel) ⟨Nat.le_of_ble_eq_true rfl, Nat.le_of_ble_eq_true rfl⟩) (ro_preS (hP.sub (ws' := []) [] rfl) hK) rfl rfl hl.1 rfl (lv_room (Nat.le_of_ble_eq_true rfl)) dX6_together_8 ⟨Nat.zero_le _, Nat.zero_le _⟩) hP hS (fun H locs hP hS => ?_)
    refine lv_if_ne (tgt := 16) hx hb dX6_together_11 (by decide) (fun c_4 => ?_) (fun c_4 => ?_)
    · rw [if_neg c_4] at hres
      refine lv_iload_n hx hb dX6_together_16 rfl (lv_at hl 3 rfl) ?_
      refine lv_if_eq (tgt := 28) hx hb dX6_together_17 (by decide) (fun c_5 => ?_) (fun c_5 => ?_)
      · rw [if_pos c_5] at hres
        refine lv_aload_n hx hb dX6_together_28 rfl (lv_at hl 0 rfl) ?_
        refine va_get (D := (dC, dI)) (ci := 6) (v := .ref g) (C := RX6) (T := TX6) (N := 5) hx hb hts iX6_together_X6 hown hK hP 0 rfl rfl 0 (by decide) (hts (.fieldLink RX6 10 "TailorChalks" "game" "LTailorChalks$Game;") kX6_together_10) (fun _ h9 => h9) rfl dX6_together_29 ?_
        refine va_get (D := (dC, dI)) (ci := 1) (v := .ref cl) (C := RX1) (T := TX1) (N := 5) hx hb hts iX6_together_X1 hown hK hP 1 rfl rfl 0 (by decide) (hts (.fieldLink RX6 60 "TailorChalks$Game" "cloth" "LTailorChalks$Cloth;") kX6_together_60) (fun _ h9 => h9) rfl dX6_together_32 ?_
        refine lv_iload_n hx hb dX6_together_35 rfl (lv_at hl 1 rfl) ?_
        obtain ⟨r_6, hr_6⟩ : ∃ z, z = F_Cloth_isGone cell gn := ⟨_, rfl⟩
        rw [bnd_e hr_6] at hres
        refine ro_calli (va_runV (As := [.int cell]) (rest := []) ⟨hx, hb, hml, hown, hts⟩ (c_Cloth_isGone l dC dI cI cC cG cZ cl st mk cell gn ac dn  r_6 hr_6) (cwV 1 hts gX6_together_X0_isGone rfl rfl rfl (by decide +kernel) ⟨Nat.le_of_ble_eq_true rfl, Nat.le_of_ble_eq_true rfl⟩) (ro_preV (hP.sub (ws' := [(cl, .inr (0, [.ref st, .ref mk, .long gn, .long ac, .long dn]))]) [2] rfl) hK (ci := 0) (q0 := 0) rfl rfl) rfl rfl hl.1 rfl (lv_room (Nat.le_of_ble_eq_true rfl)) dX6_together_36 ⟨Nat.zero_le _, Nat.zero_le _⟩) hP hS (fun H locs hP hS => ?_)
        refine lv_if_ne (tgt := 56) hx hb dX6_together_39 (by decide) (fun c_7 => ?_) (fun c_7 => ?_)
        · rw [if_neg c_7] at hres
          refine lv_bipush (v := (-5)) hx hb dX6_together_56 (by decide) ?_
          exact W.iret (v := (-5)) hx hb hr (fun t ht hW => ⟨⟨(-5), (), rfl, hres.symm, trivial⟩, hS.F ht⟩) hS.2.2 dX6_together_58
        · rw [if_pos c_7] at hres
          refine lv_aload_n hx hb dX6_together_42 rfl (lv_at hl 0 rfl) ?_
          refine va_get (D := (dC, dI)) (ci := 6) (v := .ref g) (C := RX6) (T := TX6) (N := 5) hx hb hts iX6_together_X6 hown hK hP 0 rfl rfl 0 (by decide) (hts (.fieldLink RX6 10 "TailorChalks" "game" "LTailorChalks$Game;") kX6_together_10) (fun _ h9 => h9) rfl dX6_together_43 ?_
          refine va_get (D := (dC, dI)) (ci := 1) (v := .ref cl) (C := RX1) (T := TX1) (N := 5) hx hb hts iX6_together_X1 hown hK hP 1 rfl rfl 0 (by decide) (hts (.fieldLink RX6 60 "TailorChalks$Game" "cloth" "LTailorChalks$Cloth;") kX6_together_60) (fun _ h9 => h9) rfl dX6_together_46 ?_
          refine lv_iload_n hx hb dX6_together_49 rfl (lv_at hl 2 rfl) ?_
          obtain ⟨r_8, hr_8⟩ : ∃ z, z = F_Cloth_isGone other gn := ⟨_, rfl⟩
          rw [bnd_e hr_8] at hres
          refine ro_calli (va_runV (As := [.int other]) (rest := []) ⟨hx, hb, hml, hown, hts⟩ (c_Cloth_isGone l dC dI cI cC cG cZ cl st mk other gn ac dn  r_8 hr_8) (cwV 1 hts gX6_together_X0_isGone rfl rfl rfl (by decide +kernel) ⟨Nat.le_of_ble_eq_true rfl, Nat.le_of_ble_eq_true rfl⟩) (ro_preV (hP.sub (ws' := [(cl, .inr (0, [.ref st, .ref mk, .long gn, .long ac, .long dn]))]) [2] rfl) hK (ci := 0) (q0 := 0) rfl rfl) rfl rfl hl.1 rfl (lv_room (Nat.le_of_ble_eq_true rfl)) dX6_together_50 ⟨Nat.zero_le _, Nat.zero_le _⟩) hP hS (fun H locs hP hS => ?_)
          refine lv_if_eq (tgt := 59) hx hb dX6_together_53 (by decide) (fun c_9 => ?_) (fun c_9 => ?_)
          · rw [if_pos c_9] at hres
            refine lv_iload_n hx hb dX6_together_59 rfl (lv_at hl 3 rfl) ?_
            refine lv_if_ne (tgt := 77) hx hb dX6_together_60 (by decide) (fun c_10 => ?_) (fun c_10 => ?_)
            · exact absurd c_5 c_10
            refine lv_aload_n hx hb dX6_together_63 rfl (lv_at hl 0 rfl) ?_
            refine va_get (D := (dC, dI)) (ci := 6) (v := .ref g) (C := RX6) (T := TX6) (N := 5) hx hb hts iX6_together_X6 hown hK hP 0 rfl rfl 0 (by decide) (hts (.fieldLink RX6 10 "TailorChalks" "game" "LTailorChalks$Game;") kX6_together_10) (fun _ h9 => h9) rfl dX6_together_64 ?_
            refine va_get (D := (dC, dI)) (ci := 1) (v := .ref cl) (C := RX1) (T := TX1) (N := 5) hx hb hts iX6_together_X1 hown hK hP 1 rfl rfl 0 (by decide) (hts (.fieldLink RX6 60 "TailorChalks$Game" "cloth" "LTailorChalks$Cloth;") kX6_together_60) (fun _ h9 => h9) rfl dX6_together_67 ?_
            refine lv_iload_n hx hb dX6_together_70 rfl (lv_at hl 1 rfl) ?_
            obtain ⟨r_11, hr_11⟩ : ∃ z, z = F_Cloth_pieceOf cell gn ac dn := ⟨_, rfl⟩
            rw [bnd_e hr_11] at hres
            refine ro_calll (va_runV (As := [.int cell]) (rest := []) ⟨hx, hb, hml, hown, hts⟩ (c_Cloth_pieceOf l dC dI cI cC cG cZ cl st mk cell gn ac dn  r_11 hr_11) (cwV 1 hts gX6_together_X0_pieceOf rfl rfl rfl (by decide +kernel) ⟨Nat.le_of_ble_eq_true rfl, Nat.le_of_ble_eq_true rfl⟩) (ro_preV (hP.sub (ws' := [(cl, .inr (0, [.ref st, .ref mk, .long gn, .long ac, .long dn]))]) [2] rfl) hK (ci := 0) (q0 := 0) rfl rfl) rfl rfl hl.1 rfl (lv_room (Nat.le_of_ble_eq_true rfl)) dX6_together_71 ⟨Nat.zero_le _, Nat.zero_le _⟩) hP hS (fun H locs hP hS => ?_)
            refine lv_goto (tgt := 88) hx hb dX6_together_74 (by decide) ?_
            refine lv_lstore (lv' := [(4, .long r_11), (0, .ref tc), (1, .int cell), (2, .int other), (3, .int way)]) hx hb dX6_together_88 hl (by decide) rfl (fun ls hl => ?_)
            refine lv_lload hx hb dX6_together_90 (lv_at hl 0 rfl) ?_
            refine lv_iload_n hx hb dX6_together_92 rfl (lv_at hl 3 rfl) ?_
            obtain ⟨r_12, hr_12⟩ : ∃ z, z = F_Cloth_has r_11 other := ⟨_, rfl⟩
            rw [bnd_e hr_12] at hres
            refine ro_calli (va_runS (As := [.long r_11, .int other]) (rest := []) ⟨hx, hb, hml, hown, hts⟩ (c_Cloth_has l dC dI cI cC cG cZ  r_11 other  r_12 hr_12) (va_cwS 2 hts gX6_together_X0_has rfl rfl rfl (by decide +kernel) ⟨Nat.le_of_ble_eq_true rfl, Nat.le_of_ble_eq_true rfl⟩) (ro_preS (hP.sub (ws' := []) [] rfl) hK) rfl rfl hl.1 rfl (lv_room (Nat.le_of_ble_eq_true rfl)) dX6_together_93 ⟨Nat.zero_le _, Nat.zero_le _⟩) hP hS (fun H locs hP hS => ?_)
            obtain ⟨r_13, hr_13⟩ : ∃ z, z = F_TC_asNumber r_12 := ⟨_, rfl⟩
            rw [bnd_e hr_13] at hres
            refine ro_calli (va_runS (As := [.int r_12]) (rest := []) ⟨hx, hb, hml, hown, hts⟩ (c_TC_asNumber l dC dI cI cC cG cZ  r_12  r_13 hr_13) (va_cwS 1 hts gX6_together_X6_asNumber rfl rfl rfl (by decide +kernel) ⟨Nat.le_of_ble_eq_true rfl, Nat.le_of_ble_eq_true rfl⟩) (ro_preS (hP.sub (ws' := []) [] rfl) hK) rfl rfl hl.1 rfl (lv_room (Nat.le_of_ble_eq_true rfl)) dX6_together_96 ⟨Nat.zero_le _, Nat.zero_le _⟩) hP hS (fun H locs hP hS => ?_)
            exact W.iret (v := r_13) hx hb hr (fun t ht hW => ⟨⟨r_13, (), rfl, hres.symm, trivial⟩, hS.F ht⟩) hS.2.2 dX6_together_99
          · rw [if_neg c_9] at hres
            refine lv_bipush (v := (-5)) hx hb dX6_together_56 (by decide) ?_
            exact W.iret (v := (-5)) hx hb hr (fun t ht hW => ⟨⟨(-5), (), rfl, hres.symm, trivial⟩, hS.F ht⟩) hS.2.2 dX6_together_58
      · rw [if_neg c_5] at hres
        refine lv_iload_n hx hb dX6_together_20 rfl (lv_at hl 3 rfl) ?_
        refine lv_iconst (v := 1) hx hb dX6_together_21 (by decide) ?_
        refine lv_icmp_eq (tgt := 28) hx hb dX6_together_22 (by decide) (fun c_14 => ?_) (fun c_14 => ?_)
        · rw [if_pos c_14] at hres
          refine lv_aload_n hx hb dX6_together_28 rfl (lv_at hl 0 rfl) ?_
          refine va_get (D := (dC, dI)) (ci := 6) (v := .ref g) (C := RX6) (T := TX6) (N := 5) hx hb hts iX6_together_X6 hown hK hP 0 rfl rfl 0 (by decide) (hts (.fieldLink RX6 10 "TailorChalks" "game" "LTailorChalks$Game;") kX6_together_10) (fun _ h9 => h9) rfl dX6_together_29 ?_
          refine va_get (D := (dC, dI)) (ci := 1) (v := .ref cl) (C := RX1) (T := TX1) (N := 5) hx hb hts iX6_together_X1 hown hK hP 1 rfl rfl 0 (by decide) (hts (.fieldLink RX6 60 "TailorChalks$Game" "cloth" "LTailorChalks$Cloth;") kX6_together_60) (fun _ h9 => h9) rfl dX6_together_32 ?_
          refine lv_iload_n hx hb dX6_together_35 rfl (lv_at hl 1 rfl) ?_
          obtain ⟨r_15, hr_15⟩ : ∃ z, z = F_Cloth_isGone cell gn := ⟨_, rfl⟩
          rw [bnd_e hr_15] at hres
          refine ro_calli (va_runV (As := [.int cell]) (rest := []) ⟨hx, hb, hml, hown, hts⟩ (c_Cloth_isGone l dC dI cI cC cG cZ cl st mk cell gn ac dn  r_15 hr_15) (cwV 1 hts gX6_together_X0_isGone rfl rfl rfl (by decide +kernel) ⟨Nat.le_of_ble_eq_true rfl, Nat.le_of_ble_eq_true rfl⟩) (ro_preV (hP.sub (ws' := [(cl, .inr (0, [.ref st, .ref mk, .long gn, .long ac, .long dn]))]) [2] rfl) hK (ci := 0) (q0 := 0) rfl rfl) rfl rfl hl.1 rfl (lv_room (Nat.le_of_ble_eq_true rfl)) dX6_together_36 ⟨Nat.zero_le _, Nat.zero_le _⟩) hP hS (fun H locs hP hS => ?_)
          refine lv_if_ne (tgt := 56) hx hb dX6_together_39 (by decide) (fun c_16 => ?_) (fun c_16 => ?_)
          · rw [if_neg c_16] at hres
            refine lv_bipush (v := (-5)) hx hb dX6_together_56 (by decide) ?_
            exact W.iret (v := (-5)) hx hb hr (fun t ht hW => ⟨⟨(-5), (), rfl, hres.symm, trivial⟩, hS.F ht⟩) hS.2.2 dX6_together_58
          · rw [if_pos c_16] at hres
            refine lv_aload_n hx hb dX6_together_42 rfl (lv_at hl 0 rfl) ?_
            refine va_get (D := (dC, dI)) (ci := 6) (v := .ref g) (C := RX6) (T := TX6) (N := 5) hx hb hts iX6_together_X6 hown hK hP 0 rfl rfl 0 (by decide) (hts (.fieldLink RX6 10 "TailorChalks" "game" "LTailorChalks$Game;") kX6_together_10) (fun _ h9 => h9) rfl dX6_together_43 ?_
            refine va_get (D := (dC, dI)) (ci := 1) (v := .ref cl) (C := RX1) (T := TX1) (N := 5) hx hb hts iX6_together_X1 hown hK hP 1 rfl rfl 0 (by decide) (hts (.fieldLink RX6 60 "TailorChalks$Game" "cloth" "LTailorChalks$Cloth;") kX6_together_60) (fun _ h9 => h9) rfl dX6_together_46 ?_
            refine lv_iload_n hx hb dX6_together_49 rfl (lv_at hl 2 rfl) ?_
            obtain ⟨r_17, hr_17⟩ : ∃ z, z = F_Cloth_isGone other gn := ⟨_, rfl⟩
            rw [bnd_e hr_17] at hres
            refine ro_calli (va_runV (As := [.int other]) (rest := []) ⟨hx, hb, hml, hown, hts⟩ (c_Cloth_isGone l dC dI cI cC cG cZ cl st mk other gn ac dn  r_17 hr_17) (cwV 1 hts gX6_together_X0_isGone rfl rfl rfl (by decide +kernel) ⟨Nat.le_of_ble_eq_true rfl, Nat.le_of_ble_eq_true rfl⟩) (ro_preV (hP.sub (ws' := [(cl, .inr (0, [.ref st, .ref mk, .long gn, .long ac, .long dn]))]) [2] rfl) hK (ci := 0) (q0 := 0) rfl rfl) rfl rfl hl.1 rfl (lv_room (Nat.le_of_ble_eq_true rfl)) dX6_together_50 ⟨Nat.zero_le _, Nat.zero_le _⟩) hP hS (fun H locs hP hS => ?_)
            refine lv_if_eq (tgt := 59) hx hb dX6_together_53 (by decide) (fun c_18 => ?_) (fun c_18 => ?_)
            · rw [if_pos c_18] at hres
              refine lv_iload_n hx hb dX6_together_59 rfl (lv_at hl 3 rfl) ?_
              refine lv_if_ne (tgt := 77) hx hb dX6_together_60 (by decide) (fun c_19 => ?_) (fun c_19 => ?_)
              rotate_left
              · exact absurd c_19 c_5
              refine lv_aload_n hx hb dX6_together_77 rfl (lv_at hl 0 rfl) ?_
              refine va_get (D := (dC, dI)) (ci := 6) (v := .ref g) (C := RX6) (T := TX6) (N := 5) hx hb hts iX6_together_X6 hown hK hP 0 rfl rfl 0 (by decide) (hts (.fieldLink RX6 10 "TailorChalks" "game" "LTailorChalks$Game;") kX6_together_10) (fun _ h9 => h9) rfl dX6_together_78 ?_
              refine va_get (D := (dC, dI)) (ci := 1) (v := .ref cl) (C := RX1) (T := TX1) (N := 5) hx hb hts iX6_together_X1 hown hK hP 1 rfl rfl 0 (by decide) (hts (.fieldLink RX6 60 "TailorChalks$Game" "cloth" "LTailorChalks$Cloth;") kX6_together_60) (fun _ h9 => h9) rfl dX6_together_81 ?_
              refine lv_iload_n hx hb dX6_together_84 rfl (lv_at hl 1 rfl) ?_
              obtain ⟨r_20, hr_20⟩ : ∃ z, z = F_Cloth_pieceIfBluffedHeld cell gn ac dn fs := ⟨_, rfl⟩
              rw [bnd_e hr_20] at hres
              refine ro_calll (va_runV (As := [.int cell]) (rest := []) ⟨hx, hb, hml, hown, hts⟩ (c_Cloth_pieceIfBluffedHeld l dC dI cI cC cG cZ cl st mk cell gn ac dn fs  r_20 hr_20) (cwV 1 hts gX6_together_X0_pieceIfBluffedHeld rfl rfl rfl (by decide +kernel) ⟨Nat.le_of_ble_eq_true rfl, Nat.le_of_ble_eq_true rfl⟩) (ro_preV (hP.sub (ws' := [(cl, .inr (0, [.ref st, .ref mk, .long gn, .long ac, .long dn])), (st, .inl (cI, 82, .inl fs))]) [2, 3] rfl) hK (ci := 0) (q0 := 0) rfl rfl) rfl rfl hl.1 rfl (lv_room (Nat.le_of_ble_eq_true rfl)) dX6_together_85 ⟨Nat.zero_le _, Nat.zero_le _⟩) hP hS (fun H locs hP hS => ?_)
              refine lv_lstore (lv' := [(4, .long r_20), (0, .ref tc), (1, .int cell), (2, .int other), (3, .int way)]) hx hb dX6_together_88 hl (by decide) rfl (fun ls hl => ?_)
              refine lv_lload hx hb dX6_together_90 (lv_at hl 0 rfl) ?_
              refine lv_iload_n hx hb dX6_together_92 rfl (lv_at hl 3 rfl) ?_
              obtain ⟨r_21, hr_21⟩ : ∃ z, z = F_Cloth_has r_20 other := ⟨_, rfl⟩
              rw [bnd_e hr_21] at hres
              refine ro_calli (va_runS (As := [.long r_20, .int other]) (rest := []) ⟨hx, hb, hml, hown, hts⟩ (c_Cloth_has l dC dI cI cC cG cZ  r_20 other  r_21 hr_21) (va_cwS 2 hts gX6_together_X0_has rfl rfl rfl (by decide +kernel) ⟨Nat.le_of_ble_eq_true rfl, Nat.le_of_ble_eq_true rfl⟩) (ro_preS (hP.sub (ws' := []) [] rfl) hK) rfl rfl hl.1 rfl (lv_room (Nat.le_of_ble_eq_true rfl)) dX6_together_93 ⟨Nat.zero_le _, Nat.zero_le _⟩) hP hS (fun H locs hP hS => ?_)
              obtain ⟨r_22, hr_22⟩ : ∃ z, z = F_TC_asNumber r_21 := ⟨_, rfl⟩
              rw [bnd_e hr_22] at hres
              refine ro_calli (va_runS (As := [.int r_21]) (rest := []) ⟨hx, hb, hml, hown, hts⟩ (c_TC_asNumber l dC dI cI cC cG cZ  r_21  r_22 hr_22) (va_cwS 1 hts gX6_together_X6_asNumber rfl rfl rfl (by decide +kernel) ⟨Nat.le_of_ble_eq_true rfl, Nat.le_of_ble_eq_true rfl⟩) (ro_preS (hP.sub (ws' := []) [] rfl) hK) rfl rfl hl.1 rfl (lv_room (Nat.le_of_ble_eq_true rfl)) dX6_together_96 ⟨Nat.zero_le _, Nat.zero_le _⟩) hP hS (fun H locs hP hS => ?_)
              exact W.iret (v := r_22) hx hb hr (fun t ht hW => ⟨⟨r_22, (), rfl, hres.symm, trivial⟩, hS.F ht⟩) hS.2.2 dX6_together_99
            · rw [if_neg c_18] at hres
              refine lv_bipush (v := (-5)) hx hb dX6_together_56 (by decide) ?_
              exact W.iret (v := (-5)) hx hb hr (fun t ht hW => ⟨⟨(-5), (), rfl, hres.symm, trivial⟩, hS.F ht⟩) hS.2.2 dX6_together_58
        · rw [if_neg c_14] at hres
          refine lv_bipush (v := (-2)) hx hb dX6_together_25 (by decide) ?_
          exact W.iret (v := (-2)) hx hb hr (fun t ht hW => ⟨⟨(-2), (), rfl, hres.symm, trivial⟩, hS.F ht⟩) hS.2.2 dX6_together_27
    · rw [if_pos c_4] at hres
      refine lv_iconst (v := (-1)) hx hb dX6_together_14 (by decide) ?_
      exact W.iret (v := (-1)) hx hb hr (fun t ht hW => ⟨⟨(-1), (), rfl, hres.symm, trivial⟩, hS.F ht⟩) hS.2.2 dX6_together_15
