theorem iX6_of_X1 : ∀ w ∈ u_ws RX1 TX1 5, w ∈ wsX6_of := by decide +kernel
theorem iX6_of_X6 : ∀ w ∈ u_ws RX6 TX6 5, w ∈ wsX6_of := by decide +kernel
theorem kX6_of_10 : Cond.fieldLink RX6 10 "TailorChalks" "game" "LTailorChalks$Game;" ∈ wsX6_of := by decide +kernel
theorem kX6_of_60 : Cond.fieldLink RX6 60 "TailorChalks$Game" "cloth" "LTailorChalks$Cloth;" ∈ wsX6_of := by decide +kernel
def F_TC_of (joint : Int32) (what : Int32) (tn : Int32) (gn : Int64) (ac : Int64) (dn : Int64) (fs : Nat → Int32) (fm : Nat → Int32) (mks0 : Int32) (fma0 : Nat → Int32) (mks1 : Int32) (fma1 : Nat → Int32) : Int32 := (bnd (F_Cloth_isJoint joint) (fun r_1 => (if r_1 = 0 then (-1) else (if what = 0 then (bnd (F_Cloth_stateOf joint fs) (fun r_4 => r_4)) else (if what = 1 then (bnd (F_Cloth_isVoid joint gn) (fun r_6 => (bnd (F_TC_asNumber r_6) (fun r_7 => r_7)))) else (if what = 2 then (bnd (F_Cloth_firstCell joint) (fun r_9 => r_9)) else (if what = 3 then (bnd (F_Cloth_secondCell joint) (fun r_11 => r_11)) else (if what = 4 then (bnd (F_Game_chalkersOf joint mks0 fma0 mks1 fma1) (fun r_13 => r_13)) else (if what = 5 then (bnd (F_Game_doubtableMaker joint tn gn fm) (fun r_15 => r_15)) else (if what = 6 then (bnd (F_Cloth_holds joint ac dn) (fun r_17 => (bnd (F_TC_asNumber r_17) (fun r_18 => r_18)))) else (-2)))))))))))
set_option maxHeartbeats 4000000 in
set_option maxRecDepth 100000 in
theorem c_TC_of (l : Launch) (dC : Nat → ClassId) (dI : Nat → Nat → Nat) (cI cC cG cZ : ClassId) (tc g h s0 s1 pd cl t0 t1 st mk ma0 ma1 : Nat) (joint : Int32) (what : Int32) (nx : Int32) (tn : Int32) (gn : Int64) (ac : Int64) (dn : Int64) (fs : Nat → Int32) (fm : Nat → Int32) (mks0 : Int32) (pts0 : Int32) (ths0 : Int32) (rgs0 : Int32) (rgc0 : Int32) (fnd0 : Int32) (rdb0 : Int32) (wdb0 : Int32) (fma0 : Nat → Int32) (mks1 : Int32) (pts1 : Int32) (ths1 : Int32) (rgs1 : Int32) (rgc1 : Int32) (fnd1 : Int32) (rdb1 : Int32) (wdb1 : Int32) (fma1 : Nat → Int32) (hM0 : tm_ok 8 mks0) (hM1 : tm_ok 8 mks1) (res : Int32) (hres : res = F_TC_of joint what tn gn ac dn fs fm mks0 fma0 mks1 fma1) : Met l yX6_of wsX6_of ({ frames := 4, cells := 0, slots := 0, locals := 82 }) (va_Pc [.ref tc, .int joint, .int what] (ro_P (dC, dI) vwCl (tyL cI cC cG cZ) [(tc, .inr (6, [.ref g, .ref h, .ref s0, .ref s1, .ref pd])), (g, .inr (1, [.ref cl, .ref t0, .ref t1, .int nx, .int tn])), (cl, .inr (0, [.ref st, .ref mk, .long gn, .long ac, .long dn])), (st, .inl (cI, 82, .inl fs)), (mk, .inl (cI, 82, .inl fm)), (t0, .inr (5, [.ref ma0, .int mks0, .int pts0, .int ths0, .int rgs0, .int rgc0, .int fnd0, .int rdb0, .int wdb0])), (ma0, .inl (cI, 8, .inl fma0)), (t1, .inr (5, [.ref ma1, .int mks1, .int pts1, .int ths1, .int rgs1, .int rgc1, .int fnd1, .int rdb1, .int wdb1])), (ma1, .inl (cI, 8, .inl fma1))])) (va_Qi (fun r (_ : Unit) => r = res) (fun _ _ => True) ro_F) 0 0 ro_F := by
  refine Met.ofW (cc := cX6_of) (maxL := 3) (ret := (some .int)) (by decide) rfl ?_
  intro p e s m args below meth c s₁ B hml hv
  obtain ⟨rfl, hP, hK⟩ := hv
  have hx := B.exec
  have hb := B.bytes
  have hr := B.returns
  have hts := atoms_spec (ws := wsX6_of) B.pre
  have hown : s.vm.findClass RX6 = some m.cls := findClass_of_methodNamed B.named
  have hlocks := B.notSynchronized
  have hS : va_S ro_F s.heap s.heap [] := va_S.rf
  have hl := lv_entry ([.ref tc, .int joint, .int what]) (n := 3) (Nat.le_of_ble_eq_true rfl)
  rw [lg_entry_eq]
  generalize (lg_sl ([.ref tc, .int joint, .int what]) ++ List.replicate (3 - (lg_sl ([.ref tc, .int joint, .int what])).length) Slot.unset).toArray = ls at hl ⊢
  have hl : lv_has ls 3 [(0, .ref tc), (1, .int joint), (2, .int what)] := hl
  rw [F_TC_of] at hres
  refine lv_iload_n hx hb dX6_of_0 rfl (lv_at hl 1 rfl) ?_
  obtain ⟨r_1, hr_1⟩ : ∃ z, z = F_Cloth_isJoint joint := ⟨_, rfl⟩
  rw [bnd_e hr_1] at hres
  refine ro_calli (va_runS (As := [.int joint]) (rest := []) ⟨hx, hb, hml, hown, hts⟩ (c_Cloth_isJoint l dC dI cI cC cG cZ  joint  r_1 hr_1) (va_cwS 1 hts gX6_of_X0_isJoint rfl rfl rfl (by decide +kernel) ⟨Nat.le_of_ble_eq_true rfl, Nat.le_of_ble_eq_true rfl⟩) (ro_preS (hP.sub (ws' := []) [] rfl) hK) rfl rfl hl.1 rfl (lv_room (Nat.le_of_ble_eq_true rfl)) dX6_of_1 ⟨Nat.zero_le _, Nat.zero_le _⟩) hP hS (fun H locs hP hS => ?_)
  refine lv_if_ne (tgt := 9) hx hb dX6_of_4 (by decide) (fun c_2 => ?_) (fun c_2 => ?_)
  · rw [if_neg c_2] at hres
    refine lv_iload_n hx hb dX6_of_9 rfl (lv_at hl 2 rfl) ?_
    by_cases c_3 : what = 0
    · rw [if_pos c_3] at hres
      refine lv_tableIn (off := 42) (tgt := 52) hx hb dX6_of_10 (by rw [c_3]; decide) (by rw [c_3]; decide) (by rw [c_3]; rfl) (by decide) ?_
      refine lv_aload_n hx hb dX6_of_52 rfl (lv_at hl 0 rfl) ?_
      refine va_get (D := (dC, dI)) (ci := 6) (v := .ref g) (C := RX6) (T := TX6) (N := 5) hx hb hts iX6_of_X6 hown hK hP 0 rfl rfl 0 (by decide) (hts (.fieldLink RX6 10 "TailorChalks" "game" "LTailorChalks$Game;") kX6_of_10) (fun _ h9 => h9) rfl dX6_of_53 ?_
      refine va_get (D := (dC, dI)) (ci := 1) (v := .ref cl) (C := RX1) (T := TX1) (N := 5) hx hb hts iX6_of_X1 hown hK hP 1 rfl rfl 0 (by decide) (hts (.fieldLink RX6 60 "TailorChalks$Game" "cloth" "LTailorChalks$Cloth;") kX6_of_60) (fun _ h9 => h9) rfl dX6_of_56 ?_
      refine lv_iload_n hx hb dX6_of_59 rfl (lv_at hl 1 rfl) ?_
      obtain ⟨r_4, hr_4⟩ : ∃ z, z = F_Cloth_stateOf joint fs := ⟨_, rfl⟩
      rw [bnd_e hr_4] at hres
      refine ro_calli (va_runV (As := [.int joint]) (rest := []) ⟨hx, hb, hml, hown, hts⟩ (c_Cloth_stateOf l dC dI cI cC cG cZ cl st mk joint gn ac dn fs  r_4 hr_4) (cwV 1 hts gX6_of_X0_stateOf rfl rfl rfl (by decide +kernel) ⟨Nat.le_of_ble_eq_true rfl, Nat.le_of_ble_eq_true rfl⟩) (ro_preV (hP.sub (ws' := [(cl, .inr (0, [.ref st, .ref mk, .long gn, .long ac, .long dn])), (st, .inl (cI, 82, .inl fs))]) [2, 3] rfl) hK (ci := 0) (q0 := 0) rfl rfl) rfl rfl hl.1 rfl (lv_room (Nat.le_of_ble_eq_true rfl)) dX6_of_60 ⟨Nat.zero_le _, Nat.zero_le _⟩) hP hS (fun H locs hP hS => ?_)
      exact W.iret (v := r_4) hx hb hr (fun t ht hW => ⟨⟨r_4, (), rfl, hres.symm, trivial⟩, hS.F ht⟩) hS.2.2 dX6_of_63
    · rw [if_neg c_3] at hres
      by_cases c_5 : what = 1
      · rw [if_pos c_5] at hres
        refine lv_tableIn (off := 54) (tgt := 64) hx hb dX6_of_10 (by rw [c_5]; decide) (by rw [c_5]; decide) (by rw [c_5]; rfl) (by decide) ?_
        refine lv_aload_n hx hb dX6_of_64 rfl (lv_at hl 0 rfl) ?_
        refine va_get (D := (dC, dI)) (ci := 6) (v := .ref g) (C := RX6) (T := TX6) (N := 5) hx hb hts iX6_of_X6 hown hK hP 0 rfl rfl 0 (by decide) (hts (.fieldLink RX6 10 "TailorChalks" "game" "LTailorChalks$Game;") kX6_of_10) (fun _ h9 => h9) rfl dX6_of_65 ?_
        refine va_get (D := (dC, dI)) (ci := 1) (v := .ref cl) (C := RX1) (T := TX1) (N := 5) hx hb hts iX6_of_X1 hown hK hP 1 rfl rfl 0 (by decide) (hts (.fieldLink RX6 60 "TailorChalks$Game" "cloth" "LTailorChalks$Cloth;") kX6_of_60) (fun _ h9 => h9) rfl dX6_of_68 ?_
        refine lv_iload_n hx hb dX6_of_71 rfl (lv_at hl 1 rfl) ?_
        obtain ⟨r_6, hr_6⟩ : ∃ z, z = F_Cloth_isVoid joint gn := ⟨_, rfl⟩
        rw [bnd_e hr_6] at hres
        refine ro_calli (va_runV (As := [.int joint]) (rest := []) ⟨hx, hb, hml, hown, hts⟩ (c_Cloth_isVoid l dC dI cI cC cG cZ cl st mk joint gn ac dn  r_6 hr_6) (cwV 1 hts gX6_of_X0_isVoid rfl rfl rfl (by decide +kernel) ⟨Nat.le_of_ble_eq_true rfl, Nat.le_of_ble_eq_true rfl⟩) (ro_preV (hP.sub (ws' := [(cl, .inr (0, [.ref st, .ref mk, .long gn, .long ac, .long dn]))]) [2] rfl) hK (ci := 0) (q0 := 0) rfl rfl) rfl rfl hl.1 rfl (lv_room (Nat.le_of_ble_eq_true rfl)) dX6_of_72 ⟨Nat.zero_le _, Nat.zero_le _⟩) hP hS (fun H locs hP hS => ?_)
        obtain ⟨r_7, hr_7⟩ : ∃ z, z = F_TC_asNumber r_6 := ⟨_, rfl⟩
        rw [bnd_e hr_7] at hres
        refine ro_calli (va_runS (As := [.int r_6]) (rest := []) ⟨hx, hb, hml, hown, hts⟩ (c_TC_asNumber l dC dI cI cC cG cZ  r_6  r_7 hr_7) (va_cwS 1 hts gX6_of_X6_asNumber rfl rfl rfl (by decide +kernel) ⟨Nat.le_of_ble_eq_true rfl, Nat.le_of_ble_eq_true rfl⟩) (ro_preS (hP.sub (ws' := []) [] rfl) hK) rfl rfl hl.1 rfl (lv_room (Nat.le_of_ble_eq_true rfl)) dX6_of_75 ⟨Nat.zero_le _, Nat.zero_le _⟩) hP hS (fun H locs hP hS => ?_)
        exact W.iret (v := r_7) hx hb hr (fun t ht hW => ⟨⟨r_7, (), rfl, hres.symm, trivial⟩, hS.F ht⟩) hS.2.2 dX6_of_78
      · rw [if_neg c_5] at hres
        by_cases c_8 : what = 2
        · rw [if_pos c_8] at hres
          refine lv_tableIn (off := 69) (tgt := 79) hx hb dX6_of_10 (by rw [c_8]; decide) (by rw [c_8]; decide) (by rw [c_8]; rfl) (by decide) ?_
          refine lv_iload_n hx hb dX6_of_79 rfl (lv_at hl 1 rfl) ?_
          obtain ⟨r_9, hr_9⟩ : ∃ z, z = F_Cloth_firstCell joint := ⟨_, rfl⟩
          rw [bnd_e hr_9] at hres
          refine ro_calli (va_runS (As := [.int joint]) (rest := []) ⟨hx, hb, hml, hown, hts⟩ (c_Cloth_firstCell l dC dI cI cC cG cZ  joint  r_9 hr_9) (va_cwS 1 hts gX6_of_X0_firstCell rfl rfl rfl (by decide +kernel) ⟨Nat.le_of_ble_eq_true rfl, Nat.le_of_ble_eq_true rfl⟩) (ro_preS (hP.sub (ws' := []) [] rfl) hK) rfl rfl hl.1 rfl (lv_room (Nat.le_of_ble_eq_true rfl)) dX6_of_80 ⟨Nat.zero_le _, Nat.zero_le _⟩) hP hS (fun H locs hP hS => ?_)
          exact W.iret (v := r_9) hx hb hr (fun t ht hW => ⟨⟨r_9, (), rfl, hres.symm, trivial⟩, hS.F ht⟩) hS.2.2 dX6_of_83
        · rw [if_neg c_8] at hres
          by_cases c_10 : what = 3
          · rw [if_pos c_10] at hres
            refine lv_tableIn (off := 74) (tgt := 84) hx hb dX6_of_10 (by rw [c_10]; decide) (by rw [c_10]; decide) (by rw [c_10]; rfl) (by decide) ?_
            refine lv_iload_n hx hb dX6_of_84 rfl (lv_at hl 1 rfl) ?_
            obtain ⟨r_11, hr_11⟩ : ∃ z, z = F_Cloth_secondCell joint := ⟨_, rfl⟩
            rw [bnd_e hr_11] at hres
            refine ro_calli (va_runS (As := [.int joint]) (rest := []) ⟨hx, hb, hml, hown, hts⟩ (c_Cloth_secondCell l dC dI cI cC cG cZ  joint  r_11 hr_11) (va_cwS 1 hts gX6_of_X0_secondCell rfl rfl rfl (by decide +kernel) ⟨Nat.le_of_ble_eq_true rfl, Nat.le_of_ble_eq_true rfl⟩) (ro_preS (hP.sub (ws' := []) [] rfl) hK) rfl rfl hl.1 rfl (lv_room (Nat.le_of_ble_eq_true rfl)) dX6_of_85 ⟨Nat.zero_le _, Nat.zero_le _⟩) hP hS (fun H locs hP hS => ?_)
            exact W.iret (v := r_11) hx hb hr (fun t ht hW => ⟨⟨r_11, (), rfl, hres.symm, trivial⟩, hS.F ht⟩) hS.2.2 dX6_of_88
          · rw [if_neg c_10] at hres
            by_cases c_12 : what = 4
            · rw [if_pos c_12] at hres
              refine lv_tableIn (off := 79) (tgt := 89) hx hb dX6_of_10 (by rw [c_12]; decide) (by rw [c_12]; decide) (by rw [c_12]; rfl) (by decide) ?_
              refine lv_aload_n hx hb dX6_of_89 rfl (lv_at hl 0 rfl) ?_
              refine va_get (D := (dC, dI)) (ci := 6) (v := .ref g) (C := RX6) (T := TX6) (N := 5) hx hb hts iX6_of_X6 hown hK hP 0 rfl rfl 0 (by decide) (hts (.fieldLink RX6 10 "TailorChalks" "game" "LTailorChalks$Game;") kX6_of_10) (fun _ h9 => h9) rfl dX6_of_90 ?_
              refine lv_iload_n hx hb dX6_of_93 rfl (lv_at hl 1 rfl) ?_
              obtain ⟨r_13, hr_13⟩ : ∃ z, z = F_Game_chalkersOf joint mks0 fma0 mks1 fma1 := ⟨_, rfl⟩
              rw [bnd_e hr_13] at hres
              refine ro_calli (va_runV (As := [.int joint]) (rest := []) ⟨hx, hb, hml, hown, hts⟩ (c_Game_chalkersOf l dC dI cI cC cG cZ g cl t0 t1 ma0 ma1 joint nx tn mks0 pts0 ths0 rgs0 rgc0 fnd0 rdb0 wdb0 fma0 mks1 pts1 ths1 rgs1 rgc1 fnd1 rdb1 wdb1 fma1 hM0 hM1 r_13 hr_13) (cwV 1 hts gX6_of_X1_chalkersOf rfl rfl rfl (by decide +kernel) ⟨Nat.le_of_ble_eq_true rfl, Nat.le_of_ble_eq_true rfl⟩) (ro_preV (hP.sub (ws' := [(g, .inr (1, [.ref cl, .ref t0, .ref t1, .int nx, .int tn])), (t0, .inr (5, [.ref ma0, .int mks0, .int pts0, .int ths0, .int rgs0, .int rgc0, .int fnd0, .int rdb0, .int wdb0])), (ma0, .inl (cI, 8, .inl fma0)), (t1, .inr (5, [.ref ma1, .int mks1, .int pts1, .int ths1, .int rgs1, .int rgc1, .int fnd1, .int rdb1, .int wdb1])), (ma1, .inl (cI, 8, .inl fma1))]) [1, 5, 6, 7, 8] rfl) hK (ci := 1) (q0 := 0) rfl rfl) rfl rfl hl.1 rfl (lv_room (Nat.le_of_ble_eq_true rfl)) dX6_of_94 ⟨Nat.zero_le _, Nat.zero_le _⟩) hP hS (fun H locs hP hS => ?_)
              exact W.iret (v := r_13) hx hb hr (fun t ht hW => ⟨⟨r_13, (), rfl, hres.symm, trivial⟩, hS.F ht⟩) hS.2.2 dX6_of_97
            · rw [if_neg c_12] at hres
              by_cases c_14 : what = 5
              · rw [if_pos c_14] at hres
                refine lv_tableIn (off := 88) (tgt := 98) hx hb dX6_of_10 (by rw [c_14]; decide) (by rw [c_14]; decide) (by rw [c_14]; rfl) (by decide) ?_
                refine lv_aload_n hx hb dX6_of_98 rfl (lv_at hl 0 rfl) ?_
                refine va_get (D := (dC, dI)) (ci := 6) (v := .ref g) (C := RX6) (T := TX6) (N := 5) hx hb hts iX6_of_X6 hown hK hP 0 rfl rfl 0 (by decide) (hts (.fieldLink RX6 10 "TailorChalks" "game" "LTailorChalks$Game;") kX6_of_10) (fun _ h9 => h9) rfl dX6_of_99 ?_
                refine lv_iload_n hx hb dX6_of_102 rfl (lv_at hl 1 rfl) ?_
                obtain ⟨r_15, hr_15⟩ : ∃ z, z = F_Game_doubtableMaker joint tn gn fm := ⟨_, rfl⟩
                rw [bnd_e hr_15] at hres
                refine ro_calli (va_runV (As := [.int joint]) (rest := []) ⟨hx, hb, hml, hown, hts⟩ (c_Game_doubtableMaker l dC dI cI cC cG cZ g cl t0 t1 st mk joint nx tn gn ac dn fm  r_15 hr_15) (cwV 1 hts gX6_of_X1_doubtableMaker rfl rfl rfl (by decide +kernel) ⟨Nat.le_of_ble_eq_true rfl, Nat.le_of_ble_eq_true rfl⟩) (ro_preV (hP.sub (ws' := [(g, .inr (1, [.ref cl, .ref t0, .ref t1, .int nx, .int tn])), (cl, .inr (0, [.ref st, .ref mk, .long gn, .long ac, .long dn])), (mk, .inl (cI, 82, .inl fm))]) [1, 2, 4] rfl) hK (ci := 1) (q0 := 0) rfl rfl) rfl rfl hl.1 rfl (lv_room (Nat.le_of_ble_eq_true rfl)) dX6_of_103 ⟨Nat.zero_le _, Nat.zero_le _⟩) hP hS (fun H locs hP hS => ?_)
                exact W.iret (v := r_15) hx hb hr (fun t ht hW => ⟨⟨r_15, (), rfl, hres.symm, trivial⟩, hS.F ht⟩) hS.2.2 dX6_of_106
              · rw [if_neg c_14] at hres
                by_cases c_16 : what = 6
                · rw [if_pos c_16] at hres
                  refine lv_tableIn (off := 97) (tgt := 107) hx hb dX6_of_10 (by rw [c_16]; decide) (by rw [c_16]; decide) (by rw [c_16]; rfl) (by decide) ?_
                  refine lv_aload_n hx hb dX6_of_107 rfl (lv_at hl 0 rfl) ?_
                  refine va_get (D := (dC, dI)) (ci := 6) (v := .ref g) (C := RX6) (T := TX6) (N := 5) hx hb hts iX6_of_X6 hown hK hP 0 rfl rfl 0 (by decide) (hts (.fieldLink RX6 10 "TailorChalks" "game" "LTailorChalks$Game;") kX6_of_10) (fun _ h9 => h9) rfl dX6_of_108 ?_
                  refine va_get (D := (dC, dI)) (ci := 1) (v := .ref cl) (C := RX1) (T := TX1) (N := 5) hx hb hts iX6_of_X1 hown hK hP 1 rfl rfl 0 (by decide) (hts (.fieldLink RX6 60 "TailorChalks$Game" "cloth" "LTailorChalks$Cloth;") kX6_of_60) (fun _ h9 => h9) rfl dX6_of_111 ?_
                  refine lv_iload_n hx hb dX6_of_114 rfl (lv_at hl 1 rfl) ?_
                  obtain ⟨r_17, hr_17⟩ : ∃ z, z = F_Cloth_holds joint ac dn := ⟨_, rfl⟩
                  rw [bnd_e hr_17] at hres
                  refine ro_calli (va_runV (As := [.int joint]) (rest := []) ⟨hx, hb, hml, hown, hts⟩ (c_Cloth_holds l dC dI cI cC cG cZ cl st mk joint gn ac dn  r_17 hr_17) (cwV 1 hts gX6_of_X0_holds rfl rfl rfl (by decide +kernel) ⟨Nat.le_of_ble_eq_true rfl, Nat.le_of_ble_eq_true rfl⟩) (ro_preV (hP.sub (ws' := [(cl, .inr (0, [.ref st, .ref mk, .long gn, .long ac, .long dn]))]) [2] rfl) hK (ci := 0) (q0 := 0) rfl rfl) rfl rfl hl.1 rfl (lv_room (Nat.le_of_ble_eq_true rfl)) dX6_of_115 ⟨Nat.zero_le _, Nat.zero_le _⟩) hP hS (fun H locs hP hS => ?_)
                  obtain ⟨r_18, hr_18⟩ : ∃ z, z = F_TC_asNumber r_17 := ⟨_, rfl⟩
                  rw [bnd_e hr_18] at hres
                  refine ro_calli (va_runS (As := [.int r_17]) (rest := []) ⟨hx, hb, hml, hown, hts⟩ (c_TC_asNumber l dC dI cI cC cG cZ  r_17  r_18 hr_18) (va_cwS 1 hts gX6_of_X6_asNumber rfl rfl rfl (by decide +kernel) ⟨Nat.le_of_ble_eq_true rfl, Nat.le_of_ble_eq_true rfl⟩) (ro_preS (hP.sub (ws' := []) [] rfl) hK) rfl rfl hl.1 rfl (lv_room (Nat.le_of_ble_eq_true rfl)) dX6_of_118 ⟨Nat.zero_le _, Nat.zero_le _⟩) hP hS (fun H locs hP hS => ?_)
                  exact W.iret (v := r_18) hx hb hr (fun t ht hW => ⟨⟨r_18, (), rfl, hres.symm, trivial⟩, hS.F ht⟩) hS.2.2 dX6_of_121
                · rw [if_neg c_16] at hres
                  refine lv_tableOut (tgt := 122) hx hb dX6_of_10 (by have o_19_0 := lv_neT (a := 0) c_3 rfl; have o_19_1 := lv_neT (a := 1) c_5 rfl; have o_19_2 := lv_neT (a := 2) c_8 rfl; have o_19_3 := lv_neT (a := 3) c_10 rfl; have o_19_4 := lv_neT (a := 4) c_12 rfl; have o_19_5 := lv_neT (a := 5) c_14 rfl; have o_19_6 := lv_neT (a := 6) c_16 rfl; omega) (by decide) ?_
                  refine lv_bipush (v := (-2)) hx hb dX6_of_122 (by decide) ?_
                  exact W.iret (v := (-2)) hx hb hr (fun t ht hW => ⟨⟨(-2), (), rfl, hres.symm, trivial⟩, hS.F ht⟩) hS.2.2 dX6_of_124
  · rw [if_pos c_2] at hres
    refine lv_iconst (v := (-1)) hx hb dX6_of_7 (by decide) ?_
    exact W.iret (v := (-1)) hx hb hr (fun t ht hW => ⟨⟨(-1), (), rfl, hres.symm, trivial⟩, hS.F ht⟩) hS.2.2 dX6_of_8
theorem iX6_cell_X1 : ∀ w ∈ u_ws RX1 TX1 5, w ∈ wsX6_cell := by decide +kernel
theorem iX6_cell_X6 : ∀ w ∈ u_ws RX6 TX6 5, w ∈ wsX6_cell := by decide +kernel
theorem kX6_cell_10 : Cond.fieldLink RX6 10 "TailorChalks" "game" "LTailorChalks$Game;" ∈ wsX6_cell := by decide +kernel
theorem kX6_cell_60 : Cond.fieldLink RX6 60 "TailorChalks$Game" "cloth" "LTailorChalks$Cloth;" ∈ wsX6_cell := by decide +kernel
def F_TC_cell (cell : Int32) (what : Int32) (gn : Int64) (ac : Int64) (dn : Int64) : Int32 := (bnd (F_Cloth_isCell cell) (fun r_1 => (if r_1 = 0 then (-1) else (if what = 0 then (bnd (F_Cloth_isGone cell gn) (fun r_4 => (bnd (F_TC_asNumber r_4) (fun r_5 => r_5)))) else (if what = 1 then (bnd (F_Cloth_pieceOf cell gn ac dn) (fun r_7 => (bnd (F_Long_bitCount r_7) (fun r_8 => r_8)))) else (if what = 2 then (bnd (F_Cloth_lowestOfPiece cell gn ac dn) (fun r_10 => r_10)) else (if what = 3 then (bnd (F_Cloth_holdsOn cell ac dn) (fun r_12 => r_12)) else (-2))))))))
set_option maxHeartbeats 4000000 in
set_option maxRecDepth 100000 in
theorem c_TC_cell (l : Launch) (dC : Nat → ClassId) (dI : Nat → Nat → Nat) (cI cC cG cZ : ClassId) (tc g h s0 s1 pd cl t0 t1 st mk : Nat) (cell : Int32) (what : Int32) (nx : Int32) (tn : Int32) (gn : Int64) (ac : Int64) (dn : Int64) (res : Int32) (hres : res = F_TC_cell cell what gn ac dn) : Met l yX6_cell wsX6_cell ({ frames := 4, cells := 0, slots := 0, locals := 88 }) (va_Pc [.ref tc, .int cell, .int what] (ro_P (dC, dI) vwCl (tyL cI cC cG cZ) [(tc, .inr (6, [.ref g, .ref h, .ref s0, .ref s1, .ref pd])), (g, .inr (1, [.ref cl, .ref t0, .ref t1, .int nx, .int tn])), (cl, .inr (0, [.ref st, .ref mk, .long gn, .long ac, .long dn]))])) (va_Qi (fun r (_ : Unit) => r = res) (fun _ _ => True) ro_F) 0 0 ro_F := by
  refine Met.ofW (cc := cX6_cell) (maxL := 3) (ret := (some .int)) (by decide) rfl ?_
  intro p e s m args below meth c s₁ B hml hv
  obtain ⟨rfl, hP, hK⟩ := hv
  have hx := B.exec
  have hb := B.bytes
  have hr := B.returns
  have hts := atoms_spec (ws := wsX6_cell) B.pre
  have hown : s.vm.findClass RX6 = some m.cls := findClass_of_methodNamed B.named
  have hlocks := B.notSynchronized
  have hS : va_S ro_F s.heap s.heap [] := va_S.rf
  have hl := lv_entry ([.ref tc, .int cell, .int what]) (n := 3) (Nat.le_of_ble_eq_true rfl)
  rw [lg_entry_eq]
  generalize (lg_sl ([.ref tc, .int cell, .int what]) ++ List.replicate (3 - (lg_sl ([.ref tc, .int cell, .int what])).length) Slot.unset).toArray = ls at hl ⊢
  have hl : lv_has ls 3 [(0, .ref tc), (1, .int cell), (2, .int what)] := hl
  rw [F_TC_cell] at hres
  refine lv_iload_n hx hb dX6_cell_0 rfl (lv_at hl 1 rfl) ?_
  obtain ⟨r_1, hr_1⟩ : ∃ z, z = F_Cloth_isCell cell := ⟨_, rfl⟩
  rw [bnd_e hr_1] at hres
  refine ro_calli (va_runS (As := [.int cell]) (rest := []) ⟨hx, hb, hml, hown, hts⟩ (c_Cloth_isCell l dC dI cI cC cG cZ  cell  r_1 hr_1) (va_cwS 1 hts gX6_cell_X0_isCell rfl rfl rfl (by decide +kernel) ⟨Nat.le_of_ble_eq_true rfl, Nat.le_of_ble_eq_true rfl⟩) (ro_preS (hP.sub (ws' := []) [] rfl) hK) rfl rfl hl.1 rfl (lv_room (Nat.le_of_ble_eq_true rfl)) dX6_cell_1 ⟨Nat.zero_le _, Nat.zero_le _⟩) hP hS (fun H locs hP hS => ?_)
  refine lv_if_ne (tgt := 9) hx hb dX6_cell_4 (by decide) (fun c_2 => ?_) (fun c_2 => ?_)
  · rw [if_neg c_2] at hres
    refine lv_iload_n hx hb dX6_cell_9 rfl (lv_at hl 2 rfl) ?_
    by_cases c_3 : what = 0
    · rw [if_pos c_3] at hres
      refine lv_tableIn (off := 30) (tgt := 40) hx hb dX6_cell_10 (by rw [c_3]; decide) (by rw [c_3]; decide) (by rw [c_3]; rfl) (by decide) ?_
      refine lv_aload_n hx hb dX6_cell_40 rfl (lv_at hl 0 rfl) ?_
      refine va_get (D := (dC, dI)) (ci := 6) (v := .ref g) (C := RX6) (T := TX6) (N := 5) hx hb hts iX6_cell_X6 hown hK hP 0 rfl rfl 0 (by decide) (hts (.fieldLink RX6 10 "TailorChalks" "game" "LTailorChalks$Game;") kX6_cell_10) (fun _ h9 => h9) rfl dX6_cell_41 ?_
      refine va_get (D := (dC, dI)) (ci := 1) (v := .ref cl) (C := RX1) (T := TX1) (N := 5) hx hb hts iX6_cell_X1 hown hK hP 1 rfl rfl 0 (by decide) (hts (.fieldLink RX6 60 "TailorChalks$Game" "cloth" "LTailorChalks$Cloth;") kX6_cell_60) (fun _ h9 => h9) rfl dX6_cell_44 ?_
      refine lv_iload_n hx hb dX6_cell_47 rfl (lv_at hl 1 rfl) ?_
      obtain ⟨r_4, hr_4⟩ : ∃ z, z = F_Cloth_isGone cell gn := ⟨_, rfl⟩
      rw [bnd_e hr_4] at hres
      refine ro_calli (va_runV (As := [.int cell]) (rest := []) ⟨hx, hb, hml, hown, hts⟩ (c_Cloth_isGone l dC dI cI cC cG cZ cl st mk cell gn ac dn  r_4 hr_4) (cwV 1 hts gX6_cell_X0_isGone rfl rfl rfl (by decide +kernel) ⟨Nat.le_of_ble_eq_true rfl, Nat.le_of_ble_eq_true rfl⟩) (ro_preV (hP.sub (ws' := [(cl, .inr (0, [.ref st, .ref mk, .long gn, .long ac, .long dn]))]) [2] rfl) hK (ci := 0) (q0 := 0) rfl rfl) rfl rfl hl.1 rfl (lv_room (Nat.le_of_ble_eq_true rfl)) dX6_cell_48 ⟨Nat.zero_le _, Nat.zero_le _⟩) hP hS (fun H locs hP hS => ?_)
      obtain ⟨r_5, hr_5⟩ : ∃ z, z = F_TC_asNumber r_4 := ⟨_, rfl⟩
      rw [bnd_e hr_5] at hres
      refine ro_calli (va_runS (As := [.int r_4]) (rest := []) ⟨hx, hb, hml, hown, hts⟩ (c_TC_asNumber l dC dI cI cC cG cZ  r_4  r_5 hr_5) (va_cwS 1 hts gX6_cell_X6_asNumber rfl rfl rfl (by decide +kernel) ⟨Nat.le_of_ble_eq_true rfl, Nat.le_of_ble_eq_true rfl⟩) (ro_preS (hP.sub (ws' := []) [] rfl) hK) rfl rfl hl.1 rfl (lv_room (Nat.le_of_ble_eq_true rfl)) dX6_cell_51 ⟨Nat.zero_le _, Nat.zero_le _⟩) hP hS (fun H locs hP hS => ?_)
      exact W.iret (v := r_5) hx hb hr (fun t ht hW => ⟨⟨r_5, (), rfl, hres.symm, trivial⟩, hS.F ht⟩) hS.2.2 dX6_cell_54
    · rw [if_neg c_3] at hres
      by_cases c_6 : what = 1
      · rw [if_pos c_6] at hres
        refine lv_tableIn (off := 45) (tgt := 55) hx hb dX6_cell_10 (by rw [c_6]; decide) (by rw [c_6]; decide) (by rw [c_6]; rfl) (by decide) ?_
        refine lv_aload_n hx hb dX6_cell_55 rfl (lv_at hl 0 rfl) ?_
        refine va_get (D := (dC, dI)) (ci := 6) (v := .ref g) (C := RX6) (T := TX6) (N := 5) hx hb hts iX6_cell_X6 hown hK hP 0 rfl rfl 0 (by decide) (hts (.fieldLink RX6 10 "TailorChalks" "game" "LTailorChalks$Game;") kX6_cell_10) (fun _ h9 => h9) rfl dX6_cell_56 ?_
        refine va_get (D := (dC, dI)) (ci := 1) (v := .ref cl) (C := RX1) (T := TX1) (N := 5) hx hb hts iX6_cell_X1 hown hK hP 1 rfl rfl 0 (by decide) (hts (.fieldLink RX6 60 "TailorChalks$Game" "cloth" "LTailorChalks$Cloth;") kX6_cell_60) (fun _ h9 => h9) rfl dX6_cell_59 ?_
        refine lv_iload_n hx hb dX6_cell_62 rfl (lv_at hl 1 rfl) ?_
        obtain ⟨r_7, hr_7⟩ : ∃ z, z = F_Cloth_pieceOf cell gn ac dn := ⟨_, rfl⟩
        rw [bnd_e hr_7] at hres
        refine ro_calll (va_runV (As := [.int cell]) (rest := []) ⟨hx, hb, hml, hown, hts⟩ (c_Cloth_pieceOf l dC dI cI cC cG cZ cl st mk cell gn ac dn  r_7 hr_7) (cwV 1 hts gX6_cell_X0_pieceOf rfl rfl rfl (by decide +kernel) ⟨Nat.le_of_ble_eq_true rfl, Nat.le_of_ble_eq_true rfl⟩) (ro_preV (hP.sub (ws' := [(cl, .inr (0, [.ref st, .ref mk, .long gn, .long ac, .long dn]))]) [2] rfl) hK (ci := 0) (q0 := 0) rfl rfl) rfl rfl hl.1 rfl (lv_room (Nat.le_of_ble_eq_true rfl)) dX6_cell_63 ⟨Nat.zero_le _, Nat.zero_le _⟩) hP hS (fun H locs hP hS => ?_)
        obtain ⟨r_8, hr_8⟩ : ∃ z, z = F_Long_bitCount r_7 := ⟨_, rfl⟩
        rw [bnd_e hr_8] at hres
        refine ro_calli (va_runS (As := [.long r_7]) (rest := []) ⟨hx, hb, hml, hown, hts⟩ (c_Long_bitCount l dC dI cI cC cG cZ  r_7  r_8 hr_8) (va_cwS 1 hts gX6_cell_J13_bitCount_95d88 rfl rfl rfl (by decide +kernel) ⟨Nat.le_of_ble_eq_true rfl, Nat.le_of_ble_eq_true rfl⟩) (ro_preS (hP.sub (ws' := []) [] rfl) hK) rfl rfl hl.1 rfl (lv_room (Nat.le_of_ble_eq_true rfl)) dX6_cell_66 ⟨Nat.zero_le _, Nat.zero_le _⟩) hP hS (fun H locs hP hS => ?_)
        exact W.iret (v := r_8) hx hb hr (fun t ht hW => ⟨⟨r_8, (), rfl, hres.symm, trivial⟩, hS.F ht⟩) hS.2.2 dX6_cell_69
      · rw [if_neg c_6] at hres
        by_cases c_9 : what = 2
        · rw [if_pos c_9] at hres
          refine lv_tableIn (off := 60) (tgt := 70) hx hb dX6_cell_10 (by rw [c_9]; decide) (by rw [c_9]; decide) (by rw [c_9]; rfl) (by decide) ?_
          refine lv_aload_n hx hb dX6_cell_70 rfl (lv_at hl 0 rfl) ?_
          refine va_get (D := (dC, dI)) (ci := 6) (v := .ref g) (C := RX6) (T := TX6) (N := 5) hx hb hts iX6_cell_X6 hown hK hP 0 rfl rfl 0 (by decide) (hts (.fieldLink RX6 10 "TailorChalks" "game" "LTailorChalks$Game;") kX6_cell_10) (fun _ h9 => h9) rfl dX6_cell_71 ?_
          refine va_get (D := (dC, dI)) (ci := 1) (v := .ref cl) (C := RX1) (T := TX1) (N := 5) hx hb hts iX6_cell_X1 hown hK hP 1 rfl rfl 0 (by decide) (hts (.fieldLink RX6 60 "TailorChalks$Game" "cloth" "LTailorChalks$Cloth;") kX6_cell_60) (fun _ h9 => h9) rfl dX6_cell_74 ?_
          refine lv_iload_n hx hb dX6_cell_77 rfl (lv_at hl 1 rfl) ?_
          obtain ⟨r_10, hr_10⟩ : ∃ z, z = F_Cloth_lowestOfPiece cell gn ac dn := ⟨_, rfl⟩
          rw [bnd_e hr_10] at hres
          refine ro_calli (va_runV (As := [.int cell]) (rest := []) ⟨hx, hb, hml, hown, hts⟩ (c_Cloth_lowestOfPiece l dC dI cI cC cG cZ cl st mk cell gn ac dn  r_10 hr_10) (cwV 1 hts gX6_cell_X0_lowestOfPiece rfl rfl rfl (by decide +kernel) ⟨Nat.le_of_ble_eq_true rfl, Nat.le_of_ble_eq_true rfl⟩) (ro_preV (hP.sub (ws' := [(cl, .inr (0, [.ref st, .ref mk, .long gn, .long ac, .long dn]))]) [2] rfl) hK (ci := 0) (q0 := 0) rfl rfl) rfl rfl hl.1 rfl (lv_room (Nat.le_of_ble_eq_true rfl)) dX6_cell_78 ⟨Nat.zero_le _, Nat.zero_le _⟩) hP hS (fun H locs hP hS => ?_)
          exact W.iret (v := r_10) hx hb hr (fun t ht hW => ⟨⟨r_10, (), rfl, hres.symm, trivial⟩, hS.F ht⟩) hS.2.2 dX6_cell_81
        · rw [if_neg c_9] at hres
          by_cases c_11 : what = 3
          · rw [if_pos c_11] at hres
            refine lv_tableIn (off := 72) (tgt := 82) hx hb dX6_cell_10 (by rw [c_11]; decide) (by rw [c_11]; decide) (by rw [c_11]; rfl) (by decide) ?_
            refine lv_aload_n hx hb dX6_cell_82 rfl (lv_at hl 0 rfl) ?_
            refine va_get (D := (dC, dI)) (ci := 6) (v := .ref g) (C := RX6) (T := TX6) (N := 5) hx hb hts iX6_cell_X6 hown hK hP 0 rfl rfl 0 (by decide) (hts (.fieldLink RX6 10 "TailorChalks" "game" "LTailorChalks$Game;") kX6_cell_10) (fun _ h9 => h9) rfl dX6_cell_83 ?_
            refine va_get (D := (dC, dI)) (ci := 1) (v := .ref cl) (C := RX1) (T := TX1) (N := 5) hx hb hts iX6_cell_X1 hown hK hP 1 rfl rfl 0 (by decide) (hts (.fieldLink RX6 60 "TailorChalks$Game" "cloth" "LTailorChalks$Cloth;") kX6_cell_60) (fun _ h9 => h9) rfl dX6_cell_86 ?_
            refine lv_iload_n hx hb dX6_cell_89 rfl (lv_at hl 1 rfl) ?_
            obtain ⟨r_12, hr_12⟩ : ∃ z, z = F_Cloth_holdsOn cell ac dn := ⟨_, rfl⟩
            rw [bnd_e hr_12] at hres
            refine ro_calli (va_runV (As := [.int cell]) (rest := []) ⟨hx, hb, hml, hown, hts⟩ (c_Cloth_holdsOn l dC dI cI cC cG cZ cl st mk cell gn ac dn  r_12 hr_12) (cwV 1 hts gX6_cell_X0_holdsOn rfl rfl rfl (by decide +kernel) ⟨Nat.le_of_ble_eq_true rfl, Nat.le_of_ble_eq_true rfl⟩) (ro_preV (hP.sub (ws' := [(cl, .inr (0, [.ref st, .ref mk, .long gn, .long ac, .long dn]))]) [2] rfl) hK (ci := 0) (q0 := 0) rfl rfl) rfl rfl hl.1 rfl (lv_room (Nat.le_of_ble_eq_true rfl)) dX6_cell_90 ⟨Nat.zero_le _, Nat.zero_le _⟩) hP hS (fun H locs hP hS => ?_)
            exact W.iret (v := r_12) hx hb hr (fun t ht hW => ⟨⟨r_12, (), rfl, hres.symm, trivial⟩, hS.F ht⟩) hS.2.2 dX6_cell_93
          · rw [if_neg c_11] at hres
            refine lv_tableOut (tgt := 94) hx hb dX6_cell_10 (by have o_13_0 := lv_neT (a := 0) c_3 rfl; have o_13_1 := lv_neT (a := 1) c_6 rfl; have o_13_2 := lv_neT (a := 2) c_9 rfl; have o_13_3 := lv_neT (a := 3) c_11 rfl; omega) (by decide) ?_
            refine lv_bipush (v := (-2)) hx hb dX6_cell_94 (by decide) ?_
            exact W.iret (v := (-2)) hx hb hr (fun t ht hW => ⟨⟨(-2), (), rfl, hres.symm, trivial⟩, hS.F ht⟩) hS.2.2 dX6_cell_96
  · rw [if_pos c_2] at hres
    refine lv_iconst (v := (-1)) hx hb dX6_cell_7 (by decide) ?_
    exact W.iret (v := (-1)) hx hb hr (fun t ht hW => ⟨⟨(-1), (), rfl, hres.symm, trivial⟩, hS.F ht⟩) hS.2.2 dX6_cell_8
theorem iX6_player_X6 : ∀ w ∈ u_ws RX6 TX6 5, w ∈ wsX6_player := by decide +kernel
theorem iX6_player_X5 : ∀ w ∈ u_ws RX5 TX5 9, w ∈ wsX6_player := by decide +kernel
theorem kX6_player_10 : Cond.fieldLink RX6 10 "TailorChalks" "game" "LTailorChalks$Game;" ∈ wsX6_player := by decide +kernel
theorem kX6_player_119 : Cond.fieldLink RX6 119 "TailorChalks$Tailor" "points" "I" ∈ wsX6_player := by decide +kernel
theorem kX6_player_125 : Cond.fieldLink RX6 125 "TailorChalks$Tailor" "threads" "I" ∈ wsX6_player := by decide +kernel
theorem kX6_player_128 : Cond.fieldLink RX6 128 "TailorChalks$Tailor" "marks" "I" ∈ wsX6_player := by decide +kernel
theorem kX6_player_131 : Cond.fieldLink RX6 131 "TailorChalks$Tailor" "rags" "I" ∈ wsX6_player := by decide +kernel
theorem kX6_player_134 : Cond.fieldLink RX6 134 "TailorChalks$Tailor" "ragCells" "I" ∈ wsX6_player := by decide +kernel
theorem kX6_player_137 : Cond.fieldLink RX6 137 "TailorChalks$Tailor" "found" "I" ∈ wsX6_player := by decide +kernel
theorem kX6_player_140 : Cond.fieldLink RX6 140 "TailorChalks$Tailor" "rightDoubts" "I" ∈ wsX6_player := by decide +kernel
theorem kX6_player_143 : Cond.fieldLink RX6 143 "TailorChalks$Tailor" "wrongDoubts" "I" ∈ wsX6_player := by decide +kernel
def F_TC_player (player : Int32) (what : Int32) (mks0 : Int32) (pts0 : Int32) (ths0 : Int32) (rgs0 : Int32) (rgc0 : Int32) (fnd0 : Int32) (rdb0 : Int32) (wdb0 : Int32) (mks1 : Int32) (pts1 : Int32) (ths1 : Int32) (rgs1 : Int32) (rgc1 : Int32) (fnd1 : Int32) (rdb1 : Int32) (wdb1 : Int32) : Int32 := (bnd (F_Game_isPlayer player) (fun r_1 => (if r_1 = 0 then (-1) else (if player = 0 then (if what = 0 then (pts0 + 500) else (if what = 1 then ths0 else (if what = 2 then mks0 else (if what = 3 then rgs0 else (if what = 4 then rgc0 else (if what = 5 then fnd0 else (if what = 6 then rdb0 else (if what = 7 then wdb0 else (-2))))))))) else (if what = 0 then (pts1 + 500) else (if what = 1 then ths1 else (if what = 2 then mks1 else (if what = 3 then rgs1 else (if what = 4 then rgc1 else (if what = 5 then fnd1 else (if what = 6 then rdb1 else (if what = 7 then wdb1 else (-2)))))))))))))
set_option maxHeartbeats 4000000 in
set_option maxRecDepth 100000 in
theorem c_TC_player (l : Launch) (dC : Nat → ClassId) (dI : Nat → Nat → Nat) (cI cC cG cZ : ClassId) (tc g h s0 s1 pd cl t0 t1 ma0 ma1 : Nat) (player : Int32) (what : Int32) (nx : Int32) (tn : Int32) (mks0 : Int32) (pts0 : Int32) (ths0 : Int32) (rgs0 : Int32) (rgc0 : Int32) (fnd0 : Int32) (rdb0 : Int32) (wdb0 : Int32) (mks1 : Int32) (pts1 : Int32) (ths1 : Int32) (rgs1 : Int32) (rgc1 : Int32) (fnd1 : Int32) (rdb1 : Int32) (wdb1 : Int32) (res : Int32) (hres : res = F_TC_player player what mks0 pts0 ths0 rgs0 rgc0 fnd0 rdb0 wdb0 mks1 pts1 ths1 rgs1 rgc1 fnd1 rdb1 wdb1) : Met l yX6_player wsX6_player ({ frames := 1, cells := 0, slots := 0, locals := 21 }) (va_Pc [.ref tc, .int player, .int what] (ro_P (dC, dI) vwCl (tyL cI cC cG cZ) [(tc, .inr (6, [.ref g, .ref h, .ref s0, .ref s1, .ref pd])), (g, .inr (1, [.ref cl, .ref t0, .ref t1, .int nx, .int tn])), (t0, .inr (5, [.ref ma0, .int mks0, .int pts0, .int ths0, .int rgs0, .int rgc0, .int fnd0, .int rdb0, .int wdb0])), (t1, .inr (5, [.ref ma1, .int mks1, .int pts1, .int ths1, .int rgs1, .int rgc1, .int fnd1, .int rdb1, .int wdb1]))])) (va_Qi (fun r (_ : Unit) => r = res) (fun _ _ => True) ro_F) 0 0 ro_F := by
  refine Met.ofW (cc := cX6_player) (maxL := 4) (ret := (some .int)) (by decide) rfl ?_
  intro p e s m args below meth c s₁ B hml hv
  obtain ⟨rfl, hP, hK⟩ := hv
  have hx := B.exec
  have hb := B.bytes
  have hr := B.returns
  have hts := atoms_spec (ws := wsX6_player) B.pre
  have hown : s.vm.findClass RX6 = some m.cls := findClass_of_methodNamed B.named
  have hlocks := B.notSynchronized
  have hS : va_S ro_F s.heap s.heap [] := va_S.rf
  have hl := lv_entry ([.ref tc, .int player, .int what]) (n := 4) (Nat.le_of_ble_eq_true rfl)
  rw [lg_entry_eq]
  generalize (lg_sl ([.ref tc, .int player, .int what]) ++ List.replicate (4 - (lg_sl ([.ref tc, .int player, .int what])).length) Slot.unset).toArray = ls at hl ⊢
  have hl : lv_has ls 4 [(0, .ref tc), (1, .int player), (2, .int what)] := hl
  rw [F_TC_player] at hres
  refine lv_iload_n hx hb dX6_player_0 rfl (lv_at hl 1 rfl) ?_
  obtain ⟨r_1, hr_1⟩ : ∃ z, z = F_Game_isPlayer player := ⟨_, rfl⟩
  rw [bnd_e hr_1] at hres
  refine ro_calli (va_runS (As := [.int player]) (rest := []) ⟨hx, hb, hml, hown, hts⟩ (c_Game_isPlayer l dC dI cI cC cG cZ  player  r_1 hr_1) (va_cwS 1 hts gX6_player_X1_isPlayer rfl rfl rfl (by decide +kernel) ⟨Nat.le_of_ble_eq_true rfl, Nat.le_of_ble_eq_true rfl⟩) (ro_preS (hP.sub (ws' := []) [] rfl) hK) rfl rfl hl.1 rfl (lv_room (Nat.le_of_ble_eq_true rfl)) dX6_player_1 ⟨Nat.zero_le _, Nat.zero_le _⟩) hP hS (fun H locs hP hS => ?_)
  refine lv_if_ne (tgt := 9) hx hb dX6_player_4 (by decide) (fun c_2 => ?_) (fun c_2 => ?_)
  · rw [if_neg c_2] at hres
    refine lv_aload_n hx hb dX6_player_9 rfl (lv_at hl 0 rfl) ?_
    refine va_get (D := (dC, dI)) (ci := 6) (v := .ref g) (C := RX6) (T := TX6) (N := 5) hx hb hts iX6_player_X6 hown hK hP 0 rfl rfl 0 (by decide) (hts (.fieldLink RX6 10 "TailorChalks" "game" "LTailorChalks$Game;") kX6_player_10) (fun _ h9 => h9) rfl dX6_player_10 ?_
    refine lv_iload_n hx hb dX6_player_13 rfl (lv_at hl 1 rfl) ?_
    by_cases c_3 : player = 0
    · rw [if_pos c_3] at hres
      refine ro_callr (va_runV (As := [.int player]) (rest := []) ⟨hx, hb, hml, hown, hts⟩ (c_Game_tailorOf l dC dI cI cC cG cZ g cl t0 t1 player nx tn  t0 (if_pos c_3).symm) (cwV 1 hts gX6_player_X1_tailorOf rfl rfl rfl (by decide +kernel) ⟨Nat.le_of_ble_eq_true rfl, Nat.le_of_ble_eq_true rfl⟩) (ro_preV (hP.sub (ws' := [(g, .inr (1, [.ref cl, .ref t0, .ref t1, .int nx, .int tn]))]) [1] rfl) hK (ci := 1) (q0 := 0) rfl rfl) rfl rfl hl.1 rfl (lv_room (Nat.le_of_ble_eq_true rfl)) dX6_player_14 ⟨Nat.zero_le _, Nat.zero_le _⟩) hP hS (fun H locs hP hS => ?_)
      refine lv_astore_n (lv' := [(3, .ref t0), (0, .ref tc), (1, .int player), (2, .int what)]) hx hb dX6_player_17 rfl hl (by decide) rfl (fun ls hl => ?_)
      refine lv_iload_n hx hb dX6_player_18 rfl (lv_at hl 3 rfl) ?_
      by_cases c_4 : what = 0
      · rw [if_pos c_4] at hres
        refine lv_tableIn (off := 45) (tgt := 64) hx hb dX6_player_19 (by rw [c_4]; decide) (by rw [c_4]; decide) (by rw [c_4]; rfl) (by decide) ?_
        refine lv_aload_n hx hb dX6_player_64 rfl (lv_at hl 0 rfl) ?_
        refine va_get (D := (dC, dI)) (ci := 5) (v := .int pts0) (C := RX5) (T := TX5) (N := 9) hx hb hts iX6_player_X5 hown hK hP 2 rfl rfl 2 (by decide) (hts (.fieldLink RX6 119 "TailorChalks$Tailor" "points" "I") kX6_player_119) (fun _ h9 => h9) rfl dX6_player_65 ?_
        refine lv_sipush (v := 500) hx hb dX6_player_68 (by decide) ?_
        refine lv_iadd hx hb dX6_player_71 ?_
        exact W.iret (v := (pts0 + 500)) hx hb hr (fun t ht hW => ⟨⟨(pts0 + 500), (), rfl, hres.symm, trivial⟩, hS.F ht⟩) hS.2.2 dX6_player_72
      · rw [if_neg c_4] at hres
        by_cases c_5 : what = 1
        · rw [if_pos c_5] at hres
          refine lv_tableIn (off := 54) (tgt := 73) hx hb dX6_player_19 (by rw [c_5]; decide) (by rw [c_5]; decide) (by rw [c_5]; rfl) (by decide) ?_
          refine lv_aload_n hx hb dX6_player_73 rfl (lv_at hl 0 rfl) ?_
          refine va_get (D := (dC, dI)) (ci := 5) (v := .int ths0) (C := RX5) (T := TX5) (N := 9) hx hb hts iX6_player_X5 hown hK hP 2 rfl rfl 3 (by decide) (hts (.fieldLink RX6 125 "TailorChalks$Tailor" "threads" "I") kX6_player_125) (fun _ h9 => h9) rfl dX6_player_74 ?_
          exact W.iret (v := ths0) hx hb hr (fun t ht hW => ⟨⟨ths0, (), rfl, hres.symm, trivial⟩, hS.F ht⟩) hS.2.2 dX6_player_77
        · rw [if_neg c_5] at hres
          by_cases c_6 : what = 2
          · rw [if_pos c_6] at hres
            refine lv_tableIn (off := 59) (tgt := 78) hx hb dX6_player_19 (by rw [c_6]; decide) (by rw [c_6]; decide) (by rw [c_6]; rfl) (by decide) ?_
            refine lv_aload_n hx hb dX6_player_78 rfl (lv_at hl 0 rfl) ?_
            refine va_get (D := (dC, dI)) (ci := 5) (v := .int mks0) (C := RX5) (T := TX5) (N := 9) hx hb hts iX6_player_X5 hown hK hP 2 rfl rfl 1 (by decide) (hts (.fieldLink RX6 128 "TailorChalks$Tailor" "marks" "I") kX6_player_128) (fun _ h9 => h9) rfl dX6_player_79 ?_
            exact W.iret (v := mks0) hx hb hr (fun t ht hW => ⟨⟨mks0, (), rfl, hres.symm, trivial⟩, hS.F ht⟩) hS.2.2 dX6_player_82
          · rw [if_neg c_6] at hres
            by_cases c_7 : what = 3
            · rw [if_pos c_7] at hres
              refine lv_tableIn (off := 64) (tgt := 83) hx hb dX6_player_19 (by rw [c_7]; decide) (by rw [c_7]; decide) (by rw [c_7]; rfl) (by decide) ?_
              refine lv_aload_n hx hb dX6_player_83 rfl (lv_at hl 0 rfl) ?_
              refine va_get (D := (dC, dI)) (ci := 5) (v := .int rgs0) (C := RX5) (T := TX5) (N := 9) hx hb hts iX6_player_X5 hown hK hP 2 rfl rfl 4 (by decide) (hts (.fieldLink RX6 131 "TailorChalks$Tailor" "rags" "I") kX6_player_131) (fun _ h9 => h9) rfl dX6_player_84 ?_
              exact W.iret (v := rgs0) hx hb hr (fun t ht hW => ⟨⟨rgs0, (), rfl, hres.symm, trivial⟩, hS.F ht⟩) hS.2.2 dX6_player_87
            · rw [if_neg c_7] at hres
              by_cases c_8 : what = 4
              · rw [if_pos c_8] at hres
                refine lv_tableIn (off := 69) (tgt := 88) hx hb dX6_player_19 (by rw [c_8]; decide) (by rw [c_8]; decide) (by rw [c_8]; rfl) (by decide) ?_
                refine lv_aload_n hx hb dX6_player_88 rfl (lv_at hl 0 rfl) ?_
                refine va_get (D := (dC, dI)) (ci := 5) (v := .int rgc0) (C := RX5) (T := TX5) (N := 9) hx hb hts iX6_player_X5 hown hK hP 2 rfl rfl 5 (by decide) (hts (.fieldLink RX6 134 "TailorChalks$Tailor" "ragCells" "I") kX6_player_134) (fun _ h9 => h9) rfl dX6_player_89 ?_
                exact W.iret (v := rgc0) hx hb hr (fun t ht hW => ⟨⟨rgc0, (), rfl, hres.symm, trivial⟩, hS.F ht⟩) hS.2.2 dX6_player_92
              · rw [if_neg c_8] at hres
                by_cases c_9 : what = 5
                · rw [if_pos c_9] at hres
                  refine lv_tableIn (off := 74) (tgt := 93) hx hb dX6_player_19 (by rw [c_9]; decide) (by rw [c_9]; decide) (by rw [c_9]; rfl) (by decide) ?_
                  refine lv_aload_n hx hb dX6_player_93 rfl (lv_at hl 0 rfl) ?_
                  refine va_get (D := (dC, dI)) (ci := 5) (v := .int fnd0) (C := RX5) (T := TX5) (N := 9) hx hb hts iX6_player_X5 hown hK hP 2 rfl rfl 6 (by decide) (hts (.fieldLink RX6 137 "TailorChalks$Tailor" "found" "I") kX6_player_137) (fun _ h9 => h9) rfl dX6_player_94 ?_
                  exact W.iret (v := fnd0) hx hb hr (fun t ht hW => ⟨⟨fnd0, (), rfl, hres.symm, trivial⟩, hS.F ht⟩) hS.2.2 dX6_player_97
                · rw [if_neg c_9] at hres
                  by_cases c_10 : what = 6
                  · rw [if_pos c_10] at hres
                    refine lv_tableIn (off := 79) (tgt := 98) hx hb dX6_player_19 (by rw [c_10]; decide) (by rw [c_10]; decide) (by rw [c_10]; rfl) (by decide) ?_
                    refine lv_aload_n hx hb dX6_player_98 rfl (lv_at hl 0 rfl) ?_
                    refine va_get (D := (dC, dI)) (ci := 5) (v := .int rdb0) (C := RX5) (T := TX5) (N := 9) hx hb hts iX6_player_X5 hown hK hP 2 rfl rfl 7 (by decide) (hts (.fieldLink RX6 140 "TailorChalks$Tailor" "rightDoubts" "I") kX6_player_140) (fun _ h9 => h9) rfl dX6_player_99 ?_
                    exact W.iret (v := rdb0) hx hb hr (fun t ht hW => ⟨⟨rdb0, (), rfl, hres.symm, trivial⟩, hS.F ht⟩) hS.2.2 dX6_player_102
                  · rw [if_neg c_10] at hres
                    by_cases c_11 : what = 7
                    · rw [if_pos c_11] at hres
                      refine lv_tableIn (off := 84) (tgt := 103) hx hb dX6_player_19 (by rw [c_11]; decide) (by rw [c_11]; decide) (by rw [c_11]; rfl) (by decide) ?_
                      refine lv_aload_n hx hb dX6_player_103 rfl (lv_at hl 0 rfl) ?_
                      refine va_get (D := (dC, dI)) (ci := 5) (v := .int wdb0) (C := RX5) (T := TX5) (N := 9) hx hb hts iX6_player_X5 hown hK hP 2 rfl rfl 8 (by decide) (hts (.fieldLink RX6 143 "TailorChalks$Tailor" "wrongDoubts" "I") kX6_player_143) (fun _ h9 => h9) rfl dX6_player_104 ?_
                      exact W.iret (v := wdb0) hx hb hr (fun t ht hW => ⟨⟨wdb0, (), rfl, hres.symm, trivial⟩, hS.F ht⟩) hS.2.2 dX6_player_107
                    · rw [if_neg c_11] at hres
                      refine lv_tableOut (tgt := 108) hx hb dX6_player_19 (by have o_12_0 := lv_neT (a := 0) c_4 rfl; have o_12_1 := lv_neT (a := 1) c_5 rfl; have o_12_2 := lv_neT (a := 2) c_6 rfl; have o_12_3 := lv_neT (a := 3) c_7 rfl; have o_12_4 := lv_neT (a := 4) c_8 rfl; have o_12_5 := lv_neT (a := 5) c_9 rfl; have o_12_6 := lv_neT (a := 6) c_10 rfl; have o_12_7 := lv_neT (a := 7) c_11 rfl; omega) (by decide) ?_
                      refine lv_bipush (v := (-2)) hx hb dX6_player_108 (by decide) ?_
                      exact W.iret (v := (-2)) hx hb hr (fun t ht hW => ⟨⟨(-2), (), rfl, hres.symm, trivial⟩, hS.F ht⟩) hS.2.2 dX6_player_110
    · rw [if_neg c_3] at hres
      refine ro_callr (va_runV (As := [.int player]) (rest := []) ⟨hx, hb, hml, hown, hts⟩ (c_Game_tailorOf l dC dI cI cC cG cZ g cl t0 t1 player nx tn  t1 (if_neg c_3).symm) (cwV 1 hts gX6_player_X1_tailorOf rfl rfl rfl (by decide +kernel) ⟨Nat.le_of_ble_eq_true rfl, Nat.le_of_ble_eq_true rfl⟩) (ro_preV (hP.sub (ws' := [(g, .inr (1, [.ref cl, .ref t0, .ref t1, .int nx, .int tn]))]) [1] rfl) hK (ci := 1) (q0 := 0) rfl rfl) rfl rfl hl.1 rfl (lv_room (Nat.le_of_ble_eq_true rfl)) dX6_player_14 ⟨Nat.zero_le _, Nat.zero_le _⟩) hP hS (fun H locs hP hS => ?_)
      refine lv_astore_n (lv' := [(3, .ref t1), (0, .ref tc), (1, .int player), (2, .int what)]) hx hb dX6_player_17 rfl hl (by decide) rfl (fun ls hl => ?_)
      refine lv_iload_n hx hb dX6_player_18 rfl (lv_at hl 3 rfl) ?_
      by_cases c_13 : what = 0
      · rw [if_pos c_13] at hres
        refine lv_tableIn (off := 45) (tgt := 64) hx hb dX6_player_19 (by rw [c_13]; decide) (by rw [c_13]; decide) (by rw [c_13]; rfl) (by decide) ?_
        refine lv_aload_n hx hb dX6_player_64 rfl (lv_at hl 0 rfl) ?_
        refine va_get (D := (dC, dI)) (ci := 5) (v := .int pts1) (C := RX5) (T := TX5) (N := 9) hx hb hts iX6_player_X5 hown hK hP 3 rfl rfl 2 (by decide) (hts (.fieldLink RX6 119 "TailorChalks$Tailor" "points" "I") kX6_player_119) (fun _ h9 => h9) rfl dX6_player_65 ?_
        refine lv_sipush (v := 500) hx hb dX6_player_68 (by decide) ?_
        refine lv_iadd hx hb dX6_player_71 ?_
        exact W.iret (v := (pts1 + 500)) hx hb hr (fun t ht hW => ⟨⟨(pts1 + 500), (), rfl, hres.symm, trivial⟩, hS.F ht⟩) hS.2.2 dX6_player_72
      · rw [if_neg c_13] at hres
        by_cases c_14 : what = 1
        · rw [if_pos c_14] at hres
          refine lv_tableIn (off := 54) (tgt := 73) hx hb dX6_player_19 (by rw [c_14]; decide) (by rw [c_14]; decide) (by rw [c_14]; rfl) (by decide) ?_
          refine lv_aload_n hx hb dX6_player_73 rfl (lv_at hl 0 rfl) ?_
          refine va_get (D := (dC, dI)) (ci := 5) (v := .int ths1) (C := RX5) (T := TX5) (N := 9) hx hb hts iX6_player_X5 hown hK hP 3 rfl rfl 3 (by decide) (hts (.fieldLink RX6 125 "TailorChalks$Tailor" "threads" "I") kX6_player_125) (fun _ h9 => h9) rfl dX6_player_74 ?_
          exact W.iret (v := ths1) hx hb hr (fun t ht hW => ⟨⟨ths1, (), rfl, hres.symm, trivial⟩, hS.F ht⟩) hS.2.2 dX6_player_77
        · rw [if_neg c_14] at hres
          by_cases c_15 : what = 2
          · rw [if_pos c_15] at hres
            refine lv_tableIn (off := 59) (tgt := 78) hx hb dX6_player_19 (by rw [c_15]; decide) (by rw [c_15]; decide) (by rw [c_15]; rfl) (by decide) ?_
            refine lv_aload_n hx hb dX6_player_78 rfl (lv_at hl 0 rfl) ?_
            refine va_get (D := (dC, dI)) (ci := 5) (v := .int mks1) (C := RX5) (T := TX5) (N := 9) hx hb hts iX6_player_X5 hown hK hP 3 rfl rfl 1 (by decide) (hts (.fieldLink RX6 128 "TailorChalks$Tailor" "marks" "I") kX6_player_128) (fun _ h9 => h9) rfl dX6_player_79 ?_
            exact W.iret (v := mks1) hx hb hr (fun t ht hW => ⟨⟨mks1, (), rfl, hres.symm, trivial⟩, hS.F ht⟩) hS.2.2 dX6_player_82
          · rw [if_neg c_15] at hres
            by_cases c_16 : what = 3
            · rw [if_pos c_16] at hres
              refine lv_tableIn (off := 64) (tgt := 83) hx hb dX6_player_19 (by rw [c_16]; decide) (by rw [c_16]; decide) (by rw [c_16]; rfl) (by decide) ?_
              refine lv_aload_n hx hb dX6_player_83 rfl (lv_at hl 0 rfl) ?_
              refine va_get (D := (dC, dI)) (ci := 5) (v := .int rgs1) (C := RX5) (T := TX5) (N := 9) hx hb hts iX6_player_X5 hown hK hP 3 rfl rfl 4 (by decide) (hts (.fieldLink RX6 131 "TailorChalks$Tailor" "rags" "I") kX6_player_131) (fun _ h9 => h9) rfl dX6_player_84 ?_
              exact W.iret (v := rgs1) hx hb hr (fun t ht hW => ⟨⟨rgs1, (), rfl, hres.symm, trivial⟩, hS.F ht⟩) hS.2.2 dX6_player_87
            · rw [if_neg c_16] at hres
              by_cases c_17 : what = 4
              · rw [if_pos c_17] at hres
                refine lv_tableIn (off := 69) (tgt := 88) hx hb dX6_player_19 (by rw [c_17]; decide) (by rw [c_17]; decide) (by rw [c_17]; rfl) (by decide) ?_
                refine lv_aload_n hx hb dX6_player_88 rfl (lv_at hl 0 rfl) ?_
                refine va_get (D := (dC, dI)) (ci := 5) (v := .int rgc1) (C := RX5) (T := TX5) (N := 9) hx hb hts iX6_player_X5 hown hK hP 3 rfl rfl 5 (by decide) (hts (.fieldLink RX6 134 "TailorChalks$Tailor" "ragCells" "I") kX6_player_134) (fun _ h9 => h9) rfl dX6_player_89 ?_
                exact W.iret (v := rgc1) hx hb hr (fun t ht hW => ⟨⟨rgc1, (), rfl, hres.symm, trivial⟩, hS.F ht⟩) hS.2.2 dX6_player_92
              · rw [if_neg c_17] at hres
                by_cases c_18 : what = 5
                · rw [if_pos c_18] at hres
                  refine lv_tableIn (off := 74) (tgt := 93) hx hb dX6_player_19 (by rw [c_18]; decide) (by rw [c_18]; decide) (by rw [c_18]; rfl) (by decide) ?_
                  refine lv_aload_n hx hb dX6_player_93 rfl (lv_at hl 0 rfl) ?_
                  refine va_get (D := (dC, dI)) (ci := 5) (v := .int fnd1) (C := RX5) (T := TX5) (N := 9) hx hb hts iX6_player_X5 hown hK hP 3 rfl rfl 6 (by decide) (hts (.fieldLink RX6 137 "TailorChalks$Tailor" "found" "I") kX6_player_137) (fun _ h9 => h9) rfl dX6_player_94 ?_
                  exact W.iret (v := fnd1) hx hb hr (fun t ht hW => ⟨⟨fnd1, (), rfl, hres.symm, trivial⟩, hS.F ht⟩) hS.2.2 dX6_player_97
                · rw [if_neg c_18] at hres
                  by_cases c_19 : what = 6
                  · rw [if_pos c_19] at hres
                    refine lv_tableIn (off := 79) (tgt := 98) hx hb dX6_player_19 (by rw [c_19]; decide) (by rw [c_19]; decide) (by rw [c_19]; rfl) (by decide) ?_
                    refine lv_aload_n hx hb dX6_player_98 rfl (lv_at hl 0 rfl) ?_
                    refine va_get (D := (dC, dI)) (ci := 5) (v := .int rdb1) (C := RX5) (T := TX5) (N := 9) hx hb hts iX6_player_X5 hown hK hP 3 rfl rfl 7 (by decide) (hts (.fieldLink RX6 140 "TailorChalks$Tailor" "rightDoubts" "I") kX6_player_140) (fun _ h9 => h9) rfl dX6_player_99 ?_
                    exact W.iret (v := rdb1) hx hb hr (fun t ht hW => ⟨⟨rdb1, (), rfl, hres.symm, trivial⟩, hS.F ht⟩) hS.2.2 dX6_player_102
                  · rw [if_neg c_19] at hres
                    by_cases c_20 : what = 7
                    · rw [if_pos c_20] at hres
                      refine lv_tableIn (off := 84) (tgt := 103) hx hb dX6_player_19 (by rw [c_20]; decide) (by rw [c_20]; decide) (by rw [c_20]; rfl) (by decide) ?_
                      refine lv_aload_n hx hb dX6_player_103 rfl (lv_at hl 0 rfl) ?_
                      refine va_get (D := (dC, dI)) (ci := 5) (v := .int wdb1) (C := RX5) (T := TX5) (N := 9) hx hb hts iX6_player_X5 hown hK hP 3 rfl rfl 8 (by decide) (hts (.fieldLink RX6 143 "TailorChalks$Tailor" "wrongDoubts" "I") kX6_player_143) (fun _ h9 => h9) rfl dX6_player_104 ?_
                      exact W.iret (v := wdb1) hx hb hr (fun t ht hW => ⟨⟨wdb1, (), rfl, hres.symm, trivial⟩, hS.F ht⟩) hS.2.2 dX6_player_107
                    · rw [if_neg c_20] at hres
                      refine lv_tableOut (tgt := 108) hx hb dX6_player_19 (by have o_21_0 := lv_neT (a := 0) c_13 rfl; have o_21_1 := lv_neT (a := 1) c_14 rfl; have o_21_2 := lv_neT (a := 2) c_15 rfl; have o_21_3 := lv_neT (a := 3) c_16 rfl; have o_21_4 := lv_neT (a := 4) c_17 rfl; have o_21_5 := lv_neT (a := 5) c_18 rfl; have o_21_6 := lv_neT (a := 6) c_19 rfl; have o_21_7 := lv_neT (a := 7) c_20 rfl; omega) (by decide) ?_
                      refine lv_bipush (v := (-2)) hx hb dX6_player_108 (by decide) ?_
                      exact W.iret (v := (-2)) hx hb hr (fun t ht hW => ⟨⟨(-2), (), rfl, hres.symm, trivial⟩, hS.F ht⟩) hS.2.2 dX6_player_110
  · rw [if_pos c_2] at hres
    refine lv_iconst (v := (-1)) hx hb dX6_player_7 (by decide) ?_
    exact W.iret (v := (-1)) hx hb hr (fun t ht hW => ⟨⟨(-1), (), rfl, hres.symm, trivial⟩, hS.F ht⟩) hS.2.2 dX6_player_8
theorem iX6_chalked_X6 : ∀ w ∈ u_ws RX6 TX6 5, w ∈ wsX6_chalked := by decide +kernel
theorem kX6_chalked_10 : Cond.fieldLink RX6 10 "TailorChalks" "game" "LTailorChalks$Game;" ∈ wsX6_chalked := by decide +kernel
def F_TC_chalked (player : Int32) (rank : Int32) (mks0 : Int32) (fma0 : Nat → Int32) (mks1 : Int32) (fma1 : Nat → Int32) : Int32 := (bnd (F_Game_isPlayer player) (fun r_1 => (if r_1 = 0 then (-1) else (if player = 0 then (bnd (F_Tailor_markAt rank mks0 fma0) (fun r_4 => r_4)) else (bnd (F_Tailor_markAt rank mks1 fma1) (fun r_5 => r_5))))))
set_option maxHeartbeats 4000000 in
set_option maxRecDepth 100000 in
theorem c_TC_chalked (l : Launch) (dC : Nat → ClassId) (dI : Nat → Nat → Nat) (cI cC cG cZ : ClassId) (tc g h s0 s1 pd cl t0 t1 ma0 ma1 : Nat) (player : Int32) (rank : Int32) (nx : Int32) (tn : Int32) (mks0 : Int32) (pts0 : Int32) (ths0 : Int32) (rgs0 : Int32) (rgc0 : Int32) (fnd0 : Int32) (rdb0 : Int32) (wdb0 : Int32) (fma0 : Nat → Int32) (mks1 : Int32) (pts1 : Int32) (ths1 : Int32) (rgs1 : Int32) (rgc1 : Int32) (fnd1 : Int32) (rdb1 : Int32) (wdb1 : Int32) (fma1 : Nat → Int32) (hM0 : tm_ok 8 mks0) (hM1 : tm_ok 8 mks1) (res : Int32) (hres : res = F_TC_chalked player rank mks0 fma0 mks1 fma1) : Met l yX6_chalked wsX6_chalked ({ frames := 1, cells := 0, slots := 0, locals := 21 }) (va_Pc [.ref tc, .int player, .int rank] (ro_P (dC, dI) vwCl (tyL cI cC cG cZ) [(tc, .inr (6, [.ref g, .ref h, .ref s0, .ref s1, .ref pd])), (g, .inr (1, [.ref cl, .ref t0, .ref t1, .int nx, .int tn])), (t0, .inr (5, [.ref ma0, .int mks0, .int pts0, .int ths0, .int rgs0, .int rgc0, .int fnd0, .int rdb0, .int wdb0])), (ma0, .inl (cI, 8, .inl fma0)), (t1, .inr (5, [.ref ma1, .int mks1, .int pts1, .int ths1, .int rgs1, .int rgc1, .int fnd1, .int rdb1, .int wdb1])), (ma1, .inl (cI, 8, .inl fma1))])) (va_Qi (fun r (_ : Unit) => r = res) (fun _ _ => True) ro_F) 0 0 ro_F := by
  refine Met.ofW (cc := cX6_chalked) (maxL := 3) (ret := (some .int)) (by decide) rfl ?_
  intro p e s m args below meth c s₁ B hml hv
  obtain ⟨rfl, hP, hK⟩ := hv
  have hx := B.exec
  have hb := B.bytes
  have hr := B.returns
  have hts := atoms_spec (ws := wsX6_chalked) B.pre
  have hown : s.vm.findClass RX6 = some m.cls := findClass_of_methodNamed B.named
  have hlocks := B.notSynchronized
  have hS : va_S ro_F s.heap s.heap [] := va_S.rf
  have hl := lv_entry ([.ref tc, .int player, .int rank]) (n := 3) (Nat.le_of_ble_eq_true rfl)
  rw [lg_entry_eq]
  generalize (lg_sl ([.ref tc, .int player, .int rank]) ++ List.replicate (3 - (lg_sl ([.ref tc, .int player, .int rank])).length) Slot.unset).toArray = ls at hl ⊢
  have hl : lv_has ls 3 [(0, .ref tc), (1, .int player), (2, .int rank)] := hl
  rw [F_TC_chalked] at hres
  refine lv_iload_n hx hb dX6_chalked_0 rfl (lv_at hl 1 rfl) ?_
  obtain ⟨r_1, hr_1⟩ : ∃ z, z = F_Game_isPlayer player := ⟨_, rfl⟩
  rw [bnd_e hr_1] at hres
  refine ro_calli (va_runS (As := [.int player]) (rest := []) ⟨hx, hb, hml, hown, hts⟩ (c_Game_isPlayer l dC dI cI cC cG cZ  player  r_1 hr_1) (va_cwS 1 hts gX6_chalked_X1_isPlayer rfl rfl rfl (by decide +kernel) ⟨Nat.le_of_ble_eq_true rfl, Nat.le_of_ble_eq_true rfl⟩) (ro_preS (hP.sub (ws' := []) [] rfl) hK) rfl rfl hl.1 rfl (lv_room (Nat.le_of_ble_eq_true rfl)) dX6_chalked_1 ⟨Nat.zero_le _, Nat.zero_le _⟩) hP hS (fun H locs hP hS => ?_)
  refine lv_if_ne (tgt := 9) hx hb dX6_chalked_4 (by decide) (fun c_2 => ?_) (fun c_2 => ?_)
  · rw [if_neg c_2] at hres
    refine lv_aload_n hx hb dX6_chalked_9 rfl (lv_at hl 0 rfl) ?_
    refine va_get (D := (dC, dI)) (ci := 6) (v := .ref g) (C := RX6) (T := TX6) (N := 5) hx hb hts iX6_chalked_X6 hown hK hP 0 rfl rfl 0 (by decide) (hts (.fieldLink RX6 10 "TailorChalks" "game" "LTailorChalks$Game;") kX6_chalked_10) (fun _ h9 => h9) rfl dX6_chalked_10 ?_
    refine lv_iload_n hx hb dX6_chalked_13 rfl (lv_at hl 1 rfl) ?_
    by_cases c_3 : player = 0
    · rw [if_pos c_3] at hres
      refine ro_callr (va_runV (As := [.int player]) (rest := []) ⟨hx, hb, hml, hown, hts⟩ (c_Game_tailorOf l dC dI cI cC cG cZ g cl t0 t1 player nx tn  t0 (if_pos c_3).symm) (cwV 1 hts gX6_chalked_X1_tailorOf rfl rfl rfl (by decide +kernel) ⟨Nat.le_of_ble_eq_true rfl, Nat.le_of_ble_eq_true rfl⟩) (ro_preV (hP.sub (ws' := [(g, .inr (1, [.ref cl, .ref t0, .ref t1, .int nx, .int tn]))]) [1] rfl) hK (ci := 1) (q0 := 0) rfl rfl) rfl rfl hl.1 rfl (lv_room (Nat.le_of_ble_eq_true rfl)) dX6_chalked_14 ⟨Nat.zero_le _, Nat.zero_le _⟩) hP hS (fun H locs hP hS => ?_)
      refine lv_iload_n hx hb dX6_chalked_17 rfl (lv_at hl 2 rfl) ?_
      obtain ⟨r_4, hr_4⟩ : ∃ z, z = F_Tailor_markAt rank mks0 fma0 := ⟨_, rfl⟩
      rw [bnd_e hr_4] at hres
      refine ro_calli (va_runV (As := [.int rank]) (rest := []) ⟨hx, hb, hml, hown, hts⟩ (c_Tailor_markAt l dC dI cI cC cG cZ t0 ma0 rank mks0 pts0 ths0 rgs0 rgc0 fnd0 rdb0 wdb0 fma0 hM0 r_4 hr_4) (cwV 1 hts gX6_chalked_X5_markAt rfl rfl rfl (by decide +kernel) ⟨Nat.le_of_ble_eq_true rfl, Nat.le_of_ble_eq_true rfl⟩) (ro_preV (hP.sub (ws' := [(t0, .inr (5, [.ref ma0, .int mks0, .int pts0, .int ths0, .int rgs0, .int rgc0, .int fnd0, .int rdb0, .int wdb0])), (ma0, .inl (cI, 8, .inl fma0))]) [2, 3] rfl) hK (ci := 5) (q0 := 0) rfl rfl) rfl rfl hl.1 rfl (lv_room (Nat.le_of_ble_eq_true rfl)) dX6_chalked_18 ⟨Nat.zero_le _, Nat.zero_le _⟩) hP hS (fun H locs hP hS => ?_)
      exact W.iret (v := r_4) hx hb hr (fun t ht hW => ⟨⟨r_4, (), rfl, hres.symm, trivial⟩, hS.F ht⟩) hS.2.2 dX6_chalked_21
    · rw [if_neg c_3] at hres
      refine ro_callr (va_runV (As := [.int player]) (rest := []) ⟨hx, hb, hml, hown, hts⟩ (c_Game_tailorOf l dC dI cI cC cG cZ g cl t0 t1 player nx tn  t1 (if_neg c_3).symm) (cwV 1 hts gX6_chalked_X1_tailorOf rfl rfl rfl (by decide +kernel) ⟨Nat.le_of_ble_eq_true rfl, Nat.le_of_ble_eq_true rfl⟩) (ro_preV (hP.sub (ws' := [(g, .inr (1, [.ref cl, .ref t0, .ref t1, .int nx, .int tn]))]) [1] rfl) hK (ci := 1) (q0 := 0) rfl rfl) rfl rfl hl.1 rfl (lv_room (Nat.le_of_ble_eq_true rfl)) dX6_chalked_14 ⟨Nat.zero_le _, Nat.zero_le _⟩) hP hS (fun H locs hP hS => ?_)
      refine lv_iload_n hx hb dX6_chalked_17 rfl (lv_at hl 2 rfl) ?_
      obtain ⟨r_5, hr_5⟩ : ∃ z, z = F_Tailor_markAt rank mks1 fma1 := ⟨_, rfl⟩
      rw [bnd_e hr_5] at hres
      refine ro_calli (va_runV (As := [.int rank]) (rest := []) ⟨hx, hb, hml, hown, hts⟩ (c_Tailor_markAt l dC dI cI cC cG cZ t1 ma1 rank mks1 pts1 ths1 rgs1 rgc1 fnd1 rdb1 wdb1 fma1 hM1 r_5 hr_5) (cwV 1 hts gX6_chalked_X5_markAt rfl rfl rfl (by decide +kernel) ⟨Nat.le_of_ble_eq_true rfl, Nat.le_of_ble_eq_true rfl⟩) (ro_preV (hP.sub (ws' := [(t1, .inr (5, [.ref ma1, .int mks1, .int pts1, .int ths1, .int rgs1, .int rgc1, .int fnd1, .int rdb1, .int wdb1])), (ma1, .inl (cI, 8, .inl fma1))]) [4, 5] rfl) hK (ci := 5) (q0 := 0) rfl rfl) rfl rfl hl.1 rfl (lv_room (Nat.le_of_ble_eq_true rfl)) dX6_chalked_18 ⟨Nat.zero_le _, Nat.zero_le _⟩) hP hS (fun H locs hP hS => ?_)
      exact W.iret (v := r_5) hx hb hr (fun t ht hW => ⟨⟨r_5, (), rfl, hres.symm, trivial⟩, hS.F ht⟩) hS.2.2 dX6_chalked_21
  · rw [if_pos c_2] at hres
    refine lv_iconst (v := (-1)) hx hb dX6_chalked_7 (by decide) ?_
    exact W.iret (v := (-1)) hx hb hr (fun t ht hW => ⟨⟨(-1), (), rfl, hres.symm, trivial⟩, hS.F ht⟩) hS.2.2 dX6_chalked_8
