def F_Law_low (v : Int32) (n : Int32) : Int32 := ((v &&& 2147483647) - (v &&& 2147483647) / n * n)
set_option maxHeartbeats 4000000 in
set_option maxRecDepth 100000 in
theorem c_Law_low (l : Launch) (dC : Nat → ClassId) (dI : Nat → Nat → Nat) (cI cC cG cZ : ClassId) (v : Int32) (n : Int32) (hn : ¬ n = 0) (res : Int32) (hres : res = F_Law_low v n) : Met l yL_low wsL_low ({ frames := 0, cells := 0, slots := 0, locals := 0 }) (va_Pc [.int v, .int n] (ro_P (dC, dI) vwCl (tyL cI cC cG cZ) [])) (va_Qi (fun r (_ : Unit) => r = res) (fun _ _ => True) ro_F) 0 0 ro_F := by
  refine Met.ofW (cc := cL_low) (maxL := 2) (ret := (some .int)) (by decide) rfl ?_
  intro p e s m args below meth c s₁ B hml hv
  obtain ⟨rfl, hP, hK⟩ := hv
  have hx := B.exec
  have hb := B.bytes
  have hr := B.returns
  have hts := atoms_spec (ws := wsL_low) B.pre
  have hown : s.vm.findClass RL = some m.cls := findClass_of_methodNamed B.named
  have hlocks := B.notSynchronized
  have hS : va_S ro_F s.heap s.heap [] := va_S.rf
  have hl := lv_entry ([.int v, .int n]) (n := 2) (Nat.le_of_ble_eq_true rfl)
  rw [lg_entry_eq]
  generalize (lg_sl ([.int v, .int n]) ++ List.replicate (2 - (lg_sl ([.int v, .int n])).length) Slot.unset).toArray = ls at hl ⊢
  have hl : lv_has ls 2 [(0, .int v), (1, .int n)] := hl
  rw [F_Law_low] at hres
  refine lv_iload_n hx hb dL_low_0 rfl (lv_at hl 0 rfl) ?_
  refine lv_ldc (v := 2147483647) hx hb hown (hts (.constant RL 8 (2147483647)) (by decide +kernel)) dL_low_1 ?_
  refine lv_iand hx hb dL_low_3 ?_
  refine lv_iload_n hx hb dL_low_4 rfl (lv_at hl 1 rfl) ?_
  refine lv_irem hx hb dL_low_5 hn ?_
  exact W.iret (v := ((v &&& 2147483647) - (v &&& 2147483647) / n * n)) hx hb hr (fun t ht hW => ⟨⟨((v &&& 2147483647) - (v &&& 2147483647) / n * n), (), rfl, hres.symm, trivial⟩, hS.F ht⟩) hS.2.2 dL_low_6
def F_Law_joint (x : Int32) : Int32 := (bnd (F_Law_low (x >>> (3 &&& 31)) (3 : Int32)) (fun r_1 => (bnd (F_Law_low (x >>> (6 &&& 31)) (4 : Int32)) (fun r_2 => (if (x &&& 7) = 0 then (bnd (F_Law_low (x >>> (3 &&& 31)) (83 : Int32)) (fun r_5 => r_5)) else (if (4 : Int32) ≤ (x &&& 7) then (((42 : Int32) + ((8 : Int32) * r_1)) + r_2) else (((7 : Int32) * r_1) + r_2)))))))
set_option maxHeartbeats 4000000 in
set_option maxRecDepth 100000 in
theorem c_Law_joint (l : Launch) (dC : Nat → ClassId) (dI : Nat → Nat → Nat) (cI cC cG cZ : ClassId) (x : Int32) (res : Int32) (hres : res = F_Law_joint x) : Met l yL_joint wsL_joint ({ frames := 1, cells := 0, slots := 0, locals := 21 }) (va_Pc [.int x] (ro_P (dC, dI) vwCl (tyL cI cC cG cZ) [])) (va_Qi (fun r (_ : Unit) => r = res) (fun _ _ => True) ro_F) 0 0 ro_F := by
  refine Met.ofW (cc := cL_joint) (maxL := 3) (ret := (some .int)) (by decide) rfl ?_
  intro p e s m args below meth c s₁ B hml hv
  obtain ⟨rfl, hP, hK⟩ := hv
  have hx := B.exec
  have hb := B.bytes
  have hr := B.returns
  have hts := atoms_spec (ws := wsL_joint) B.pre
  have hown : s.vm.findClass RL = some m.cls := findClass_of_methodNamed B.named
  have hlocks := B.notSynchronized
  have hS : va_S ro_F s.heap s.heap [] := va_S.rf
  have hl := lv_entry ([.int x]) (n := 3) (Nat.le_of_ble_eq_true rfl)
  rw [lg_entry_eq]
  generalize (lg_sl ([.int x]) ++ List.replicate (3 - (lg_sl ([.int x])).length) Slot.unset).toArray = ls at hl ⊢
  have hl : lv_has ls 3 [(0, .int x)] := hl
  rw [F_Law_joint] at hres
  refine lv_iload_n hx hb dL_joint_0 rfl (lv_at hl 0 rfl) ?_
  refine lv_iconst (v := 3) hx hb dL_joint_1 (by decide) ?_
  refine lv_ishr hx hb dL_joint_2 ?_
  refine lv_iconst (v := 3) hx hb dL_joint_3 (by decide) ?_
  obtain ⟨r_1, hr_1⟩ : ∃ z, z = F_Law_low (x >>> (3 &&& 31)) (3 : Int32) := ⟨_, rfl⟩
  rw [bnd_e hr_1] at hres
  refine ro_calli (va_runS (As := [.int (x >>> (3 &&& 31)), .int 3]) (rest := []) ⟨hx, hb, hml, hown, hts⟩ (c_Law_low l dC dI cI cC cG cZ  (x >>> (3 &&& 31)) (3 : Int32) (by decide) r_1 hr_1) (va_cwS 2 hts gL_joint_L_low rfl rfl rfl (by decide +kernel) ⟨Nat.le_of_ble_eq_true rfl, Nat.le_of_ble_eq_true rfl⟩) (ro_preS (hP.sub (ws' := []) [] rfl) hK) rfl rfl hl.1 rfl (lv_room (Nat.le_of_ble_eq_true rfl)) dL_joint_4 ⟨Nat.zero_le _, Nat.zero_le _⟩) hP hS (fun H locs hP hS => ?_)
  refine lv_istore_n (lv' := [(1, .int r_1), (0, .int x)]) hx hb dL_joint_7 rfl hl (by decide) rfl (fun ls hl => ?_)
  refine lv_iload_n hx hb dL_joint_8 rfl (lv_at hl 1 rfl) ?_
  refine lv_bipush (v := 6) hx hb dL_joint_9 (by decide) ?_
  refine lv_ishr hx hb dL_joint_11 ?_
  refine lv_iconst (v := 4) hx hb dL_joint_12 (by decide) ?_
  obtain ⟨r_2, hr_2⟩ : ∃ z, z = F_Law_low (x >>> (6 &&& 31)) (4 : Int32) := ⟨_, rfl⟩
  rw [bnd_e hr_2] at hres
  refine ro_calli (va_runS (As := [.int (x >>> (6 &&& 31)), .int 4]) (rest := []) ⟨hx, hb, hml, hown, hts⟩ (c_Law_low l dC dI cI cC cG cZ  (x >>> (6 &&& 31)) (4 : Int32) (by decide) r_2 hr_2) (va_cwS 2 hts gL_joint_L_low rfl rfl rfl (by decide +kernel) ⟨Nat.le_of_ble_eq_true rfl, Nat.le_of_ble_eq_true rfl⟩) (ro_preS (hP.sub (ws' := []) [] rfl) hK) rfl rfl hl.1 rfl (lv_room (Nat.le_of_ble_eq_true rfl)) dL_joint_13 ⟨Nat.zero_le _, Nat.zero_le _⟩) hP hS (fun H locs hP hS => ?_)
  refine lv_istore_n (lv' := [(2, .int r_2), (1, .int r_1), (0, .int x)]) hx hb dL_joint_16 rfl hl (by decide) rfl (fun ls hl => ?_)
  refine lv_iload_n hx hb dL_joint_17 rfl (lv_at hl 2 rfl) ?_
  refine lv_bipush (v := 7) hx hb dL_joint_18 (by decide) ?_
  refine lv_iand hx hb dL_joint_20 ?_
  refine lv_if_ne (tgt := 35) hx hb dL_joint_21 (by decide) (fun c_3 => ?_) (fun c_3 => ?_)
  · rw [if_neg c_3] at hres
    refine lv_iload_n hx hb dL_joint_35 rfl (lv_at hl 2 rfl) ?_
    refine lv_bipush (v := 7) hx hb dL_joint_36 (by decide) ?_
    refine lv_iand hx hb dL_joint_38 ?_
    refine lv_iconst (v := 4) hx hb dL_joint_39 (by decide) ?_
    refine lv_icmp_ge (tgt := 52) hx hb dL_joint_40 (by decide) (fun c_4 => ?_) (fun c_4 => ?_)
    · rw [if_pos c_4] at hres
      refine lv_bipush (v := 42) hx hb dL_joint_52 (by decide) ?_
      refine lv_bipush (v := 8) hx hb dL_joint_54 (by decide) ?_
      refine lv_iload_n hx hb dL_joint_56 rfl (lv_at hl 1 rfl) ?_
      refine lv_imul hx hb dL_joint_57 ?_
      refine lv_iadd hx hb dL_joint_58 ?_
      refine lv_iload_n hx hb dL_joint_59 rfl (lv_at hl 0 rfl) ?_
      refine lv_iadd hx hb dL_joint_60 ?_
      exact W.iret (v := (((42 : Int32) + ((8 : Int32) * r_1)) + r_2)) hx hb hr (fun t ht hW => ⟨⟨(((42 : Int32) + ((8 : Int32) * r_1)) + r_2), (), rfl, hres.symm, trivial⟩, hS.F ht⟩) hS.2.2 dL_joint_61
    · rw [if_neg c_4] at hres
      refine lv_bipush (v := 7) hx hb dL_joint_43 (by decide) ?_
      refine lv_iload_n hx hb dL_joint_45 rfl (lv_at hl 1 rfl) ?_
      refine lv_imul hx hb dL_joint_46 ?_
      refine lv_iload_n hx hb dL_joint_47 rfl (lv_at hl 0 rfl) ?_
      refine lv_iadd hx hb dL_joint_48 ?_
      refine lv_goto (tgt := 61) hx hb dL_joint_49 (by decide) ?_
      exact W.iret (v := (((7 : Int32) * r_1) + r_2)) hx hb hr (fun t ht hW => ⟨⟨(((7 : Int32) * r_1) + r_2), (), rfl, hres.symm, trivial⟩, hS.F ht⟩) hS.2.2 dL_joint_61
  · rw [if_pos c_3] at hres
    refine lv_iload_n hx hb dL_joint_24 rfl (lv_at hl 2 rfl) ?_
    refine lv_iconst (v := 3) hx hb dL_joint_25 (by decide) ?_
    refine lv_ishr hx hb dL_joint_26 ?_
    refine lv_bipush (v := 83) hx hb dL_joint_27 (by decide) ?_
    obtain ⟨r_5, hr_5⟩ : ∃ z, z = F_Law_low (x >>> (3 &&& 31)) (83 : Int32) := ⟨_, rfl⟩
    rw [bnd_e hr_5] at hres
    refine ro_calli (va_runS (As := [.int (x >>> (3 &&& 31)), .int 83]) (rest := []) ⟨hx, hb, hml, hown, hts⟩ (c_Law_low l dC dI cI cC cG cZ  (x >>> (3 &&& 31)) (83 : Int32) (by decide) r_5 hr_5) (va_cwS 2 hts gL_joint_L_low rfl rfl rfl (by decide +kernel) ⟨Nat.le_of_ble_eq_true rfl, Nat.le_of_ble_eq_true rfl⟩) (ro_preS (hP.sub (ws' := []) [] rfl) hK) rfl rfl hl.1 rfl (lv_room (Nat.le_of_ble_eq_true rfl)) dL_joint_29 ⟨Nat.zero_le _, Nat.zero_le _⟩) hP hS (fun H locs hP hS => ?_)
    refine lv_goto (tgt := 61) hx hb dL_joint_32 (by decide) ?_
    exact W.iret (v := r_5) hx hb hr (fun t ht hW => ⟨⟨r_5, (), rfl, hres.symm, trivial⟩, hS.F ht⟩) hS.2.2 dL_joint_61
def F_Law_isJoint (j : Int32) (nx : Int32) (tn : Int32) (gn : Int64) (ac : Int64) (dn : Int64) (fs : Nat → Int32) (fm : Nat → Int32) (mks0 : Int32) (pts0 : Int32) (fma0 : Nat → Int32) (mks1 : Int32) (pts1 : Int32) (fma1 : Nat → Int32) (ln : Int32) (hk : Int32) : Int32 := (bnd (F_TC_of j (2 : Int32) tn gn ac dn fs fm mks0 fma0 mks1 fma1) (fun r_1 => (bnd (F_TC_of j (3 : Int32) tn gn ac dn fs fm mks0 fma0 mks1 fma1) (fun r_2 => (bnd ((bnd (F_TC_cell r_1 (0 : Int32) gn ac dn) (fun r_3 => (if r_3 = 1 then 1 else (bnd (F_TC_cell r_2 (0 : Int32) gn ac dn) (fun r_5 => (if r_5 = 1 then 1 else 0)))))) : Int32) (fun v_7 => (bnd (F_TC_of j (0 : Int32) tn gn ac dn fs fm mks0 fma0 mks1 fma1) (fun r_8 => (bnd ((bnd ((if (42 : Int32) ≤ j then (r_1 + 8) else (r_1 + 1)) : Int32) (fun v_10 => (if r_2 = v_10 then (bnd (F_TC_of j (1 : Int32) tn gn ac dn fs fm mks0 fma0 mks1 fma1) (fun r_12 => (bnd ((if v_7 = 0 then 0 else 1) : Int32) (fun v_14 => (if r_12 = v_14 then (bnd (F_TC_of j (6 : Int32) tn gn ac dn fs fm mks0 fma0 mks1 fma1) (fun r_16 => (bnd ((if v_7 = 0 then (if (r_8 - r_8 / 2 * 2) = 0 then 1 else 0) else 0) : Int32) (fun v_19 => (if r_16 = v_19 then (if v_7 = 0 then (if (1 : Int32) < r_8 then (bnd (F_TC_of j (6 : Int32) tn gn ac dn fs fm mks0 fma0 mks1 fma1) (fun r_23 => (if r_23 = 1 then 1 else (bnd (F_TC_of j (4 : Int32) tn gn ac dn fs fm mks0 fma0 mks1 fma1) (fun r_25 => (if r_25 = 0 then 1 else (if r_8 = 3 then 1 else 0))))))) else (bnd (F_TC_of j (5 : Int32) tn gn ac dn fs fm mks0 fma0 mks1 fma1) (fun r_28 => (if r_28 = (-6) then (bnd (F_TC_of j (6 : Int32) tn gn ac dn fs fm mks0 fma0 mks1 fma1) (fun r_30 => (if r_30 = 1 then 1 else (bnd (F_TC_of j (4 : Int32) tn gn ac dn fs fm mks0 fma0 mks1 fma1) (fun r_32 => (if r_32 = 0 then 1 else (if r_8 = 3 then 1 else 0))))))) else 0)))) else (bnd (F_TC_of j (4 : Int32) tn gn ac dn fs fm mks0 fma0 mks1 fma1) (fun r_35 => (if r_35 = 0 then (bnd (F_TC_of j (5 : Int32) tn gn ac dn fs fm mks0 fma0 mks1 fma1) (fun r_37 => (if r_37 = (-6) then (if (1 : Int32) < r_8 then (bnd (F_TC_of j (6 : Int32) tn gn ac dn fs fm mks0 fma0 mks1 fma1) (fun r_40 => (if r_40 = 1 then 1 else (bnd (F_TC_of j (4 : Int32) tn gn ac dn fs fm mks0 fma0 mks1 fma1) (fun r_42 => (if r_42 = 0 then 1 else (if r_8 = 3 then 1 else 0))))))) else (bnd (F_TC_of j (5 : Int32) tn gn ac dn fs fm mks0 fma0 mks1 fma1) (fun r_45 => (if r_45 = (-6) then (bnd (F_TC_of j (6 : Int32) tn gn ac dn fs fm mks0 fma0 mks1 fma1) (fun r_47 => (if r_47 = 1 then 1 else (bnd (F_TC_of j (4 : Int32) tn gn ac dn fs fm mks0 fma0 mks1 fma1) (fun r_49 => (if r_49 = 0 then 1 else (if r_8 = 3 then 1 else 0))))))) else 0)))) else 0))) else 0)))) else 0))))) else 0))))) else 0))) : Int32) (fun v_56 => (bnd ((bnd (F_TC_count (2 : Int32) nx tn gn ac dn fs pts0 pts1 ln hk) (fun r_57 => (if r_57 = 1 then 1 else (if v_7 = 0 then (if r_8 = 1 then 3 else 0) else 2)))) : Int32) (fun v_61 => (if v_56 = 0 then 0 else (bnd (F_TC_why j tn gn fs) (fun r_63 => (if r_63 = v_61 then (if v_61 = 0 then (bnd (F_TC_ifSnipped j tn gn ac dn fs) (fun r_68 => (if r_68 < 0 then 0 else 1))) else (bnd (F_TC_ifSnipped j tn gn ac dn fs) (fun r_66 => (if r_66 = (-5) then 1 else 0)))) else 0))))))))))))))))
set_option maxHeartbeats 4000000 in
set_option maxRecDepth 100000 in
theorem c_Law_isJoint (l : Launch) (dC : Nat → ClassId) (dI : Nat → Nat → Nat) (cI cC cG cZ : ClassId) (tc g h s0 s1 pd cl t0 t1 st mk ma0 ma1 sg hs gn_ mr : Nat) (j : Int32) (nx : Int32) (tn : Int32) (gn : Int64) (ac : Int64) (dn : Int64) (fs : Nat → Int32) (fm : Nat → Int32) (mks0 : Int32) (pts0 : Int32) (ths0 : Int32) (rgs0 : Int32) (rgc0 : Int32) (fnd0 : Int32) (rdb0 : Int32) (wdb0 : Int32) (fma0 : Nat → Int32) (mks1 : Int32) (pts1 : Int32) (ths1 : Int32) (rgs1 : Int32) (rgc1 : Int32) (fnd1 : Int32) (rdb1 : Int32) (wdb1 : Int32) (fma1 : Nat → Int32) (ln : Int32) (hk : Int32) (hM0 : tm_ok 8 mks0) (hM1 : tm_ok 8 mks1) (res : Int32) (hres : res = F_Law_isJoint j nx tn gn ac dn fs fm mks0 pts0 fma0 mks1 pts1 fma1 ln hk) : Met l yL_isJoint wsL_isJoint ({ frames := 5, cells := 0, slots := 0, locals := 110 }) (va_Pc [.ref tc, .int j, .ref mr] (ro_P (dC, dI) vwCl (tyL cI cC cG cZ) [(tc, .inr (6, [.ref g, .ref h, .ref s0, .ref s1, .ref pd])), (g, .inr (1, [.ref cl, .ref t0, .ref t1, .int nx, .int tn])), (cl, .inr (0, [.ref st, .ref mk, .long gn, .long ac, .long dn])), (st, .inl (cI, 82, .inl fs)), (mk, .inl (cI, 82, .inl fm)), (t0, .inr (5, [.ref ma0, .int mks0, .int pts0, .int ths0, .int rgs0, .int rgc0, .int fnd0, .int rdb0, .int wdb0])), (ma0, .inl (cI, 8, .inl fma0)), (t1, .inr (5, [.ref ma1, .int mks1, .int pts1, .int ths1, .int rgs1, .int rgc1, .int fnd1, .int rdb1, .int wdb1])), (ma1, .inl (cI, 8, .inl fma1)), (pd, .inr (3, [.ref sg, .int ln])), (h, .inr (2, [.ref hs, .int hk, .ref gn_]))])) (va_Qi (fun r (_ : Unit) => r = res) (fun _ _ => True) ro_F) 0 0 ro_F := by
  refine Met.ofW (cc := cL_isJoint) (maxL := 9) (ret := (some .boolean)) (by decide) rfl ?_
  intro p e s m args below meth c s₁ B hml hv
  obtain ⟨rfl, hP, hK⟩ := hv
  have hx := B.exec
  have hb := B.bytes
  have hr := B.returns
  have hts := atoms_spec (ws := wsL_isJoint) B.pre
  have hown : s.vm.findClass RL = some m.cls := findClass_of_methodNamed B.named
  have hlocks := B.notSynchronized
  have hS : va_S ro_F s.heap s.heap [] := va_S.rf
  have hl := lv_entry ([.ref tc, .int j, .ref mr]) (n := 9) (Nat.le_of_ble_eq_true rfl)
  rw [lg_entry_eq]
  generalize (lg_sl ([.ref tc, .int j, .ref mr]) ++ List.replicate (9 - (lg_sl ([.ref tc, .int j, .ref mr])).length) Slot.unset).toArray = ls at hl ⊢
  have hl : lv_has ls 9 [(0, .ref tc), (1, .int j), (2, .ref mr)] := hl
  rw [F_Law_isJoint] at hres
  refine lv_aload_n hx hb dL_isJoint_0 rfl (lv_at hl 0 rfl) ?_
  refine lv_iload_n hx hb dL_isJoint_1 rfl (lv_at hl 1 rfl) ?_
  refine lv_iconst (v := 2) hx hb dL_isJoint_2 (by decide) ?_
  obtain ⟨r_1, hr_1⟩ : ∃ z, z = F_TC_of j (2 : Int32) tn gn ac dn fs fm mks0 fma0 mks1 fma1 := ⟨_, rfl⟩
  rw [bnd_e hr_1] at hres
  refine ro_calli (va_runV (As := [.int j, .int 2]) (rest := []) ⟨hx, hb, hml, hown, hts⟩ (c_TC_of l dC dI cI cC cG cZ tc g h s0 s1 pd cl t0 t1 st mk ma0 ma1 j (2 : Int32) nx tn gn ac dn fs fm mks0 pts0 ths0 rgs0 rgc0 fnd0 rdb0 wdb0 fma0 mks1 pts1 ths1 rgs1 rgc1 fnd1 rdb1 wdb1 fma1 hM0 hM1 r_1 hr_1) (cwV 2 hts gL_isJoint_X6_of rfl rfl rfl (by decide +kernel) ⟨Nat.le_of_ble_eq_true rfl, Nat.le_of_ble_eq_true rfl⟩) (ro_preV (hP.sub (ws' := [(tc, .inr (6, [.ref g, .ref h, .ref s0, .ref s1, .ref pd])), (g, .inr (1, [.ref cl, .ref t0, .ref t1, .int nx, .int tn])), (cl, .inr (0, [.ref st, .ref mk, .long gn, .long ac, .long dn])), (st, .inl (cI, 82, .inl fs)), (mk, .inl (cI, 82, .inl fm)), (t0, .inr (5, [.ref ma0, .int mks0, .int pts0, .int ths0, .int rgs0, .int rgc0, .int fnd0, .int rdb0, .int wdb0])), (ma0, .inl (cI, 8, .inl fma0)), (t1, .inr (5, [.ref ma1, .int mks1, .int pts1, .int ths1, .int rgs1, .int rgc1, .int fnd1, .int rdb1, .int wdb1])), (ma1, .inl (cI, 8, .inl fma1))]) [0, 1, 2, 3, 4, 5, 6, 7, 8] rfl) hK (ci := 6) (q0 := 0) rfl rfl) rfl rfl hl.1 rfl (lv_room (Nat.le_of_ble_eq_true rfl)) dL_isJoint_3 ⟨Nat.zero_le _, Nat.zero_le _⟩) hP hS (fun H locs hP hS => ?_)
  refine lv_istore_n (lv' := [(3, .int r_1), (0, .ref tc), (1, .int j), (2, .ref mr)]) hx hb dL_isJoint_6 rfl hl (by decide) rfl (fun ls hl => ?_)
  refine lv_aload_n hx hb dL_isJoint_7 rfl (lv_at hl 1 rfl) ?_
  refine lv_iload_n hx hb dL_isJoint_8 rfl (lv_at hl 2 rfl) ?_
  refine lv_iconst (v := 3) hx hb dL_isJoint_9 (by decide) ?_
  obtain ⟨r_2, hr_2⟩ : ∃ z, z = F_TC_of j (3 : Int32) tn gn ac dn fs fm mks0 fma0 mks1 fma1 := ⟨_, rfl⟩
  rw [bnd_e hr_2] at hres
  refine ro_calli (va_runV (As := [.int j, .int 3]) (rest := []) ⟨hx, hb, hml, hown, hts⟩ (c_TC_of l dC dI cI cC cG cZ tc g h s0 s1 pd cl t0 t1 st mk ma0 ma1 j (3 : Int32) nx tn gn ac dn fs fm mks0 pts0 ths0 rgs0 rgc0 fnd0 rdb0 wdb0 fma0 mks1 pts1 ths1 rgs1 rgc1 fnd1 rdb1 wdb1 fma1 hM0 hM1 r_2 hr_2) (cwV 2 hts gL_isJoint_X6_of rfl rfl rfl (by decide +kernel) ⟨Nat.le_of_ble_eq_true rfl, Nat.le_of_ble_eq_true rfl⟩) (ro_preV (hP.sub (ws' := [(tc, .inr (6, [.ref g, .ref h, .ref s0, .ref s1, .ref pd])), (g, .inr (1, [.ref cl, .ref t0, .ref t1, .int nx, .int tn])), (cl, .inr (0, [.ref st, .ref mk, .long gn, .long ac, .long dn])), (st, .inl (cI, 82, .inl fs)), (mk, .inl (cI, 82, .inl fm)), (t0, .inr (5, [.ref ma0, .int mks0, .int pts0, .int ths0, .int rgs0, .int rgc0, .int fnd0, .int rdb0, .int wdb0])), (ma0, .inl (cI, 8, .inl fma0)), (t1, .inr (5, [.ref ma1, .int mks1, .int pts1, .int ths1, .int rgs1, .int rgc1, .int fnd1, .int rdb1, .int wdb1])), (ma1, .inl (cI, 8, .inl fma1))]) [0, 1, 2, 3, 4, 5, 6, 7, 8] rfl) hK (ci := 6) (q0 := 0) rfl rfl) rfl rfl hl.1 rfl (lv_room (Nat.le_of_ble_eq_true rfl)) dL_isJoint_10 ⟨Nat.zero_le _, Nat.zero_le _⟩) hP hS (fun H locs hP hS => ?_)
  refine lv_istore (lv' := [(4, .int r_2), (3, .int r_1), (0, .ref tc), (1, .int j), (2, .ref mr)]) hx hb dL_isJoint_13 hl (by decide) rfl (fun ls hl => ?_)
  obtain ⟨v_7, hv_7⟩ : ∃ z : Int32, z = (bnd (F_TC_cell r_1 (0 : Int32) gn ac dn) (fun r_3 => (if r_3 = 1 then 1 else (bnd (F_TC_cell r_2 (0 : Int32) gn ac dn) (fun r_5 => (if r_5 = 1 then 1 else 0)))))) := ⟨_, rfl⟩
  rw [bnd_e hv_7] at hres
  have hj41 : ∀ (H : Heap) (locs : List Loc) (ls : Array Slot), va_P (dC, dI) vwCl [(tc, .inr (6, [.ref g, .ref h, .ref s0, .ref s1, .ref pd])), (g, .inr (1, [.ref cl, .ref t0, .ref t1, .int nx, .int tn])), (cl, .inr (0, [.ref st, .ref mk, .long gn, .long ac, .long dn])), (st, .inl (cI, 82, .inl fs)), (mk, .inl (cI, 82, .inl fm)), (t0, .inr (5, [.ref ma0, .int mks0, .int pts0, .int ths0, .int rgs0, .int rgc0, .int fnd0, .int rdb0, .int wdb0])), (ma0, .inl (cI, 8, .inl fma0)), (t1, .inr (5, [.ref ma1, .int mks1, .int pts1, .int ths1, .int rgs1, .int rgc1, .int fnd1, .int rdb1, .int wdb1])), (ma1, .inl (cI, 8, .inl fma1)), (pd, .inr (3, [.ref sg, .int ln])), (h, .inr (2, [.ref hs, .int hk, .ref gn_]))] H → va_S ro_F s.heap H locs → lv_has ls 9 [(4, .int r_2), (3, .int r_1), (0, .ref tc), (1, .int j), (2, .ref mr)] → W p l e (headSpec wsL_isJoint ({ frames := 5, cells := 0, slots := 0, locals := 110 })).room s m ([.ref tc, .int j, .ref mr] : List Value).toArray below meth c H locs 0 0 (MQ below (va_Qi (fun r (_ : Unit) => r = res) (fun _ _ => True) ro_F) ([.ref tc, .int j, .ref mr] : List Value).toArray s 0 0 ro_F) (F0 m 41 ls [.int v_7]) := by
    intro H locs ls hP hS hl
    refine lv_istore (lv' := [(5, .int v_7), (4, .int r_2), (3, .int r_1), (0, .ref tc), (1, .int j), (2, .ref mr)]) hx hb dL_isJoint_41 hl (by decide) rfl (fun ls hl => ?_)
    refine lv_aload_n hx hb dL_isJoint_43 rfl (lv_at hl 3 rfl) ?_
    refine lv_iload_n hx hb dL_isJoint_44 rfl (lv_at hl 4 rfl) ?_
    refine lv_iconst (v := 0) hx hb dL_isJoint_45 (by decide) ?_
    obtain ⟨r_8, hr_8⟩ : ∃ z, z = F_TC_of j (0 : Int32) tn gn ac dn fs fm mks0 fma0 mks1 fma1 := ⟨_, rfl⟩
    rw [bnd_e hr_8] at hres
    refine ro_calli (va_runV (As := [.int j, .int 0]) (rest := []) ⟨hx, hb, hml, hown, hts⟩ (c_TC_of l dC dI cI cC cG cZ tc g h s0 s1 pd cl t0 t1 st mk ma0 ma1 j (0 : Int32) nx tn gn ac dn fs fm mks0 pts0 ths0 rgs0 rgc0 fnd0 rdb0 wdb0 fma0 mks1 pts1 ths1 rgs1 rgc1 fnd1 rdb1 wdb1 fma1 hM0 hM1 r_8 hr_8) (cwV 2 hts gL_isJoint_X6_of rfl rfl rfl (by decide +kernel) ⟨Nat.le_of_ble_eq_true rfl, Nat.le_of_ble_eq_true rfl⟩) (ro_preV (hP.sub (ws' := [(tc, .inr (6, [.ref g, .ref h, .ref s0, .ref s1, .ref pd])), (g, .inr (1, [.ref cl, .ref t0, .ref t1, .int nx, .int tn])), (cl, .inr (0, [.ref st, .ref mk, .long gn, .long ac, .long dn])), (st, .inl (cI, 82, .inl fs)), (mk, .inl (cI, 82, .inl fm)), (t0, .inr (5, [.ref ma0, .int mks0, .int pts0, .int ths0, .int rgs0, .int rgc0, .int fnd0, .int rdb0, .int wdb0])), (ma0, .inl (cI, 8, .inl fma0)), (t1, .inr (5, [.ref ma1, .int mks1, .int pts1, .int ths1, .int rgs1, .int rgc1, .int fnd1, .int rdb1, .int wdb1])), (ma1, .inl (cI, 8, .inl fma1))]) [0, 1, 2, 3, 4, 5, 6, 7, 8] rfl) hK (ci := 6) (q0 := 0) rfl rfl) rfl rfl hl.1 rfl (lv_room (Nat.le_of_ble_eq_true rfl)) dL_isJoint_46 ⟨Nat.zero_le _, Nat.zero_le _⟩) hP hS (fun H locs hP hS => ?_)
    refine lv_istore (lv' := [(6, .int r_8), (5, .int v_7), (4, .int r_2), (3, .int r_1), (0, .ref tc), (1, .int j), (2, .ref mr)]) hx hb dL_isJoint_49 hl (by decide) rfl (fun ls hl => ?_)
    obtain ⟨v_56, hv_56⟩ : ∃ z : Int32, z = (bnd ((if (42 : Int32) ≤ j then (r_1 + 8) else (r_1 + 1)) : Int32) (fun v_10 => (if r_2 = v_10 then (bnd (F_TC_of j (1 : Int32) tn gn ac dn fs fm mks0 fma0 mks1 fma1) (fun r_12 => (bnd ((if v_7 = 0 then 0 else 1) : Int32) (fun v_14 => (if r_12 = v_14 then (bnd (F_TC_of j (6 : Int32) tn gn ac dn fs fm mks0 fma0 mks1 fma1) (fun r_16 => (bnd ((if v_7 = 0 then (if (r_8 - r_8 / 2 * 2) = 0 then 1 else 0) else 0) : Int32) (fun v_19 => (if r_16 = v_19 then (if v_7 = 0 then (if (1 : Int32) < r_8 then (bnd (F_TC_of j (6 : Int32) tn gn ac dn fs fm mks0 fma0 mks1 fma1) (fun r_23 => (if r_23 = 1 then 1 else (bnd (F_TC_of j (4 : Int32) tn gn ac dn fs fm mks0 fma0 mks1 fma1) (fun r_25 => (if r_25 = 0 then 1 else (if r_8 = 3 then 1 else 0))))))) else (bnd (F_TC_of j (5 : Int32) tn gn ac dn fs fm mks0 fma0 mks1 fma1) (fun r_28 => (if r_28 = (-6) then (bnd (F_TC_of j (6 : Int32) tn gn ac dn fs fm mks0 fma0 mks1 fma1) (fun r_30 => (if r_30 = 1 then 1 else (bnd (F_TC_of j (4 : Int32) tn gn ac dn fs fm mks0 fma0 mks1 fma1) (fun r_32 => (if r_32 = 0 then 1 else (if r_8 = 3 then 1 else 0))))))) else 0)))) else (bnd (F_TC_of j (4 : Int32) tn gn ac dn fs fm mks0 fma0 mks1 fma1) (fun r_35 => (if r_35 = 0 then (bnd (F_TC_of j (5 : Int32) tn gn ac dn fs fm mks0 fma0 mks1 fma1) (fun r_37 => (if r_37 = (-6) then (if (1 : Int32) < r_8 then (bnd (F_TC_of j (6 : Int32) tn gn ac dn fs fm mks0 fma0 mks1 fma1) (fun r_40 => (if r_40 = 1 then 1 else (bnd (F_TC_of j (4 : Int32) tn gn ac dn fs fm mks0 fma0 mks1 fma1) (fun r_42 => (if r_42 = 0 then 1 else (if r_8 = 3 then 1 else 0))))))) else (bnd (F_TC_of j (5 : Int32) tn gn ac dn fs fm mks0 fma0 mks1 fma1) (fun r_45 => (if r_45 = (-6) then (bnd (F_TC_of j (6 : Int32) tn gn ac dn fs fm mks0 fma0 mks1 fma1) (fun r_47 => (if r_47 = 1 then 1 else (bnd (F_TC_of j (4 : Int32) tn gn ac dn fs fm mks0 fma0 mks1 fma1) (fun r_49 => (if r_49 = 0 then 1 else (if r_8 = 3 then 1 else 0))))))) else 0)))) else 0))) else 0)))) else 0))))) else 0))))) else 0))) := ⟨_, rfl⟩
    rw [bnd_e hv_56] at hres
    have hj191 : ∀ (H : Heap) (locs : List Loc) (ls : Array Slot), va_P (dC, dI) vwCl [(tc, .inr (6, [.ref g, .ref h, .ref s0, .ref s1, .ref pd])), (g, .inr (1, [.ref cl, .ref t0, .ref t1, .int nx, .int tn])), (cl, .inr (0, [.ref st, .ref mk, .long gn, .long ac, .long dn])), (st, .inl (cI, 82, .inl fs)), (mk, .inl (cI, 82, .inl fm)), (t0, .inr (5, [.ref ma0, .int mks0, .int pts0, .int ths0, .int rgs0, .int rgc0, .int fnd0, .int rdb0, .int wdb0])), (ma0, .inl (cI, 8, .inl fma0)), (t1, .inr (5, [.ref ma1, .int mks1, .int pts1, .int ths1, .int rgs1, .int rgc1, .int fnd1, .int rdb1, .int wdb1])), (ma1, .inl (cI, 8, .inl fma1)), (pd, .inr (3, [.ref sg, .int ln])), (h, .inr (2, [.ref hs, .int hk, .ref gn_]))] H → va_S ro_F s.heap H locs → lv_has ls 9 [(6, .int r_8), (5, .int v_7), (4, .int r_2), (3, .int r_1), (0, .ref tc), (1, .int j), (2, .ref mr)] → W p l e (headSpec wsL_isJoint ({ frames := 5, cells := 0, slots := 0, locals := 110 })).room s m ([.ref tc, .int j, .ref mr] : List Value).toArray below meth c H locs 0 0 (MQ below (va_Qi (fun r (_ : Unit) => r = res) (fun _ _ => True) ro_F) ([.ref tc, .int j, .ref mr] : List Value).toArray s 0 0 ro_F) (F0 m 191 ls [.int v_56]) := by
      intro H locs ls hP hS hl
      refine lv_istore (lv' := [(7, .int v_56), (6, .int r_8), (5, .int v_7), (4, .int r_2), (3, .int r_1), (0, .ref tc), (1, .int j), (2, .ref mr)]) hx hb dL_isJoint_191 hl (by decide) rfl (fun ls hl => ?_)
      obtain ⟨v_61, hv_61⟩ : ∃ z : Int32, z = (bnd (F_TC_count (2 : Int32) nx tn gn ac dn fs pts0 pts1 ln hk) (fun r_57 => (if r_57 = 1 then 1 else (if v_7 = 0 then (if r_8 = 1 then 3 else 0) else 2)))) := ⟨_, rfl⟩
      rw [bnd_e hv_61] at hres
      have hj226 : ∀ (H : Heap) (locs : List Loc) (ls : Array Slot), va_P (dC, dI) vwCl [(tc, .inr (6, [.ref g, .ref h, .ref s0, .ref s1, .ref pd])), (g, .inr (1, [.ref cl, .ref t0, .ref t1, .int nx, .int tn])), (cl, .inr (0, [.ref st, .ref mk, .long gn, .long ac, .long dn])), (st, .inl (cI, 82, .inl fs)), (mk, .inl (cI, 82, .inl fm)), (t0, .inr (5, [.ref ma0, .int mks0, .int pts0, .int ths0, .int rgs0, .int rgc0, .int fnd0, .int rdb0, .int wdb0])), (ma0, .inl (cI, 8, .inl fma0)), (t1, .inr (5, [.ref ma1, .int mks1, .int pts1, .int ths1, .int rgs1, .int rgc1, .int fnd1, .int rdb1, .int wdb1])), (ma1, .inl (cI, 8, .inl fma1)), (pd, .inr (3, [.ref sg, .int ln])), (h, .inr (2, [.ref hs, .int hk, .ref gn_]))] H → va_S ro_F s.heap H locs → lv_has ls 9 [(7, .int v_56), (6, .int r_8), (5, .int v_7), (4, .int r_2), (3, .int r_1), (0, .ref tc), (1, .int j), (2, .ref mr)] → W p l e (headSpec wsL_isJoint ({ frames := 5, cells := 0, slots := 0, locals := 110 })).room s m ([.ref tc, .int j, .ref mr] : List Value).toArray below meth c H locs 0 0 (MQ below (va_Qi (fun r (_ : Unit) => r = res) (fun _ _ => True) ro_F) ([.ref tc, .int j, .ref mr] : List Value).toArray s 0 0 ro_F) (F0 m 226 ls [.int v_61]) := by
        intro H locs ls hP hS hl
        refine lv_istore (lv' := [(8, .int v_61), (7, .int v_56), (6, .int r_8), (5, .int v_7), (4, .int r_2), (3, .int r_1), (0, .ref tc), (1, .int j), (2, .ref mr)]) hx hb dL_isJoint_226 hl (by decide) rfl (fun ls hl => ?_)
        refine lv_iload hx hb dL_isJoint_228 (lv_at hl 1 rfl) ?_
        refine lv_if_eq (tgt := 273) hx hb dL_isJoint_230 (by decide) (fun c_62 => ?_) (fun c_62 => ?_)
        · rw [if_pos c_62] at hres
          refine lv_iconst (v := 0) hx hb dL_isJoint_273 (by decide) ?_
          exact W.zret (v := 0) hx hb hr rfl (fun t ht hW => ⟨⟨0, (), rfl, hres.symm, trivial⟩, hS.F ht⟩) hS.2.2 dL_isJoint_274
        · rw [if_neg c_62] at hres
          refine lv_aload_n hx hb dL_isJoint_233 rfl (lv_at hl 6 rfl) ?_
          refine lv_iload_n hx hb dL_isJoint_234 rfl (lv_at hl 7 rfl) ?_
          obtain ⟨r_63, hr_63⟩ : ∃ z, z = F_TC_why j tn gn fs := ⟨_, rfl⟩
          rw [bnd_e hr_63] at hres
          refine ro_calli (va_runV (As := [.int j]) (rest := []) ⟨hx, hb, hml, hown, hts⟩ (c_TC_why l dC dI cI cC cG cZ tc g h s0 s1 pd cl t0 t1 st mk j nx tn gn ac dn fs  r_63 hr_63) (cwV 1 hts gL_isJoint_X6_why rfl rfl rfl (by decide +kernel) ⟨Nat.le_of_ble_eq_true rfl, Nat.le_of_ble_eq_true rfl⟩) (ro_preV (hP.sub (ws' := [(tc, .inr (6, [.ref g, .ref h, .ref s0, .ref s1, .ref pd])), (g, .inr (1, [.ref cl, .ref t0, .ref t1, .int nx, .int tn])), (cl, .inr (0, [.ref st, .ref mk, .long gn, .long ac, .long dn])), (st, .inl (cI, 82, .inl fs))]) [0, 1, 2, 3] rfl) hK (ci := 6) (q0 := 0) rfl rfl) rfl rfl hl.1 rfl (lv_room (Nat.le_of_ble_eq_true rfl)) dL_isJoint_235 ⟨Nat.zero_le _, Nat.zero_le _⟩) hP hS (fun H locs hP hS => ?_)
          refine lv_iload hx hb dL_isJoint_238 (lv_at hl 0 rfl) ?_
          refine lv_icmp_ne (tgt := 273) hx hb dL_isJoint_240 (by decide) (fun c_64 => ?_) (fun c_64 => ?_)
          · rw [if_neg c_64] at hres
            refine lv_iconst (v := 0) hx hb dL_isJoint_273 (by decide) ?_
            exact W.zret (v := 0) hx hb hr rfl (fun t ht hW => ⟨⟨0, (), rfl, hres.symm, trivial⟩, hS.F ht⟩) hS.2.2 dL_isJoint_274
          · rw [if_pos c_64] at hres
            refine lv_iload hx hb dL_isJoint_243 (lv_at hl 0 rfl) ?_
            refine lv_if_ne (tgt := 259) hx hb dL_isJoint_245 (by decide) (fun c_65 => ?_) (fun c_65 => ?_)
            · rw [if_neg c_65] at hres
              refine lv_aload_n hx hb dL_isJoint_259 rfl (lv_at hl 6 rfl) ?_
              refine lv_iload_n hx hb dL_isJoint_260 rfl (lv_at hl 7 rfl) ?_
              obtain ⟨r_66, hr_66⟩ : ∃ z, z = F_TC_ifSnipped j tn gn ac dn fs := ⟨_, rfl⟩
              rw [bnd_e hr_66] at hres
              refine ro_calli (va_runV (As := [.int j]) (rest := []) ⟨hx, hb, hml, hown, hts⟩ (c_TC_ifSnipped l dC dI cI cC cG cZ tc g h s0 s1 pd cl t0 t1 st mk j nx tn gn ac dn fs  r_66 hr_66) (cwV 1 hts gL_isJoint_X6_ifSnipped rfl rfl rfl (by decide +kernel) ⟨Nat.le_of_ble_eq_true rfl, Nat.le_of_ble_eq_true rfl⟩) (ro_preV (hP.sub (ws' := [(tc, .inr (6, [.ref g, .ref h, .ref s0, .ref s1, .ref pd])), (g, .inr (1, [.ref cl, .ref t0, .ref t1, .int nx, .int tn])), (cl, .inr (0, [.ref st, .ref mk, .long gn, .long ac, .long dn])), (st, .inl (cI, 82, .inl fs))]) [0, 1, 2, 3] rfl) hK (ci := 6) (q0 := 0) rfl rfl) rfl rfl hl.1 rfl (lv_room (Nat.le_of_ble_eq_true rfl)) dL_isJoint_261 ⟨Nat.zero_le _, Nat.zero_le _⟩) hP hS (fun H locs hP hS => ?_)
              refine lv_bipush (v := (-5)) hx hb dL_isJoint_264 (by decide) ?_
              refine lv_icmp_ne (tgt := 273) hx hb dL_isJoint_266 (by decide) (fun c_67 => ?_) (fun c_67 => ?_)
              · rw [if_neg c_67] at hres
                refine lv_iconst (v := 0) hx hb dL_isJoint_273 (by decide) ?_
                exact W.zret (v := 0) hx hb hr rfl (fun t ht hW => ⟨⟨0, (), rfl, hres.symm, trivial⟩, hS.F ht⟩) hS.2.2 dL_isJoint_274
              · rw [if_pos c_67] at hres
                refine lv_iconst (v := 1) hx hb dL_isJoint_269 (by decide) ?_
                refine lv_goto (tgt := 274) hx hb dL_isJoint_270 (by decide) ?_
                exact W.zret (v := 1) hx hb hr rfl (fun t ht hW => ⟨⟨1, (), rfl, hres.symm, trivial⟩, hS.F ht⟩) hS.2.2 dL_isJoint_274
            · rw [if_pos c_65] at hres
              refine lv_aload_n hx hb dL_isJoint_248 rfl (lv_at hl 6 rfl) ?_
              refine lv_iload_n hx hb dL_isJoint_249 rfl (lv_at hl 7 rfl) ?_
              obtain ⟨r_68, hr_68⟩ : ∃ z, z = F_TC_ifSnipped j tn gn ac dn fs := ⟨_, rfl⟩
              rw [bnd_e hr_68] at hres
              refine ro_calli (va_runV (As := [.int j]) (rest := []) ⟨hx, hb, hml, hown, hts⟩ (c_TC_ifSnipped l dC dI cI cC cG cZ tc g h s0 s1 pd cl t0 t1 st mk j nx tn gn ac dn fs  r_68 hr_68) (cwV 1 hts gL_isJoint_X6_ifSnipped rfl rfl rfl (by decide +kernel) ⟨Nat.le_of_ble_eq_true rfl, Nat.le_of_ble_eq_true rfl⟩) (ro_preV (hP.sub (ws' := [(tc, .inr (6, [.ref g, .ref h, .ref s0, .ref s1, .ref pd])), (g, .inr (1, [.ref cl, .ref t0, .ref t1, .int nx, .int tn])), (cl, .inr (0, [.ref st, .ref mk, .long gn, .long ac, .long dn])), (st, .inl (cI, 82, .inl fs))]) [0, 1, 2, 3] rfl) hK (ci := 6) (q0 := 0) rfl rfl) rfl rfl hl.1 rfl (lv_room (Nat.le_of_ble_eq_true rfl)) dL_isJoint_250 ⟨Nat.zero_le _, Nat.zero_le _⟩) hP hS (fun H locs hP hS => ?_)
              refine lv_if_lt (tgt := 273) hx hb dL_isJoint_253 (by decide) (fun c_69 => ?_) (fun c_69 => ?_)
              · rw [if_pos c_69] at hres
                refine lv_iconst (v := 0) hx hb dL_isJoint_273 (by decide) ?_
                exact W.zret (v := 0) hx hb hr rfl (fun t ht hW => ⟨⟨0, (), rfl, hres.symm, trivial⟩, hS.F ht⟩) hS.2.2 dL_isJoint_274
              · rw [if_neg c_69] at hres
                refine lv_goto (tgt := 269) hx hb dL_isJoint_256 (by decide) ?_
                refine lv_iconst (v := 1) hx hb dL_isJoint_269 (by decide) ?_
                refine lv_goto (tgt := 274) hx hb dL_isJoint_270 (by decide) ?_
                exact W.zret (v := 1) hx hb hr rfl (fun t ht hW => ⟨⟨1, (), rfl, hres.symm, trivial⟩, hS.F ht⟩) hS.2.2 dL_isJoint_274
      refine lv_aload_n hx hb dL_isJoint_193 rfl (lv_at hl 5 rfl) ?_
      refine lv_iconst (v := 2) hx hb dL_isJoint_194 (by decide) ?_
      obtain ⟨r_70, hr_70⟩ : ∃ z, z = F_TC_count (2 : Int32) nx tn gn ac dn fs pts0 pts1 ln hk := ⟨_, rfl⟩
      rw [bnd_e hr_70] at hv_61
      refine ro_calli (va_runV (As := [.int 2]) (rest := []) ⟨hx, hb, hml, hown, hts⟩ (c_TC_count l dC dI cI cC cG cZ tc g h s0 s1 pd cl t0 t1 st mk ma0 ma1 sg hs gn_ (2 : Int32) nx tn gn ac dn fs mks0 pts0 ths0 rgs0 rgc0 fnd0 rdb0 wdb0 mks1 pts1 ths1 rgs1 rgc1 fnd1 rdb1 wdb1 ln hk  r_70 hr_70) (cwV 1 hts gL_isJoint_X6_count rfl rfl rfl (by decide +kernel) ⟨Nat.le_of_ble_eq_true rfl, Nat.le_of_ble_eq_true rfl⟩) (ro_preV (hP.sub (ws' := [(tc, .inr (6, [.ref g, .ref h, .ref s0, .ref s1, .ref pd])), (g, .inr (1, [.ref cl, .ref t0, .ref t1, .int nx, .int tn])), (cl, .inr (0, [.ref st, .ref mk, .long gn, .long ac, .long dn])), (st, .inl (cI, 82, .inl fs)), (t0, .inr (5, [.ref ma0, .int mks0, .int pts0, .int ths0, .int rgs0, .int rgc0, .int fnd0, .int rdb0, .int wdb0])), (t1, .inr (5, [.ref ma1, .int mks1, .int pts1, .int ths1, .int rgs1, .int rgc1, .int fnd1, .int rdb1, .int wdb1])), (pd, .inr (3, [.ref sg, .int ln])), (h, .inr (2, [.ref hs, .int hk, .ref gn_]))]) [0, 1, 2, 3, 5, 7, 9, 10] rfl) hK (ci := 6) (q0 := 0) rfl rfl) rfl rfl hl.1 rfl (lv_room (Nat.le_of_ble_eq_true rfl)) dL_isJoint_195 ⟨Nat.zero_le _, Nat.zero_le _⟩) hP hS (fun H locs hP hS => ?_)
      refine lv_iconst (v := 1) hx hb dL_isJoint_198 (by decide) ?_
      refine lv_icmp_ne (tgt := 206) hx hb dL_isJoint_199 (by decide) (fun c_71 => ?_) (fun c_71 => ?_)
      · rw [if_neg c_71] at hv_61
        refine lv_iload hx hb dL_isJoint_206 (lv_at hl 2 rfl) ?_
        refine lv_if_eq (tgt := 215) hx hb dL_isJoint_208 (by decide) (fun c_72 => ?_) (fun c_72 => ?_)
        · rw [if_pos c_72] at hv_61
          refine lv_iload hx hb dL_isJoint_215 (lv_at hl 1 rfl) ?_
          refine lv_iconst (v := 1) hx hb dL_isJoint_217 (by decide) ?_
          refine lv_icmp_ne (tgt := 225) hx hb dL_isJoint_218 (by decide) (fun c_73 => ?_) (fun c_73 => ?_)
          · rw [if_neg c_73] at hv_61
            refine lv_iconst (v := 0) hx hb dL_isJoint_225 (by decide) ?_
            subst hv_61
            exact hj226 _ _ _ hP hS (lv_sub hl [0, 1, 2, 3, 4, 5, 6, 7] rfl)
          · rw [if_pos c_73] at hv_61
            refine lv_iconst (v := 3) hx hb dL_isJoint_221 (by decide) ?_
            refine lv_goto (tgt := 226) hx hb dL_isJoint_222 (by decide) ?_
            subst hv_61
            exact hj226 _ _ _ hP hS (lv_sub hl [0, 1, 2, 3, 4, 5, 6, 7] rfl)
        · rw [if_neg c_72] at hv_61
          refine lv_iconst (v := 2) hx hb dL_isJoint_211 (by decide) ?_
          refine lv_goto (tgt := 226) hx hb dL_isJoint_212 (by decide) ?_
          subst hv_61
          exact hj226 _ _ _ hP hS (lv_sub hl [0, 1, 2, 3, 4, 5, 6, 7] rfl)
      · rw [if_pos c_71] at hv_61
        refine lv_iconst (v := 1) hx hb dL_isJoint_202 (by decide) ?_
        refine lv_goto (tgt := 226) hx hb dL_isJoint_203 (by decide) ?_
        subst hv_61
        exact hj226 _ _ _ hP hS (lv_sub hl [0, 1, 2, 3, 4, 5, 6, 7] rfl)
    refine lv_iload hx hb dL_isJoint_51 (lv_at hl 2 rfl) ?_
    obtain ⟨v_75, hv_75⟩ : ∃ z : Int32, z = (if (42 : Int32) ≤ j then (r_1 + 8) else (r_1 + 1)) := ⟨_, rfl⟩
    rw [bnd_e hv_75] at hv_56
    have hj69 : ∀ (H : Heap) (locs : List Loc) (ls : Array Slot), va_P (dC, dI) vwCl [(tc, .inr (6, [.ref g, .ref h, .ref s0, .ref s1, .ref pd])), (g, .inr (1, [.ref cl, .ref t0, .ref t1, .int nx, .int tn])), (cl, .inr (0, [.ref st, .ref mk, .long gn, .long ac, .long dn])), (st, .inl (cI, 82, .inl fs)), (mk, .inl (cI, 82, .inl fm)), (t0, .inr (5, [.ref ma0, .int mks0, .int pts0, .int ths0, .int rgs0, .int rgc0, .int fnd0, .int rdb0, .int wdb0])), (ma0, .inl (cI, 8, .inl fma0)), (t1, .inr (5, [.ref ma1, .int mks1, .int pts1, .int ths1, .int rgs1, .int rgc1, .int fnd1, .int rdb1, .int wdb1])), (ma1, .inl (cI, 8, .inl fma1)), (pd, .inr (3, [.ref sg, .int ln])), (h, .inr (2, [.ref hs, .int hk, .ref gn_]))] H → va_S ro_F s.heap H locs → lv_has ls 9 [(6, .int r_8), (5, .int v_7), (4, .int r_2), (3, .int r_1), (0, .ref tc), (1, .int j), (2, .ref mr)] → W p l e (headSpec wsL_isJoint ({ frames := 5, cells := 0, slots := 0, locals := 110 })).room s m ([.ref tc, .int j, .ref mr] : List Value).toArray below meth c H locs 0 0 (MQ below (va_Qi (fun r (_ : Unit) => r = res) (fun _ _ => True) ro_F) ([.ref tc, .int j, .ref mr] : List Value).toArray s 0 0 ro_F) (F0 m 69 ls [.int v_75, .int r_2]) := by
      intro H locs ls hP hS hl
      refine lv_icmp_ne (tgt := 190) hx hb dL_isJoint_69 (by decide) (fun c_76 => ?_) (fun c_76 => ?_)
      · rw [if_neg c_76] at hv_56
        refine lv_iconst (v := 0) hx hb dL_isJoint_190 (by decide) ?_
        subst hv_56
        exact hj191 _ _ _ hP hS (lv_sub hl [0, 1, 2, 3, 4, 5, 6] rfl)
      · rw [if_pos c_76] at hv_56
        refine lv_aload_n hx hb dL_isJoint_72 rfl (lv_at hl 4 rfl) ?_
        refine lv_iload_n hx hb dL_isJoint_73 rfl (lv_at hl 5 rfl) ?_
        refine lv_iconst (v := 1) hx hb dL_isJoint_74 (by decide) ?_
        obtain ⟨r_77, hr_77⟩ : ∃ z, z = F_TC_of j (1 : Int32) tn gn ac dn fs fm mks0 fma0 mks1 fma1 := ⟨_, rfl⟩
        rw [bnd_e hr_77] at hv_56
        refine ro_calli (va_runV (As := [.int j, .int 1]) (rest := []) ⟨hx, hb, hml, hown, hts⟩ (c_TC_of l dC dI cI cC cG cZ tc g h s0 s1 pd cl t0 t1 st mk ma0 ma1 j (1 : Int32) nx tn gn ac dn fs fm mks0 pts0 ths0 rgs0 rgc0 fnd0 rdb0 wdb0 fma0 mks1 pts1 ths1 rgs1 rgc1 fnd1 rdb1 wdb1 fma1 hM0 hM1 r_77 hr_77) (cwV 2 hts gL_isJoint_X6_of rfl rfl rfl (by decide +kernel) ⟨Nat.le_of_ble_eq_true rfl, Nat.le_of_ble_eq_true rfl⟩) (ro_preV (hP.sub (ws' := [(tc, .inr (6, [.ref g, .ref h, .ref s0, .ref s1, .ref pd])), (g, .inr (1, [.ref cl, .ref t0, .ref t1, .int nx, .int tn])), (cl, .inr (0, [.ref st, .ref mk, .long gn, .long ac, .long dn])), (st, .inl (cI, 82, .inl fs)), (mk, .inl (cI, 82, .inl fm)), (t0, .inr (5, [.ref ma0, .int mks0, .int pts0, .int ths0, .int rgs0, .int rgc0, .int fnd0, .int rdb0, .int wdb0])), (ma0, .inl (cI, 8, .inl fma0)), (t1, .inr (5, [.ref ma1, .int mks1, .int pts1, .int ths1, .int rgs1, .int rgc1, .int fnd1, .int rdb1, .int wdb1])), (ma1, .inl (cI, 8, .inl fma1))]) [0, 1, 2, 3, 4, 5, 6, 7, 8] rfl) hK (ci := 6) (q0 := 0) rfl rfl) rfl rfl hl.1 rfl (lv_room (Nat.le_of_ble_eq_true rfl)) dL_isJoint_75 ⟨Nat.zero_le _, Nat.zero_le _⟩) hP hS (fun H locs hP hS => ?_)
        obtain ⟨v_79, hv_79⟩ : ∃ z : Int32, z = (if v_7 = 0 then 0 else 1) := ⟨_, rfl⟩
        rw [bnd_e hv_79] at hv_56
        have hj88 : ∀ (H : Heap) (locs : List Loc) (ls : Array Slot), va_P (dC, dI) vwCl [(tc, .inr (6, [.ref g, .ref h, .ref s0, .ref s1, .ref pd])), (g, .inr (1, [.ref cl, .ref t0, .ref t1, .int nx, .int tn])), (cl, .inr (0, [.ref st, .ref mk, .long gn, .long ac, .long dn])), (st, .inl (cI, 82, .inl fs)), (mk, .inl (cI, 82, .inl fm)), (t0, .inr (5, [.ref ma0, .int mks0, .int pts0, .int ths0, .int rgs0, .int rgc0, .int fnd0, .int rdb0, .int wdb0])), (ma0, .inl (cI, 8, .inl fma0)), (t1, .inr (5, [.ref ma1, .int mks1, .int pts1, .int ths1, .int rgs1, .int rgc1, .int fnd1, .int rdb1, .int wdb1])), (ma1, .inl (cI, 8, .inl fma1)), (pd, .inr (3, [.ref sg, .int ln])), (h, .inr (2, [.ref hs, .int hk, .ref gn_]))] H → va_S ro_F s.heap H locs → lv_has ls 9 [(6, .int r_8), (5, .int v_7), (4, .int r_2), (3, .int r_1), (0, .ref tc), (1, .int j), (2, .ref mr)] → W p l e (headSpec wsL_isJoint ({ frames := 5, cells := 0, slots := 0, locals := 110 })).room s m ([.ref tc, .int j, .ref mr] : List Value).toArray below meth c H locs 0 0 (MQ below (va_Qi (fun r (_ : Unit) => r = res) (fun _ _ => True) ro_F) ([.ref tc, .int j, .ref mr] : List Value).toArray s 0 0 ro_F) (F0 m 88 ls [.int v_79, .int r_77]) := by
          intro H locs ls hP hS hl
          refine lv_icmp_ne (tgt := 190) hx hb dL_isJoint_88 (by decide) (fun c_80 => ?_) (fun c_80 => ?_)
          · rw [if_neg c_80] at hv_56
            refine lv_iconst (v := 0) hx hb dL_isJoint_190 (by decide) ?_
            subst hv_56
            exact hj191 _ _ _ hP hS (lv_sub hl [0, 1, 2, 3, 4, 5, 6] rfl)
          · rw [if_pos c_80] at hv_56
            refine lv_aload_n hx hb dL_isJoint_91 rfl (lv_at hl 4 rfl) ?_
            refine lv_iload_n hx hb dL_isJoint_92 rfl (lv_at hl 5 rfl) ?_
            refine lv_bipush (v := 6) hx hb dL_isJoint_93 (by decide) ?_
            obtain ⟨r_81, hr_81⟩ : ∃ z, z = F_TC_of j (6 : Int32) tn gn ac dn fs fm mks0 fma0 mks1 fma1 := ⟨_, rfl⟩
            rw [bnd_e hr_81] at hv_56
            refine ro_calli (va_runV (As := [.int j, .int 6]) (rest := []) ⟨hx, hb, hml, hown, hts⟩ (c_TC_of l dC dI cI cC cG cZ tc g h s0 s1 pd cl t0 t1 st mk ma0 ma1 j (6 : Int32) nx tn gn ac dn fs fm mks0 pts0 ths0 rgs0 rgc0 fnd0 rdb0 wdb0 fma0 mks1 pts1 ths1 rgs1 rgc1 fnd1 rdb1 wdb1 fma1 hM0 hM1 r_81 hr_81) (cwV 2 hts gL_isJoint_X6_of rfl rfl rfl (by decide +kernel) ⟨Nat.le_of_ble_eq_true rfl, Nat.le_of_ble_eq_true rfl⟩) (ro_preV (hP.sub (ws' := [(tc, .inr (6, [.ref g, .ref h, .ref s0, .ref s1, .ref pd])), (g, .inr (1, [.ref cl, .ref t0, .ref t1, .int nx, .int tn])), (cl, .inr (0, [.ref st, .ref mk, .long gn, .long ac, .long dn])), (st, .inl (cI, 82, .inl fs)), (mk, .inl (cI, 82, .inl fm)), (t0, .inr (5, [.ref ma0, .int mks0, .int pts0, .int ths0, .int rgs0, .int rgc0, .int fnd0, .int rdb0, .int wdb0])), (ma0, .inl (cI, 8, .inl fma0)), (t1, .inr (5, [.ref ma1, .int mks1, .int pts1, .int ths1, .int rgs1, .int rgc1, .int fnd1, .int rdb1, .int wdb1])), (ma1, .inl (cI, 8, .inl fma1))]) [0, 1, 2, 3, 4, 5, 6, 7, 8] rfl) hK (ci := 6) (q0 := 0) rfl rfl) rfl rfl hl.1 rfl (lv_room (Nat.le_of_ble_eq_true rfl)) dL_isJoint_95 ⟨Nat.zero_le _, Nat.zero_le _⟩) hP hS (fun H locs hP hS => ?_)
            obtain ⟨v_84, hv_84⟩ : ∃ z : Int32, z = (if v_7 = 0 then (if (r_8 - r_8 / 2 * 2) = 0 then 1 else 0) else 0) := ⟨_, rfl⟩
            rw [bnd_e hv_84] at hv_56
            have hj115 : ∀ (H : Heap) (locs : List Loc) (ls : Array Slot), va_P (dC, dI) vwCl [(tc, .inr (6, [.ref g, .ref h, .ref s0, .ref s1, .ref pd])), (g, .inr (1, [.ref cl, .ref t0, .ref t1, .int nx, .int tn])), (cl, .inr (0, [.ref st, .ref mk, .long gn, .long ac, .long dn])), (st, .inl (cI, 82, .inl fs)), (mk, .inl (cI, 82, .inl fm)), (t0, .inr (5, [.ref ma0, .int mks0, .int pts0, .int ths0, .int rgs0, .int rgc0, .int fnd0, .int rdb0, .int wdb0])), (ma0, .inl (cI, 8, .inl fma0)), (t1, .inr (5, [.ref ma1, .int mks1, .int pts1, .int ths1, .int rgs1, .int rgc1, .int fnd1, .int rdb1, .int wdb1])), (ma1, .inl (cI, 8, .inl fma1)), (pd, .inr (3, [.ref sg, .int ln])), (h, .inr (2, [.ref hs, .int hk, .ref gn_]))] H → va_S ro_F s.heap H locs → lv_has ls 9 [(6, .int r_8), (5, .int v_7), (4, .int r_2), (3, .int r_1), (0, .ref tc), (1, .int j), (2, .ref mr)] → W p l e (headSpec wsL_isJoint ({ frames := 5, cells := 0, slots := 0, locals := 110 })).room s m ([.ref tc, .int j, .ref mr] : List Value).toArray below meth c H locs 0 0 (MQ below (va_Qi (fun r (_ : Unit) => r = res) (fun _ _ => True) ro_F) ([.ref tc, .int j, .ref mr] : List Value).toArray s 0 0 ro_F) (F0 m 115 ls [.int v_84, .int r_81]) := by
              intro H locs ls hP hS hl
              refine lv_icmp_ne (tgt := 190) hx hb dL_isJoint_115 (by decide) (fun c_85 => ?_) (fun c_85 => ?_)
              · rw [if_neg c_85] at hv_56
                refine lv_iconst (v := 0) hx hb dL_isJoint_190 (by decide) ?_
                subst hv_56
                exact hj191 _ _ _ hP hS (lv_sub hl [0, 1, 2, 3, 4, 5, 6] rfl)
              · rw [if_pos c_85] at hv_56
                refine lv_iload hx hb dL_isJoint_118 (lv_at hl 1 rfl) ?_
                refine lv_if_eq (tgt := 143) hx hb dL_isJoint_120 (by decide) (fun c_86 => ?_) (fun c_86 => ?_)
                · rw [if_pos c_86] at hv_56
                  refine lv_iload hx hb dL_isJoint_143 (lv_at hl 0 rfl) ?_
                  refine lv_iconst (v := 1) hx hb dL_isJoint_145 (by decide) ?_
                  refine lv_icmp_gt (tgt := 160) hx hb dL_isJoint_146 (by decide) (fun c_87 => ?_) (fun c_87 => ?_)
                  · rw [if_pos c_87] at hv_56
                    refine lv_aload_n hx hb dL_isJoint_160 rfl (lv_at hl 4 rfl) ?_
                    refine lv_iload_n hx hb dL_isJoint_161 rfl (lv_at hl 5 rfl) ?_
                    refine lv_bipush (v := 6) hx hb dL_isJoint_162 (by decide) ?_
                    obtain ⟨r_88, hr_88⟩ : ∃ z, z = F_TC_of j (6 : Int32) tn gn ac dn fs fm mks0 fma0 mks1 fma1 := ⟨_, rfl⟩
                    rw [bnd_e hr_88] at hv_56
                    refine ro_calli (va_runV (As := [.int j, .int 6]) (rest := []) ⟨hx, hb, hml, hown, hts⟩ (c_TC_of l dC dI cI cC cG cZ tc g h s0 s1 pd cl t0 t1 st mk ma0 ma1 j (6 : Int32) nx tn gn ac dn fs fm mks0 pts0 ths0 rgs0 rgc0 fnd0 rdb0 wdb0 fma0 mks1 pts1 ths1 rgs1 rgc1 fnd1 rdb1 wdb1 fma1 hM0 hM1 r_88 hr_88) (cwV 2 hts gL_isJoint_X6_of rfl rfl rfl (by decide +kernel) ⟨Nat.le_of_ble_eq_true rfl, Nat.le_of_ble_eq_true rfl⟩) (ro_preV (hP.sub (ws' := [(tc, .inr (6, [.ref g, .ref h, .ref s0, .ref s1, .ref pd])), (g, .inr (1, [.ref cl, .ref t0, .ref t1, .int nx, .int tn])), (cl, .inr (0, [.ref st, .ref mk, .long gn, .long ac, .long dn])), (st, .inl (cI, 82, .inl fs)), (mk, .inl (cI, 82, .inl fm)), (t0, .inr (5, [.ref ma0, .int mks0, .int pts0, .int ths0, .int rgs0, .int rgc0, .int fnd0, .int rdb0, .int wdb0])), (ma0, .inl (cI, 8, .inl fma0)), (t1, .inr (5, [.ref ma1, .int mks1, .int pts1, .int ths1, .int rgs1, .int rgc1, .int fnd1, .int rdb1, .int wdb1])), (ma1, .inl (cI, 8, .inl fma1))]) [0, 1, 2, 3, 4, 5, 6, 7, 8] rfl) hK (ci := 6) (q0 := 0) rfl rfl) rfl rfl hl.1 rfl (lv_room (Nat.le_of_ble_eq_true rfl)) dL_isJoint_164 ⟨Nat.zero_le _, Nat.zero_le _⟩) hP hS (fun H locs hP hS => ?_)
                    refine lv_iconst (v := 1) hx hb dL_isJoint_167 (by decide) ?_
                    refine lv_icmp_eq (tgt := 186) hx hb dL_isJoint_168 (by decide) (fun c_89 => ?_) (fun c_89 => ?_)
                    · rw [if_pos c_89] at hv_56
                      refine lv_iconst (v := 1) hx hb dL_isJoint_186 (by decide) ?_
                      refine lv_goto (tgt := 191) hx hb dL_isJoint_187 (by decide) ?_
                      subst hv_56
                      exact hj191 _ _ _ hP hS (lv_sub hl [0, 1, 2, 3, 4, 5, 6] rfl)
                    · rw [if_neg c_89] at hv_56
                      refine lv_aload_n hx hb dL_isJoint_171 rfl (lv_at hl 4 rfl) ?_
                      refine lv_iload_n hx hb dL_isJoint_172 rfl (lv_at hl 5 rfl) ?_
                      refine lv_iconst (v := 4) hx hb dL_isJoint_173 (by decide) ?_
                      obtain ⟨r_90, hr_90⟩ : ∃ z, z = F_TC_of j (4 : Int32) tn gn ac dn fs fm mks0 fma0 mks1 fma1 := ⟨_, rfl⟩
                      rw [bnd_e hr_90] at hv_56
                      refine ro_calli (va_runV (As := [.int j, .int 4]) (rest := []) ⟨hx, hb, hml, hown, hts⟩ (c_TC_of l dC dI cI cC cG cZ tc g h s0 s1 pd cl t0 t1 st mk ma0 ma1 j (4 : Int32) nx tn gn ac dn fs fm mks0 pts0 ths0 rgs0 rgc0 fnd0 rdb0 wdb0 fma0 mks1 pts1 ths1 rgs1 rgc1 fnd1 rdb1 wdb1 fma1 hM0 hM1 r_90 hr_90) (cwV 2 hts gL_isJoint_X6_of rfl rfl rfl (by decide +kernel) ⟨Nat.le_of_ble_eq_true rfl, Nat.le_of_ble_eq_true rfl⟩) (ro_preV (hP.sub (ws' := [(tc, .inr (6, [.ref g, .ref h, .ref s0, .ref s1, .ref pd])), (g, .inr (1, [.ref cl, .ref t0, .ref t1, .int nx, .int tn])), (cl, .inr (0, [.ref st, .ref mk, .long gn, .long ac, .long dn])), (st, .inl (cI, 82, .inl fs)), (mk, .inl (cI, 82, .inl fm)), (t0, .inr (5, [.ref ma0, .int mks0, .int pts0, .int ths0, .int rgs0, .int rgc0, .int fnd0, .int rdb0, .int wdb0])), (ma0, .inl (cI, 8, .inl fma0)), (t1, .inr (5, [.ref ma1, .int mks1, .int pts1, .int ths1, .int rgs1, .int rgc1, .int fnd1, .int rdb1, .int wdb1])), (ma1, .inl (cI, 8, .inl fma1))]) [0, 1, 2, 3, 4, 5, 6, 7, 8] rfl) hK (ci := 6) (q0 := 0) rfl rfl) rfl rfl hl.1 rfl (lv_room (Nat.le_of_ble_eq_true rfl)) dL_isJoint_174 ⟨Nat.zero_le _, Nat.zero_le _⟩) hP hS (fun H locs hP hS => ?_)
                      refine lv_if_eq (tgt := 186) hx hb dL_isJoint_177 (by decide) (fun c_91 => ?_) (fun c_91 => ?_)
                      · rw [if_pos c_91] at hv_56
                        refine lv_iconst (v := 1) hx hb dL_isJoint_186 (by decide) ?_
                        refine lv_goto (tgt := 191) hx hb dL_isJoint_187 (by decide) ?_
                        subst hv_56
                        exact hj191 _ _ _ hP hS (lv_sub hl [0, 1, 2, 3, 4, 5, 6] rfl)
                      · rw [if_neg c_91] at hv_56
                        refine lv_iload hx hb dL_isJoint_180 (lv_at hl 0 rfl) ?_
                        refine lv_iconst (v := 3) hx hb dL_isJoint_182 (by decide) ?_
                        refine lv_icmp_ne (tgt := 190) hx hb dL_isJoint_183 (by decide) (fun c_92 => ?_) (fun c_92 => ?_)
                        · rw [if_neg c_92] at hv_56
                          refine lv_iconst (v := 0) hx hb dL_isJoint_190 (by decide) ?_
                          subst hv_56
                          exact hj191 _ _ _ hP hS (lv_sub hl [0, 1, 2, 3, 4, 5, 6] rfl)
                        · rw [if_pos c_92] at hv_56
                          refine lv_iconst (v := 1) hx hb dL_isJoint_186 (by decide) ?_
                          refine lv_goto (tgt := 191) hx hb dL_isJoint_187 (by decide) ?_
                          subst hv_56
                          exact hj191 _ _ _ hP hS (lv_sub hl [0, 1, 2, 3, 4, 5, 6] rfl)
                  · rw [if_neg c_87] at hv_56
                    refine lv_aload_n hx hb dL_isJoint_149 rfl (lv_at hl 4 rfl) ?_
                    refine lv_iload_n hx hb dL_isJoint_150 rfl (lv_at hl 5 rfl) ?_
                    refine lv_iconst (v := 5) hx hb dL_isJoint_151 (by decide) ?_
                    obtain ⟨r_93, hr_93⟩ : ∃ z, z = F_TC_of j (5 : Int32) tn gn ac dn fs fm mks0 fma0 mks1 fma1 := ⟨_, rfl⟩
                    rw [bnd_e hr_93] at hv_56
                    refine ro_calli (va_runV (As := [.int j, .int 5]) (rest := []) ⟨hx, hb, hml, hown, hts⟩ (c_TC_of l dC dI cI cC cG cZ tc g h s0 s1 pd cl t0 t1 st mk ma0 ma1 j (5 : Int32) nx tn gn ac dn fs fm mks0 pts0 ths0 rgs0 rgc0 fnd0 rdb0 wdb0 fma0 mks1 pts1 ths1 rgs1 rgc1 fnd1 rdb1 wdb1 fma1 hM0 hM1 r_93 hr_93) (cwV 2 hts gL_isJoint_X6_of rfl rfl rfl (by decide +kernel) ⟨Nat.le_of_ble_eq_true rfl, Nat.le_of_ble_eq_true rfl⟩) (ro_preV (hP.sub (ws' := [(tc, .inr (6, [.ref g, .ref h, .ref s0, .ref s1, .ref pd])), (g, .inr (1, [.ref cl, .ref t0, .ref t1, .int nx, .int tn])), (cl, .inr (0, [.ref st, .ref mk, .long gn, .long ac, .long dn])), (st, .inl (cI, 82, .inl fs)), (mk, .inl (cI, 82, .inl fm)), (t0, .inr (5, [.ref ma0, .int mks0, .int pts0, .int ths0, .int rgs0, .int rgc0, .int fnd0, .int rdb0, .int wdb0])), (ma0, .inl (cI, 8, .inl fma0)), (t1, .inr (5, [.ref ma1, .int mks1, .int pts1, .int ths1, .int rgs1, .int rgc1, .int fnd1, .int rdb1, .int wdb1])), (ma1, .inl (cI, 8, .inl fma1))]) [0, 1, 2, 3, 4, 5, 6, 7, 8] rfl) hK (ci := 6) (q0 := 0) rfl rfl) rfl rfl hl.1 rfl (lv_room (Nat.le_of_ble_eq_true rfl)) dL_isJoint_152 ⟨Nat.zero_le _, Nat.zero_le _⟩) hP hS (fun H locs hP hS => ?_)
                    refine lv_bipush (v := (-6)) hx hb dL_isJoint_155 (by decide) ?_
                    refine lv_icmp_ne (tgt := 190) hx hb dL_isJoint_157 (by decide) (fun c_94 => ?_) (fun c_94 => ?_)
                    · rw [if_neg c_94] at hv_56
                      refine lv_iconst (v := 0) hx hb dL_isJoint_190 (by decide) ?_
                      subst hv_56
                      exact hj191 _ _ _ hP hS (lv_sub hl [0, 1, 2, 3, 4, 5, 6] rfl)
                    · rw [if_pos c_94] at hv_56
                      refine lv_aload_n hx hb dL_isJoint_160 rfl (lv_at hl 4 rfl) ?_
                      refine lv_iload_n hx hb dL_isJoint_161 rfl (lv_at hl 5 rfl) ?_
                      refine lv_bipush (v := 6) hx hb dL_isJoint_162 (by decide) ?_
                      obtain ⟨r_95, hr_95⟩ : ∃ z, z = F_TC_of j (6 : Int32) tn gn ac dn fs fm mks0 fma0 mks1 fma1 := ⟨_, rfl⟩
                      rw [bnd_e hr_95] at hv_56
                      refine ro_calli (va_runV (As := [.int j, .int 6]) (rest := []) ⟨hx, hb, hml, hown, hts⟩ (c_TC_of l dC dI cI cC cG cZ tc g h s0 s1 pd cl t0 t1 st mk ma0 ma1 j (6 : Int32) nx tn gn ac dn fs fm mks0 pts0 ths0 rgs0 rgc0 fnd0 rdb0 wdb0 fma0 mks1 pts1 ths1 rgs1 rgc1 fnd1 rdb1 wdb1 fma1 hM0 hM1 r_95 hr_95) (cwV 2 hts gL_isJoint_X6_of rfl rfl rfl (by decide +kernel) ⟨Nat.le_of_ble_eq_true rfl, Nat.le_of_ble_eq_true rfl⟩) (ro_preV (hP.sub (ws' := [(tc, .inr (6, [.ref g, .ref h, .ref s0, .ref s1, .ref pd])), (g, .inr (1, [.ref cl, .ref t0, .ref t1, .int nx, .int tn])), (cl, .inr (0, [.ref st, .ref mk, .long gn, .long ac, .long dn])), (st, .inl (cI, 82, .inl fs)), (mk, .inl (cI, 82, .inl fm)), (t0, .inr (5, [.ref ma0, .int mks0, .int pts0, .int ths0, .int rgs0, .int rgc0, .int fnd0, .int rdb0, .int wdb0])), (ma0, .inl (cI, 8, .inl fma0)), (t1, .inr (5, [.ref ma1, .int mks1, .int pts1, .int ths1, .int rgs1, .int rgc1, .int fnd1, .int rdb1, .int wdb1])), (ma1, .inl (cI, 8, .inl fma1))]) [0, 1, 2, 3, 4, 5, 6, 7, 8] rfl) hK (ci := 6) (q0 := 0) rfl rfl) rfl rfl hl.1 rfl (lv_room (Nat.le_of_ble_eq_true rfl)) dL_isJoint_164 ⟨Nat.zero_le _, Nat.zero_le _⟩) hP hS (fun H locs hP hS => ?_)
                      refine lv_iconst (v := 1) hx hb dL_isJoint_167 (by decide) ?_
                      refine lv_icmp_eq (tgt := 186) hx hb dL_isJoint_168 (by decide) (fun c_96 => ?_) (fun c_96 => ?_)
                      · rw [if_pos c_96] at hv_56
                        refine lv_iconst (v := 1) hx hb dL_isJoint_186 (by decide) ?_
                        refine lv_goto (tgt := 191) hx hb dL_isJoint_187 (by decide) ?_
                        subst hv_56
                        exact hj191 _ _ _ hP hS (lv_sub hl [0, 1, 2, 3, 4, 5, 6] rfl)
                      · rw [if_neg c_96] at hv_56
                        refine lv_aload_n hx hb dL_isJoint_171 rfl (lv_at hl 4 rfl) ?_
                        refine lv_iload_n hx hb dL_isJoint_172 rfl (lv_at hl 5 rfl) ?_
                        refine lv_iconst (v := 4) hx hb dL_isJoint_173 (by decide) ?_
                        obtain ⟨r_97, hr_97⟩ : ∃ z, z = F_TC_of j (4 : Int32) tn gn ac dn fs fm mks0 fma0 mks1 fma1 := ⟨_, rfl⟩
                        rw [bnd_e hr_97] at hv_56
                        refine ro_calli (va_runV (As := [.int j, .int 4]) (rest := []) ⟨hx, hb, hml, hown, hts⟩ (c_TC_of l dC dI cI cC cG cZ tc g h s0 s1 pd cl t0 t1 st mk ma0 ma1 j (4 : Int32) nx tn gn ac dn fs fm mks0 pts0 ths0 rgs0 rgc0 fnd0 rdb0 wdb0 fma0 mks1 pts1 ths1 rgs1 rgc1 fnd1 rdb1 wdb1 fma1 hM0 hM1 r_97 hr_97) (cwV 2 hts gL_isJoint_X6_of rfl rfl rfl (by decide +kernel) ⟨Nat.le_of_ble_eq_true rfl, Nat.le_of_ble_eq_true rfl⟩) (ro_preV (hP.sub (ws' := [(tc, .inr (6, [.ref g, .ref h, .ref s0, .ref s1, .ref pd])), (g, .inr (1, [.ref cl, .ref t0, .ref t1, .int nx, .int tn])), (cl, .inr (0, [.ref st, .ref mk, .long gn, .long ac, .long dn])), (st, .inl (cI, 82, .inl fs)), (mk, .inl (cI, 82, .inl fm)), (t0, .inr (5, [.ref ma0, .int mks0, .int pts0, .int ths0, .int rgs0, .int rgc0, .int fnd0, .int rdb0, .int wdb0])), (ma0, .inl (cI, 8, .inl fma0)), (t1, .inr (5, [.ref ma1, .int mks1, .int pts1, .int ths1, .int rgs1, .int rgc1, .int fnd1, .int rdb1, .int wdb1])), (ma1, .inl (cI, 8, .inl fma1))]) [0, 1, 2, 3, 4, 5, 6, 7, 8] rfl) hK (ci := 6) (q0 := 0) rfl rfl) rfl rfl hl.1 rfl (lv_room (Nat.le_of_ble_eq_true rfl)) dL_isJoint_174 ⟨Nat.zero_le _, Nat.zero_le _⟩) hP hS (fun H locs hP hS => ?_)
                        refine lv_if_eq (tgt := 186) hx hb dL_isJoint_177 (by decide) (fun c_98 => ?_) (fun c_98 => ?_)
                        · rw [if_pos c_98] at hv_56
                          refine lv_iconst (v := 1) hx hb dL_isJoint_186 (by decide) ?_
                          refine lv_goto (tgt := 191) hx hb dL_isJoint_187 (by decide) ?_
                          subst hv_56
                          exact hj191 _ _ _ hP hS (lv_sub hl [0, 1, 2, 3, 4, 5, 6] rfl)
                        · rw [if_neg c_98] at hv_56
                          refine lv_iload hx hb dL_isJoint_180 (lv_at hl 0 rfl) ?_
                          refine lv_iconst (v := 3) hx hb dL_isJoint_182 (by decide) ?_
                          refine lv_icmp_ne (tgt := 190) hx hb dL_isJoint_183 (by decide) (fun c_99 => ?_) (fun c_99 => ?_)
                          · rw [if_neg c_99] at hv_56
                            refine lv_iconst (v := 0) hx hb dL_isJoint_190 (by decide) ?_
                            subst hv_56
                            exact hj191 _ _ _ hP hS (lv_sub hl [0, 1, 2, 3, 4, 5, 6] rfl)
                          · rw [if_pos c_99] at hv_56
                            refine lv_iconst (v := 1) hx hb dL_isJoint_186 (by decide) ?_
                            refine lv_goto (tgt := 191) hx hb dL_isJoint_187 (by decide) ?_
                            subst hv_56
                            exact hj191 _ _ _ hP hS (lv_sub hl [0, 1, 2, 3, 4, 5, 6] rfl)
                · rw [if_neg c_86] at hv_56
                  refine lv_aload_n hx hb dL_isJoint_123 rfl (lv_at hl 4 rfl) ?_
                  refine lv_iload_n hx hb dL_isJoint_124 rfl (lv_at hl 5 rfl) ?_
                  refine lv_iconst (v := 4) hx hb dL_isJoint_125 (by decide) ?_
                  obtain ⟨r_100, hr_100⟩ : ∃ z, z = F_TC_of j (4 : Int32) tn gn ac dn fs fm mks0 fma0 mks1 fma1 := ⟨_, rfl⟩
                  rw [bnd_e hr_100] at hv_56
                  refine ro_calli (va_runV (As := [.int j, .int 4]) (rest := []) ⟨hx, hb, hml, hown, hts⟩ (c_TC_of l dC dI cI cC cG cZ tc g h s0 s1 pd cl t0 t1 st mk ma0 ma1 j (4 : Int32) nx tn gn ac dn fs fm mks0 pts0 ths0 rgs0 rgc0 fnd0 rdb0 wdb0 fma0 mks1 pts1 ths1 rgs1 rgc1 fnd1 rdb1 wdb1 fma1 hM0 hM1 r_100 hr_100) (cwV 2 hts gL_isJoint_X6_of rfl rfl rfl (by decide +kernel) ⟨Nat.le_of_ble_eq_true rfl, Nat.le_of_ble_eq_true rfl⟩) (ro_preV (hP.sub (ws' := [(tc, .inr (6, [.ref g, .ref h, .ref s0, .ref s1, .ref pd])), (g, .inr (1, [.ref cl, .ref t0, .ref t1, .int nx, .int tn])), (cl, .inr (0, [.ref st, .ref mk, .long gn, .long ac, .long dn])), (st, .inl (cI, 82, .inl fs)), (mk, .inl (cI, 82, .inl fm)), (t0, .inr (5, [.ref ma0, .int mks0, .int pts0, .int ths0, .int rgs0, .int rgc0, .int fnd0, .int rdb0, .int wdb0])), (ma0, .inl (cI, 8, .inl fma0)), (t1, .inr (5, [.ref ma1, .int mks1, .int pts1, .int ths1, .int rgs1, .int rgc1, .int fnd1, .int rdb1, .int wdb1])), (ma1, .inl (cI, 8, .inl fma1))]) [0, 1, 2, 3, 4, 5, 6, 7, 8] rfl) hK (ci := 6) (q0 := 0) rfl rfl) rfl rfl hl.1 rfl (lv_room (Nat.le_of_ble_eq_true rfl)) dL_isJoint_126 ⟨Nat.zero_le _, Nat.zero_le _⟩) hP hS (fun H locs hP hS => ?_)
                  refine lv_if_ne (tgt := 190) hx hb dL_isJoint_129 (by decide) (fun c_101 => ?_) (fun c_101 => ?_)
                  · rw [if_neg c_101] at hv_56
                    refine lv_iconst (v := 0) hx hb dL_isJoint_190 (by decide) ?_
                    subst hv_56
                    exact hj191 _ _ _ hP hS (lv_sub hl [0, 1, 2, 3, 4, 5, 6] rfl)
                  · rw [if_pos c_101] at hv_56
                    refine lv_aload_n hx hb dL_isJoint_132 rfl (lv_at hl 4 rfl) ?_
                    refine lv_iload_n hx hb dL_isJoint_133 rfl (lv_at hl 5 rfl) ?_
                    refine lv_iconst (v := 5) hx hb dL_isJoint_134 (by decide) ?_
                    obtain ⟨r_102, hr_102⟩ : ∃ z, z = F_TC_of j (5 : Int32) tn gn ac dn fs fm mks0 fma0 mks1 fma1 := ⟨_, rfl⟩
                    rw [bnd_e hr_102] at hv_56
                    refine ro_calli (va_runV (As := [.int j, .int 5]) (rest := []) ⟨hx, hb, hml, hown, hts⟩ (c_TC_of l dC dI cI cC cG cZ tc g h s0 s1 pd cl t0 t1 st mk ma0 ma1 j (5 : Int32) nx tn gn ac dn fs fm mks0 pts0 ths0 rgs0 rgc0 fnd0 rdb0 wdb0 fma0 mks1 pts1 ths1 rgs1 rgc1 fnd1 rdb1 wdb1 fma1 hM0 hM1 r_102 hr_102) (cwV 2 hts gL_isJoint_X6_of rfl rfl rfl (by decide +kernel) ⟨Nat.le_of_ble_eq_true rfl, Nat.le_of_ble_eq_true rfl⟩) (ro_preV (hP.sub (ws' := [(tc, .inr (6, [.ref g, .ref h, .ref s0, .ref s1, .ref pd])), (g, .inr (1, [.ref cl, .ref t0, .ref t1, .int nx, .int tn])), (cl, .inr (0, [.ref st, .ref mk, .long gn, .long ac, .long dn])), (st, .inl (cI, 82, .inl fs)), (mk, .inl (cI, 82, .inl fm)), (t0, .inr (5, [.ref ma0, .int mks0, .int pts0, .int ths0, .int rgs0, .int rgc0, .int fnd0, .int rdb0, .int wdb0])), (ma0, .inl (cI, 8, .inl fma0)), (t1, .inr (5, [.ref ma1, .int mks1, .int pts1, .int ths1, .int rgs1, .int rgc1, .int fnd1, .int rdb1, .int wdb1])), (ma1, .inl (cI, 8, .inl fma1))]) [0, 1, 2, 3, 4, 5, 6, 7, 8] rfl) hK (ci := 6) (q0 := 0) rfl rfl) rfl rfl hl.1 rfl (lv_room (Nat.le_of_ble_eq_true rfl)) dL_isJoint_135 ⟨Nat.zero_le _, Nat.zero_le _⟩) hP hS (fun H locs hP hS => ?_)
                    refine lv_bipush (v := (-6)) hx hb dL_isJoint_138 (by decide) ?_
                    refine lv_icmp_ne (tgt := 190) hx hb dL_isJoint_140 (by decide) (fun c_103 => ?_) (fun c_103 => ?_)
                    · rw [if_neg c_103] at hv_56
                      refine lv_iconst (v := 0) hx hb dL_isJoint_190 (by decide) ?_
                      subst hv_56
                      exact hj191 _ _ _ hP hS (lv_sub hl [0, 1, 2, 3, 4, 5, 6] rfl)
                    · rw [if_pos c_103] at hv_56
                      refine lv_iload hx hb dL_isJoint_143 (lv_at hl 0 rfl) ?_
                      refine lv_iconst (v := 1) hx hb dL_isJoint_145 (by decide) ?_
                      refine lv_icmp_gt (tgt := 160) hx hb dL_isJoint_146 (by decide) (fun c_104 => ?_) (fun c_104 => ?_)
                      · rw [if_pos c_104] at hv_56
                        refine lv_aload_n hx hb dL_isJoint_160 rfl (lv_at hl 4 rfl) ?_
                        refine lv_iload_n hx hb dL_isJoint_161 rfl (lv_at hl 5 rfl) ?_
                        refine lv_bipush (v := 6) hx hb dL_isJoint_162 (by decide) ?_
                        obtain ⟨r_105, hr_105⟩ : ∃ z, z = F_TC_of j (6 : Int32) tn gn ac dn fs fm mks0 fma0 mks1 fma1 := ⟨_, rfl⟩
                        rw [bnd_e hr_105] at hv_56
                        refine ro_calli (va_runV (As := [.int j, .int 6]) (rest := []) ⟨hx, hb, hml, hown, hts⟩ (c_TC_of l dC dI cI cC cG cZ tc g h s0 s1 pd cl t0 t1 st mk ma0 ma1 j (6 : Int32) nx tn gn ac dn fs fm mks0 pts0 ths0 rgs0 rgc0 fnd0 rdb0 wdb0 fma0 mks1 pts1 ths1 rgs1 rgc1 fnd1 rdb1 wdb1 fma1 hM0 hM1 r_105 hr_105) (cwV 2 hts gL_isJoint_X6_of rfl rfl rfl (by decide +kernel) ⟨Nat.le_of_ble_eq_true rfl, Nat.le_of_ble_eq_true rfl⟩) (ro_preV (hP.sub (ws' := [(tc, .inr (6, [.ref g, .ref h, .ref s0, .ref s1, .ref pd])), (g, .inr (1, [.ref cl, .ref t0, .ref t1, .int nx, .int tn])), (cl, .inr (0, [.ref st, .ref mk, .long gn, .long ac, .long dn])), (st, .inl (cI, 82, .inl fs)), (mk, .inl (cI, 82, .inl fm)), (t0, .inr (5, [.ref ma0, .int mks0, .int pts0, .int ths0, .int rgs0, .int rgc0, .int fnd0, .int rdb0, .int wdb0])), (ma0, .inl (cI, 8, .inl fma0)), (t1, .inr (5, [.ref ma1, .int mks1, .int pts1, .int ths1, .int rgs1, .int rgc1, .int fnd1, .int rdb1, .int wdb1])), (ma1, .inl (cI, 8, .inl fma1))]) [0, 1, 2, 3, 4, 5, 6, 7, 8] rfl) hK (ci := 6) (q0 := 0) rfl rfl) rfl rfl hl.1 rfl (lv_room (Nat.le_of_ble_eq_true rfl)) dL_isJoint_164 ⟨Nat.zero_le _, Nat.zero_le _⟩) hP hS (fun H locs hP hS => ?_)
                        refine lv_iconst (v := 1) hx hb dL_isJoint_167 (by decide) ?_
                        refine lv_icmp_eq (tgt := 186) hx hb dL_isJoint_168 (by decide) (fun c_106 => ?_) (fun c_106 => ?_)
                        · rw [if_pos c_106] at hv_56
                          refine lv_iconst (v := 1) hx hb dL_isJoint_186 (by decide) ?_
                          refine lv_goto (tgt := 191) hx hb dL_isJoint_187 (by decide) ?_
                          subst hv_56
                          exact hj191 _ _ _ hP hS (lv_sub hl [0, 1, 2, 3, 4, 5, 6] rfl)
                        · rw [if_neg c_106] at hv_56
                          refine lv_aload_n hx hb dL_isJoint_171 rfl (lv_at hl 4 rfl) ?_
                          refine lv_iload_n hx hb dL_isJoint_172 rfl (lv_at hl 5 rfl) ?_
                          refine lv_iconst (v := 4) hx hb dL_isJoint_173 (by decide) ?_
                          obtain ⟨r_107, hr_107⟩ : ∃ z, z = F_TC_of j (4 : Int32) tn gn ac dn fs fm mks0 fma0 mks1 fma1 := ⟨_, rfl⟩
                          rw [bnd_e hr_107] at hv_56
                          refine ro_calli (va_runV (As := [.int j, .int 4]) (rest := []) ⟨hx, hb, hml, hown, hts⟩ (c_TC_of l dC dI cI cC cG cZ tc g h s0 s1 pd cl t0 t1 st mk ma0 ma1 j (4 : Int32) nx tn gn ac dn fs fm mks0 pts0 ths0 rgs0 rgc0 fnd0 rdb0 wdb0 fma0 mks1 pts1 ths1 rgs1 rgc1 fnd1 rdb1 wdb1 fma1 hM0 hM1 r_107 hr_107) (cwV 2 hts gL_isJoint_X6_of rfl rfl rfl (by decide +kernel) ⟨Nat.le_of_ble_eq_true rfl, Nat.le_of_ble_eq_true rfl⟩) (ro_preV (hP.sub (ws' := [(tc, .inr (6, [.ref g, .ref h, .ref s0, .ref s1, .ref pd])), (g, .inr (1, [.ref cl, .ref t0, .ref t1, .int nx, .int tn])), (cl, .inr (0, [.ref st, .ref mk, .long gn, .long ac, .long dn])), (st, .inl (cI, 82, .inl fs)), (mk, .inl (cI, 82, .inl fm)), (t0, .inr (5, [.ref ma0, .int mks0, .int pts0, .int ths0, .int rgs0, .int rgc0, .int fnd0, .int rdb0, .int wdb0])), (ma0, .inl (cI, 8, .inl fma0)), (t1, .inr (5, [.ref ma1, .int mks1, .int pts1, .int ths1, .int rgs1, .int rgc1, .int fnd1, .int rdb1, .int wdb1])), (ma1, .inl (cI, 8, .inl fma1))]) [0, 1, 2, 3, 4, 5, 6, 7, 8] rfl) hK (ci := 6) (q0 := 0) rfl rfl) rfl rfl hl.1 rfl (lv_room (Nat.le_of_ble_eq_true rfl)) dL_isJoint_174 ⟨Nat.zero_le _, Nat.zero_le _⟩) hP hS (fun H locs hP hS => ?_)
                          refine lv_if_eq (tgt := 186) hx hb dL_isJoint_177 (by decide) (fun c_108 => ?_) (fun c_108 => ?_)
                          · rw [if_pos c_108] at hv_56
                            refine lv_iconst (v := 1) hx hb dL_isJoint_186 (by decide) ?_
                            refine lv_goto (tgt := 191) hx hb dL_isJoint_187 (by decide) ?_
                            subst hv_56
                            exact hj191 _ _ _ hP hS (lv_sub hl [0, 1, 2, 3, 4, 5, 6] rfl)
                          · rw [if_neg c_108] at hv_56
                            refine lv_iload hx hb dL_isJoint_180 (lv_at hl 0 rfl) ?_
                            refine lv_iconst (v := 3) hx hb dL_isJoint_182 (by decide) ?_
                            refine lv_icmp_ne (tgt := 190) hx hb dL_isJoint_183 (by decide) (fun c_109 => ?_) (fun c_109 => ?_)
                            · rw [if_neg c_109] at hv_56
                              refine lv_iconst (v := 0) hx hb dL_isJoint_190 (by decide) ?_
                              subst hv_56
                              exact hj191 _ _ _ hP hS (lv_sub hl [0, 1, 2, 3, 4, 5, 6] rfl)
                            · rw [if_pos c_109] at hv_56
                              refine lv_iconst (v := 1) hx hb dL_isJoint_186 (by decide) ?_
                              refine lv_goto (tgt := 191) hx hb dL_isJoint_187 (by decide) ?_
                              subst hv_56
                              exact hj191 _ _ _ hP hS (lv_sub hl [0, 1, 2, 3, 4, 5, 6] rfl)
                      · rw [if_neg c_104] at hv_56
                        refine lv_aload_n hx hb dL_isJoint_149 rfl (lv_at hl 4 rfl) ?_
                        refine lv_iload_n hx hb dL_isJoint_150 rfl (lv_at hl 5 rfl) ?_
                        refine lv_iconst (v := 5) hx hb dL_isJoint_151 (by decide) ?_
                        obtain ⟨r_110, hr_110⟩ : ∃ z, z = F_TC_of j (5 : Int32) tn gn ac dn fs fm mks0 fma0 mks1 fma1 := ⟨_, rfl⟩
                        rw [bnd_e hr_110] at hv_56
                        refine ro_calli (va_runV (As := [.int j, .int 5]) (rest := []) ⟨hx, hb, hml, hown, hts⟩ (c_TC_of l dC dI cI cC cG cZ tc g h s0 s1 pd cl t0 t1 st mk ma0 ma1 j (5 : Int32) nx tn gn ac dn fs fm mks0 pts0 ths0 rgs0 rgc0 fnd0 rdb0 wdb0 fma0 mks1 pts1 ths1 rgs1 rgc1 fnd1 rdb1 wdb1 fma1 hM0 hM1 r_110 hr_110) (cwV 2 hts gL_isJoint_X6_of rfl rfl rfl (by decide +kernel) ⟨Nat.le_of_ble_eq_true rfl, Nat.le_of_ble_eq_true rfl⟩) (ro_preV (hP.sub (ws' := [(tc, .inr (6, [.ref g, .ref h, .ref s0, .ref s1, .ref pd])), (g, .inr (1, [.ref cl, .ref t0, .ref t1, .int nx, .int tn])), (cl, .inr (0, [.ref st, .ref mk, .long gn, .long ac, .long dn])), (st, .inl (cI, 82, .inl fs)), (mk, .inl (cI, 82, .inl fm)), (t0, .inr (5, [.ref ma0, .int mks0, .int pts0, .int ths0, .int rgs0, .int rgc0, .int fnd0, .int rdb0, .int wdb0])), (ma0, .inl (cI, 8, .inl fma0)), (t1, .inr (5, [.ref ma1, .int mks1, .int pts1, .int ths1, .int rgs1, .int rgc1, .int fnd1, .int rdb1, .int wdb1])), (ma1, .inl (cI, 8, .inl fma1))]) [0, 1, 2, 3, 4, 5, 6, 7, 8] rfl) hK (ci := 6) (q0 := 0) rfl rfl) rfl rfl hl.1 rfl (lv_room (Nat.le_of_ble_eq_true rfl)) dL_isJoint_152 ⟨Nat.zero_le _, Nat.zero_le _⟩) hP hS (fun H locs hP hS => ?_)
                        refine lv_bipush (v := (-6)) hx hb dL_isJoint_155 (by decide) ?_
                        refine lv_icmp_ne (tgt := 190) hx hb dL_isJoint_157 (by decide) (fun c_111 => ?_) (fun c_111 => ?_)
                        · rw [if_neg c_111] at hv_56
                          refine lv_iconst (v := 0) hx hb dL_isJoint_190 (by decide) ?_
                          subst hv_56
                          exact hj191 _ _ _ hP hS (lv_sub hl [0, 1, 2, 3, 4, 5, 6] rfl)
                        · rw [if_pos c_111] at hv_56
                          refine lv_aload_n hx hb dL_isJoint_160 rfl (lv_at hl 4 rfl) ?_
                          refine lv_iload_n hx hb dL_isJoint_161 rfl (lv_at hl 5 rfl) ?_
                          refine lv_bipush (v := 6) hx hb dL_isJoint_162 (by decide) ?_
                          obtain ⟨r_112, hr_112⟩ : ∃ z, z = F_TC_of j (6 : Int32) tn gn ac dn fs fm mks0 fma0 mks1 fma1 := ⟨_, rfl⟩
                          rw [bnd_e hr_112] at hv_56
                          refine ro_calli (va_runV (As := [.int j, .int 6]) (rest := []) ⟨hx, hb, hml, hown, hts⟩ (c_TC_of l dC dI cI cC cG cZ tc g h s0 s1 pd cl t0 t1 st mk ma0 ma1 j (6 : Int32) nx tn gn ac dn fs fm mks0 pts0 ths0 rgs0 rgc0 fnd0 rdb0 wdb0 fma0 mks1 pts1 ths1 rgs1 rgc1 fnd1 rdb1 wdb1 fma1 hM0 hM1 r_112 hr_112) (cwV 2 hts gL_isJoint_X6_of rfl rfl rfl (by decide +kernel) ⟨Nat.le_of_ble_eq_true rfl, Nat.le_of_ble_eq_true rfl⟩) (ro_preV (hP.sub (ws' := [(tc, .inr (6, [.ref g, .ref h, .ref s0, .ref s1, .ref pd])), (g, .inr (1, [.ref cl, .ref t0, .ref t1, .int nx, .int tn])), (cl, .inr (0, [.ref st, .ref mk, .long gn, .long ac, .long dn])), (st, .inl (cI, 82, .inl fs)), (mk, .inl (cI, 82, .inl fm)), (t0, .inr (5, [.ref ma0, .int mks0, .int pts0, .int ths0, .int rgs0, .int rgc0, .int fnd0, .int rdb0, .int wdb0])), (ma0, .inl (cI, 8, .inl fma0)), (t1, .inr (5, [.ref ma1, .int mks1, .int pts1, .int ths1, .int rgs1, .int rgc1, .int fnd1, .int rdb1, .int wdb1])), (ma1, .inl (cI, 8, .inl fma1))]) [0, 1, 2, 3, 4, 5, 6, 7, 8] rfl) hK (ci := 6) (q0 := 0) rfl rfl) rfl rfl hl.1 rfl (lv_room (Nat.le_of_ble_eq_true rfl)) dL_isJoint_164 ⟨Nat.zero_le _, Nat.zero_le _⟩) hP hS (fun H locs hP hS => ?_)
                          refine lv_iconst (v := 1) hx hb dL_isJoint_167 (by decide) ?_
                          refine lv_icmp_eq (tgt := 186) hx hb dL_isJoint_168 (by decide) (fun c_113 => ?_) (fun c_113 => ?_)
                          · rw [if_pos c_113] at hv_56
                            refine lv_iconst (v := 1) hx hb dL_isJoint_186 (by decide) ?_
                            refine lv_goto (tgt := 191) hx hb dL_isJoint_187 (by decide) ?_
                            subst hv_56
                            exact hj191 _ _ _ hP hS (lv_sub hl [0, 1, 2, 3, 4, 5, 6] rfl)
                          · rw [if_neg c_113] at hv_56
                            refine lv_aload_n hx hb dL_isJoint_171 rfl (lv_at hl 4 rfl) ?_
                            refine lv_iload_n hx hb dL_isJoint_172 rfl (lv_at hl 5 rfl) ?_
                            refine lv_iconst (v := 4) hx hb dL_isJoint_173 (by decide) ?_
                            obtain ⟨r_114, hr_114⟩ : ∃ z, z = F_TC_of j (4 : Int32) tn gn ac dn fs fm mks0 fma0 mks1 fma1 := ⟨_, rfl⟩
                            rw [bnd_e hr_114] at hv_56
                            refine ro_calli (va_runV (As := [.int j, .int 4]) (rest := []) ⟨hx, hb, hml, hown, hts⟩ (c_TC_of l dC dI cI cC cG cZ tc g h s0 s1 pd cl t0 t1 st mk ma0 ma1 j (4 : Int32) nx tn gn ac dn fs fm mks0 pts0 ths0 rgs0 rgc0 fnd0 rdb0 wdb0 fma0 mks1 pts1 ths1 rgs1 rgc1 fnd1 rdb1 wdb1 fma1 hM0 hM1 r_114 hr_114) (cwV 2 hts gL_isJoint_X6_of rfl rfl rfl (by decide +kernel) ⟨Nat.le_of_ble_eq_true rfl, Nat.le_of_ble_eq_true rfl⟩) (ro_preV (hP.sub (ws' := [(tc, .inr (6, [.ref g, .ref h, .ref s0, .ref s1, .ref pd])), (g, .inr (1, [.ref cl, .ref t0, .ref t1, .int nx, .int tn])), (cl, .inr (0, [.ref st, .ref mk, .long gn, .long ac, .long dn])), (st, .inl (cI, 82, .inl fs)), (mk, .inl (cI, 82, .inl fm)), (t0, .inr (5, [.ref ma0, .int mks0, .int pts0, .int ths0, .int rgs0, .int rgc0, .int fnd0, .int rdb0, .int wdb0])), (ma0, .inl (cI, 8, .inl fma0)), (t1, .inr (5, [.ref ma1, .int mks1, .int pts1, .int ths1, .int rgs1, .int rgc1, .int fnd1, .int rdb1, .int wdb1])), (ma1, .inl (cI, 8, .inl fma1))]) [0, 1, 2, 3, 4, 5, 6, 7, 8] rfl) hK (ci := 6) (q0 := 0) rfl rfl) rfl rfl hl.1 rfl (lv_room (Nat.le_of_ble_eq_true rfl)) dL_isJoint_174 ⟨Nat.zero_le _, Nat.zero_le _⟩) hP hS (fun H locs hP hS => ?_)
                            refine lv_if_eq (tgt := 186) hx hb dL_isJoint_177 (by decide) (fun c_115 => ?_) (fun c_115 => ?_)
                            · rw [if_pos c_115] at hv_56
                              refine lv_iconst (v := 1) hx hb dL_isJoint_186 (by decide) ?_
                              refine lv_goto (tgt := 191) hx hb dL_isJoint_187 (by decide) ?_
                              subst hv_56
                              exact hj191 _ _ _ hP hS (lv_sub hl [0, 1, 2, 3, 4, 5, 6] rfl)
                            · rw [if_neg c_115] at hv_56
                              refine lv_iload hx hb dL_isJoint_180 (lv_at hl 0 rfl) ?_
                              refine lv_iconst (v := 3) hx hb dL_isJoint_182 (by decide) ?_
                              refine lv_icmp_ne (tgt := 190) hx hb dL_isJoint_183 (by decide) (fun c_116 => ?_) (fun c_116 => ?_)
                              · rw [if_neg c_116] at hv_56
                                refine lv_iconst (v := 0) hx hb dL_isJoint_190 (by decide) ?_
                                subst hv_56
                                exact hj191 _ _ _ hP hS (lv_sub hl [0, 1, 2, 3, 4, 5, 6] rfl)
                              · rw [if_pos c_116] at hv_56
                                refine lv_iconst (v := 1) hx hb dL_isJoint_186 (by decide) ?_
                                refine lv_goto (tgt := 191) hx hb dL_isJoint_187 (by decide) ?_
                                subst hv_56
                                exact hj191 _ _ _ hP hS (lv_sub hl [0, 1, 2, 3, 4, 5, 6] rfl)
            refine lv_iload hx hb dL_isJoint_98 (lv_at hl 1 rfl) ?_
            refine lv_if_ne (tgt := 114) hx hb dL_isJoint_100 (by decide) (fun c_117 => ?_) (fun c_117 => ?_)
            · rw [if_neg c_117] at hv_84
              refine lv_iconst (v := 0) hx hb dL_isJoint_114 (by decide) ?_
              subst hv_84
              exact hj115 _ _ _ hP hS (lv_sub hl [0, 1, 2, 3, 4, 5, 6] rfl)
            · rw [if_pos c_117] at hv_84
              refine lv_iload hx hb dL_isJoint_103 (lv_at hl 0 rfl) ?_
              refine lv_iconst (v := 2) hx hb dL_isJoint_105 (by decide) ?_
              refine lv_irem hx hb dL_isJoint_106 (by decide) ?_
              refine lv_if_ne (tgt := 114) hx hb dL_isJoint_107 (by decide) (fun c_118 => ?_) (fun c_118 => ?_)
              · rw [if_neg c_118] at hv_84
                refine lv_iconst (v := 0) hx hb dL_isJoint_114 (by decide) ?_
                subst hv_84
                exact hj115 _ _ _ hP hS (lv_sub hl [0, 1, 2, 3, 4, 5, 6] rfl)
              · rw [if_pos c_118] at hv_84
                refine lv_iconst (v := 1) hx hb dL_isJoint_110 (by decide) ?_
                refine lv_goto (tgt := 115) hx hb dL_isJoint_111 (by decide) ?_
                subst hv_84
                exact hj115 _ _ _ hP hS (lv_sub hl [0, 1, 2, 3, 4, 5, 6] rfl)
        refine lv_iload hx hb dL_isJoint_78 (lv_at hl 1 rfl) ?_
        refine lv_if_eq (tgt := 87) hx hb dL_isJoint_80 (by decide) (fun c_119 => ?_) (fun c_119 => ?_)
        · rw [if_pos c_119] at hv_79
          refine lv_iconst (v := 0) hx hb dL_isJoint_87 (by decide) ?_
          subst hv_79
          exact hj88 _ _ _ hP hS (lv_sub hl [0, 1, 2, 3, 4, 5, 6] rfl)
        · rw [if_neg c_119] at hv_79
          refine lv_iconst (v := 1) hx hb dL_isJoint_83 (by decide) ?_
          refine lv_goto (tgt := 88) hx hb dL_isJoint_84 (by decide) ?_
          subst hv_79
          exact hj88 _ _ _ hP hS (lv_sub hl [0, 1, 2, 3, 4, 5, 6] rfl)
    refine lv_iload_n hx hb dL_isJoint_53 rfl (lv_at hl 5 rfl) ?_
    refine lv_bipush (v := 42) hx hb dL_isJoint_54 (by decide) ?_
    refine lv_icmp_ge (tgt := 65) hx hb dL_isJoint_56 (by decide) (fun c_120 => ?_) (fun c_120 => ?_)
    · rw [if_pos c_120] at hv_75
      refine lv_iload_n hx hb dL_isJoint_65 rfl (lv_at hl 3 rfl) ?_
      refine lv_bipush (v := 8) hx hb dL_isJoint_66 (by decide) ?_
      refine lv_iadd hx hb dL_isJoint_68 ?_
      subst hv_75
      exact hj69 _ _ _ hP hS (lv_sub hl [0, 1, 2, 3, 4, 5, 6] rfl)
    · rw [if_neg c_120] at hv_75
      refine lv_iload_n hx hb dL_isJoint_59 rfl (lv_at hl 3 rfl) ?_
      refine lv_iconst (v := 1) hx hb dL_isJoint_60 (by decide) ?_
      refine lv_iadd hx hb dL_isJoint_61 ?_
      refine lv_goto (tgt := 69) hx hb dL_isJoint_62 (by decide) ?_
      subst hv_75
      exact hj69 _ _ _ hP hS (lv_sub hl [0, 1, 2, 3, 4, 5, 6] rfl)
  refine lv_aload_n hx hb dL_isJoint_15 rfl (lv_at hl 2 rfl) ?_
  refine lv_iload_n hx hb dL_isJoint_16 rfl (lv_at hl 1 rfl) ?_
  refine lv_iconst (v := 0) hx hb dL_isJoint_17 (by decide) ?_
  obtain ⟨r_121, hr_121⟩ : ∃ z, z = F_TC_cell r_1 (0 : Int32) gn ac dn := ⟨_, rfl⟩
  rw [bnd_e hr_121] at hv_7
  refine ro_calli (va_runV (As := [.int r_1, .int 0]) (rest := []) ⟨hx, hb, hml, hown, hts⟩ (c_TC_cell l dC dI cI cC cG cZ tc g h s0 s1 pd cl t0 t1 st mk r_1 (0 : Int32) nx tn gn ac dn  r_121 hr_121) (cwV 2 hts gL_isJoint_X6_cell rfl rfl rfl (by decide +kernel) ⟨Nat.le_of_ble_eq_true rfl, Nat.le_of_ble_eq_true rfl⟩) (ro_preV (hP.sub (ws' := [(tc, .inr (6, [.ref g, .ref h, .ref s0, .ref s1, .ref pd])), (g, .inr (1, [.ref cl, .ref t0, .ref t1, .int nx, .int tn])), (cl, .inr (0, [.ref st, .ref mk, .long gn, .long ac, .long dn]))]) [0, 1, 2] rfl) hK (ci := 6) (q0 := 0) rfl rfl) rfl rfl hl.1 rfl (lv_room (Nat.le_of_ble_eq_true rfl)) dL_isJoint_18 ⟨Nat.zero_le _, Nat.zero_le _⟩) hP hS (fun H locs hP hS => ?_)
  refine lv_iconst (v := 1) hx hb dL_isJoint_21 (by decide) ?_
  refine lv_icmp_eq (tgt := 36) hx hb dL_isJoint_22 (by decide) (fun c_122 => ?_) (fun c_122 => ?_)
  · rw [if_pos c_122] at hv_7
    refine lv_iconst (v := 1) hx hb dL_isJoint_36 (by decide) ?_
    refine lv_goto (tgt := 41) hx hb dL_isJoint_37 (by decide) ?_
    subst hv_7
    exact hj41 _ _ _ hP hS (lv_sub hl [0, 1, 2, 3, 4] rfl)
  · rw [if_neg c_122] at hv_7
    refine lv_aload_n hx hb dL_isJoint_25 rfl (lv_at hl 2 rfl) ?_
    refine lv_iload hx hb dL_isJoint_26 (lv_at hl 0 rfl) ?_
    refine lv_iconst (v := 0) hx hb dL_isJoint_28 (by decide) ?_
    obtain ⟨r_123, hr_123⟩ : ∃ z, z = F_TC_cell r_2 (0 : Int32) gn ac dn := ⟨_, rfl⟩
    rw [bnd_e hr_123] at hv_7
    refine ro_calli (va_runV (As := [.int r_2, .int 0]) (rest := []) ⟨hx, hb, hml, hown, hts⟩ (c_TC_cell l dC dI cI cC cG cZ tc g h s0 s1 pd cl t0 t1 st mk r_2 (0 : Int32) nx tn gn ac dn  r_123 hr_123) (cwV 2 hts gL_isJoint_X6_cell rfl rfl rfl (by decide +kernel) ⟨Nat.le_of_ble_eq_true rfl, Nat.le_of_ble_eq_true rfl⟩) (ro_preV (hP.sub (ws' := [(tc, .inr (6, [.ref g, .ref h, .ref s0, .ref s1, .ref pd])), (g, .inr (1, [.ref cl, .ref t0, .ref t1, .int nx, .int tn])), (cl, .inr (0, [.ref st, .ref mk, .long gn, .long ac, .long dn]))]) [0, 1, 2] rfl) hK (ci := 6) (q0 := 0) rfl rfl) rfl rfl hl.1 rfl (lv_room (Nat.le_of_ble_eq_true rfl)) dL_isJoint_29 ⟨Nat.zero_le _, Nat.zero_le _⟩) hP hS (fun H locs hP hS => ?_)
    refine lv_iconst (v := 1) hx hb dL_isJoint_32 (by decide) ?_
    refine lv_icmp_ne (tgt := 40) hx hb dL_isJoint_33 (by decide) (fun c_124 => ?_) (fun c_124 => ?_)
    · rw [if_neg c_124] at hv_7
      refine lv_iconst (v := 0) hx hb dL_isJoint_40 (by decide) ?_
      subst hv_7
      exact hj41 _ _ _ hP hS (lv_sub hl [0, 1, 2, 3, 4] rfl)
    · rw [if_pos c_124] at hv_7
      refine lv_iconst (v := 1) hx hb dL_isJoint_36 (by decide) ?_
      refine lv_goto (tgt := 41) hx hb dL_isJoint_37 (by decide) ?_
      subst hv_7
      exact hj41 _ _ _ hP hS (lv_sub hl [0, 1, 2, 3, 4] rfl)
