-- the law's own walk
theorem nI_mul (a b : Nat) : nI a * nI b = nI (a * b) := by
  unfold nI
  exact (Int32.ofNat_mul a b).symm
theorem x_preS {s : State} {H : Heap} {locs : List Loc} {A : Nat → Prop} {b L : Nat} {xs : Nat → Int32} {i : Int32} (hX : va_X b L xs s s.heap) (hbl : b < s.heap.size) (hbA : ¬ A b) (hS : va_S A s.heap H locs) : PreS s H (va_Pc [.ref b, .int i] (fun U => va_X b L xs U U.heap ∧ b < U.heap.size)) [.ref b, .int i] :=
  ⟨fun a U g mk q => ⟨q.1, va_X.moved (u := U) (U := U.calling g mk a) (Vm.Alike.refl U.vm) q.2.1, q.2.2⟩, fun U hU hW => ⟨rfl, by rw [hU]; exact va_X.moved hW.alike (hX.kept (hS.2.1 b hbl hbA)), by rw [hU]; exact Nat.lt_of_lt_of_le hbl hS.1⟩⟩
theorem c_Law_cell (l : Launch) (b L : Nat) (xs : Nat → Int32) (i : Int32) {j : Nat} (hi : i = nI j) (hj : j < 200) (hL : L ≤ 260) : ∃ res, Met l yL_cell wsL_cell ({ frames := 0, cells := 0, slots := 0, locals := 0 }) (va_Pc [.ref b, .int i] (fun U => va_X b L xs U U.heap ∧ b < U.heap.size)) (va_Qi (fun r (_ : Unit) => r = res) (fun _ _ => True) ro_F) 0 0 ro_F := by
  refine ⟨if Int32.ofNat L ≤ i then (40503 : Int32) * i + 977 else xs i.toNatClampNeg, ?_⟩
  refine Met.ofW (cc := cL_cell) (maxL := 2) (ret := (some .int)) (by decide) rfl ?_
  intro p e s m args below meth c s₁ B hml hv
  obtain ⟨rfl, hX, hbl⟩ := hv
  have hx := B.exec
  have hb := B.bytes
  have hr := B.returns
  have hts := atoms_spec (ws := wsL_cell) B.pre
  have hown : s.vm.findClass RL = some m.cls := findClass_of_methodNamed B.named
  have hbA : ¬ ro_F b := fun h => h
  have hS : va_S ro_F s.heap s.heap [] := va_S.rf
  have hl := lv_entry ([.ref b, .int i]) (n := 2) (Nat.le_of_ble_eq_true rfl)
  rw [lg_entry_eq]
  generalize (lg_sl ([.ref b, .int i]) ++ List.replicate (2 - (lg_sl ([.ref b, .int i])).length) Slot.unset).toArray = ls at hl ⊢
  have hl : lv_has ls 2 [(0, .ref b), (1, .int i)] := hl
  refine lv_iload_n hx hb dL_cell_0 rfl (lv_at hl 1 rfl) ?_
  refine lv_aload_n hx hb dL_cell_1 rfl (lv_at hl 0 rfl) ?_
  refine va_slen hx hb hX hbl hbA hS dL_cell_2 ?_
  refine lv_icmp_ge (tgt := 12) hx hb dL_cell_3 (by decide) (fun d => ?_) (fun d => ?_)
  · refine lv_ldc (v := 40503) hx hb hown (hts (.constant RL 7 (40503)) (by decide +kernel)) dL_cell_12 ?_
    refine lv_iload_n hx hb dL_cell_14 rfl (lv_at hl 1 rfl) ?_
    refine lv_imul hx hb dL_cell_15 ?_
    refine lv_sipush (v := 977) hx hb dL_cell_16 (by decide) ?_
    refine lv_iadd hx hb dL_cell_19 ?_
    exact W.iret (v := (40503 : Int32) * i + 977) hx hb hr (fun t ht hW => ⟨⟨(40503 : Int32) * i + 977, (), rfl, (if_pos d).symm, trivial⟩, hS.F ht⟩) hS.2.2 dL_cell_20
  · have hin : vp_in i L := by
      rw [hi]
      refine vp_in_nI (Nat.lt_of_not_le fun z => d ?_) (by omega)
      rw [hi]
      exact nI_le z (by omega)
    refine lv_aload_n hx hb dL_cell_6 rfl (lv_at hl 0 rfl) ?_
    refine lv_iload_n hx hb dL_cell_7 rfl (lv_at hl 1 rfl) ?_
    refine va_sld hx hb hX hbl hbA hS hin dL_cell_8 ?_
    refine lv_goto (tgt := 20) hx hb dL_cell_9 (by decide) ?_
    exact W.iret (v := xs i.toNatClampNeg) hx hb hr (fun t ht hW => ⟨⟨xs i.toNatClampNeg, (), rfl, (if_neg d).symm, trivial⟩, hS.F ht⟩) hS.2.2 dL_cell_20
theorem inv_st {S : GS} (h : INV S) : ∀ j, j < 82 → vp_in (S.2.2 0 j) 4 := fun j hj => by
  obtain ⟨vs, -, hE⟩ := h
  rcases hE.1 j hj with e | e | e | e
  · rw [e]; exact vp_in_nI (n := 0) (by omega) (by omega)
  · rw [e]; exact vp_in_nI (n := 1) (by omega) (by omega)
  · rw [e]; exact vp_in_nI (n := 2) (by omega) (by omega)
  · rw [e]; exact vp_in_nI (n := 3) (by omega) (by omega)
theorem inv_tn {S : GS} (h : INV S) : ∃ T0 : Nat, T0 ≤ 200 ∧ S.1 1 = nI T0 := by
  obtain ⟨vs, hG, -⟩ := h
  obtain ⟨T0, a, b, -⟩ := hG.2.2.2.2.2.2
  exact ⟨T0, a, hG.2.2.1.trans b⟩
theorem holds_x {x : XS} (hV : INV x.1) (q : Int32) : F_Law_holds q (x.1.1 0) (x.1.1 1) (x.1.2.1 0) (x.1.2.1 1) (x.1.2.1 2) (x.1.2.2 0) (x.1.2.2 1) (x.1.1 2) (x.1.1 3) (x.1.1 4) (x.1.1 5) (x.1.1 6) (x.1.1 7) (x.1.1 8) (x.1.1 9) (x.1.2.2 2) (x.1.1 10) (x.1.1 11) (x.1.1 12) (x.1.1 13) (x.1.1 14) (x.1.1 15) (x.1.1 16) (x.1.1 17) (x.1.2.2 3) x.2.2.2.2.2.1 (nI x.2.1) = 1 := by
  obtain ⟨vs, hG, hE⟩ := hV
  exact holds_ok hG ((EX_EG hG.1).mpr hE) q _ _
theorem INV_0 : INV x_0.1 := ⟨ms_0, GRS_0, fun j _ => Or.inl rfl, fun j _ _ => rfl, ⟨0, rfl, by omega, fun i hi => absurd hi (Nat.not_lt_zero _)⟩, ⟨0, rfl, by omega, fun i hi => absurd hi (Nat.not_lt_zero _)⟩, ⟨5, by omega, rfl⟩, ⟨5, by omega, rfl⟩, 0, 0, 0, 0, rfl, rfl, rfl, rfl, by omega, by omega, by decide +kernel⟩
set_option maxHeartbeats 8000000 in
set_option maxRecDepth 100000 in
theorem law_iter {p : Program} {e : Env} {s : State} {m : MethodId} {below : List Frame} {meth : Method} {c : Code} (l : Launch) {b L : Nat} {xs : Nat → Int32} {A : Nat → Prop} (hx : p.tables.exec = Jvm.exec) (hb : c.code = code) (hr : meth.sig.returnType = ret) (hml : c.maxLocals = 9) (hown : s.vm.findClass RL = some m.cls) (hts : ∀ w ∈ wsL_law, w.before #[Value.ref b] s = true) (hX : va_X b L xs s s.heap) (hbl : b < s.heap.size) (hbA : ¬ A b) (dC : Nat → ClassId) (dI : Nat → Nat → Nat) (cI cC cG cZ : ClassId) (ad : Nat → Nat → Nat) (hK : va_K (dC, dI) vwCl (tyL cI cC cG cZ) s) (hL : L ≤ 260) (hA : ∀ q : Nat, s.heap.size ≤ q → A q) (T k : Nat) (hkT : k < T) (hT40 : T ≤ 40) (C S : Nat) (hC1 : C + 336 ≤ 600000) (hS1 : S + 16040 ≤ 7302250) (pa : Nat → Nat → Nat) (x : XS) (hI : IX x) (hV : INV x.1) (H : Heap) (locs : List Loc) (ls : Array Slot) (hP : bP (dC, dI) vwCl (xW cI cC cG ad pa x) H) (hD : bD A (xW cI cC cG ad pa x)) (hS : va_S A s.heap H locs) (hl : lv_has ls 9 [(4, .int (nI k)), (3, .int (nI T)), (2, .int 1), (1, .ref (ad 0 0)), (0, .ref b)]) (hend : ∀ (H : Heap) (locs : List Loc) (ls : Array Slot) (pa : Nat → Nat → Nat) (x : XS) (C1 S1 : Nat), C1 ≤ C + 336 → S1 ≤ S + 16040 → IX x → INV x.1 → bP (dC, dI) vwCl (xW cI cC cG ad pa x) H → bD A (xW cI cC cG ad pa x) → va_S A s.heap H locs → lv_has ls 9 [(4, .int (nI k)), (3, .int (nI T)), (2, .int 1), (1, .ref (ad 0 0)), (0, .ref b)] → W p l e room_1 s m #[Value.ref b] below meth c H locs C1 S1 (lw_Z below #[Value.ref b] s) (F0 m 262 ls [])) : W p l e room_1 s m #[Value.ref b] below meth c H locs C S (lw_Z below #[Value.ref b] s) (F0 m 63 ls []) := by
  refine lv_aload_n hx hb dL_law_63 rfl (lv_at hl 3 rfl) ?_
  refine lv_bipush (v := 10) hx hb dL_law_64 (by decide) ?_
  obtain ⟨r_1, hr_1⟩ : ∃ z, z = (F_TC_count (10 : Int32) (x.1.1 0) (x.1.1 1) (x.1.2.1 0) (x.1.2.1 1) (x.1.2.1 2) (x.1.2.2 0) (x.1.1 3) (x.1.1 11) x.2.2.2.2.2.1 (nI x.2.1)) := ⟨_, rfl⟩
  refine b_alle hr_1 (W1 := fun pa => (xW cI cC cG ad pa x)) (va_runV (As := [.int 10]) (rest := []) ⟨hx, hb, hml, hown, hts⟩ (cu_TC_count l dC dI cI cC cG cZ ad pa x (10 : Int32) ) (cwV 1 hts gL_law_X6_count rfl rfl rfl (by decide +kernel) ⟨Nat.le_of_ble_eq_true rfl, Nat.le_of_ble_eq_true rfl⟩) (b_preV hP hK hD (ci := 6) (i0 := 0) (q0 := 0) rfl rfl rfl) rfl rfl hl.1 rfl (lv_room (Nat.le_of_ble_eq_true rfl)) dL_law_66 ⟨by show _ ≤ 600000; omega, by show _ ≤ 7302250; omega⟩) hD hS (fun H locs pa hP hD hS => ?_)
  have hP : bP (dC, dI) vwCl (xW cI cC cG ad pa x) H := hP
  have hD : bD A (xW cI cC cG ad pa x) := hD
  refine lv_istore (lv' := [(5, .int r_1), (4, .int (nI k)), (3, .int (nI T)), (2, .int 1), (1, .ref (ad 0 0)), (0, .ref b)]) hx hb dL_law_69 hl (by decide) rfl (fun ls hl => ?_)
  refine lv_aload_n hx hb dL_law_71 rfl (lv_at hl 4 rfl) ?_
  refine lv_iconst (v := 0) hx hb dL_law_72 (by decide) ?_
  obtain ⟨r_2, hr_2⟩ : ∃ z, z = (F_TC_count (0 : Int32) (x.1.1 0) (x.1.1 1) (x.1.2.1 0) (x.1.2.1 1) (x.1.2.1 2) (x.1.2.2 0) (x.1.1 3) (x.1.1 11) x.2.2.2.2.2.1 (nI x.2.1)) := ⟨_, rfl⟩
  refine b_alle hr_2 (W1 := fun pa => (xW cI cC cG ad pa x)) (va_runV (As := [.int 0]) (rest := []) ⟨hx, hb, hml, hown, hts⟩ (cu_TC_count l dC dI cI cC cG cZ ad pa x (0 : Int32) ) (cwV 1 hts gL_law_X6_count rfl rfl rfl (by decide +kernel) ⟨Nat.le_of_ble_eq_true rfl, Nat.le_of_ble_eq_true rfl⟩) (b_preV hP hK hD (ci := 6) (i0 := 0) (q0 := 0) rfl rfl rfl) rfl rfl hl.1 rfl (lv_room (Nat.le_of_ble_eq_true rfl)) dL_law_73 ⟨by show _ ≤ 600000; omega, by show _ ≤ 7302250; omega⟩) hD hS (fun H locs pa hP hD hS => ?_)
  have hP : bP (dC, dI) vwCl (xW cI cC cG ad pa x) H := hP
  have hD : bD A (xW cI cC cG ad pa x) := hD
  refine lv_istore (lv' := [(6, .int r_2), (5, .int r_1), (4, .int (nI k)), (3, .int (nI T)), (2, .int 1), (1, .ref (ad 0 0)), (0, .ref b)]) hx hb dL_law_76 hl (by decide) rfl (fun ls hl => ?_)
  refine lv_aload_n hx hb dL_law_78 rfl (lv_at hl 5 rfl) ?_
  refine lv_iconst (v := 4) hx hb dL_law_79 (by decide) ?_
  obtain ⟨r_3, hr_3⟩ : ∃ z, z = (F_TC_count (4 : Int32) (x.1.1 0) (x.1.1 1) (x.1.2.1 0) (x.1.2.1 1) (x.1.2.1 2) (x.1.2.2 0) (x.1.1 3) (x.1.1 11) x.2.2.2.2.2.1 (nI x.2.1)) := ⟨_, rfl⟩
  refine b_alle hr_3 (W1 := fun pa => (xW cI cC cG ad pa x)) (va_runV (As := [.int 4]) (rest := []) ⟨hx, hb, hml, hown, hts⟩ (cu_TC_count l dC dI cI cC cG cZ ad pa x (4 : Int32) ) (cwV 1 hts gL_law_X6_count rfl rfl rfl (by decide +kernel) ⟨Nat.le_of_ble_eq_true rfl, Nat.le_of_ble_eq_true rfl⟩) (b_preV hP hK hD (ci := 6) (i0 := 0) (q0 := 0) rfl rfl rfl) rfl rfl hl.1 rfl (lv_room (Nat.le_of_ble_eq_true rfl)) dL_law_80 ⟨by show _ ≤ 600000; omega, by show _ ≤ 7302250; omega⟩) hD hS (fun H locs pa hP hD hS => ?_)
  have hP : bP (dC, dI) vwCl (xW cI cC cG ad pa x) H := hP
  have hD : bD A (xW cI cC cG ad pa x) := hD
  refine lv_istore (lv' := [(7, .int r_3), (6, .int r_2), (5, .int r_1), (4, .int (nI k)), (3, .int (nI T)), (2, .int 1), (1, .ref (ad 0 0)), (0, .ref b)]) hx hb dL_law_83 hl (by decide) rfl (fun ls hl => ?_)
  refine lv_aload_n hx hb dL_law_85 rfl (lv_at hl 6 rfl) ?_
  refine lv_aload_n hx hb dL_law_86 rfl (lv_at hl 7 rfl) ?_
  refine lv_iconst (v := 2) hx hb dL_law_87 (by decide) ?_
  refine lv_iload hx hb dL_law_88 (lv_at hl 3 rfl) ?_
  refine lv_imul hx hb dL_law_90 ?_
  obtain ⟨q_4, cq_4⟩ := c_Law_cell l b L xs (((2 : Int32) * (nI k))) (j := 2 * k) (by rw [show (2 : Int32) = nI 2 from rfl, nI_mul]) (by omega) hL
  refine b_roi (va_runS (As := [.ref b, .int ((2 : Int32) * (nI k))]) (rest := [.ref (ad 0 0)]) ⟨hx, hb, hml, hown, hts⟩ cq_4 (va_cwS 2 hts gL_law_L_cell rfl rfl rfl (by decide +kernel) ⟨Nat.le_of_ble_eq_true rfl, Nat.le_of_ble_eq_true rfl⟩) (x_preS hX hbl hbA hS) rfl rfl hl.1 rfl (lv_room (Nat.le_of_ble_eq_true rfl)) dL_law_91 ⟨by show _ ≤ 600000; omega, by show _ ≤ 7302250; omega⟩) hP hS (fun H locs hP hS => ?_)
  have hP : bP (dC, dI) vwCl (xW cI cC cG ad pa x) H := hP
  have hD : bD A (xW cI cC cG ad pa x) := hD
  refine lv_aload_n hx hb dL_law_94 rfl (lv_at hl 7 rfl) ?_
  refine lv_iconst (v := 2) hx hb dL_law_95 (by decide) ?_
  refine lv_iload hx hb dL_law_96 (lv_at hl 3 rfl) ?_
  refine lv_imul hx hb dL_law_98 ?_
  refine lv_iconst (v := 1) hx hb dL_law_99 (by decide) ?_
  refine lv_iadd hx hb dL_law_100 ?_
  obtain ⟨q_5, cq_5⟩ := c_Law_cell l b L xs ((((2 : Int32) * (nI k)) + 1)) (j := 2 * k + 1) (by rw [show (2 : Int32) = nI 2 from rfl, nI_mul, nI_1]) (by omega) hL
  refine b_roi (va_runS (As := [.ref b, .int (((2 : Int32) * (nI k)) + 1)]) (rest := [.int q_4, .ref (ad 0 0)]) ⟨hx, hb, hml, hown, hts⟩ cq_5 (va_cwS 2 hts gL_law_L_cell rfl rfl rfl (by decide +kernel) ⟨Nat.le_of_ble_eq_true rfl, Nat.le_of_ble_eq_true rfl⟩) (x_preS hX hbl hbA hS) rfl rfl hl.1 rfl (lv_room (Nat.le_of_ble_eq_true rfl)) dL_law_101 ⟨by show _ ≤ 600000; omega, by show _ ≤ 7302250; omega⟩) hP hS (fun H locs hP hS => ?_)
  have hP : bP (dC, dI) vwCl (xW cI cC cG ad pa x) H := hP
  have hD : bD A (xW cI cC cG ad pa x) := hD
  obtain ⟨x', W, G, eT, hT⟩ := turn_ok hI hV q_4 q_5
  refine b_alle (r := 1) (show (1 : Int32) = ((1, x') : Int32 × XS).1 from rfl) (W1 := fun pa => (xW cI cC cG ad pa x')) (va_runS (As := [.ref (ad 0 0), .int q_4, .int q_5]) (rest := []) ⟨hx, hb, hml, hown, hts⟩ (cu_Law_turn l dC dI cI cC cG cZ ad pa x q_4 q_5 hI (1, x') eT.symm) (va_cwS 3 hts gL_law_L_turn rfl rfl rfl (by decide +kernel) ⟨Nat.le_of_ble_eq_true rfl, Nat.le_of_ble_eq_true rfl⟩) (b_preS hP hK hD) rfl rfl hl.1 rfl (lv_room (Nat.le_of_ble_eq_true rfl)) dL_law_104 ⟨by show _ ≤ 600000; omega, by show _ ≤ 7302250; omega⟩) hD hS (fun H locs pa hP hD hS => ?_)
  obtain ⟨hI', hV', hc⟩ := hT
  have hP : bP (dC, dI) vwCl (xW cI cC cG ad pa x') H := hP
  have hD : bD A (xW cI cC cG ad pa x') := hD
  refine lv_if_eq (tgt := 131) hx hb dL_law_107 (by decide) (fun c_6 => ?_) (fun c_6 => ?_)
  · exact absurd c_6 (by decide)
  refine lv_aload_n hx hb dL_law_110 rfl (lv_at hl 6 rfl) ?_
  refine lv_aload_n hx hb dL_law_111 rfl (lv_at hl 7 rfl) ?_
  refine lv_iconst (v := 2) hx hb dL_law_112 (by decide) ?_
  refine lv_iload hx hb dL_law_113 (lv_at hl 3 rfl) ?_
  refine lv_imul hx hb dL_law_115 ?_
  refine lv_iconst (v := 1) hx hb dL_law_116 (by decide) ?_
  refine lv_iadd hx hb dL_law_117 ?_
  obtain ⟨q_7, cq_7⟩ := c_Law_cell l b L xs ((((2 : Int32) * (nI k)) + 1)) (j := 2 * k + 1) (by rw [show (2 : Int32) = nI 2 from rfl, nI_mul, nI_1]) (by omega) hL
  refine b_roi (va_runS (As := [.ref b, .int (((2 : Int32) * (nI k)) + 1)]) (rest := [.ref (ad 0 0)]) ⟨hx, hb, hml, hown, hts⟩ cq_7 (va_cwS 2 hts gL_law_L_cell rfl rfl rfl (by decide +kernel) ⟨Nat.le_of_ble_eq_true rfl, Nat.le_of_ble_eq_true rfl⟩) (x_preS hX hbl hbA hS) rfl rfl hl.1 rfl (lv_room (Nat.le_of_ble_eq_true rfl)) dL_law_118 ⟨by show _ ≤ 600000; omega, by show _ ≤ 7302250; omega⟩) hP hS (fun H locs hP hS => ?_)
  have hP : bP (dC, dI) vwCl (xW cI cC cG ad pa x') H := hP
  have hD : bD A (xW cI cC cG ad pa x') := hD
  refine b_allA (r := 1) (holds_x hV' q_7).symm (W1 := fun pa => (xW cI cC cG ad pa x')) (va_runS (As := [.ref (ad 0 0), .int q_7]) (rest := []) ⟨hx, hb, hml, hown, hts⟩ (cu_Law_holds l dC dI cI cC cG cZ ad pa x' q_7 hI' (inv_st hV') H.size) (va_cwS 2 hts gL_law_L_holds rfl rfl rfl (by decide +kernel) ⟨Nat.le_of_ble_eq_true rfl, Nat.le_of_ble_eq_true rfl⟩) (b_preSA hP hK hD) rfl rfl hl.1 rfl (lv_room (Nat.le_of_ble_eq_true rfl)) dL_law_121 ⟨by show _ ≤ 600000; omega, by show _ ≤ 7302250; omega⟩) hD hS hA (fun H locs pa hP hD hS => ?_)
  have hP : bP (dC, dI) vwCl (xW cI cC cG ad pa x') H := hP
  have hD : bD A (xW cI cC cG ad pa x') := hD
  refine lv_if_eq (tgt := 131) hx hb dL_law_124 (by decide) (fun c_8 => ?_) (fun c_8 => ?_)
  · exact absurd c_8 (by decide)
  refine lv_iconst (v := 1) hx hb dL_law_127 (by decide) ?_
  refine lv_goto (tgt := 132) hx hb dL_law_128 (by decide) ?_
  refine lv_istore_n (lv' := [(2, .int 1), (7, .int r_3), (6, .int r_2), (5, .int r_1), (4, .int (nI k)), (3, .int (nI T)), (1, .ref (ad 0 0)), (0, .ref b)]) hx hb dL_law_132 rfl hl (by decide) rfl (fun ls hl => ?_)
  refine lv_aload_n hx hb dL_law_133 rfl (lv_at hl 6 rfl) ?_
  refine lv_iconst (v := 0) hx hb dL_law_134 (by decide) ?_
  obtain ⟨r_9, hr_9⟩ : ∃ z, z = (F_TC_count (0 : Int32) (x'.1.1 0) (x'.1.1 1) (x'.1.2.1 0) (x'.1.2.1 1) (x'.1.2.1 2) (x'.1.2.2 0) (x'.1.1 3) (x'.1.1 11) x'.2.2.2.2.2.1 (nI x'.2.1)) := ⟨_, rfl⟩
  refine b_alle hr_9 (W1 := fun pa => (xW cI cC cG ad pa x')) (va_runV (As := [.int 0]) (rest := []) ⟨hx, hb, hml, hown, hts⟩ (cu_TC_count l dC dI cI cC cG cZ ad pa x' (0 : Int32) ) (cwV 1 hts gL_law_X6_count rfl rfl rfl (by decide +kernel) ⟨Nat.le_of_ble_eq_true rfl, Nat.le_of_ble_eq_true rfl⟩) (b_preV hP hK hD (ci := 6) (i0 := 0) (q0 := 0) rfl rfl rfl) rfl rfl hl.1 rfl (lv_room (Nat.le_of_ble_eq_true rfl)) dL_law_135 ⟨by show _ ≤ 600000; omega, by show _ ≤ 7302250; omega⟩) hD hS (fun H locs pa hP hD hS => ?_)
  have hP : bP (dC, dI) vwCl (xW cI cC cG ad pa x') H := hP
  have hD : bD A (xW cI cC cG ad pa x') := hD
  refine lv_iload hx hb dL_law_138 (lv_at hl 2 rfl) ?_
  have n1 : r_9 = x'.1.1 1 := hr_9
  have n0 : r_2 = x.1.1 1 := hr_2
  obtain ⟨T0, hT0, eT0⟩ := inv_tn hV
  have c0 : r_1 = nI x.2.1 := hr_1
  rcases hc with ⟨-, -, hsm, hk0⟩ | ⟨-, -, s1, -, -, qq, V, q1, q2, q3, q4, q5, q6⟩
  · have hle : r_9 ≤ r_2 := by rw [n1, n0, hsm.2.1]; exact Int32.le_refl _
    refine lv_icmp_le (tgt := 147) hx hb dL_law_140 (by decide) (fun c_10 => ?_) (fun c_10 => ?_)
    rotate_left
    · exact absurd hle c_10
    refine lv_iconst (v := 0) hx hb dL_law_147 (by decide) ?_
    refine lv_istore (lv' := [(8, .int 0), (2, .int 1), (7, .int r_3), (6, .int r_2), (5, .int r_1), (4, .int (nI k)), (3, .int (nI T)), (1, .ref (ad 0 0)), (0, .ref b)]) hx hb dL_law_148 hl (by decide) rfl (fun ls hl => ?_)
    refine lv_iload_n hx hb dL_law_150 rfl (lv_at hl 1 rfl) ?_
    refine lv_if_eq (tgt := 193) hx hb dL_law_151 (by decide) (fun c_11 => ?_) (fun c_11 => ?_)
    · exact absurd c_11 (by decide)
    refine lv_aload_n hx hb dL_law_154 rfl (lv_at hl 7 rfl) ?_
    refine lv_bipush (v := 10) hx hb dL_law_155 (by decide) ?_
    obtain ⟨r_12, hr_12⟩ : ∃ z, z = (F_TC_count (10 : Int32) (x'.1.1 0) (x'.1.1 1) (x'.1.2.1 0) (x'.1.2.1 1) (x'.1.2.1 2) (x'.1.2.2 0) (x'.1.1 3) (x'.1.1 11) x'.2.2.2.2.2.1 (nI x'.2.1)) := ⟨_, rfl⟩
    refine b_alle hr_12 (W1 := fun pa => (xW cI cC cG ad pa x')) (va_runV (As := [.int 10]) (rest := []) ⟨hx, hb, hml, hown, hts⟩ (cu_TC_count l dC dI cI cC cG cZ ad pa x' (10 : Int32) ) (cwV 1 hts gL_law_X6_count rfl rfl rfl (by decide +kernel) ⟨Nat.le_of_ble_eq_true rfl, Nat.le_of_ble_eq_true rfl⟩) (b_preV hP hK hD (ci := 6) (i0 := 0) (q0 := 0) rfl rfl rfl) rfl rfl hl.1 rfl (lv_room (Nat.le_of_ble_eq_true rfl)) dL_law_157 ⟨by show _ ≤ 600000; omega, by show _ ≤ 7302250; omega⟩) hD hS (fun H locs pa hP hD hS => ?_)
    have hP : bP (dC, dI) vwCl (xW cI cC cG ad pa x') H := hP
    have hD : bD A (xW cI cC cG ad pa x') := hD
    refine lv_iload hx hb dL_law_160 (lv_at hl 0 rfl) ?_
    refine lv_if_ne (tgt := 170) hx hb dL_law_162 (by decide) (fun c_13 => ?_) (fun c_13 => ?_)
    · exact absurd (by decide) c_13
    refine lv_iload hx hb dL_law_165 (lv_at hl 4 rfl) ?_
    refine lv_goto (tgt := 186) hx hb dL_law_167 (by decide) ?_
    have c1 : r_12 = nI x'.2.1 := hr_12
    have he : r_12 = r_1 := by rw [c1, c0, hk0]
    refine lv_icmp_ne (tgt := 193) hx hb dL_law_186 (by decide) (fun c_14 => ?_) (fun c_14 => ?_)
    · exact absurd he c_14
    refine lv_iconst (v := 1) hx hb dL_law_189 (by decide) ?_
    refine lv_goto (tgt := 194) hx hb dL_law_190 (by decide) ?_
    refine lv_istore_n (lv' := [(2, .int 1), (8, .int 0), (7, .int r_3), (6, .int r_2), (5, .int r_1), (4, .int (nI k)), (3, .int (nI T)), (1, .ref (ad 0 0)), (0, .ref b)]) hx hb dL_law_194 rfl hl (by decide) rfl (fun ls hl => ?_)
    refine lv_iload_n hx hb dL_law_195 rfl (lv_at hl 0 rfl) ?_
    refine lv_if_eq (tgt := 262) hx hb dL_law_196 (by decide) (fun c_15 => ?_) (fun c_15 => ?_)
    · exact absurd c_15 (by decide)
    refine lv_iload hx hb dL_law_199 (lv_at hl 1 rfl) ?_
    refine lv_if_eq (tgt := 262) hx hb dL_law_201 (by decide) (fun c_16 => ?_) (fun c_16 => ?_)
    rotate_left
    · exact absurd (by decide) c_16
    exact hend _ _ _ _ _ _ _ (by omega) (by omega) hI' hV' hP hD hS (lv_sub hl [5, 6, 0, 7, 8] rfl)
  · have hle : ¬ r_9 ≤ r_2 := by rw [n1, n0, s1, eT0, nI_1]; exact nI_ge (Nat.lt_succ_self _) (by omega)
    refine lv_icmp_le (tgt := 147) hx hb dL_law_140 (by decide) (fun c_17 => ?_) (fun c_17 => ?_)
    · exact absurd c_17 hle
    refine lv_iconst (v := 1) hx hb dL_law_143 (by decide) ?_
    refine lv_goto (tgt := 148) hx hb dL_law_144 (by decide) ?_
    refine lv_istore (lv' := [(8, .int 1), (2, .int 1), (7, .int r_3), (6, .int r_2), (5, .int r_1), (4, .int (nI k)), (3, .int (nI T)), (1, .ref (ad 0 0)), (0, .ref b)]) hx hb dL_law_148 hl (by decide) rfl (fun ls hl => ?_)
    refine lv_iload_n hx hb dL_law_150 rfl (lv_at hl 1 rfl) ?_
    refine lv_if_eq (tgt := 193) hx hb dL_law_151 (by decide) (fun c_18 => ?_) (fun c_18 => ?_)
    · exact absurd c_18 (by decide)
    refine lv_aload_n hx hb dL_law_154 rfl (lv_at hl 7 rfl) ?_
    refine lv_bipush (v := 10) hx hb dL_law_155 (by decide) ?_
    obtain ⟨r_19, hr_19⟩ : ∃ z, z = (F_TC_count (10 : Int32) (x'.1.1 0) (x'.1.1 1) (x'.1.2.1 0) (x'.1.2.1 1) (x'.1.2.1 2) (x'.1.2.2 0) (x'.1.1 3) (x'.1.1 11) x'.2.2.2.2.2.1 (nI x'.2.1)) := ⟨_, rfl⟩
    refine b_alle hr_19 (W1 := fun pa => (xW cI cC cG ad pa x')) (va_runV (As := [.int 10]) (rest := []) ⟨hx, hb, hml, hown, hts⟩ (cu_TC_count l dC dI cI cC cG cZ ad pa x' (10 : Int32) ) (cwV 1 hts gL_law_X6_count rfl rfl rfl (by decide +kernel) ⟨Nat.le_of_ble_eq_true rfl, Nat.le_of_ble_eq_true rfl⟩) (b_preV hP hK hD (ci := 6) (i0 := 0) (q0 := 0) rfl rfl rfl) rfl rfl hl.1 rfl (lv_room (Nat.le_of_ble_eq_true rfl)) dL_law_157 ⟨by show _ ≤ 600000; omega, by show _ ≤ 7302250; omega⟩) hD hS (fun H locs pa hP hD hS => ?_)
    have hP : bP (dC, dI) vwCl (xW cI cC cG ad pa x') H := hP
    have hD : bD A (xW cI cC cG ad pa x') := hD
    refine lv_iload hx hb dL_law_160 (lv_at hl 0 rfl) ?_
    refine lv_if_ne (tgt := 170) hx hb dL_law_162 (by decide) (fun c_20 => ?_) (fun c_20 => ?_)
    rotate_left
    · exact absurd c_20 (by decide)
    refine lv_iload hx hb dL_law_170 (lv_at hl 4 rfl) ?_
    refine lv_bipush (v := 6) hx hb dL_law_172 (by decide) ?_
    by_cases h6 : r_1 = 6
    · skip
      refine lv_icmp_ne (tgt := 182) hx hb dL_law_174 (by decide) (fun c_21 => ?_) (fun c_21 => ?_)
      · exact absurd h6 c_21
      refine lv_bipush (v := 6) hx hb dL_law_177 (by decide) ?_
      refine lv_goto (tgt := 186) hx hb dL_law_179 (by decide) ?_
      have c1 : r_19 = nI x'.2.1 := hr_19
      have he : r_19 = 6 := by
        rw [c1, q2]
        have z6 : x.2.1 = 6 := (nI_eq (b := 6) (by have := hI.2.1; omega) (by omega)).mp (c0.symm.trans h6)
        rw [show qq = 5 by omega]
        rfl
      refine lv_icmp_ne (tgt := 193) hx hb dL_law_186 (by decide) (fun c_22 => ?_) (fun c_22 => ?_)
      · exact absurd he c_22
      refine lv_iconst (v := 1) hx hb dL_law_189 (by decide) ?_
      refine lv_goto (tgt := 194) hx hb dL_law_190 (by decide) ?_
      refine lv_istore_n (lv' := [(2, .int 1), (8, .int 1), (7, .int r_3), (6, .int r_2), (5, .int r_1), (4, .int (nI k)), (3, .int (nI T)), (1, .ref (ad 0 0)), (0, .ref b)]) hx hb dL_law_194 rfl hl (by decide) rfl (fun ls hl => ?_)
      refine lv_iload_n hx hb dL_law_195 rfl (lv_at hl 0 rfl) ?_
      refine lv_if_eq (tgt := 262) hx hb dL_law_196 (by decide) (fun c_23 => ?_) (fun c_23 => ?_)
      · exact absurd c_23 (by decide)
      refine lv_iload hx hb dL_law_199 (lv_at hl 1 rfl) ?_
      refine lv_if_eq (tgt := 262) hx hb dL_law_201 (by decide) (fun c_24 => ?_) (fun c_24 => ?_)
      · exact absurd c_24 (by decide)
      refine lv_iload hx hb dL_law_204 (lv_at hl 5 rfl) ?_
      refine lv_bipush (v := 7) hx hb dL_law_206 (by decide) ?_
      refine lv_irem hx hb dL_law_208 (by decide) ?_
      refine lv_bipush (v := 6) hx hb dL_law_209 (by decide) ?_
      refine lv_icmp_ne (tgt := 262) hx hb dL_law_211 (by decide) (fun c_25 => ?_) (fun c_25 => ?_)
      · skip
        exact hend _ _ _ _ _ _ _ (by omega) (by omega) hI' hV' hP hD hS (lv_sub hl [5, 6, 0, 7, 8] rfl)
      · skip
        refine lv_aload_n hx hb dL_law_214 rfl (lv_at hl 7 rfl) ?_
        have eU : ((nI qq, (x.1, qq, x'.2.2)) : Int32 × XS) = X_undo x' := by
          unfold X_undo X_goBack
          rw [q2]
          show _ = ((nI qq, (x'.2.2.1 qq, qq, x'.2.2)) : Int32 × XS)
          rw [q5, q6]
        refine b_alli (W1 := fun pa => (xW cI cC cG ad pa ((x.1, qq, x'.2.2) : XS))) (va_runV (As := []) (rest := []) ⟨hx, hb, hml, hown, hts⟩ (cu_TC_undo l dC dI cI cC cG cZ ad pa x' hI'.2.1 (nI qq, (x.1, qq, x'.2.2)) eU) (cwV 0 hts gL_law_X6_undo rfl rfl rfl (by decide +kernel) ⟨Nat.le_of_ble_eq_true rfl, Nat.le_of_ble_eq_true rfl⟩) (b_preV hP hK hD (ci := 6) (i0 := 0) (q0 := 0) rfl rfl rfl) rfl rfl hl.1 rfl (lv_room (Nat.le_of_ble_eq_true rfl)) dL_law_215 ⟨by show _ ≤ 600000; omega, by show _ ≤ 7302250; omega⟩) hD hS (fun H locs pa hP hD hS => ?_)
        have hI2 : IX ((x.1, qq, x'.2.2) : XS) := by have w := IX_undo hI'; rw [← eU] at w; exact w
        have hV2 : INV ((x.1, qq, x'.2.2) : XS).1 := hV
        have hP : bP (dC, dI) vwCl (xW cI cC cG ad pa ((x.1, qq, x'.2.2) : XS)) H := hP
        have hD : bD A (xW cI cC cG ad pa ((x.1, qq, x'.2.2) : XS)) := hD
        have hq0 : ¬ (nI qq) < 0 := nI_pos (by omega)
        refine lv_if_lt (tgt := 260) hx hb dL_law_218 (by decide) (fun c_26 => ?_) (fun c_26 => ?_)
        · exact absurd c_26 hq0
        refine lv_aload_n hx hb dL_law_221 rfl (lv_at hl 7 rfl) ?_
        refine lv_iconst (v := 0) hx hb dL_law_222 (by decide) ?_
        obtain ⟨r_27, hr_27⟩ : ∃ z, z = (F_TC_count (0 : Int32) (((x.1, qq, x'.2.2) : XS).1.1 0) (((x.1, qq, x'.2.2) : XS).1.1 1) (((x.1, qq, x'.2.2) : XS).1.2.1 0) (((x.1, qq, x'.2.2) : XS).1.2.1 1) (((x.1, qq, x'.2.2) : XS).1.2.1 2) (((x.1, qq, x'.2.2) : XS).1.2.2 0) (((x.1, qq, x'.2.2) : XS).1.1 3) (((x.1, qq, x'.2.2) : XS).1.1 11) (((x.1, qq, x'.2.2) : XS).2.2.2.2.2.1) (nI ((x.1, qq, x'.2.2) : XS).2.1)) := ⟨_, rfl⟩
        refine b_alle hr_27 (W1 := fun pa => (xW cI cC cG ad pa ((x.1, qq, x'.2.2) : XS))) (va_runV (As := [.int 0]) (rest := []) ⟨hx, hb, hml, hown, hts⟩ (cu_TC_count l dC dI cI cC cG cZ ad pa ((x.1, qq, x'.2.2) : XS) (0 : Int32) ) (cwV 1 hts gL_law_X6_count rfl rfl rfl (by decide +kernel) ⟨Nat.le_of_ble_eq_true rfl, Nat.le_of_ble_eq_true rfl⟩) (b_preV hP hK hD (ci := 6) (i0 := 0) (q0 := 0) rfl rfl rfl) rfl rfl hl.1 rfl (lv_room (Nat.le_of_ble_eq_true rfl)) dL_law_223 ⟨by show _ ≤ 600000; omega, by show _ ≤ 7302250; omega⟩) hD hS (fun H locs pa hP hD hS => ?_)
        have hP : bP (dC, dI) vwCl (xW cI cC cG ad pa ((x.1, qq, x'.2.2) : XS)) H := hP
        have hD : bD A (xW cI cC cG ad pa ((x.1, qq, x'.2.2) : XS)) := hD
        refine lv_iload hx hb dL_law_226 (lv_at hl 3 rfl) ?_
        have hs1 : r_27 = r_2 := hr_27.trans (show _ = r_2 from hr_2.symm)
        refine lv_icmp_ne (tgt := 260) hx hb dL_law_228 (by decide) (fun c_28 => ?_) (fun c_28 => ?_)
        · exact absurd hs1 c_28
        refine lv_aload_n hx hb dL_law_231 rfl (lv_at hl 7 rfl) ?_
        refine lv_iconst (v := 4) hx hb dL_law_232 (by decide) ?_
        obtain ⟨r_29, hr_29⟩ : ∃ z, z = (F_TC_count (4 : Int32) (((x.1, qq, x'.2.2) : XS).1.1 0) (((x.1, qq, x'.2.2) : XS).1.1 1) (((x.1, qq, x'.2.2) : XS).1.2.1 0) (((x.1, qq, x'.2.2) : XS).1.2.1 1) (((x.1, qq, x'.2.2) : XS).1.2.1 2) (((x.1, qq, x'.2.2) : XS).1.2.2 0) (((x.1, qq, x'.2.2) : XS).1.1 3) (((x.1, qq, x'.2.2) : XS).1.1 11) (((x.1, qq, x'.2.2) : XS).2.2.2.2.2.1) (nI ((x.1, qq, x'.2.2) : XS).2.1)) := ⟨_, rfl⟩
        refine b_alle hr_29 (W1 := fun pa => (xW cI cC cG ad pa ((x.1, qq, x'.2.2) : XS))) (va_runV (As := [.int 4]) (rest := []) ⟨hx, hb, hml, hown, hts⟩ (cu_TC_count l dC dI cI cC cG cZ ad pa ((x.1, qq, x'.2.2) : XS) (4 : Int32) ) (cwV 1 hts gL_law_X6_count rfl rfl rfl (by decide +kernel) ⟨Nat.le_of_ble_eq_true rfl, Nat.le_of_ble_eq_true rfl⟩) (b_preV hP hK hD (ci := 6) (i0 := 0) (q0 := 0) rfl rfl rfl) rfl rfl hl.1 rfl (lv_room (Nat.le_of_ble_eq_true rfl)) dL_law_233 ⟨by show _ ≤ 600000; omega, by show _ ≤ 7302250; omega⟩) hD hS (fun H locs pa hP hD hS => ?_)
        have hP : bP (dC, dI) vwCl (xW cI cC cG ad pa ((x.1, qq, x'.2.2) : XS)) H := hP
        have hD : bD A (xW cI cC cG ad pa ((x.1, qq, x'.2.2) : XS)) := hD
        refine lv_iload hx hb dL_law_236 (lv_at hl 2 rfl) ?_
        have hs2 : r_29 = r_3 := hr_29.trans (show _ = r_3 from hr_3.symm)
        refine lv_icmp_ne (tgt := 260) hx hb dL_law_238 (by decide) (fun c_30 => ?_) (fun c_30 => ?_)
        · exact absurd hs2 c_30
        refine lv_aload_n hx hb dL_law_241 rfl (lv_at hl 7 rfl) ?_
        refine lv_aload_n hx hb dL_law_242 rfl (lv_at hl 8 rfl) ?_
        refine lv_iconst (v := 2) hx hb dL_law_243 (by decide) ?_
        refine lv_iload hx hb dL_law_244 (lv_at hl 5 rfl) ?_
        refine lv_imul hx hb dL_law_246 ?_
        obtain ⟨q_31, cq_31⟩ := c_Law_cell l b L xs (((2 : Int32) * (nI k))) (j := 2 * k) (by rw [show (2 : Int32) = nI 2 from rfl, nI_mul]) (by omega) hL
        refine b_roi (va_runS (As := [.ref b, .int ((2 : Int32) * (nI k))]) (rest := [.ref (ad 0 0)]) ⟨hx, hb, hml, hown, hts⟩ cq_31 (va_cwS 2 hts gL_law_L_cell rfl rfl rfl (by decide +kernel) ⟨Nat.le_of_ble_eq_true rfl, Nat.le_of_ble_eq_true rfl⟩) (x_preS hX hbl hbA hS) rfl rfl hl.1 rfl (lv_room (Nat.le_of_ble_eq_true rfl)) dL_law_247 ⟨by show _ ≤ 600000; omega, by show _ ≤ 7302250; omega⟩) hP hS (fun H locs hP hS => ?_)
        have hP : bP (dC, dI) vwCl (xW cI cC cG ad pa ((x.1, qq, x'.2.2) : XS)) H := hP
        have hD : bD A (xW cI cC cG ad pa ((x.1, qq, x'.2.2) : XS)) := hD
        refine b_allA (r := 1) (holds_x hV2 q_31).symm (W1 := fun pa => (xW cI cC cG ad pa ((x.1, qq, x'.2.2) : XS))) (va_runS (As := [.ref (ad 0 0), .int q_31]) (rest := []) ⟨hx, hb, hml, hown, hts⟩ (cu_Law_holds l dC dI cI cC cG cZ ad pa ((x.1, qq, x'.2.2) : XS) q_31 hI2 (inv_st hV2) H.size) (va_cwS 2 hts gL_law_L_holds rfl rfl rfl (by decide +kernel) ⟨Nat.le_of_ble_eq_true rfl, Nat.le_of_ble_eq_true rfl⟩) (b_preSA hP hK hD) rfl rfl hl.1 rfl (lv_room (Nat.le_of_ble_eq_true rfl)) dL_law_250 ⟨by show _ ≤ 600000; omega, by show _ ≤ 7302250; omega⟩) hD hS hA (fun H locs pa hP hD hS => ?_)
        have hP : bP (dC, dI) vwCl (xW cI cC cG ad pa ((x.1, qq, x'.2.2) : XS)) H := hP
        have hD : bD A (xW cI cC cG ad pa ((x.1, qq, x'.2.2) : XS)) := hD
        refine lv_if_eq (tgt := 260) hx hb dL_law_253 (by decide) (fun c_32 => ?_) (fun c_32 => ?_)
        · exact absurd c_32 (by decide)
        refine lv_iconst (v := 1) hx hb dL_law_256 (by decide) ?_
        refine lv_goto (tgt := 261) hx hb dL_law_257 (by decide) ?_
        refine lv_istore_n (lv' := [(2, .int 1), (8, .int 1), (7, .int r_3), (6, .int r_2), (5, .int r_1), (4, .int (nI k)), (3, .int (nI T)), (1, .ref (ad 0 0)), (0, .ref b)]) hx hb dL_law_261 rfl hl (by decide) rfl (fun ls hl => ?_)
        exact hend _ _ _ _ _ _ _ (by omega) (by omega) hI2 hV2 hP hD hS (lv_sub hl [5, 6, 0, 7, 8] rfl)
    · skip
      refine lv_icmp_ne (tgt := 182) hx hb dL_law_174 (by decide) (fun c_33 => ?_) (fun c_33 => ?_)
      rotate_left
      · exact absurd c_33 h6
      refine lv_iload hx hb dL_law_182 (lv_at hl 4 rfl) ?_
      refine lv_iconst (v := 1) hx hb dL_law_184 (by decide) ?_
      refine lv_iadd hx hb dL_law_185 ?_
      have c1 : r_19 = nI x'.2.1 := hr_19
      have he : r_19 = (r_1 + 1) := by
        have z6 : ¬ x.2.1 = 6 := fun z => h6 (c0.trans (by rw [z]; rfl))
        rw [c1, q2, c0, nI_1, q4 (by have := hI.2.1; omega)]
      refine lv_icmp_ne (tgt := 193) hx hb dL_law_186 (by decide) (fun c_34 => ?_) (fun c_34 => ?_)
      · exact absurd he c_34
      refine lv_iconst (v := 1) hx hb dL_law_189 (by decide) ?_
      refine lv_goto (tgt := 194) hx hb dL_law_190 (by decide) ?_
      refine lv_istore_n (lv' := [(2, .int 1), (8, .int 1), (7, .int r_3), (6, .int r_2), (5, .int r_1), (4, .int (nI k)), (3, .int (nI T)), (1, .ref (ad 0 0)), (0, .ref b)]) hx hb dL_law_194 rfl hl (by decide) rfl (fun ls hl => ?_)
      refine lv_iload_n hx hb dL_law_195 rfl (lv_at hl 0 rfl) ?_
      refine lv_if_eq (tgt := 262) hx hb dL_law_196 (by decide) (fun c_35 => ?_) (fun c_35 => ?_)
      · exact absurd c_35 (by decide)
      refine lv_iload hx hb dL_law_199 (lv_at hl 1 rfl) ?_
      refine lv_if_eq (tgt := 262) hx hb dL_law_201 (by decide) (fun c_36 => ?_) (fun c_36 => ?_)
      · exact absurd c_36 (by decide)
      refine lv_iload hx hb dL_law_204 (lv_at hl 5 rfl) ?_
      refine lv_bipush (v := 7) hx hb dL_law_206 (by decide) ?_
      refine lv_irem hx hb dL_law_208 (by decide) ?_
      refine lv_bipush (v := 6) hx hb dL_law_209 (by decide) ?_
      refine lv_icmp_ne (tgt := 262) hx hb dL_law_211 (by decide) (fun c_37 => ?_) (fun c_37 => ?_)
      · skip
        exact hend _ _ _ _ _ _ _ (by omega) (by omega) hI' hV' hP hD hS (lv_sub hl [5, 6, 0, 7, 8] rfl)
      · skip
        refine lv_aload_n hx hb dL_law_214 rfl (lv_at hl 7 rfl) ?_
        have eU : ((nI qq, (x.1, qq, x'.2.2)) : Int32 × XS) = X_undo x' := by
          unfold X_undo X_goBack
          rw [q2]
          show _ = ((nI qq, (x'.2.2.1 qq, qq, x'.2.2)) : Int32 × XS)
          rw [q5, q6]
        refine b_alli (W1 := fun pa => (xW cI cC cG ad pa ((x.1, qq, x'.2.2) : XS))) (va_runV (As := []) (rest := []) ⟨hx, hb, hml, hown, hts⟩ (cu_TC_undo l dC dI cI cC cG cZ ad pa x' hI'.2.1 (nI qq, (x.1, qq, x'.2.2)) eU) (cwV 0 hts gL_law_X6_undo rfl rfl rfl (by decide +kernel) ⟨Nat.le_of_ble_eq_true rfl, Nat.le_of_ble_eq_true rfl⟩) (b_preV hP hK hD (ci := 6) (i0 := 0) (q0 := 0) rfl rfl rfl) rfl rfl hl.1 rfl (lv_room (Nat.le_of_ble_eq_true rfl)) dL_law_215 ⟨by show _ ≤ 600000; omega, by show _ ≤ 7302250; omega⟩) hD hS (fun H locs pa hP hD hS => ?_)
        have hI2 : IX ((x.1, qq, x'.2.2) : XS) := by have w := IX_undo hI'; rw [← eU] at w; exact w
        have hV2 : INV ((x.1, qq, x'.2.2) : XS).1 := hV
        have hP : bP (dC, dI) vwCl (xW cI cC cG ad pa ((x.1, qq, x'.2.2) : XS)) H := hP
        have hD : bD A (xW cI cC cG ad pa ((x.1, qq, x'.2.2) : XS)) := hD
        have hq0 : ¬ (nI qq) < 0 := nI_pos (by omega)
        refine lv_if_lt (tgt := 260) hx hb dL_law_218 (by decide) (fun c_38 => ?_) (fun c_38 => ?_)
        · exact absurd c_38 hq0
        refine lv_aload_n hx hb dL_law_221 rfl (lv_at hl 7 rfl) ?_
        refine lv_iconst (v := 0) hx hb dL_law_222 (by decide) ?_
        obtain ⟨r_39, hr_39⟩ : ∃ z, z = (F_TC_count (0 : Int32) (((x.1, qq, x'.2.2) : XS).1.1 0) (((x.1, qq, x'.2.2) : XS).1.1 1) (((x.1, qq, x'.2.2) : XS).1.2.1 0) (((x.1, qq, x'.2.2) : XS).1.2.1 1) (((x.1, qq, x'.2.2) : XS).1.2.1 2) (((x.1, qq, x'.2.2) : XS).1.2.2 0) (((x.1, qq, x'.2.2) : XS).1.1 3) (((x.1, qq, x'.2.2) : XS).1.1 11) (((x.1, qq, x'.2.2) : XS).2.2.2.2.2.1) (nI ((x.1, qq, x'.2.2) : XS).2.1)) := ⟨_, rfl⟩
        refine b_alle hr_39 (W1 := fun pa => (xW cI cC cG ad pa ((x.1, qq, x'.2.2) : XS))) (va_runV (As := [.int 0]) (rest := []) ⟨hx, hb, hml, hown, hts⟩ (cu_TC_count l dC dI cI cC cG cZ ad pa ((x.1, qq, x'.2.2) : XS) (0 : Int32) ) (cwV 1 hts gL_law_X6_count rfl rfl rfl (by decide +kernel) ⟨Nat.le_of_ble_eq_true rfl, Nat.le_of_ble_eq_true rfl⟩) (b_preV hP hK hD (ci := 6) (i0 := 0) (q0 := 0) rfl rfl rfl) rfl rfl hl.1 rfl (lv_room (Nat.le_of_ble_eq_true rfl)) dL_law_223 ⟨by show _ ≤ 600000; omega, by show _ ≤ 7302250; omega⟩) hD hS (fun H locs pa hP hD hS => ?_)
        have hP : bP (dC, dI) vwCl (xW cI cC cG ad pa ((x.1, qq, x'.2.2) : XS)) H := hP
        have hD : bD A (xW cI cC cG ad pa ((x.1, qq, x'.2.2) : XS)) := hD
        refine lv_iload hx hb dL_law_226 (lv_at hl 3 rfl) ?_
        have hs1 : r_39 = r_2 := hr_39.trans (show _ = r_2 from hr_2.symm)
        refine lv_icmp_ne (tgt := 260) hx hb dL_law_228 (by decide) (fun c_40 => ?_) (fun c_40 => ?_)
        · exact absurd hs1 c_40
        refine lv_aload_n hx hb dL_law_231 rfl (lv_at hl 7 rfl) ?_
        refine lv_iconst (v := 4) hx hb dL_law_232 (by decide) ?_
        obtain ⟨r_41, hr_41⟩ : ∃ z, z = (F_TC_count (4 : Int32) (((x.1, qq, x'.2.2) : XS).1.1 0) (((x.1, qq, x'.2.2) : XS).1.1 1) (((x.1, qq, x'.2.2) : XS).1.2.1 0) (((x.1, qq, x'.2.2) : XS).1.2.1 1) (((x.1, qq, x'.2.2) : XS).1.2.1 2) (((x.1, qq, x'.2.2) : XS).1.2.2 0) (((x.1, qq, x'.2.2) : XS).1.1 3) (((x.1, qq, x'.2.2) : XS).1.1 11) (((x.1, qq, x'.2.2) : XS).2.2.2.2.2.1) (nI ((x.1, qq, x'.2.2) : XS).2.1)) := ⟨_, rfl⟩
        refine b_alle hr_41 (W1 := fun pa => (xW cI cC cG ad pa ((x.1, qq, x'.2.2) : XS))) (va_runV (As := [.int 4]) (rest := []) ⟨hx, hb, hml, hown, hts⟩ (cu_TC_count l dC dI cI cC cG cZ ad pa ((x.1, qq, x'.2.2) : XS) (4 : Int32) ) (cwV 1 hts gL_law_X6_count rfl rfl rfl (by decide +kernel) ⟨Nat.le_of_ble_eq_true rfl, Nat.le_of_ble_eq_true rfl⟩) (b_preV hP hK hD (ci := 6) (i0 := 0) (q0 := 0) rfl rfl rfl) rfl rfl hl.1 rfl (lv_room (Nat.le_of_ble_eq_true rfl)) dL_law_233 ⟨by show _ ≤ 600000; omega, by show _ ≤ 7302250; omega⟩) hD hS (fun H locs pa hP hD hS => ?_)
        have hP : bP (dC, dI) vwCl (xW cI cC cG ad pa ((x.1, qq, x'.2.2) : XS)) H := hP
        have hD : bD A (xW cI cC cG ad pa ((x.1, qq, x'.2.2) : XS)) := hD
        refine lv_iload hx hb dL_law_236 (lv_at hl 2 rfl) ?_
        have hs2 : r_41 = r_3 := hr_41.trans (show _ = r_3 from hr_3.symm)
        refine lv_icmp_ne (tgt := 260) hx hb dL_law_238 (by decide) (fun c_42 => ?_) (fun c_42 => ?_)
        · exact absurd hs2 c_42
        refine lv_aload_n hx hb dL_law_241 rfl (lv_at hl 7 rfl) ?_
        refine lv_aload_n hx hb dL_law_242 rfl (lv_at hl 8 rfl) ?_
        refine lv_iconst (v := 2) hx hb dL_law_243 (by decide) ?_
        refine lv_iload hx hb dL_law_244 (lv_at hl 5 rfl) ?_
        refine lv_imul hx hb dL_law_246 ?_
        obtain ⟨q_43, cq_43⟩ := c_Law_cell l b L xs (((2 : Int32) * (nI k))) (j := 2 * k) (by rw [show (2 : Int32) = nI 2 from rfl, nI_mul]) (by omega) hL
        refine b_roi (va_runS (As := [.ref b, .int ((2 : Int32) * (nI k))]) (rest := [.ref (ad 0 0)]) ⟨hx, hb, hml, hown, hts⟩ cq_43 (va_cwS 2 hts gL_law_L_cell rfl rfl rfl (by decide +kernel) ⟨Nat.le_of_ble_eq_true rfl, Nat.le_of_ble_eq_true rfl⟩) (x_preS hX hbl hbA hS) rfl rfl hl.1 rfl (lv_room (Nat.le_of_ble_eq_true rfl)) dL_law_247 ⟨by show _ ≤ 600000; omega, by show _ ≤ 7302250; omega⟩) hP hS (fun H locs hP hS => ?_)
        have hP : bP (dC, dI) vwCl (xW cI cC cG ad pa ((x.1, qq, x'.2.2) : XS)) H := hP
        have hD : bD A (xW cI cC cG ad pa ((x.1, qq, x'.2.2) : XS)) := hD
        refine b_allA (r := 1) (holds_x hV2 q_43).symm (W1 := fun pa => (xW cI cC cG ad pa ((x.1, qq, x'.2.2) : XS))) (va_runS (As := [.ref (ad 0 0), .int q_43]) (rest := []) ⟨hx, hb, hml, hown, hts⟩ (cu_Law_holds l dC dI cI cC cG cZ ad pa ((x.1, qq, x'.2.2) : XS) q_43 hI2 (inv_st hV2) H.size) (va_cwS 2 hts gL_law_L_holds rfl rfl rfl (by decide +kernel) ⟨Nat.le_of_ble_eq_true rfl, Nat.le_of_ble_eq_true rfl⟩) (b_preSA hP hK hD) rfl rfl hl.1 rfl (lv_room (Nat.le_of_ble_eq_true rfl)) dL_law_250 ⟨by show _ ≤ 600000; omega, by show _ ≤ 7302250; omega⟩) hD hS hA (fun H locs pa hP hD hS => ?_)
        have hP : bP (dC, dI) vwCl (xW cI cC cG ad pa ((x.1, qq, x'.2.2) : XS)) H := hP
        have hD : bD A (xW cI cC cG ad pa ((x.1, qq, x'.2.2) : XS)) := hD
        refine lv_if_eq (tgt := 260) hx hb dL_law_253 (by decide) (fun c_44 => ?_) (fun c_44 => ?_)
        · exact absurd c_44 (by decide)
        refine lv_iconst (v := 1) hx hb dL_law_256 (by decide) ?_
        refine lv_goto (tgt := 261) hx hb dL_law_257 (by decide) ?_
        refine lv_istore_n (lv' := [(2, .int 1), (8, .int 1), (7, .int r_3), (6, .int r_2), (5, .int r_1), (4, .int (nI k)), (3, .int (nI T)), (1, .ref (ad 0 0)), (0, .ref b)]) hx hb dL_law_261 rfl hl (by decide) rfl (fun ls hl => ?_)
        exact hend _ _ _ _ _ _ _ (by omega) (by omega) hI2 hV2 hP hD hS (lv_sub hl [5, 6, 0, 7, 8] rfl)
set_option maxHeartbeats 8000000 in
set_option maxRecDepth 100000 in
theorem law_loop {p : Program} {e : Env} {s : State} {m : MethodId} {below : List Frame} {meth : Method} {c : Code} (l : Launch) {b L : Nat} {xs : Nat → Int32} {A : Nat → Prop} (hx : p.tables.exec = Jvm.exec) (hb : c.code = code) (hr : meth.sig.returnType = ret) (hml : c.maxLocals = 9) (hown : s.vm.findClass RL = some m.cls) (hts : ∀ w ∈ wsL_law, w.before #[Value.ref b] s = true) (hX : va_X b L xs s s.heap) (hbl : b < s.heap.size) (hbA : ¬ A b) (dC : Nat → ClassId) (dI : Nat → Nat → Nat) (cI cC cG cZ : ClassId) (ad : Nat → Nat → Nat) (hK : va_K (dC, dI) vwCl (tyL cI cC cG cZ) s) (hL : L ≤ 260) (hA : ∀ q : Nat, s.heap.size ≤ q → A q) (hlocks : meth.locks = false) (hAe : A = fun q => s.heap.size ≤ q) (T : Nat) (hT40 : T ≤ 40) : ∀ (n k : Nat) (C S : Nat) (pa : Nat → Nat → Nat) (x : XS) (H : Heap) (locs : List Loc) (ls : Array Slot), k ≤ T → T - k < n → C ≤ 1000 + 336 * k → S ≤ 20000 + 16040 * k → IX x → INV x.1 → bP (dC, dI) vwCl (xW cI cC cG ad pa x) H → bD A (xW cI cC cG ad pa x) → va_S A s.heap H locs → lv_has ls 9 [(4, .int (nI k)), (3, .int (nI T)), (2, .int 1), (1, .ref (ad 0 0)), (0, .ref b)] → W p l e room_1 s m #[Value.ref b] below meth c H locs C S (lw_Z below #[Value.ref b] s) (F0 m 53 ls []) := by
  intro n
  induction n with
  | zero => intro k C S pa x H locs ls hk hn; exact absurd hn (Nat.not_lt_zero _)
  | succ n ih =>
    intro k C S pa x H locs ls hk hn hC hSs hI hV hP hD hS hl
    refine lv_iload hx hb dL_law_53 (lv_at hl 0 rfl) ?_
    refine lv_iload_n hx hb dL_law_55 rfl (lv_at hl 1 rfl) ?_
    refine lv_icmp_ge (tgt := 268) hx hb dL_law_56 (by decide) (fun d => ?_) (fun d => ?_)
    · refine W.widen (k := 600000) (n := 7302250) (by omega) (by omega) ?_
      refine lv_iload_n hx hb dL_law_268 rfl (lv_at hl 2 rfl) ?_
      refine va_forget (fun q hq => by have h := hS.2.2 q hq; rw [hAe] at h; exact h) ?_
      exact lw_ret hx hb hr hlocks dL_law_269
    · have hkT : k < T := Nat.lt_of_not_le fun z => d (nI_le z (by omega))
      refine lv_iload_n hx hb dL_law_59 rfl (lv_at hl 2 rfl) ?_
      refine lv_if_eq (tgt := 268) hx hb dL_law_60 (by decide) (fun d => ?_) (fun d => ?_)
      · exact absurd d (by decide)
      refine law_iter l hx hb hr hml hown hts hX hbl hbA dC dI cI cC cG cZ ad hK hL hA T k hkT hT40 C S (by omega) (by omega) pa x hI hV H locs ls hP hD hS hl ?_
      intro H locs ls pa x C1 S1 hC1 hS1 hI hV hP hD hS hl
      refine lv_iinc (v := nI (k + 1)) (lv' := [(4, .int (nI (k + 1))), (3, .int (nI T)), (2, .int 1), (1, .ref (ad 0 0)), (0, .ref b)]) hx hb dL_law_262 hl (k := 0) rfl (nI_1 k) (by decide) rfl (fun ls hl => ?_)
      refine lv_goto (tgt := 53) hx hb dL_law_265 (by decide) ?_
      exact ih (k + 1) C1 S1 pa x H locs ls (by omega) (by omega) (by omega) (by omega) hI hV hP hD hS hl
set_option maxHeartbeats 8000000 in
set_option maxRecDepth 100000 in
theorem law_begin {p : Program} {e : Env} {s : State} {m : MethodId} {below : List Frame} {meth : Method} {c : Code} (l : Launch) {b L : Nat} {xs : Nat → Int32} {A : Nat → Prop} (hx : p.tables.exec = Jvm.exec) (hb : c.code = code) (hr : meth.sig.returnType = ret) (hml : c.maxLocals = 9) (hown : s.vm.findClass RL = some m.cls) (hts : ∀ w ∈ wsL_law, w.before #[Value.ref b] s = true) (hX : va_X b L xs s s.heap) (hbl : b < s.heap.size) (hbA : ¬ A b) (dC : Nat → ClassId) (dI : Nat → Nat → Nat) (cI cC cG cZ : ClassId) (ad : Nat → Nat → Nat) (hK : va_K (dC, dI) vwCl (tyL cI cC cG cZ) s) (hL : L ≤ 260) (hA : ∀ q : Nat, s.heap.size ≤ q → A q) (hlocks : meth.locks = false) (hAe : A = fun q => s.heap.size ≤ q) (C S : Nat) (hC1 : C + 168 ≤ 1000) (hS1 : S + 8020 ≤ 20000) (pa : Nat → Nat → Nat) (H : Heap) (locs : List Loc) (ls : Array Slot) (hP : bP (dC, dI) vwCl (xW cI cC cG ad pa x_0) H) (hD : bD A (xW cI cC cG ad pa x_0)) (hS : va_S A s.heap H locs) (hl : lv_has ls 9 [(1, .ref (ad 0 0)), (0, .ref b)]) : W p l e room_1 s m #[Value.ref b] below meth c H locs C S (lw_Z below #[Value.ref b] s) (F0 m 8 ls []) := by
  refine lv_aload_n hx hb dL_law_8 rfl (lv_at hl 0 rfl) ?_
  refine lv_iconst (v := 5) hx hb dL_law_9 (by decide) ?_
  refine b_allA (r := 1) (holds_x INV_0 (5 : Int32)).symm (W1 := fun pa => (xW cI cC cG ad pa x_0)) (va_runS (As := [.ref (ad 0 0), .int 5]) (rest := []) ⟨hx, hb, hml, hown, hts⟩ (cu_Law_holds l dC dI cI cC cG cZ ad pa x_0 (5 : Int32) IX_0 (inv_st INV_0) H.size) (va_cwS 2 hts gL_law_L_holds rfl rfl rfl (by decide +kernel) ⟨Nat.le_of_ble_eq_true rfl, Nat.le_of_ble_eq_true rfl⟩) (b_preSA hP hK hD) rfl rfl hl.1 rfl (lv_room (Nat.le_of_ble_eq_true rfl)) dL_law_10 ⟨by show _ ≤ 600000; omega, by show _ ≤ 7302250; omega⟩) hD hS hA (fun H locs pa hP hD hS => ?_)
  have hP : bP (dC, dI) vwCl (xW cI cC cG ad pa x_0) H := hP
  have hD : bD A (xW cI cC cG ad pa x_0) := hD
  refine lv_if_eq (tgt := 29) hx hb dL_law_13 (by decide) (fun c_1 => ?_) (fun c_1 => ?_)
  · exact absurd c_1 (by decide)
  refine lv_aload_n hx hb dL_law_16 rfl (lv_at hl 0 rfl) ?_
  refine b_alli (W1 := fun pa => (xW cI cC cG ad pa x_0)) (va_runV (As := []) (rest := []) ⟨hx, hb, hml, hown, hts⟩ (cu_TC_undo l dC dI cI cC cG cZ ad pa x_0 IX_0.2.1 (-5, x_0) rfl) (cwV 0 hts gL_law_X6_undo rfl rfl rfl (by decide +kernel) ⟨Nat.le_of_ble_eq_true rfl, Nat.le_of_ble_eq_true rfl⟩) (b_preV hP hK hD (ci := 6) (i0 := 0) (q0 := 0) rfl rfl rfl) rfl rfl hl.1 rfl (lv_room (Nat.le_of_ble_eq_true rfl)) dL_law_17 ⟨by show _ ≤ 600000; omega, by show _ ≤ 7302250; omega⟩) hD hS (fun H locs pa hP hD hS => ?_)
  have hP : bP (dC, dI) vwCl (xW cI cC cG ad pa x_0) H := hP
  have hD : bD A (xW cI cC cG ad pa x_0) := hD
  refine lv_bipush (v := (-5)) hx hb dL_law_20 (by decide) ?_
  refine lv_icmp_ne (tgt := 29) hx hb dL_law_22 (by decide) (fun c_2 => ?_) (fun c_2 => ?_)
  · exact absurd (by decide) c_2
  refine lv_iconst (v := 1) hx hb dL_law_25 (by decide) ?_
  refine lv_goto (tgt := 30) hx hb dL_law_26 (by decide) ?_
  refine lv_istore_n (lv' := [(2, .int 1), (1, .ref (ad 0 0)), (0, .ref b)]) hx hb dL_law_30 rfl hl (by decide) rfl (fun ls hl => ?_)
  refine lv_aload_n hx hb dL_law_31 rfl (lv_at hl 2 rfl) ?_
  refine va_slen hx hb hX hbl hbA hS dL_law_32 ?_
  refine lv_iconst (v := 2) hx hb dL_law_33 (by decide) ?_
  refine lv_idiv hx hb dL_law_34 (by decide) ?_
  refine lv_bipush (v := 40) hx hb dL_law_35 (by decide) ?_
  refine lv_icmp_le (tgt := 45) hx hb dL_law_37 (by decide) (fun c_3 => ?_) (fun c_3 => ?_)
  · skip
    refine lv_aload_n hx hb dL_law_45 rfl (lv_at hl 2 rfl) ?_
    refine va_slen hx hb hX hbl hbA hS dL_law_46 ?_
    refine lv_iconst (v := 2) hx hb dL_law_47 (by decide) ?_
    refine lv_idiv hx hb dL_law_48 (by decide) ?_
    refine lv_istore_n (lv' := [(3, .int (nI L / 2)), (2, .int 1), (1, .ref (ad 0 0)), (0, .ref b)]) hx hb dL_law_49 rfl hl (by decide) rfl (fun ls hl => ?_)
    refine lv_iconst (v := 0) hx hb dL_law_50 (by decide) ?_
    refine lv_istore (lv' := [(4, .int 0), (3, .int (nI L / 2)), (2, .int 1), (1, .ref (ad 0 0)), (0, .ref b)]) hx hb dL_law_51 hl (by decide) rfl (fun ls hl => ?_)
    have ed : nI L / 2 = nI (L / 2) := pk_div (d := 2) (by omega) (by decide) (by decide)
    rw [ed] at hl
    have hT4 : L / 2 ≤ 40 := (nI_leI (b := 40) (by omega) (by omega)).mp (by rw [← ed]; exact c_3)
    exact law_loop l hx hb hr hml hown hts hX hbl hbA dC dI cI cC cG cZ ad hK hL hA hlocks hAe (L / 2) (by omega) 41 0 _ _ _ x_0 _ _ _ (by omega) (by omega) (by omega) (by omega) IX_0 INV_0 hP hD hS (lv_sub hl [0, 1, 2, 3, 4] rfl)
  · skip
    refine lv_bipush (v := 40) hx hb dL_law_40 (by decide) ?_
    refine lv_goto (tgt := 49) hx hb dL_law_42 (by decide) ?_
    refine lv_istore_n (lv' := [(3, .int 40), (2, .int 1), (1, .ref (ad 0 0)), (0, .ref b)]) hx hb dL_law_49 rfl hl (by decide) rfl (fun ls hl => ?_)
    refine lv_iconst (v := 0) hx hb dL_law_50 (by decide) ?_
    refine lv_istore (lv' := [(4, .int 0), (3, .int 40), (2, .int 1), (1, .ref (ad 0 0)), (0, .ref b)]) hx hb dL_law_51 hl (by decide) rfl (fun ls hl => ?_)
    exact law_loop l hx hb hr hml hown hts hX hbl hbA dC dI cI cC cG cZ ad hK hL hA hlocks hAe 40 (by omega) 41 0 _ _ _ x_0 _ _ _ (by omega) (by omega) (by omega) (by omega) IX_0 INV_0 hP hD hS (lv_sub hl [0, 1, 2, 3, 4] rfl)
