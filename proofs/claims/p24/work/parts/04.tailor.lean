theorem iX5_hasMark_X5 : ∀ w ∈ u_ws RX5 TX5 9, w ∈ wsX5_hasMark := by decide +kernel
theorem kX5_hasMark_11 : Cond.fieldLink RX5 11 "TailorChalks$Tailor" "marked" "[I" ∈ wsX5_hasMark := by decide +kernel
theorem kX5_hasMark_19 : Cond.fieldLink RX5 19 "TailorChalks$Tailor" "marks" "I" ∈ wsX5_hasMark := by decide +kernel
def F_Tailor_hasMark_L2 (joint : Int32) (mks : Int32) (fma : Nat → Int32) : Nat → Int32 → Int32
  | 0, x2 => 0
  | n + 1, x2 => (if mks ≤ x2 then 0 else (if (fma x2.toNatClampNeg) = joint then 1 else (F_Tailor_hasMark_L2 joint mks fma n (x2 + 1))))
def F_Tailor_hasMark (joint : Int32) (mks : Int32) (fma : Nat → Int32) : Int32 := (F_Tailor_hasMark_L2 joint mks fma 9 (0 : Int32))
set_option maxHeartbeats 4000000 in
set_option maxRecDepth 100000 in
theorem c_Tailor_hasMark (l : Launch) (dC : Nat → ClassId) (dI : Nat → Nat → Nat) (cI cC cG cZ : ClassId) (t ma : Nat) (joint : Int32) (mks : Int32) (pts : Int32) (ths : Int32) (rgs : Int32) (rgc : Int32) (fnd : Int32) (rdb : Int32) (wdb : Int32) (fma : Nat → Int32) (hM : tm_ok 8 mks) (res : Int32) (hres : res = F_Tailor_hasMark joint mks fma) : Met l yX5_hasMark wsX5_hasMark ({ frames := 0, cells := 0, slots := 0, locals := 0 }) (va_Pc [.ref t, .int joint] (ro_P (dC, dI) vwCl (tyL cI cC cG cZ) [(t, .inr (5, [.ref ma, .int mks, .int pts, .int ths, .int rgs, .int rgc, .int fnd, .int rdb, .int wdb])), (ma, .inl (cI, 8, .inl fma))])) (va_Qi (fun r (_ : Unit) => r = res) (fun _ _ => True) ro_F) 0 0 ro_F := by
  refine Met.ofW (cc := cX5_hasMark) (maxL := 3) (ret := (some .boolean)) (by decide) rfl ?_
  intro p e s m args below meth c s₁ B hml hv
  obtain ⟨rfl, hP, hK⟩ := hv
  have hx := B.exec
  have hb := B.bytes
  have hr := B.returns
  have hts := atoms_spec (ws := wsX5_hasMark) B.pre
  have hown : s.vm.findClass RX5 = some m.cls := findClass_of_methodNamed B.named
  have hlocks := B.notSynchronized
  have hS : va_S ro_F s.heap s.heap [] := va_S.rf
  have hl := lv_entry ([.ref t, .int joint]) (n := 3) (Nat.le_of_ble_eq_true rfl)
  rw [lg_entry_eq]
  generalize (lg_sl ([.ref t, .int joint]) ++ List.replicate (3 - (lg_sl ([.ref t, .int joint])).length) Slot.unset).toArray = ls at hl ⊢
  have hl : lv_has ls 3 [(0, .ref t), (1, .int joint)] := hl
  obtain ⟨M, hM8, exM⟩ := hM
  rw [F_Tailor_hasMark] at hres
  refine lv_iconst (v := 0) hx hb dX5_hasMark_0 (by decide) ?_
  refine lv_istore_n (lv' := [(2, .int 0), (0, .ref t), (1, .int joint)]) hx hb dX5_hasMark_1 rfl hl (by decide) rfl (fun ls hl => ?_)
  have hloop2 : ∀ (n k2 : Nat) (x2 : Int32) (H : Heap) (locs : List Loc) (ls : Array Slot), k2 ≤ M → M - k2 < n → x2 = nI k2 → res = F_Tailor_hasMark_L2 joint mks fma n x2 → va_P (dC, dI) vwCl [(t, .inr (5, [.ref ma, .int mks, .int pts, .int ths, .int rgs, .int rgc, .int fnd, .int rdb, .int wdb])), (ma, .inl (cI, 8, .inl fma))] H → va_S ro_F s.heap H locs → lv_has ls 3 [(2, .int x2), (0, .ref t), (1, .int joint)] → W p l e (headSpec wsX5_hasMark ({ frames := 0, cells := 0, slots := 0, locals := 0 })).room s m ([.ref t, .int joint] : List Value).toArray below meth c H locs 0 0 (MQ below (va_Qi (fun r (_ : Unit) => r = res) (fun _ _ => True) ro_F) ([.ref t, .int joint] : List Value).toArray s 0 0 ro_F) (F0 m 2 ls []) := by
    intro n
    induction n with
    | zero => intro k2 x2 _ _ _ _ hm; exact absurd hm (Nat.not_lt_zero _)
    | succ n ih2 =>
      intro k2 x2 H locs ls hk2 hm2 ex2  hres hP hS hl
      rw [F_Tailor_hasMark_L2] at hres
      refine lv_iload_n hx hb dX5_hasMark_2 rfl (lv_at hl 0 rfl) ?_
      refine lv_aload_n hx hb dX5_hasMark_3 rfl (lv_at hl 1 rfl) ?_
      refine va_get (D := (dC, dI)) (ci := 5) (v := .int mks) (C := RX5) (T := TX5) (N := 9) hx hb hts iX5_hasMark_X5 hown hK hP 0 rfl rfl 1 (by decide) (hts (.fieldLink RX5 19 "TailorChalks$Tailor" "marks" "I") kX5_hasMark_19) (fun _ h9 => h9) rfl dX5_hasMark_4 ?_
      refine lv_icmp_ge (tgt := 28) hx hb dX5_hasMark_7 (by decide) (fun c_1 => ?_) (fun c_1 => ?_)
      · rw [if_pos c_1] at hres
        refine lv_iconst (v := 0) hx hb dX5_hasMark_28 (by decide) ?_
        exact W.zret (v := 0) hx hb hr rfl (fun t ht hW => ⟨⟨0, (), rfl, hres.symm, trivial⟩, hS.F ht⟩) hS.2.2 dX5_hasMark_29
      · rw [if_neg c_1] at hres
        have hlt_k2 : k2 < M := lp_lt exM ex2 hk2 c_1
        refine lv_aload_n hx hb dX5_hasMark_10 rfl (lv_at hl 1 rfl) ?_
        refine va_get (D := (dC, dI)) (ci := 5) (v := .ref ma) (C := RX5) (T := TX5) (N := 9) hx hb hts iX5_hasMark_X5 hown hK hP 0 rfl rfl 0 (by decide) (hts (.fieldLink RX5 11 "TailorChalks$Tailor" "marked" "[I") kX5_hasMark_11) (fun _ h9 => h9) rfl dX5_hasMark_11 ?_
        refine lv_iload_n hx hb dX5_hasMark_14 rfl (lv_at hl 0 rfl) ?_
        refine va_iald hx hb hK hP 1 0 rfl rfl (by rw [ex2]; exact vp_in_nI (by omega) (by decide)) dX5_hasMark_15 ?_
        refine lv_iload_n hx hb dX5_hasMark_16 rfl (lv_at hl 2 rfl) ?_
        refine lv_icmp_ne (tgt := 22) hx hb dX5_hasMark_17 (by decide) (fun c_2 => ?_) (fun c_2 => ?_)
        · rw [if_neg c_2] at hres
          refine lv_iinc (v := (x2 + 1)) (lv' := [(2, .int (x2 + 1)), (0, .ref t), (1, .int joint)]) hx hb dX5_hasMark_22 hl (k := 0) rfl rfl (by decide) rfl (fun ls hl => ?_)
          refine lv_goto (tgt := 2) hx hb dX5_hasMark_25 (by decide) ?_
          exact ih2 (k2 + 1) (x2 + 1) _ _ _ (by omega) (by omega) (by rw [ex2]; exact nI_1 _)  hres hP hS (lv_sub hl [0, 1, 2] rfl)
        · rw [if_pos c_2] at hres
          refine lv_iconst (v := 1) hx hb dX5_hasMark_20 (by decide) ?_
          exact W.zret (v := 1) hx hb hr rfl (fun t ht hW => ⟨⟨1, (), rfl, hres.symm, trivial⟩, hS.F ht⟩) hS.2.2 dX5_hasMark_21
  exact hloop2 9 0 (0 : Int32) _ _ _ (by omega) (by omega) nI_0.symm  hres hP hS (lv_sub hl [0, 1, 2] rfl)
theorem iX5_markAt_X5 : ∀ w ∈ u_ws RX5 TX5 9, w ∈ wsX5_markAt := by decide +kernel
theorem kX5_markAt_11 : Cond.fieldLink RX5 11 "TailorChalks$Tailor" "marked" "[I" ∈ wsX5_markAt := by decide +kernel
theorem kX5_markAt_19 : Cond.fieldLink RX5 19 "TailorChalks$Tailor" "marks" "I" ∈ wsX5_markAt := by decide +kernel
def F_Tailor_markAt (rank : Int32) (mks : Int32) (fma : Nat → Int32) : Int32 := (if rank < 0 then (-1) else (if mks ≤ rank then (-1) else (fma rank.toNatClampNeg)))
set_option maxHeartbeats 4000000 in
set_option maxRecDepth 100000 in
theorem c_Tailor_markAt (l : Launch) (dC : Nat → ClassId) (dI : Nat → Nat → Nat) (cI cC cG cZ : ClassId) (t ma : Nat) (rank : Int32) (mks : Int32) (pts : Int32) (ths : Int32) (rgs : Int32) (rgc : Int32) (fnd : Int32) (rdb : Int32) (wdb : Int32) (fma : Nat → Int32) (hM : tm_ok 8 mks) (res : Int32) (hres : res = F_Tailor_markAt rank mks fma) : Met l yX5_markAt wsX5_markAt ({ frames := 0, cells := 0, slots := 0, locals := 0 }) (va_Pc [.ref t, .int rank] (ro_P (dC, dI) vwCl (tyL cI cC cG cZ) [(t, .inr (5, [.ref ma, .int mks, .int pts, .int ths, .int rgs, .int rgc, .int fnd, .int rdb, .int wdb])), (ma, .inl (cI, 8, .inl fma))])) (va_Qi (fun r (_ : Unit) => r = res) (fun _ _ => True) ro_F) 0 0 ro_F := by
  refine Met.ofW (cc := cX5_markAt) (maxL := 2) (ret := (some .int)) (by decide) rfl ?_
  intro p e s m args below meth c s₁ B hml hv
  obtain ⟨rfl, hP, hK⟩ := hv
  have hx := B.exec
  have hb := B.bytes
  have hr := B.returns
  have hts := atoms_spec (ws := wsX5_markAt) B.pre
  have hown : s.vm.findClass RX5 = some m.cls := findClass_of_methodNamed B.named
  have hlocks := B.notSynchronized
  have hS : va_S ro_F s.heap s.heap [] := va_S.rf
  have hl := lv_entry ([.ref t, .int rank]) (n := 2) (Nat.le_of_ble_eq_true rfl)
  rw [lg_entry_eq]
  generalize (lg_sl ([.ref t, .int rank]) ++ List.replicate (2 - (lg_sl ([.ref t, .int rank])).length) Slot.unset).toArray = ls at hl ⊢
  have hl : lv_has ls 2 [(0, .ref t), (1, .int rank)] := hl
  rw [F_Tailor_markAt] at hres
  refine lv_iload_n hx hb dX5_markAt_0 rfl (lv_at hl 1 rfl) ?_
  refine lv_if_lt (tgt := 21) hx hb dX5_markAt_1 (by decide) (fun c_1 => ?_) (fun c_1 => ?_)
  · rw [if_pos c_1] at hres
    refine lv_iconst (v := (-1)) hx hb dX5_markAt_21 (by decide) ?_
    exact W.iret (v := (-1)) hx hb hr (fun t ht hW => ⟨⟨(-1), (), rfl, hres.symm, trivial⟩, hS.F ht⟩) hS.2.2 dX5_markAt_22
  · rw [if_neg c_1] at hres
    refine lv_iload_n hx hb dX5_markAt_4 rfl (lv_at hl 1 rfl) ?_
    refine lv_aload_n hx hb dX5_markAt_5 rfl (lv_at hl 0 rfl) ?_
    refine va_get (D := (dC, dI)) (ci := 5) (v := .int mks) (C := RX5) (T := TX5) (N := 9) hx hb hts iX5_markAt_X5 hown hK hP 0 rfl rfl 1 (by decide) (hts (.fieldLink RX5 19 "TailorChalks$Tailor" "marks" "I") kX5_markAt_19) (fun _ h9 => h9) rfl dX5_markAt_6 ?_
    refine lv_icmp_ge (tgt := 21) hx hb dX5_markAt_9 (by decide) (fun c_2 => ?_) (fun c_2 => ?_)
    · rw [if_pos c_2] at hres
      refine lv_iconst (v := (-1)) hx hb dX5_markAt_21 (by decide) ?_
      exact W.iret (v := (-1)) hx hb hr (fun t ht hW => ⟨⟨(-1), (), rfl, hres.symm, trivial⟩, hS.F ht⟩) hS.2.2 dX5_markAt_22
    · rw [if_neg c_2] at hres
      refine lv_aload_n hx hb dX5_markAt_12 rfl (lv_at hl 0 rfl) ?_
      refine va_get (D := (dC, dI)) (ci := 5) (v := .ref ma) (C := RX5) (T := TX5) (N := 9) hx hb hts iX5_markAt_X5 hown hK hP 0 rfl rfl 0 (by decide) (hts (.fieldLink RX5 11 "TailorChalks$Tailor" "marked" "[I") kX5_markAt_11) (fun _ h9 => h9) rfl dX5_markAt_13 ?_
      refine lv_iload_n hx hb dX5_markAt_16 rfl (lv_at hl 1 rfl) ?_
      refine va_iald hx hb hK hP 1 0 rfl rfl (tm_in hM c_1 c_2 (by decide)) dX5_markAt_17 ?_
      refine lv_goto (tgt := 22) hx hb dX5_markAt_18 (by decide) ?_
      exact W.iret (v := (fma rank.toNatClampNeg)) hx hb hr (fun t ht hW => ⟨⟨(fma rank.toNatClampNeg), (), rfl, hres.symm, trivial⟩, hS.F ht⟩) hS.2.2 dX5_markAt_22
theorem iX5_addMark_X5 : ∀ w ∈ u_ws RX5 TX5 9, w ∈ wsX5_addMark := by decide +kernel
theorem kX5_addMark_11 : Cond.fieldLink RX5 11 "TailorChalks$Tailor" "marked" "[I" ∈ wsX5_addMark := by decide +kernel
theorem kX5_addMark_19 : Cond.fieldLink RX5 19 "TailorChalks$Tailor" "marks" "I" ∈ wsX5_addMark := by decide +kernel
def F_Tailor_addMark (joint : Int32) (mks : Int32) (fma : Nat → Int32) : Int32 × Int32 × (Nat → Int32) := (if mks < 8 then (1, (mks + 1), (upd fma mks.toNatClampNeg joint)) else (0, mks, fma))
set_option maxHeartbeats 4000000 in
set_option maxRecDepth 100000 in
theorem c_Tailor_addMark (l : Launch) (dC : Nat → ClassId) (dI : Nat → Nat → Nat) (cI cC cG cZ : ClassId) (t ma : Nat) (joint : Int32) (mks : Int32) (pts : Int32) (ths : Int32) (rgs : Int32) (rgc : Int32) (fnd : Int32) (rdb : Int32) (wdb : Int32) (fma : Nat → Int32) (hM : tm_ok 8 mks) (res : Int32 × Int32 × (Nat → Int32)) (hres : res = F_Tailor_addMark joint mks fma) : Met l yX5_addMark wsX5_addMark ({ frames := 0, cells := 0, slots := 0, locals := 0 }) (va_Pc [.ref t, .int joint] (wr_P (dC, dI) vwCl (tyL cI cC cG cZ) [(t, .inr (5, [.ref ma, .int mks, .int pts, .int ths, .int rgs, .int rgc, .int fnd, .int rdb, .int wdb])), (ma, .inl (cI, 8, .inl fma))])) (va_Qi (fun r (_ : Unit) => r = res.1) (fun _ zt => va_P (dC, dI) vwCl [(t, .inr (5, [.ref ma, .int res.2.1, .int pts, .int ths, .int rgs, .int rgc, .int fnd, .int rdb, .int wdb])), (ma, .inl (cI, 8, .inl res.2.2))] zt.heap) (wr_A [(t, .inr (5, [.ref ma, .int mks, .int pts, .int ths, .int rgs, .int rgc, .int fnd, .int rdb, .int wdb])), (ma, .inl (cI, 8, .inl fma))])) 0 0 (wr_A [(t, .inr (5, [.ref ma, .int mks, .int pts, .int ths, .int rgs, .int rgc, .int fnd, .int rdb, .int wdb])), (ma, .inl (cI, 8, .inl fma))]) := by
  refine Met.ofW (cc := cX5_addMark) (maxL := 2) (ret := (some .boolean)) (by decide) rfl ?_
  intro p e s m args below meth c s₁ B hml hv
  obtain ⟨rfl, hP, hK, hD0⟩ := hv
  have hx := B.exec
  have hb := B.bytes
  have hr := B.returns
  have hts := atoms_spec (ws := wsX5_addMark) B.pre
  have hown : s.vm.findClass RX5 = some m.cls := findClass_of_methodNamed B.named
  have hlocks := B.notSynchronized
  have hD := wr_self hD0
  generalize hAe : wr_A [(t, .inr (5, [.ref ma, .int mks, .int pts, .int ths, .int rgs, .int rgc, .int fnd, .int rdb, .int wdb])), (ma, .inl (cI, 8, .inl fma))] = A at hD ⊢
  have hS : va_S A s.heap s.heap [] := va_S.rf
  have hP : va_P (dC, dI) vwCl [(t, .inr (5, [.ref ma, .int mks, .int pts, .int ths, .int rgs, .int rgc, .int fnd, .int rdb, .int wdb])), (ma, .inl (cI, 8, .inl fma))] s.heap := hP
  have hl := lv_entry ([.ref t, .int joint]) (n := 2) (Nat.le_of_ble_eq_true rfl)
  rw [lg_entry_eq]
  generalize (lg_sl ([.ref t, .int joint]) ++ List.replicate (2 - (lg_sl ([.ref t, .int joint])).length) Slot.unset).toArray = ls at hl ⊢
  have hl : lv_has ls 2 [(0, .ref t), (1, .int joint)] := hl
  rw [F_Tailor_addMark] at hres
  refine lv_aload_n hx hb dX5_addMark_0 rfl (lv_at hl 0 rfl) ?_
  refine va_get (D := (dC, dI)) (ci := 5) (v := .int mks) (C := RX5) (T := TX5) (N := 9) hx hb hts iX5_addMark_X5 hown hK hP 0 rfl rfl 1 (by decide) (hts (.fieldLink RX5 19 "TailorChalks$Tailor" "marks" "I") kX5_addMark_19) (fun _ h9 => h9) rfl dX5_addMark_1 ?_
  refine lv_bipush (v := 8) hx hb dX5_addMark_4 (by decide) ?_
  refine lv_icmp_lt (tgt := 11) hx hb dX5_addMark_6 (by decide) (fun c_1 => ?_) (fun c_1 => ?_)
  · rw [if_pos c_1] at hres
    refine lv_aload_n hx hb dX5_addMark_11 rfl (lv_at hl 0 rfl) ?_
    refine va_get (D := (dC, dI)) (ci := 5) (v := .ref ma) (C := RX5) (T := TX5) (N := 9) hx hb hts iX5_addMark_X5 hown hK hP 0 rfl rfl 0 (by decide) (hts (.fieldLink RX5 11 "TailorChalks$Tailor" "marked" "[I") kX5_addMark_11) (fun _ h9 => h9) rfl dX5_addMark_12 ?_
    refine lv_aload_n hx hb dX5_addMark_15 rfl (lv_at hl 0 rfl) ?_
    refine va_get (D := (dC, dI)) (ci := 5) (v := .int mks) (C := RX5) (T := TX5) (N := 9) hx hb hts iX5_addMark_X5 hown hK hP 0 rfl rfl 1 (by decide) (hts (.fieldLink RX5 19 "TailorChalks$Tailor" "marks" "I") kX5_addMark_19) (fun _ h9 => h9) rfl dX5_addMark_16 ?_
    refine lv_iload_n hx hb dX5_addMark_19 rfl (lv_at hl 1 rfl) ?_
    refine va_iast hx hb hK hP hD hS 1 0 rfl rfl (tm_in2 hM c_1) dX5_addMark_20 (fun H locs hP hD hS => ?_)
    have hP : va_P (dC, dI) vwCl [(t, .inr (5, [.ref ma, .int mks, .int pts, .int ths, .int rgs, .int rgc, .int fnd, .int rdb, .int wdb])), (ma, .inl (cI, 8, .inl (upd fma mks.toNatClampNeg joint)))] H := hP
    have hD : va_D A [(t, .inr (5, [.ref ma, .int mks, .int pts, .int ths, .int rgs, .int rgc, .int fnd, .int rdb, .int wdb])), (ma, .inl (cI, 8, .inl (upd fma mks.toNatClampNeg joint)))] := hD
    refine lv_aload_n hx hb dX5_addMark_21 rfl (lv_at hl 0 rfl) ?_
    refine lv_dup hx hb dX5_addMark_22 rfl ?_
    refine va_get (D := (dC, dI)) (ci := 5) (v := .int mks) (C := RX5) (T := TX5) (N := 9) hx hb hts iX5_addMark_X5 hown hK hP 0 rfl rfl 1 (by decide) (hts (.fieldLink RX5 19 "TailorChalks$Tailor" "marks" "I") kX5_addMark_19) (fun _ h9 => h9) rfl dX5_addMark_23 ?_
    refine lv_iconst (v := 1) hx hb dX5_addMark_26 (by decide) ?_
    refine lv_iadd hx hb dX5_addMark_27 ?_
    refine va_put (D := (dC, dI)) (ci := 5) (v := .int (mks + 1)) (ty := (.int)) (C := RX5) (T := TX5) (N := 9) hx hb hts iX5_addMark_X5 tyX5 tyX5_ok nmX5 hown hK hP hD hS 0 rfl rfl 1 (by decide) (hts (.fieldLink RX5 19 "TailorChalks$Tailor" "marks" "I") kX5_addMark_19) (fun _ h9 => h9) rfl (by decide +kernel) rfl rfl (Nat.le_of_ble_eq_true rfl) dX5_addMark_28 (fun H locs hP hD hS => ?_)
    have hP : va_P (dC, dI) vwCl [(t, .inr (5, [.ref ma, .int (mks + 1), .int pts, .int ths, .int rgs, .int rgc, .int fnd, .int rdb, .int wdb])), (ma, .inl (cI, 8, .inl (upd fma mks.toNatClampNeg joint)))] H := hP
    have hD : va_D A [(t, .inr (5, [.ref ma, .int (mks + 1), .int pts, .int ths, .int rgs, .int rgc, .int fnd, .int rdb, .int wdb])), (ma, .inl (cI, 8, .inl (upd fma mks.toNatClampNeg joint)))] := hD
    refine lv_iconst (v := 1) hx hb dX5_addMark_31 (by decide) ?_
    subst hres
    exact W.zret (v := 1) hx hb hr rfl (fun t ht hW => ⟨⟨1, (), rfl, rfl, (by show va_P _ _ _ t.heap; rw [ht]; exact hP)⟩, hS.F ht⟩) hS.2.2 dX5_addMark_32
  · rw [if_neg c_1] at hres
    refine lv_iconst (v := 0) hx hb dX5_addMark_9 (by decide) ?_
    subst hres
    exact W.zret (v := 0) hx hb hr rfl (fun t ht hW => ⟨⟨0, (), rfl, rfl, (by show va_P _ _ _ t.heap; rw [ht]; exact hP)⟩, hS.F ht⟩) hS.2.2 dX5_addMark_10
theorem iX5_dropMark_X5 : ∀ w ∈ u_ws RX5 TX5 9, w ∈ wsX5_dropMark := by decide +kernel
theorem kX5_dropMark_11 : Cond.fieldLink RX5 11 "TailorChalks$Tailor" "marked" "[I" ∈ wsX5_dropMark := by decide +kernel
theorem kX5_dropMark_19 : Cond.fieldLink RX5 19 "TailorChalks$Tailor" "marks" "I" ∈ wsX5_dropMark := by decide +kernel
def F_Tailor_dropMark_L4 (joint : Int32) (mks : Int32) (fma : Nat → Int32) : Nat → Int32 → Int32 → (Nat → Int32) → Int32 × Int32 × (Nat → Int32)
  | 0, x3, x2, w1f => (x3, x2, w1f)
  | n + 1, x3, x2, w1f => (if mks ≤ x3 then (x3, x2, w1f) else (if (w1f x3.toNatClampNeg) = joint then (F_Tailor_dropMark_L4 joint mks fma n (x3 + 1) x2 w1f) else (F_Tailor_dropMark_L4 joint mks fma n (x3 + 1) (x2 + 1) (upd w1f x2.toNatClampNeg (w1f x3.toNatClampNeg)))))
def F_Tailor_dropMark (joint : Int32) (mks : Int32) (fma : Nat → Int32) : Int32 × (Nat → Int32) := (bnd (F_Tailor_dropMark_L4 joint mks fma 9 (0 : Int32) (0 : Int32) fma) (fun q_1 => (q_1.2.1, q_1.2.2)))
set_option maxHeartbeats 4000000 in
set_option maxRecDepth 100000 in
theorem c_Tailor_dropMark (l : Launch) (dC : Nat → ClassId) (dI : Nat → Nat → Nat) (cI cC cG cZ : ClassId) (t ma : Nat) (joint : Int32) (mks : Int32) (pts : Int32) (ths : Int32) (rgs : Int32) (rgc : Int32) (fnd : Int32) (rdb : Int32) (wdb : Int32) (fma : Nat → Int32) (hM : tm_ok 8 mks) (res : Int32 × (Nat → Int32)) (hres : res = F_Tailor_dropMark joint mks fma) : Met l yX5_dropMark wsX5_dropMark ({ frames := 0, cells := 0, slots := 0, locals := 0 }) (va_Pc [.ref t, .int joint] (wr_P (dC, dI) vwCl (tyL cI cC cG cZ) [(t, .inr (5, [.ref ma, .int mks, .int pts, .int ths, .int rgs, .int rgc, .int fnd, .int rdb, .int wdb])), (ma, .inl (cI, 8, .inl fma))])) (va_Qv (fun (_ : Unit) => True) (fun _ zt => va_P (dC, dI) vwCl [(t, .inr (5, [.ref ma, .int res.1, .int pts, .int ths, .int rgs, .int rgc, .int fnd, .int rdb, .int wdb])), (ma, .inl (cI, 8, .inl res.2))] zt.heap) (wr_A [(t, .inr (5, [.ref ma, .int mks, .int pts, .int ths, .int rgs, .int rgc, .int fnd, .int rdb, .int wdb])), (ma, .inl (cI, 8, .inl fma))])) 0 0 (wr_A [(t, .inr (5, [.ref ma, .int mks, .int pts, .int ths, .int rgs, .int rgc, .int fnd, .int rdb, .int wdb])), (ma, .inl (cI, 8, .inl fma))]) := by
  refine Met.ofW (cc := cX5_dropMark) (maxL := 4) (ret := none) (by decide) rfl ?_
  intro p e s m args below meth c s₁ B hml hv
  obtain ⟨rfl, hP, hK, hD0⟩ := hv
  have hx := B.exec
  have hb := B.bytes
  have hr := B.returns
  have hts := atoms_spec (ws := wsX5_dropMark) B.pre
  have hown : s.vm.findClass RX5 = some m.cls := findClass_of_methodNamed B.named
  have hlocks := B.notSynchronized
  have hD := wr_self hD0
  generalize hAe : wr_A [(t, .inr (5, [.ref ma, .int mks, .int pts, .int ths, .int rgs, .int rgc, .int fnd, .int rdb, .int wdb])), (ma, .inl (cI, 8, .inl fma))] = A at hD ⊢
  have hS : va_S A s.heap s.heap [] := va_S.rf
  have hP : va_P (dC, dI) vwCl [(t, .inr (5, [.ref ma, .int mks, .int pts, .int ths, .int rgs, .int rgc, .int fnd, .int rdb, .int wdb])), (ma, .inl (cI, 8, .inl fma))] s.heap := hP
  have hl := lv_entry ([.ref t, .int joint]) (n := 4) (Nat.le_of_ble_eq_true rfl)
  rw [lg_entry_eq]
  generalize (lg_sl ([.ref t, .int joint]) ++ List.replicate (4 - (lg_sl ([.ref t, .int joint])).length) Slot.unset).toArray = ls at hl ⊢
  have hl : lv_has ls 4 [(0, .ref t), (1, .int joint)] := hl
  obtain ⟨M, hM8, exM⟩ := hM
  rw [F_Tailor_dropMark] at hres
  refine lv_iconst (v := 0) hx hb dX5_dropMark_0 (by decide) ?_
  refine lv_istore_n (lv' := [(2, .int 0), (0, .ref t), (1, .int joint)]) hx hb dX5_dropMark_1 rfl hl (by decide) rfl (fun ls hl => ?_)
  refine lv_iconst (v := 0) hx hb dX5_dropMark_2 (by decide) ?_
  refine lv_istore_n (lv' := [(3, .int 0), (2, .int 0), (0, .ref t), (1, .int joint)]) hx hb dX5_dropMark_3 rfl hl (by decide) rfl (fun ls hl => ?_)
  obtain ⟨q_1, hq_1⟩ : ∃ z, z = F_Tailor_dropMark_L4 joint mks fma 9 (0 : Int32) (0 : Int32) fma := ⟨_, rfl⟩
  rw [bnd_e hq_1] at hres
  have hexit4 : ∀ (H : Heap) (locs : List Loc) (ls : Array Slot), va_P (dC, dI) vwCl [(t, .inr (5, [.ref ma, .int mks, .int pts, .int ths, .int rgs, .int rgc, .int fnd, .int rdb, .int wdb])), (ma, .inl (cI, 8, .inl q_1.2.2))] H → va_D A [(t, .inr (5, [.ref ma, .int mks, .int pts, .int ths, .int rgs, .int rgc, .int fnd, .int rdb, .int wdb])), (ma, .inl (cI, 8, .inl q_1.2.2))] → va_S A s.heap H locs → lv_has ls 4 [(3, .int q_1.1), (2, .int q_1.2.1), (0, .ref t), (1, .int joint)] → W p l e (headSpec wsX5_dropMark ({ frames := 0, cells := 0, slots := 0, locals := 0 })).room s m ([.ref t, .int joint] : List Value).toArray below meth c H locs 0 0 (MQ below (va_Qv (fun (_ : Unit) => True) (fun _ zt => va_P (dC, dI) vwCl [(t, .inr (5, [.ref ma, .int res.1, .int pts, .int ths, .int rgs, .int rgc, .int fnd, .int rdb, .int wdb])), (ma, .inl (cI, 8, .inl res.2))] zt.heap) A) ([.ref t, .int joint] : List Value).toArray s 0 0 A) (F0 m 43 ls []) := by
    intro H locs ls  hP hD hS hl
    refine lv_aload_n hx hb dX5_dropMark_43 rfl (lv_at hl 2 rfl) ?_
    refine lv_iload_n hx hb dX5_dropMark_44 rfl (lv_at hl 1 rfl) ?_
    refine va_put (D := (dC, dI)) (ci := 5) (v := .int q_1.2.1) (ty := (.int)) (C := RX5) (T := TX5) (N := 9) hx hb hts iX5_dropMark_X5 tyX5 tyX5_ok nmX5 hown hK hP hD hS 0 rfl rfl 1 (by decide) (hts (.fieldLink RX5 19 "TailorChalks$Tailor" "marks" "I") kX5_dropMark_19) (fun _ h9 => h9) rfl (by decide +kernel) rfl rfl (Nat.le_of_ble_eq_true rfl) dX5_dropMark_45 (fun H locs hP hD hS => ?_)
    have hP : va_P (dC, dI) vwCl [(t, .inr (5, [.ref ma, .int q_1.2.1, .int pts, .int ths, .int rgs, .int rgc, .int fnd, .int rdb, .int wdb])), (ma, .inl (cI, 8, .inl q_1.2.2))] H := hP
    have hD : va_D A [(t, .inr (5, [.ref ma, .int q_1.2.1, .int pts, .int ths, .int rgs, .int rgc, .int fnd, .int rdb, .int wdb])), (ma, .inl (cI, 8, .inl q_1.2.2))] := hD
    subst hres
    exact W.vret hx hb hr (fun t ht hW => ⟨⟨(), rfl, trivial, (by show va_P _ _ _ t.heap; rw [ht]; exact hP)⟩, hS.F ht⟩) hS.2.2 dX5_dropMark_48
  have hloop4 : ∀ (n k4 : Nat) (x3 : Int32) (x2 : Int32) (w1f : Nat → Int32) (H : Heap) (locs : List Loc) (ls : Array Slot), k4 ≤ M → M - k4 < n → x3 = nI k4 → kq x2 k4 → q_1 = F_Tailor_dropMark_L4 joint mks fma n x3 x2 w1f → va_P (dC, dI) vwCl [(t, .inr (5, [.ref ma, .int mks, .int pts, .int ths, .int rgs, .int rgc, .int fnd, .int rdb, .int wdb])), (ma, .inl (cI, 8, .inl w1f))] H → va_D A [(t, .inr (5, [.ref ma, .int mks, .int pts, .int ths, .int rgs, .int rgc, .int fnd, .int rdb, .int wdb])), (ma, .inl (cI, 8, .inl w1f))] → va_S A s.heap H locs → lv_has ls 4 [(3, .int x3), (2, .int x2), (0, .ref t), (1, .int joint)] → W p l e (headSpec wsX5_dropMark ({ frames := 0, cells := 0, slots := 0, locals := 0 })).room s m ([.ref t, .int joint] : List Value).toArray below meth c H locs 0 0 (MQ below (va_Qv (fun (_ : Unit) => True) (fun _ zt => va_P (dC, dI) vwCl [(t, .inr (5, [.ref ma, .int res.1, .int pts, .int ths, .int rgs, .int rgc, .int fnd, .int rdb, .int wdb])), (ma, .inl (cI, 8, .inl res.2))] zt.heap) A) ([.ref t, .int joint] : List Value).toArray s 0 0 A) (F0 m 4 ls []) := by
    intro n
    induction n with
    | zero => intro k4 x3 x2 w1f _ _ _ _ hm; exact absurd hm (Nat.not_lt_zero _)
    | succ n ih4 =>
      intro k4 x3 x2 w1f H locs ls hk4 hm4 ex4 hkq hq_1 hP hD hS hl
      rw [F_Tailor_dropMark_L4] at hq_1
      refine lv_iload_n hx hb dX5_dropMark_4 rfl (lv_at hl 0 rfl) ?_
      refine lv_aload_n hx hb dX5_dropMark_5 rfl (lv_at hl 2 rfl) ?_
      refine va_get (D := (dC, dI)) (ci := 5) (v := .int mks) (C := RX5) (T := TX5) (N := 9) hx hb hts iX5_dropMark_X5 hown hK hP 0 rfl rfl 1 (by decide) (hts (.fieldLink RX5 19 "TailorChalks$Tailor" "marks" "I") kX5_dropMark_19) (fun _ h9 => h9) rfl dX5_dropMark_6 ?_
      refine lv_icmp_ge (tgt := 43) hx hb dX5_dropMark_9 (by decide) (fun c_2 => ?_) (fun c_2 => ?_)
      · rw [if_pos c_2] at hq_1
        subst hq_1
        exact hexit4 _ _ _  hP hD hS (lv_sub hl [0, 1, 2, 3] rfl)
      · rw [if_neg c_2] at hq_1
        have hlt_k4 : k4 < M := lp_lt exM ex4 hk4 c_2
        refine lv_aload_n hx hb dX5_dropMark_12 rfl (lv_at hl 2 rfl) ?_
        refine va_get (D := (dC, dI)) (ci := 5) (v := .ref ma) (C := RX5) (T := TX5) (N := 9) hx hb hts iX5_dropMark_X5 hown hK hP 0 rfl rfl 0 (by decide) (hts (.fieldLink RX5 11 "TailorChalks$Tailor" "marked" "[I") kX5_dropMark_11) (fun _ h9 => h9) rfl dX5_dropMark_13 ?_
        refine lv_iload_n hx hb dX5_dropMark_16 rfl (lv_at hl 0 rfl) ?_
        refine va_iald hx hb hK hP 1 0 rfl rfl (by rw [ex4]; exact vp_in_nI (by omega) (by decide)) dX5_dropMark_17 ?_
        refine lv_iload_n hx hb dX5_dropMark_18 rfl (lv_at hl 3 rfl) ?_
        refine lv_icmp_eq (tgt := 37) hx hb dX5_dropMark_19 (by decide) (fun c_3 => ?_) (fun c_3 => ?_)
        · rw [if_pos c_3] at hq_1
          refine lv_iinc (v := (x3 + 1)) (lv' := [(3, .int (x3 + 1)), (2, .int x2), (0, .ref t), (1, .int joint)]) hx hb dX5_dropMark_37 hl (k := 0) rfl rfl (by decide) rfl (fun ls hl => ?_)
          refine lv_goto (tgt := 4) hx hb dX5_dropMark_40 (by decide) ?_
          exact ih4 (k4 + 1) (x3 + 1) x2 w1f _ _ _ (by omega) (by omega) (by rw [ex4]; exact nI_1 _) (by first | exact kq_up hkq | exact kq_keep hkq) hq_1 hP hD hS (lv_sub hl [0, 1, 2, 3] rfl)
        · rw [if_neg c_3] at hq_1
          refine lv_aload_n hx hb dX5_dropMark_22 rfl (lv_at hl 2 rfl) ?_
          refine va_get (D := (dC, dI)) (ci := 5) (v := .ref ma) (C := RX5) (T := TX5) (N := 9) hx hb hts iX5_dropMark_X5 hown hK hP 0 rfl rfl 0 (by decide) (hts (.fieldLink RX5 11 "TailorChalks$Tailor" "marked" "[I") kX5_dropMark_11) (fun _ h9 => h9) rfl dX5_dropMark_23 ?_
          refine lv_iload_n hx hb dX5_dropMark_26 rfl (lv_at hl 1 rfl) ?_
          refine lv_aload_n hx hb dX5_dropMark_27 rfl (lv_at hl 2 rfl) ?_
          refine va_get (D := (dC, dI)) (ci := 5) (v := .ref ma) (C := RX5) (T := TX5) (N := 9) hx hb hts iX5_dropMark_X5 hown hK hP 0 rfl rfl 0 (by decide) (hts (.fieldLink RX5 11 "TailorChalks$Tailor" "marked" "[I") kX5_dropMark_11) (fun _ h9 => h9) rfl dX5_dropMark_28 ?_
          refine lv_iload_n hx hb dX5_dropMark_31 rfl (lv_at hl 0 rfl) ?_
          refine va_iald hx hb hK hP 1 0 rfl rfl (by rw [ex4]; exact vp_in_nI (by omega) (by decide)) dX5_dropMark_32 ?_
          refine va_iast hx hb hK hP hD hS 1 0 rfl rfl (kq_in hkq (n := 8) (by omega) (by decide)) dX5_dropMark_33 (fun H locs hP hD hS => ?_)
          have hP : va_P (dC, dI) vwCl [(t, .inr (5, [.ref ma, .int mks, .int pts, .int ths, .int rgs, .int rgc, .int fnd, .int rdb, .int wdb])), (ma, .inl (cI, 8, .inl (upd w1f x2.toNatClampNeg (w1f x3.toNatClampNeg))))] H := hP
          have hD : va_D A [(t, .inr (5, [.ref ma, .int mks, .int pts, .int ths, .int rgs, .int rgc, .int fnd, .int rdb, .int wdb])), (ma, .inl (cI, 8, .inl (upd w1f x2.toNatClampNeg (w1f x3.toNatClampNeg))))] := hD
          refine lv_iinc (v := (x2 + 1)) (lv' := [(2, .int (x2 + 1)), (3, .int x3), (0, .ref t), (1, .int joint)]) hx hb dX5_dropMark_34 hl (k := 1) rfl rfl (by decide) rfl (fun ls hl => ?_)
          refine lv_iinc (v := (x3 + 1)) (lv' := [(3, .int (x3 + 1)), (2, .int (x2 + 1)), (0, .ref t), (1, .int joint)]) hx hb dX5_dropMark_37 hl (k := 1) rfl rfl (by decide) rfl (fun ls hl => ?_)
          refine lv_goto (tgt := 4) hx hb dX5_dropMark_40 (by decide) ?_
          exact ih4 (k4 + 1) (x3 + 1) (x2 + 1) (upd w1f x2.toNatClampNeg (w1f x3.toNatClampNeg)) _ _ _ (by omega) (by omega) (by rw [ex4]; exact nI_1 _) (by first | exact kq_up hkq | exact kq_keep hkq) hq_1 hP hD hS (lv_sub hl [0, 1, 2, 3] rfl)
  exact hloop4 9 0 (0 : Int32) (0 : Int32) fma _ _ _ (by omega) (by omega) nI_0.symm kq_0 hq_1 hP hD hS (lv_sub hl [0, 1, 2, 3] rfl)
theorem dm_loop (joint mks : Int32) (fma : Nat → Int32) {M : Nat} (exM : mks = nI M) (hM8 : M ≤ 8) : ∀ (n k : Nat) (x2 : Int32) (w : Nat → Int32), k ≤ M → M - k < n → kq x2 k → tm_ok 8 (F_Tailor_dropMark_L4 joint mks fma n (nI k) x2 w).2.1 := by
  intro n
  induction n with
  | zero => intro k x2 w hk hn; exact absurd hn (Nat.not_lt_zero _)
  | succ n ih =>
    intro k x2 w hk hn hq
    rw [F_Tailor_dropMark_L4]
    by_cases c : mks ≤ nI k
    · rw [if_pos c]
      obtain ⟨q, h1, h2⟩ := hq
      exact ⟨q, by omega, h2⟩
    · rw [if_neg c]
      have hlt : k < M := lp_lt exM rfl hk c
      by_cases d : w (nI k).toNatClampNeg = joint
      · rw [if_pos d, nI_1]; exact ih (k + 1) _ _ (by omega) (by omega) (kq_keep hq)
      · rw [if_neg d, nI_1]; exact ih (k + 1) _ _ (by omega) (by omega) (kq_up hq)
theorem dropMark_ok {joint mks : Int32} {fma : Nat → Int32} (h : tm_ok 8 mks) : tm_ok 8 (F_Tailor_dropMark joint mks fma).1 := by
  obtain ⟨M, hM, e⟩ := h
  exact dm_loop joint mks fma e hM 9 0 0 fma (Nat.zero_le _) (by omega) kq_0
theorem iX5_winRag_X5 : ∀ w ∈ u_ws RX5 TX5 9, w ∈ wsX5_winRag := by decide +kernel
theorem kX5_winRag_22 : Cond.fieldLink RX5 22 "TailorChalks$Tailor" "points" "I" ∈ wsX5_winRag := by decide +kernel
theorem kX5_winRag_25 : Cond.fieldLink RX5 25 "TailorChalks$Tailor" "rags" "I" ∈ wsX5_winRag := by decide +kernel
theorem kX5_winRag_28 : Cond.fieldLink RX5 28 "TailorChalks$Tailor" "ragCells" "I" ∈ wsX5_winRag := by decide +kernel
def F_Tailor_winRag (cells : Int32) (pts : Int32) (rgs : Int32) (rgc : Int32) : Int32 × Int32 × Int32 := ((rgs + 1), (rgc + cells), (pts + cells))
set_option maxHeartbeats 4000000 in
set_option maxRecDepth 100000 in
theorem c_Tailor_winRag (l : Launch) (dC : Nat → ClassId) (dI : Nat → Nat → Nat) (cI cC cG cZ : ClassId) (t ma : Nat) (cells : Int32) (mks : Int32) (pts : Int32) (ths : Int32) (rgs : Int32) (rgc : Int32) (fnd : Int32) (rdb : Int32) (wdb : Int32) (res : Int32 × Int32 × Int32) (hres : res = F_Tailor_winRag cells pts rgs rgc) : Met l yX5_winRag wsX5_winRag ({ frames := 0, cells := 0, slots := 0, locals := 0 }) (va_Pc [.ref t, .int cells] (wr_P (dC, dI) vwCl (tyL cI cC cG cZ) [(t, .inr (5, [.ref ma, .int mks, .int pts, .int ths, .int rgs, .int rgc, .int fnd, .int rdb, .int wdb]))])) (va_Qv (fun (_ : Unit) => True) (fun _ zt => va_P (dC, dI) vwCl [(t, .inr (5, [.ref ma, .int mks, .int res.2.2, .int ths, .int res.1, .int res.2.1, .int fnd, .int rdb, .int wdb]))] zt.heap) (wr_A [(t, .inr (5, [.ref ma, .int mks, .int pts, .int ths, .int rgs, .int rgc, .int fnd, .int rdb, .int wdb]))])) 0 0 (wr_A [(t, .inr (5, [.ref ma, .int mks, .int pts, .int ths, .int rgs, .int rgc, .int fnd, .int rdb, .int wdb]))]) := by
  refine Met.ofW (cc := cX5_winRag) (maxL := 2) (ret := none) (by decide) rfl ?_
  intro p e s m args below meth c s₁ B hml hv
  obtain ⟨rfl, hP, hK, hD0⟩ := hv
  have hx := B.exec
  have hb := B.bytes
  have hr := B.returns
  have hts := atoms_spec (ws := wsX5_winRag) B.pre
  have hown : s.vm.findClass RX5 = some m.cls := findClass_of_methodNamed B.named
  have hlocks := B.notSynchronized
  have hD := wr_self hD0
  generalize hAe : wr_A [(t, .inr (5, [.ref ma, .int mks, .int pts, .int ths, .int rgs, .int rgc, .int fnd, .int rdb, .int wdb]))] = A at hD ⊢
  have hS : va_S A s.heap s.heap [] := va_S.rf
  have hP : va_P (dC, dI) vwCl [(t, .inr (5, [.ref ma, .int mks, .int pts, .int ths, .int rgs, .int rgc, .int fnd, .int rdb, .int wdb]))] s.heap := hP
  have hl := lv_entry ([.ref t, .int cells]) (n := 2) (Nat.le_of_ble_eq_true rfl)
  rw [lg_entry_eq]
  generalize (lg_sl ([.ref t, .int cells]) ++ List.replicate (2 - (lg_sl ([.ref t, .int cells])).length) Slot.unset).toArray = ls at hl ⊢
  have hl : lv_has ls 2 [(0, .ref t), (1, .int cells)] := hl
  rw [F_Tailor_winRag] at hres
  refine lv_aload_n hx hb dX5_winRag_0 rfl (lv_at hl 0 rfl) ?_
  refine lv_dup hx hb dX5_winRag_1 rfl ?_
  refine va_get (D := (dC, dI)) (ci := 5) (v := .int rgs) (C := RX5) (T := TX5) (N := 9) hx hb hts iX5_winRag_X5 hown hK hP 0 rfl rfl 4 (by decide) (hts (.fieldLink RX5 25 "TailorChalks$Tailor" "rags" "I") kX5_winRag_25) (fun _ h9 => h9) rfl dX5_winRag_2 ?_
  refine lv_iconst (v := 1) hx hb dX5_winRag_5 (by decide) ?_
  refine lv_iadd hx hb dX5_winRag_6 ?_
  refine va_put (D := (dC, dI)) (ci := 5) (v := .int (rgs + 1)) (ty := (.int)) (C := RX5) (T := TX5) (N := 9) hx hb hts iX5_winRag_X5 tyX5 tyX5_ok nmX5 hown hK hP hD hS 0 rfl rfl 4 (by decide) (hts (.fieldLink RX5 25 "TailorChalks$Tailor" "rags" "I") kX5_winRag_25) (fun _ h9 => h9) rfl (by decide +kernel) rfl rfl (Nat.le_of_ble_eq_true rfl) dX5_winRag_7 (fun H locs hP hD hS => ?_)
  have hP : va_P (dC, dI) vwCl [(t, .inr (5, [.ref ma, .int mks, .int pts, .int ths, .int (rgs + 1), .int rgc, .int fnd, .int rdb, .int wdb]))] H := hP
  have hD : va_D A [(t, .inr (5, [.ref ma, .int mks, .int pts, .int ths, .int (rgs + 1), .int rgc, .int fnd, .int rdb, .int wdb]))] := hD
  refine lv_aload_n hx hb dX5_winRag_10 rfl (lv_at hl 0 rfl) ?_
  refine lv_dup hx hb dX5_winRag_11 rfl ?_
  refine va_get (D := (dC, dI)) (ci := 5) (v := .int rgc) (C := RX5) (T := TX5) (N := 9) hx hb hts iX5_winRag_X5 hown hK hP 0 rfl rfl 5 (by decide) (hts (.fieldLink RX5 28 "TailorChalks$Tailor" "ragCells" "I") kX5_winRag_28) (fun _ h9 => h9) rfl dX5_winRag_12 ?_
  refine lv_iload_n hx hb dX5_winRag_15 rfl (lv_at hl 1 rfl) ?_
  refine lv_iadd hx hb dX5_winRag_16 ?_
  refine va_put (D := (dC, dI)) (ci := 5) (v := .int (rgc + cells)) (ty := (.int)) (C := RX5) (T := TX5) (N := 9) hx hb hts iX5_winRag_X5 tyX5 tyX5_ok nmX5 hown hK hP hD hS 0 rfl rfl 5 (by decide) (hts (.fieldLink RX5 28 "TailorChalks$Tailor" "ragCells" "I") kX5_winRag_28) (fun _ h9 => h9) rfl (by decide +kernel) rfl rfl (Nat.le_of_ble_eq_true rfl) dX5_winRag_17 (fun H locs hP hD hS => ?_)
  have hP : va_P (dC, dI) vwCl [(t, .inr (5, [.ref ma, .int mks, .int pts, .int ths, .int (rgs + 1), .int (rgc + cells), .int fnd, .int rdb, .int wdb]))] H := hP
  have hD : va_D A [(t, .inr (5, [.ref ma, .int mks, .int pts, .int ths, .int (rgs + 1), .int (rgc + cells), .int fnd, .int rdb, .int wdb]))] := hD
  refine lv_aload_n hx hb dX5_winRag_20 rfl (lv_at hl 0 rfl) ?_
  refine lv_dup hx hb dX5_winRag_21 rfl ?_
  refine va_get (D := (dC, dI)) (ci := 5) (v := .int pts) (C := RX5) (T := TX5) (N := 9) hx hb hts iX5_winRag_X5 hown hK hP 0 rfl rfl 2 (by decide) (hts (.fieldLink RX5 22 "TailorChalks$Tailor" "points" "I") kX5_winRag_22) (fun _ h9 => h9) rfl dX5_winRag_22 ?_
  refine lv_iload_n hx hb dX5_winRag_25 rfl (lv_at hl 1 rfl) ?_
  refine lv_iadd hx hb dX5_winRag_26 ?_
  refine va_put (D := (dC, dI)) (ci := 5) (v := .int (pts + cells)) (ty := (.int)) (C := RX5) (T := TX5) (N := 9) hx hb hts iX5_winRag_X5 tyX5 tyX5_ok nmX5 hown hK hP hD hS 0 rfl rfl 2 (by decide) (hts (.fieldLink RX5 22 "TailorChalks$Tailor" "points" "I") kX5_winRag_22) (fun _ h9 => h9) rfl (by decide +kernel) rfl rfl (Nat.le_of_ble_eq_true rfl) dX5_winRag_27 (fun H locs hP hD hS => ?_)
  have hP : va_P (dC, dI) vwCl [(t, .inr (5, [.ref ma, .int mks, .int (pts + cells), .int ths, .int (rgs + 1), .int (rgc + cells), .int fnd, .int rdb, .int wdb]))] H := hP
  have hD : va_D A [(t, .inr (5, [.ref ma, .int mks, .int (pts + cells), .int ths, .int (rgs + 1), .int (rgc + cells), .int fnd, .int rdb, .int wdb]))] := hD
  subst hres
  exact W.vret hx hb hr (fun t ht hW => ⟨⟨(), rfl, trivial, (by show va_P _ _ _ t.heap; rw [ht]; exact hP)⟩, hS.F ht⟩) hS.2.2 dX5_winRag_30
theorem iX5_become_X5 : ∀ w ∈ u_ws RX5 TX5 9, w ∈ wsX5_become := by decide +kernel
theorem kX5_become_11 : Cond.fieldLink RX5 11 "TailorChalks$Tailor" "marked" "[I" ∈ wsX5_become := by decide +kernel
theorem kX5_become_15 : Cond.fieldLink RX5 15 "TailorChalks$Tailor" "threads" "I" ∈ wsX5_become := by decide +kernel
theorem kX5_become_19 : Cond.fieldLink RX5 19 "TailorChalks$Tailor" "marks" "I" ∈ wsX5_become := by decide +kernel
theorem kX5_become_22 : Cond.fieldLink RX5 22 "TailorChalks$Tailor" "points" "I" ∈ wsX5_become := by decide +kernel
theorem kX5_become_25 : Cond.fieldLink RX5 25 "TailorChalks$Tailor" "rags" "I" ∈ wsX5_become := by decide +kernel
theorem kX5_become_28 : Cond.fieldLink RX5 28 "TailorChalks$Tailor" "ragCells" "I" ∈ wsX5_become := by decide +kernel
theorem kX5_become_31 : Cond.fieldLink RX5 31 "TailorChalks$Tailor" "found" "I" ∈ wsX5_become := by decide +kernel
theorem kX5_become_34 : Cond.fieldLink RX5 34 "TailorChalks$Tailor" "rightDoubts" "I" ∈ wsX5_become := by decide +kernel
theorem kX5_become_37 : Cond.fieldLink RX5 37 "TailorChalks$Tailor" "wrongDoubts" "I" ∈ wsX5_become := by decide +kernel
def F_Tailor_become_L2 (fma : Nat → Int32) (mkso : Int32) (ptso : Int32) (thso : Int32) (rgso : Int32) (rgco : Int32) (fndo : Int32) (rdbo : Int32) (wdbo : Int32) (fmao : Nat → Int32) : Nat → Int32 → (Nat → Int32) → Int32 × (Nat → Int32)
  | 0, x2, w1f => (x2, w1f)
  | n + 1, x2, w1f => (if (8 : Int32) ≤ x2 then (x2, w1f) else (F_Tailor_become_L2 fma mkso ptso thso rgso rgco fndo rdbo wdbo fmao n (x2 + 1) (upd w1f x2.toNatClampNeg (fmao x2.toNatClampNeg))))
theorem cp_Tailor (fma : Nat → Int32) (mkso : Int32) (ptso : Int32) (thso : Int32) (rgso : Int32) (rgco : Int32) (fndo : Int32) (rdbo : Int32) (wdbo : Int32) (fmao : Nat → Int32) : ∀ (n k : Nat) (w1f : Nat → Int32), k ≤ 8 → 8 - k < n → (∀ j, j < k → w1f j = fmao j) → ∀ j, j < 8 → (F_Tailor_become_L2 fma mkso ptso thso rgso rgco fndo rdbo wdbo fmao n (nI k) w1f).2 j = fmao j := by
  intro n
  induction n with
  | zero => intro k w1f hk hn; exact absurd hn (Nat.not_lt_zero _)
  | succ n ih =>
    intro k w1f hk hn hw j hj
    rw [F_Tailor_become_L2]
    by_cases c : (8 : Int32) ≤ nI k
    · rw [if_pos c]
      have hk2 : 8 ≤ k := (nI_leI (by decide) (by omega)).mp c
      exact hw j (by omega)
    · rw [if_neg c, nI_1]
      have hlt : k < 8 := lp_lt rfl rfl hk c
      refine ih (k + 1) _ (by omega) (by omega) ?_ j hj
      intro i hi
      rw [nI_clamp (by omega)]
      by_cases e : i = k
      · subst e; exact pk_us
      · rw [pk_un e]; exact hw i (by omega)
set_option maxHeartbeats 4000000 in
set_option maxRecDepth 100000 in
theorem c_Tailor_become (l : Launch) (dC : Nat → ClassId) (dI : Nat → Nat → Nat) (cI cC cG cZ : ClassId) (t ma to mao : Nat) (mks : Int32) (pts : Int32) (ths : Int32) (rgs : Int32) (rgc : Int32) (fnd : Int32) (rdb : Int32) (wdb : Int32) (fma : Nat → Int32) (mkso : Int32) (ptso : Int32) (thso : Int32) (rgso : Int32) (rgco : Int32) (fndo : Int32) (rdbo : Int32) (wdbo : Int32) (fmao : Nat → Int32) : Met l yX5_become wsX5_become ({ frames := 0, cells := 0, slots := 0, locals := 0 }) (va_Pc [.ref t, .ref to] (wr_P (dC, dI) vwCl (tyL cI cC cG cZ) [(t, .inr (5, [.ref ma, .int mks, .int pts, .int ths, .int rgs, .int rgc, .int fnd, .int rdb, .int wdb])), (ma, .inl (cI, 8, .inl fma)), (to, .inr (5, [.ref mao, .int mkso, .int ptso, .int thso, .int rgso, .int rgco, .int fndo, .int rdbo, .int wdbo])), (mao, .inl (cI, 8, .inl fmao))])) (va_Qv (fun (_ : Unit) => True) (fun _ zt => va_P (dC, dI) vwCl [(t, .inr (5, [.ref ma, .int mkso, .int ptso, .int thso, .int rgso, .int rgco, .int fndo, .int rdbo, .int wdbo])), (ma, .inl (cI, 8, .inl fmao)), (to, .inr (5, [.ref mao, .int mkso, .int ptso, .int thso, .int rgso, .int rgco, .int fndo, .int rdbo, .int wdbo])), (mao, .inl (cI, 8, .inl fmao))] zt.heap) (wr_A [(t, .inr (5, [.ref ma, .int mks, .int pts, .int ths, .int rgs, .int rgc, .int fnd, .int rdb, .int wdb])), (ma, .inl (cI, 8, .inl fma)), (to, .inr (5, [.ref mao, .int mkso, .int ptso, .int thso, .int rgso, .int rgco, .int fndo, .int rdbo, .int wdbo])), (mao, .inl (cI, 8, .inl fmao))])) 0 0 (wr_A [(t, .inr (5, [.ref ma, .int mks, .int pts, .int ths, .int rgs, .int rgc, .int fnd, .int rdb, .int wdb])), (ma, .inl (cI, 8, .inl fma)), (to, .inr (5, [.ref mao, .int mkso, .int ptso, .int thso, .int rgso, .int rgco, .int fndo, .int rdbo, .int wdbo])), (mao, .inl (cI, 8, .inl fmao))]) := by
  refine Met.ofW (cc := cX5_become) (maxL := 3) (ret := none) (by decide) rfl ?_
  intro p e s m args below meth c s₁ B hml hv
  obtain ⟨rfl, hP, hK, hD0⟩ := hv
  have hx := B.exec
  have hb := B.bytes
  have hr := B.returns
  have hts := atoms_spec (ws := wsX5_become) B.pre
  have hown : s.vm.findClass RX5 = some m.cls := findClass_of_methodNamed B.named
  have hlocks := B.notSynchronized
  have hD := wr_self hD0
  generalize hAe : wr_A [(t, .inr (5, [.ref ma, .int mks, .int pts, .int ths, .int rgs, .int rgc, .int fnd, .int rdb, .int wdb])), (ma, .inl (cI, 8, .inl fma)), (to, .inr (5, [.ref mao, .int mkso, .int ptso, .int thso, .int rgso, .int rgco, .int fndo, .int rdbo, .int wdbo])), (mao, .inl (cI, 8, .inl fmao))] = A at hD ⊢
  have hS : va_S A s.heap s.heap [] := va_S.rf
  have hP : va_P (dC, dI) vwCl [(t, .inr (5, [.ref ma, .int mks, .int pts, .int ths, .int rgs, .int rgc, .int fnd, .int rdb, .int wdb])), (ma, .inl (cI, 8, .inl fma)), (to, .inr (5, [.ref mao, .int mkso, .int ptso, .int thso, .int rgso, .int rgco, .int fndo, .int rdbo, .int wdbo])), (mao, .inl (cI, 8, .inl fmao))] s.heap := hP
  have hl := lv_entry ([.ref t, .ref to]) (n := 3) (Nat.le_of_ble_eq_true rfl)
  rw [lg_entry_eq]
  generalize (lg_sl ([.ref t, .ref to]) ++ List.replicate (3 - (lg_sl ([.ref t, .ref to])).length) Slot.unset).toArray = ls at hl ⊢
  have hl : lv_has ls 3 [(0, .ref t), (1, .ref to)] := hl
  refine lv_iconst (v := 0) hx hb dX5_become_0 (by decide) ?_
  refine lv_istore_n (lv' := [(2, .int 0), (0, .ref t), (1, .ref to)]) hx hb dX5_become_1 rfl hl (by decide) rfl (fun ls hl => ?_)
  obtain ⟨q_1, hq_1⟩ : ∃ z, z = F_Tailor_become_L2 fma mkso ptso thso rgso rgco fndo rdbo wdbo fmao 9 (0 : Int32) fma := ⟨_, rfl⟩
  have hexit2 : ∀ (H : Heap) (locs : List Loc) (ls : Array Slot), va_P (dC, dI) vwCl [(t, .inr (5, [.ref ma, .int mks, .int pts, .int ths, .int rgs, .int rgc, .int fnd, .int rdb, .int wdb])), (ma, .inl (cI, 8, .inl q_1.2)), (to, .inr (5, [.ref mao, .int mkso, .int ptso, .int thso, .int rgso, .int rgco, .int fndo, .int rdbo, .int wdbo])), (mao, .inl (cI, 8, .inl fmao))] H → va_D A [(t, .inr (5, [.ref ma, .int mks, .int pts, .int ths, .int rgs, .int rgc, .int fnd, .int rdb, .int wdb])), (ma, .inl (cI, 8, .inl q_1.2)), (to, .inr (5, [.ref mao, .int mkso, .int ptso, .int thso, .int rgso, .int rgco, .int fndo, .int rdbo, .int wdbo])), (mao, .inl (cI, 8, .inl fmao))] → va_S A s.heap H locs → lv_has ls 3 [(2, .int q_1.1), (0, .ref t), (1, .ref to)] → W p l e (headSpec wsX5_become ({ frames := 0, cells := 0, slots := 0, locals := 0 })).room s m ([.ref t, .ref to] : List Value).toArray below meth c H locs 0 0 (MQ below (va_Qv (fun (_ : Unit) => True) (fun _ zt => va_P (dC, dI) vwCl [(t, .inr (5, [.ref ma, .int mkso, .int ptso, .int thso, .int rgso, .int rgco, .int fndo, .int rdbo, .int wdbo])), (ma, .inl (cI, 8, .inl fmao)), (to, .inr (5, [.ref mao, .int mkso, .int ptso, .int thso, .int rgso, .int rgco, .int fndo, .int rdbo, .int wdbo])), (mao, .inl (cI, 8, .inl fmao))] zt.heap) A) ([.ref t, .ref to] : List Value).toArray s 0 0 A) (F0 m 26 ls []) := by
    intro H locs ls  hP hD hS hl
    have hP := rw_at hP (k := 1) (f := q_1.2) (g := fmao) rfl (fun j hj => by rw [hq_1]; exact cp_Tailor fma mkso ptso thso rgso rgco fndo rdbo wdbo fmao 9 0 fma (by omega) (by omega) (fun i hi => absurd hi (Nat.not_lt_zero _)) j hj)
    have hP : va_P (dC, dI) vwCl [(t, .inr (5, [.ref ma, .int mks, .int pts, .int ths, .int rgs, .int rgc, .int fnd, .int rdb, .int wdb])), (ma, .inl (cI, 8, .inl fmao)), (to, .inr (5, [.ref mao, .int mkso, .int ptso, .int thso, .int rgso, .int rgco, .int fndo, .int rdbo, .int wdbo])), (mao, .inl (cI, 8, .inl fmao))] H := hP
    have hD : va_D A [(t, .inr (5, [.ref ma, .int mks, .int pts, .int ths, .int rgs, .int rgc, .int fnd, .int rdb, .int wdb])), (ma, .inl (cI, 8, .inl fmao)), (to, .inr (5, [.ref mao, .int mkso, .int ptso, .int thso, .int rgso, .int rgco, .int fndo, .int rdbo, .int wdbo])), (mao, .inl (cI, 8, .inl fmao))] := va_D_fst hD rfl
    refine lv_aload_n hx hb dX5_become_26 rfl (lv_at hl 1 rfl) ?_
    refine lv_aload_n hx hb dX5_become_27 rfl (lv_at hl 2 rfl) ?_
    refine va_get (D := (dC, dI)) (ci := 5) (v := .int mkso) (C := RX5) (T := TX5) (N := 9) hx hb hts iX5_become_X5 hown hK hP 2 rfl rfl 1 (by decide) (hts (.fieldLink RX5 19 "TailorChalks$Tailor" "marks" "I") kX5_become_19) (fun _ h9 => h9) rfl dX5_become_28 ?_
    refine va_put (D := (dC, dI)) (ci := 5) (v := .int mkso) (ty := (.int)) (C := RX5) (T := TX5) (N := 9) hx hb hts iX5_become_X5 tyX5 tyX5_ok nmX5 hown hK hP hD hS 0 rfl rfl 1 (by decide) (hts (.fieldLink RX5 19 "TailorChalks$Tailor" "marks" "I") kX5_become_19) (fun _ h9 => h9) rfl (by decide +kernel) rfl rfl (Nat.le_of_ble_eq_true rfl) dX5_become_31 (fun H locs hP hD hS => ?_)
    have hP : va_P (dC, dI) vwCl [(t, .inr (5, [.ref ma, .int mkso, .int pts, .int ths, .int rgs, .int rgc, .int fnd, .int rdb, .int wdb])), (ma, .inl (cI, 8, .inl fmao)), (to, .inr (5, [.ref mao, .int mkso, .int ptso, .int thso, .int rgso, .int rgco, .int fndo, .int rdbo, .int wdbo])), (mao, .inl (cI, 8, .inl fmao))] H := hP
    have hD : va_D A [(t, .inr (5, [.ref ma, .int mkso, .int pts, .int ths, .int rgs, .int rgc, .int fnd, .int rdb, .int wdb])), (ma, .inl (cI, 8, .inl fmao)), (to, .inr (5, [.ref mao, .int mkso, .int ptso, .int thso, .int rgso, .int rgco, .int fndo, .int rdbo, .int wdbo])), (mao, .inl (cI, 8, .inl fmao))] := hD
    refine lv_aload_n hx hb dX5_become_34 rfl (lv_at hl 1 rfl) ?_
    refine lv_aload_n hx hb dX5_become_35 rfl (lv_at hl 2 rfl) ?_
    refine va_get (D := (dC, dI)) (ci := 5) (v := .int ptso) (C := RX5) (T := TX5) (N := 9) hx hb hts iX5_become_X5 hown hK hP 2 rfl rfl 2 (by decide) (hts (.fieldLink RX5 22 "TailorChalks$Tailor" "points" "I") kX5_become_22) (fun _ h9 => h9) rfl dX5_become_36 ?_
    refine va_put (D := (dC, dI)) (ci := 5) (v := .int ptso) (ty := (.int)) (C := RX5) (T := TX5) (N := 9) hx hb hts iX5_become_X5 tyX5 tyX5_ok nmX5 hown hK hP hD hS 0 rfl rfl 2 (by decide) (hts (.fieldLink RX5 22 "TailorChalks$Tailor" "points" "I") kX5_become_22) (fun _ h9 => h9) rfl (by decide +kernel) rfl rfl (Nat.le_of_ble_eq_true rfl) dX5_become_39 (fun H locs hP hD hS => ?_)
    have hP : va_P (dC, dI) vwCl [(t, .inr (5, [.ref ma, .int mkso, .int ptso, .int ths, .int rgs, .int rgc, .int fnd, .int rdb, .int wdb])), (ma, .inl (cI, 8, .inl fmao)), (to, .inr (5, [.ref mao, .int mkso, .int ptso, .int thso, .int rgso, .int rgco, .int fndo, .int rdbo, .int wdbo])), (mao, .inl (cI, 8, .inl fmao))] H := hP
    have hD : va_D A [(t, .inr (5, [.ref ma, .int mkso, .int ptso, .int ths, .int rgs, .int rgc, .int fnd, .int rdb, .int wdb])), (ma, .inl (cI, 8, .inl fmao)), (to, .inr (5, [.ref mao, .int mkso, .int ptso, .int thso, .int rgso, .int rgco, .int fndo, .int rdbo, .int wdbo])), (mao, .inl (cI, 8, .inl fmao))] := hD
    refine lv_aload_n hx hb dX5_become_42 rfl (lv_at hl 1 rfl) ?_
    refine lv_aload_n hx hb dX5_become_43 rfl (lv_at hl 2 rfl) ?_
    refine va_get (D := (dC, dI)) (ci := 5) (v := .int thso) (C := RX5) (T := TX5) (N := 9) hx hb hts iX5_become_X5 hown hK hP 2 rfl rfl 3 (by decide) (hts (.fieldLink RX5 15 "TailorChalks$Tailor" "threads" "I") kX5_become_15) (fun _ h9 => h9) rfl dX5_become_44 ?_
    refine va_put (D := (dC, dI)) (ci := 5) (v := .int thso) (ty := (.int)) (C := RX5) (T := TX5) (N := 9) hx hb hts iX5_become_X5 tyX5 tyX5_ok nmX5 hown hK hP hD hS 0 rfl rfl 3 (by decide) (hts (.fieldLink RX5 15 "TailorChalks$Tailor" "threads" "I") kX5_become_15) (fun _ h9 => h9) rfl (by decide +kernel) rfl rfl (Nat.le_of_ble_eq_true rfl) dX5_become_47 (fun H locs hP hD hS => ?_)
    have hP : va_P (dC, dI) vwCl [(t, .inr (5, [.ref ma, .int mkso, .int ptso, .int thso, .int rgs, .int rgc, .int fnd, .int rdb, .int wdb])), (ma, .inl (cI, 8, .inl fmao)), (to, .inr (5, [.ref mao, .int mkso, .int ptso, .int thso, .int rgso, .int rgco, .int fndo, .int rdbo, .int wdbo])), (mao, .inl (cI, 8, .inl fmao))] H := hP
    have hD : va_D A [(t, .inr (5, [.ref ma, .int mkso, .int ptso, .int thso, .int rgs, .int rgc, .int fnd, .int rdb, .int wdb])), (ma, .inl (cI, 8, .inl fmao)), (to, .inr (5, [.ref mao, .int mkso, .int ptso, .int thso, .int rgso, .int rgco, .int fndo, .int rdbo, .int wdbo])), (mao, .inl (cI, 8, .inl fmao))] := hD
    refine lv_aload_n hx hb dX5_become_50 rfl (lv_at hl 1 rfl) ?_
    refine lv_aload_n hx hb dX5_become_51 rfl (lv_at hl 2 rfl) ?_
    refine va_get (D := (dC, dI)) (ci := 5) (v := .int rgso) (C := RX5) (T := TX5) (N := 9) hx hb hts iX5_become_X5 hown hK hP 2 rfl rfl 4 (by decide) (hts (.fieldLink RX5 25 "TailorChalks$Tailor" "rags" "I") kX5_become_25) (fun _ h9 => h9) rfl dX5_become_52 ?_
    refine va_put (D := (dC, dI)) (ci := 5) (v := .int rgso) (ty := (.int)) (C := RX5) (T := TX5) (N := 9) hx hb hts iX5_become_X5 tyX5 tyX5_ok nmX5 hown hK hP hD hS 0 rfl rfl 4 (by decide) (hts (.fieldLink RX5 25 "TailorChalks$Tailor" "rags" "I") kX5_become_25) (fun _ h9 => h9) rfl (by decide +kernel) rfl rfl (Nat.le_of_ble_eq_true rfl) dX5_become_55 (fun H locs hP hD hS => ?_)
    have hP : va_P (dC, dI) vwCl [(t, .inr (5, [.ref ma, .int mkso, .int ptso, .int thso, .int rgso, .int rgc, .int fnd, .int rdb, .int wdb])), (ma, .inl (cI, 8, .inl fmao)), (to, .inr (5, [.ref mao, .int mkso, .int ptso, .int thso, .int rgso, .int rgco, .int fndo, .int rdbo, .int wdbo])), (mao, .inl (cI, 8, .inl fmao))] H := hP
    have hD : va_D A [(t, .inr (5, [.ref ma, .int mkso, .int ptso, .int thso, .int rgso, .int rgc, .int fnd, .int rdb, .int wdb])), (ma, .inl (cI, 8, .inl fmao)), (to, .inr (5, [.ref mao, .int mkso, .int ptso, .int thso, .int rgso, .int rgco, .int fndo, .int rdbo, .int wdbo])), (mao, .inl (cI, 8, .inl fmao))] := hD
    refine lv_aload_n hx hb dX5_become_58 rfl (lv_at hl 1 rfl) ?_
    refine lv_aload_n hx hb dX5_become_59 rfl (lv_at hl 2 rfl) ?_
    refine va_get (D := (dC, dI)) (ci := 5) (v := .int rgco) (C := RX5) (T := TX5) (N := 9) hx hb hts iX5_become_X5 hown hK hP 2 rfl rfl 5 (by decide) (hts (.fieldLink RX5 28 "TailorChalks$Tailor" "ragCells" "I") kX5_become_28) (fun _ h9 => h9) rfl dX5_become_60 ?_
    refine va_put (D := (dC, dI)) (ci := 5) (v := .int rgco) (ty := (.int)) (C := RX5) (T := TX5) (N := 9) hx hb hts iX5_become_X5 tyX5 tyX5_ok nmX5 hown hK hP hD hS 0 rfl rfl 5 (by decide) (hts (.fieldLink RX5 28 "TailorChalks$Tailor" "ragCells" "I") kX5_become_28) (fun _ h9 => h9) rfl (by decide +kernel) rfl rfl (Nat.le_of_ble_eq_true rfl) dX5_become_63 (fun H locs hP hD hS => ?_)
    have hP : va_P (dC, dI) vwCl [(t, .inr (5, [.ref ma, .int mkso, .int ptso, .int thso, .int rgso, .int rgco, .int fnd, .int rdb, .int wdb])), (ma, .inl (cI, 8, .inl fmao)), (to, .inr (5, [.ref mao, .int mkso, .int ptso, .int thso, .int rgso, .int rgco, .int fndo, .int rdbo, .int wdbo])), (mao, .inl (cI, 8, .inl fmao))] H := hP
    have hD : va_D A [(t, .inr (5, [.ref ma, .int mkso, .int ptso, .int thso, .int rgso, .int rgco, .int fnd, .int rdb, .int wdb])), (ma, .inl (cI, 8, .inl fmao)), (to, .inr (5, [.ref mao, .int mkso, .int ptso, .int thso, .int rgso, .int rgco, .int fndo, .int rdbo, .int wdbo])), (mao, .inl (cI, 8, .inl fmao))] := hD
    refine lv_aload_n hx hb dX5_become_66 rfl (lv_at hl 1 rfl) ?_
    refine lv_aload_n hx hb dX5_become_67 rfl (lv_at hl 2 rfl) ?_
    refine va_get (D := (dC, dI)) (ci := 5) (v := .int fndo) (C := RX5) (T := TX5) (N := 9) hx hb hts iX5_become_X5 hown hK hP 2 rfl rfl 6 (by decide) (hts (.fieldLink RX5 31 "TailorChalks$Tailor" "found" "I") kX5_become_31) (fun _ h9 => h9) rfl dX5_become_68 ?_
    refine va_put (D := (dC, dI)) (ci := 5) (v := .int fndo) (ty := (.int)) (C := RX5) (T := TX5) (N := 9) hx hb hts iX5_become_X5 tyX5 tyX5_ok nmX5 hown hK hP hD hS 0 rfl rfl 6 (by decide) (hts (.fieldLink RX5 31 "TailorChalks$Tailor" "found" "I") kX5_become_31) (fun _ h9 => h9) rfl (by decide +kernel) rfl rfl (Nat.le_of_ble_eq_true rfl) dX5_become_71 (fun H locs hP hD hS => ?_)
    have hP : va_P (dC, dI) vwCl [(t, .inr (5, [.ref ma, .int mkso, .int ptso, .int thso, .int rgso, .int rgco, .int fndo, .int rdb, .int wdb])), (ma, .inl (cI, 8, .inl fmao)), (to, .inr (5, [.ref mao, .int mkso, .int ptso, .int thso, .int rgso, .int rgco, .int fndo, .int rdbo, .int wdbo])), (mao, .inl (cI, 8, .inl fmao))] H := hP
    have hD : va_D A [(t, .inr (5, [.ref ma, .int mkso, .int ptso, .int thso, .int rgso, .int rgco, .int fndo, .int rdb, .int wdb])), (ma, .inl (cI, 8, .inl fmao)), (to, .inr (5, [.ref mao, .int mkso, .int ptso, .int thso, .int rgso, .int rgco, .int fndo, .int rdbo, .int wdbo])), (mao, .inl (cI, 8, .inl fmao))] := hD
    refine lv_aload_n hx hb dX5_become_74 rfl (lv_at hl 1 rfl) ?_
    refine lv_aload_n hx hb dX5_become_75 rfl (lv_at hl 2 rfl) ?_
    refine va_get (D := (dC, dI)) (ci := 5) (v := .int rdbo) (C := RX5) (T := TX5) (N := 9) hx hb hts iX5_become_X5 hown hK hP 2 rfl rfl 7 (by decide) (hts (.fieldLink RX5 34 "TailorChalks$Tailor" "rightDoubts" "I") kX5_become_34) (fun _ h9 => h9) rfl dX5_become_76 ?_
    refine va_put (D := (dC, dI)) (ci := 5) (v := .int rdbo) (ty := (.int)) (C := RX5) (T := TX5) (N := 9) hx hb hts iX5_become_X5 tyX5 tyX5_ok nmX5 hown hK hP hD hS 0 rfl rfl 7 (by decide) (hts (.fieldLink RX5 34 "TailorChalks$Tailor" "rightDoubts" "I") kX5_become_34) (fun _ h9 => h9) rfl (by decide +kernel) rfl rfl (Nat.le_of_ble_eq_true rfl) dX5_become_79 (fun H locs hP hD hS => ?_)
    have hP : va_P (dC, dI) vwCl [(t, .inr (5, [.ref ma, .int mkso, .int ptso, .int thso, .int rgso, .int rgco, .int fndo, .int rdbo, .int wdb])), (ma, .inl (cI, 8, .inl fmao)), (to, .inr (5, [.ref mao, .int mkso, .int ptso, .int thso, .int rgso, .int rgco, .int fndo, .int rdbo, .int wdbo])), (mao, .inl (cI, 8, .inl fmao))] H := hP
    have hD : va_D A [(t, .inr (5, [.ref ma, .int mkso, .int ptso, .int thso, .int rgso, .int rgco, .int fndo, .int rdbo, .int wdb])), (ma, .inl (cI, 8, .inl fmao)), (to, .inr (5, [.ref mao, .int mkso, .int ptso, .int thso, .int rgso, .int rgco, .int fndo, .int rdbo, .int wdbo])), (mao, .inl (cI, 8, .inl fmao))] := hD
    refine lv_aload_n hx hb dX5_become_82 rfl (lv_at hl 1 rfl) ?_
    refine lv_aload_n hx hb dX5_become_83 rfl (lv_at hl 2 rfl) ?_
    refine va_get (D := (dC, dI)) (ci := 5) (v := .int wdbo) (C := RX5) (T := TX5) (N := 9) hx hb hts iX5_become_X5 hown hK hP 2 rfl rfl 8 (by decide) (hts (.fieldLink RX5 37 "TailorChalks$Tailor" "wrongDoubts" "I") kX5_become_37) (fun _ h9 => h9) rfl dX5_become_84 ?_
    refine va_put (D := (dC, dI)) (ci := 5) (v := .int wdbo) (ty := (.int)) (C := RX5) (T := TX5) (N := 9) hx hb hts iX5_become_X5 tyX5 tyX5_ok nmX5 hown hK hP hD hS 0 rfl rfl 8 (by decide) (hts (.fieldLink RX5 37 "TailorChalks$Tailor" "wrongDoubts" "I") kX5_become_37) (fun _ h9 => h9) rfl (by decide +kernel) rfl rfl (Nat.le_of_ble_eq_true rfl) dX5_become_87 (fun H locs hP hD hS => ?_)
    have hP : va_P (dC, dI) vwCl [(t, .inr (5, [.ref ma, .int mkso, .int ptso, .int thso, .int rgso, .int rgco, .int fndo, .int rdbo, .int wdbo])), (ma, .inl (cI, 8, .inl fmao)), (to, .inr (5, [.ref mao, .int mkso, .int ptso, .int thso, .int rgso, .int rgco, .int fndo, .int rdbo, .int wdbo])), (mao, .inl (cI, 8, .inl fmao))] H := hP
    have hD : va_D A [(t, .inr (5, [.ref ma, .int mkso, .int ptso, .int thso, .int rgso, .int rgco, .int fndo, .int rdbo, .int wdbo])), (ma, .inl (cI, 8, .inl fmao)), (to, .inr (5, [.ref mao, .int mkso, .int ptso, .int thso, .int rgso, .int rgco, .int fndo, .int rdbo, .int wdbo])), (mao, .inl (cI, 8, .inl fmao))] := hD
    exact W.vret hx hb hr (fun t ht hW => ⟨⟨(), rfl, trivial, (by show va_P _ _ _ t.heap; rw [ht]; exact hP)⟩, hS.F ht⟩) hS.2.2 dX5_become_90
  have hloop2 : ∀ (n k2 : Nat) (x2 : Int32) (w1f : Nat → Int32) (H : Heap) (locs : List Loc) (ls : Array Slot), k2 ≤ 8 → 8 - k2 < n → x2 = nI k2 → q_1 = F_Tailor_become_L2 fma mkso ptso thso rgso rgco fndo rdbo wdbo fmao n x2 w1f → va_P (dC, dI) vwCl [(t, .inr (5, [.ref ma, .int mks, .int pts, .int ths, .int rgs, .int rgc, .int fnd, .int rdb, .int wdb])), (ma, .inl (cI, 8, .inl w1f)), (to, .inr (5, [.ref mao, .int mkso, .int ptso, .int thso, .int rgso, .int rgco, .int fndo, .int rdbo, .int wdbo])), (mao, .inl (cI, 8, .inl fmao))] H → va_D A [(t, .inr (5, [.ref ma, .int mks, .int pts, .int ths, .int rgs, .int rgc, .int fnd, .int rdb, .int wdb])), (ma, .inl (cI, 8, .inl w1f)), (to, .inr (5, [.ref mao, .int mkso, .int ptso, .int thso, .int rgso, .int rgco, .int fndo, .int rdbo, .int wdbo])), (mao, .inl (cI, 8, .inl fmao))] → va_S A s.heap H locs → lv_has ls 3 [(2, .int x2), (0, .ref t), (1, .ref to)] → W p l e (headSpec wsX5_become ({ frames := 0, cells := 0, slots := 0, locals := 0 })).room s m ([.ref t, .ref to] : List Value).toArray below meth c H locs 0 0 (MQ below (va_Qv (fun (_ : Unit) => True) (fun _ zt => va_P (dC, dI) vwCl [(t, .inr (5, [.ref ma, .int mkso, .int ptso, .int thso, .int rgso, .int rgco, .int fndo, .int rdbo, .int wdbo])), (ma, .inl (cI, 8, .inl fmao)), (to, .inr (5, [.ref mao, .int mkso, .int ptso, .int thso, .int rgso, .int rgco, .int fndo, .int rdbo, .int wdbo])), (mao, .inl (cI, 8, .inl fmao))] zt.heap) A) ([.ref t, .ref to] : List Value).toArray s 0 0 A) (F0 m 2 ls []) := by
    intro n
    induction n with
    | zero => intro k2 x2 w1f _ _ _ _ hm; exact absurd hm (Nat.not_lt_zero _)
    | succ n ih2 =>
      intro k2 x2 w1f H locs ls hk2 hm2 ex2  hq_1 hP hD hS hl
      rw [F_Tailor_become_L2] at hq_1
      refine lv_iload_n hx hb dX5_become_2 rfl (lv_at hl 0 rfl) ?_
      refine lv_bipush (v := 8) hx hb dX5_become_3 (by decide) ?_
      refine lv_icmp_ge (tgt := 26) hx hb dX5_become_5 (by decide) (fun c_2 => ?_) (fun c_2 => ?_)
      · rw [if_pos c_2] at hq_1
        subst hq_1
        exact hexit2 _ _ _  hP hD hS (lv_sub hl [0, 1, 2] rfl)
      · rw [if_neg c_2] at hq_1
        have hlt_k2 : k2 < 8 := lp_lt rfl ex2 hk2 c_2
        refine lv_aload_n hx hb dX5_become_8 rfl (lv_at hl 1 rfl) ?_
        refine va_get (D := (dC, dI)) (ci := 5) (v := .ref ma) (C := RX5) (T := TX5) (N := 9) hx hb hts iX5_become_X5 hown hK hP 0 rfl rfl 0 (by decide) (hts (.fieldLink RX5 11 "TailorChalks$Tailor" "marked" "[I") kX5_become_11) (fun _ h9 => h9) rfl dX5_become_9 ?_
        refine lv_iload_n hx hb dX5_become_12 rfl (lv_at hl 0 rfl) ?_
        refine lv_aload_n hx hb dX5_become_13 rfl (lv_at hl 2 rfl) ?_
        refine va_get (D := (dC, dI)) (ci := 5) (v := .ref mao) (C := RX5) (T := TX5) (N := 9) hx hb hts iX5_become_X5 hown hK hP 2 rfl rfl 0 (by decide) (hts (.fieldLink RX5 11 "TailorChalks$Tailor" "marked" "[I") kX5_become_11) (fun _ h9 => h9) rfl dX5_become_14 ?_
        refine lv_iload_n hx hb dX5_become_17 rfl (lv_at hl 0 rfl) ?_
        refine va_iald hx hb hK hP 3 0 rfl rfl (by rw [ex2]; exact vp_in_nI (by omega) (by decide)) dX5_become_18 ?_
        refine va_iast hx hb hK hP hD hS 1 0 rfl rfl (by rw [ex2]; exact vp_in_nI (by omega) (by decide)) dX5_become_19 (fun H locs hP hD hS => ?_)
        have hP : va_P (dC, dI) vwCl [(t, .inr (5, [.ref ma, .int mks, .int pts, .int ths, .int rgs, .int rgc, .int fnd, .int rdb, .int wdb])), (ma, .inl (cI, 8, .inl (upd w1f x2.toNatClampNeg (fmao x2.toNatClampNeg)))), (to, .inr (5, [.ref mao, .int mkso, .int ptso, .int thso, .int rgso, .int rgco, .int fndo, .int rdbo, .int wdbo])), (mao, .inl (cI, 8, .inl fmao))] H := hP
        have hD : va_D A [(t, .inr (5, [.ref ma, .int mks, .int pts, .int ths, .int rgs, .int rgc, .int fnd, .int rdb, .int wdb])), (ma, .inl (cI, 8, .inl (upd w1f x2.toNatClampNeg (fmao x2.toNatClampNeg)))), (to, .inr (5, [.ref mao, .int mkso, .int ptso, .int thso, .int rgso, .int rgco, .int fndo, .int rdbo, .int wdbo])), (mao, .inl (cI, 8, .inl fmao))] := hD
        refine lv_iinc (v := (x2 + 1)) (lv' := [(2, .int (x2 + 1)), (0, .ref t), (1, .ref to)]) hx hb dX5_become_20 hl (k := 0) rfl rfl (by decide) rfl (fun ls hl => ?_)
        refine lv_goto (tgt := 2) hx hb dX5_become_23 (by decide) ?_
        exact ih2 (k2 + 1) (x2 + 1) (upd w1f x2.toNatClampNeg (fmao x2.toNatClampNeg)) _ _ _ (by omega) (by omega) (by rw [ex2]; exact nI_1 _)  hq_1 hP hD hS (lv_sub hl [0, 1, 2] rfl)
  exact hloop2 9 0 (0 : Int32) fma _ _ _ (by omega) (by omega) nI_0.symm  hq_1 hP hD hS (lv_sub hl [0, 1, 2] rfl)
theorem iX0_become_X0 : ∀ w ∈ u_ws RX0 TX0 5, w ∈ wsX0_become := by decide +kernel
theorem kX0_become_11 : Cond.fieldLink RX0 11 "TailorChalks$Cloth" "states" "[I" ∈ wsX0_become := by decide +kernel
theorem kX0_become_15 : Cond.fieldLink RX0 15 "TailorChalks$Cloth" "makers" "[I" ∈ wsX0_become := by decide +kernel
theorem kX0_become_22 : Cond.fieldLink RX0 22 "TailorChalks$Cloth" "gone" "J" ∈ wsX0_become := by decide +kernel
theorem kX0_become_26 : Cond.fieldLink RX0 26 "TailorChalks$Cloth" "heldAcross" "J" ∈ wsX0_become := by decide +kernel
theorem kX0_become_29 : Cond.fieldLink RX0 29 "TailorChalks$Cloth" "heldDown" "J" ∈ wsX0_become := by decide +kernel
def F_Cloth_become_L2 (fs : Nat → Int32) (fm : Nat → Int32) (gno : Int64) (aco : Int64) (dno : Int64) (fso : Nat → Int32) (fmo : Nat → Int32) : Nat → Int32 → (Nat → Int32) → (Nat → Int32) → Int32 × (Nat → Int32) × (Nat → Int32)
  | 0, x2, w1f, w2f => (x2, w1f, w2f)
  | n + 1, x2, w1f, w2f => (if (82 : Int32) ≤ x2 then (x2, w1f, w2f) else (F_Cloth_become_L2 fs fm gno aco dno fso fmo n (x2 + 1) (upd w1f x2.toNatClampNeg (fso x2.toNatClampNeg)) (upd w2f x2.toNatClampNeg (fmo x2.toNatClampNeg))))
theorem cp_ClothS (fs : Nat → Int32) (fm : Nat → Int32) (gno : Int64) (aco : Int64) (dno : Int64) (fso : Nat → Int32) (fmo : Nat → Int32) : ∀ (n k : Nat) (w1f : Nat → Int32) (w2f : Nat → Int32), k ≤ 82 → 82 - k < n → (∀ j, j < k → w1f j = fso j) → ∀ j, j < 82 → (F_Cloth_become_L2 fs fm gno aco dno fso fmo n (nI k) w1f w2f).2.1 j = fso j := by
  intro n
  induction n with
  | zero => intro k w1f w2f hk hn; exact absurd hn (Nat.not_lt_zero _)
  | succ n ih =>
    intro k w1f w2f hk hn hw j hj
    rw [F_Cloth_become_L2]
    by_cases c : (82 : Int32) ≤ nI k
    · rw [if_pos c]
      have hk2 : 82 ≤ k := (nI_leI (by decide) (by omega)).mp c
      exact hw j (by omega)
    · rw [if_neg c, nI_1]
      have hlt : k < 82 := lp_lt rfl rfl hk c
      refine ih (k + 1) _ _ (by omega) (by omega) ?_ j hj
      intro i hi
      rw [nI_clamp (by omega)]
      by_cases e : i = k
      · subst e; exact pk_us
      · rw [pk_un e]; exact hw i (by omega)
theorem cp_ClothM (fs : Nat → Int32) (fm : Nat → Int32) (gno : Int64) (aco : Int64) (dno : Int64) (fso : Nat → Int32) (fmo : Nat → Int32) : ∀ (n k : Nat) (w1f : Nat → Int32) (w2f : Nat → Int32), k ≤ 82 → 82 - k < n → (∀ j, j < k → w2f j = fmo j) → ∀ j, j < 82 → (F_Cloth_become_L2 fs fm gno aco dno fso fmo n (nI k) w1f w2f).2.2 j = fmo j := by
  intro n
  induction n with
  | zero => intro k w1f w2f hk hn; exact absurd hn (Nat.not_lt_zero _)
  | succ n ih =>
    intro k w1f w2f hk hn hw j hj
    rw [F_Cloth_become_L2]
    by_cases c : (82 : Int32) ≤ nI k
    · rw [if_pos c]
      have hk2 : 82 ≤ k := (nI_leI (by decide) (by omega)).mp c
      exact hw j (by omega)
    · rw [if_neg c, nI_1]
      have hlt : k < 82 := lp_lt rfl rfl hk c
      refine ih (k + 1) _ _ (by omega) (by omega) ?_ j hj
      intro i hi
      rw [nI_clamp (by omega)]
      by_cases e : i = k
      · subst e; exact pk_us
      · rw [pk_un e]; exact hw i (by omega)
set_option maxHeartbeats 4000000 in
set_option maxRecDepth 100000 in
theorem c_Cloth_become (l : Launch) (dC : Nat → ClassId) (dI : Nat → Nat → Nat) (cI cC cG cZ : ClassId) (cl st mk clo sto mko : Nat) (gn : Int64) (ac : Int64) (dn : Int64) (fs : Nat → Int32) (fm : Nat → Int32) (gno : Int64) (aco : Int64) (dno : Int64) (fso : Nat → Int32) (fmo : Nat → Int32) : Met l yX0_become wsX0_become ({ frames := 0, cells := 0, slots := 0, locals := 0 }) (va_Pc [.ref cl, .ref clo] (wr_P (dC, dI) vwCl (tyL cI cC cG cZ) [(cl, .inr (0, [.ref st, .ref mk, .long gn, .long ac, .long dn])), (st, .inl (cI, 82, .inl fs)), (mk, .inl (cI, 82, .inl fm)), (clo, .inr (0, [.ref sto, .ref mko, .long gno, .long aco, .long dno])), (sto, .inl (cI, 82, .inl fso)), (mko, .inl (cI, 82, .inl fmo))])) (va_Qv (fun (_ : Unit) => True) (fun _ zt => va_P (dC, dI) vwCl [(cl, .inr (0, [.ref st, .ref mk, .long gno, .long aco, .long dno])), (st, .inl (cI, 82, .inl fso)), (mk, .inl (cI, 82, .inl fmo)), (clo, .inr (0, [.ref sto, .ref mko, .long gno, .long aco, .long dno])), (sto, .inl (cI, 82, .inl fso)), (mko, .inl (cI, 82, .inl fmo))] zt.heap) (wr_A [(cl, .inr (0, [.ref st, .ref mk, .long gn, .long ac, .long dn])), (st, .inl (cI, 82, .inl fs)), (mk, .inl (cI, 82, .inl fm)), (clo, .inr (0, [.ref sto, .ref mko, .long gno, .long aco, .long dno])), (sto, .inl (cI, 82, .inl fso)), (mko, .inl (cI, 82, .inl fmo))])) 0 0 (wr_A [(cl, .inr (0, [.ref st, .ref mk, .long gn, .long ac, .long dn])), (st, .inl (cI, 82, .inl fs)), (mk, .inl (cI, 82, .inl fm)), (clo, .inr (0, [.ref sto, .ref mko, .long gno, .long aco, .long dno])), (sto, .inl (cI, 82, .inl fso)), (mko, .inl (cI, 82, .inl fmo))]) := by
  refine Met.ofW (cc := cX0_become) (maxL := 3) (ret := none) (by decide) rfl ?_
  intro p e s m args below meth c s₁ B hml hv
  obtain ⟨rfl, hP, hK, hD0⟩ := hv
  have hx := B.exec
  have hb := B.bytes
  have hr := B.returns
  have hts := atoms_spec (ws := wsX0_become) B.pre
  have hown : s.vm.findClass RX0 = some m.cls := findClass_of_methodNamed B.named
  have hlocks := B.notSynchronized
  have hD := wr_self hD0
  generalize hAe : wr_A [(cl, .inr (0, [.ref st, .ref mk, .long gn, .long ac, .long dn])), (st, .inl (cI, 82, .inl fs)), (mk, .inl (cI, 82, .inl fm)), (clo, .inr (0, [.ref sto, .ref mko, .long gno, .long aco, .long dno])), (sto, .inl (cI, 82, .inl fso)), (mko, .inl (cI, 82, .inl fmo))] = A at hD ⊢
  have hS : va_S A s.heap s.heap [] := va_S.rf
  have hP : va_P (dC, dI) vwCl [(cl, .inr (0, [.ref st, .ref mk, .long gn, .long ac, .long dn])), (st, .inl (cI, 82, .inl fs)), (mk, .inl (cI, 82, .inl fm)), (clo, .inr (0, [.ref sto, .ref mko, .long gno, .long aco, .long dno])), (sto, .inl (cI, 82, .inl fso)), (mko, .inl (cI, 82, .inl fmo))] s.heap := hP
  have hl := lv_entry ([.ref cl, .ref clo]) (n := 3) (Nat.le_of_ble_eq_true rfl)
  rw [lg_entry_eq]
  generalize (lg_sl ([.ref cl, .ref clo]) ++ List.replicate (3 - (lg_sl ([.ref cl, .ref clo])).length) Slot.unset).toArray = ls at hl ⊢
  have hl : lv_has ls 3 [(0, .ref cl), (1, .ref clo)] := hl
  refine lv_iconst (v := 0) hx hb dX0_become_0 (by decide) ?_
  refine lv_istore_n (lv' := [(2, .int 0), (0, .ref cl), (1, .ref clo)]) hx hb dX0_become_1 rfl hl (by decide) rfl (fun ls hl => ?_)
  obtain ⟨q_1, hq_1⟩ : ∃ z, z = F_Cloth_become_L2 fs fm gno aco dno fso fmo 83 (0 : Int32) fs fm := ⟨_, rfl⟩
  have hexit2 : ∀ (H : Heap) (locs : List Loc) (ls : Array Slot), va_P (dC, dI) vwCl [(cl, .inr (0, [.ref st, .ref mk, .long gn, .long ac, .long dn])), (st, .inl (cI, 82, .inl q_1.2.1)), (mk, .inl (cI, 82, .inl q_1.2.2)), (clo, .inr (0, [.ref sto, .ref mko, .long gno, .long aco, .long dno])), (sto, .inl (cI, 82, .inl fso)), (mko, .inl (cI, 82, .inl fmo))] H → va_D A [(cl, .inr (0, [.ref st, .ref mk, .long gn, .long ac, .long dn])), (st, .inl (cI, 82, .inl q_1.2.1)), (mk, .inl (cI, 82, .inl q_1.2.2)), (clo, .inr (0, [.ref sto, .ref mko, .long gno, .long aco, .long dno])), (sto, .inl (cI, 82, .inl fso)), (mko, .inl (cI, 82, .inl fmo))] → va_S A s.heap H locs → lv_has ls 3 [(2, .int q_1.1), (0, .ref cl), (1, .ref clo)] → W p l e (headSpec wsX0_become ({ frames := 0, cells := 0, slots := 0, locals := 0 })).room s m ([.ref cl, .ref clo] : List Value).toArray below meth c H locs 0 0 (MQ below (va_Qv (fun (_ : Unit) => True) (fun _ zt => va_P (dC, dI) vwCl [(cl, .inr (0, [.ref st, .ref mk, .long gno, .long aco, .long dno])), (st, .inl (cI, 82, .inl fso)), (mk, .inl (cI, 82, .inl fmo)), (clo, .inr (0, [.ref sto, .ref mko, .long gno, .long aco, .long dno])), (sto, .inl (cI, 82, .inl fso)), (mko, .inl (cI, 82, .inl fmo))] zt.heap) A) ([.ref cl, .ref clo] : List Value).toArray s 0 0 A) (F0 m 38 ls []) := by
    intro H locs ls  hP hD hS hl
    have hP := rw_at hP (k := 1) (f := q_1.2.1) (g := fso) rfl (fun j hj => by rw [hq_1]; exact cp_ClothS fs fm gno aco dno fso fmo 83 0 fs fm (by omega) (by omega) (fun i hi => absurd hi (Nat.not_lt_zero _)) j hj)
    have hP := rw_at hP (k := 2) (f := q_1.2.2) (g := fmo) rfl (fun j hj => by rw [hq_1]; exact cp_ClothM fs fm gno aco dno fso fmo 83 0 fs fm (by omega) (by omega) (fun i hi => absurd hi (Nat.not_lt_zero _)) j hj)
    have hP : va_P (dC, dI) vwCl [(cl, .inr (0, [.ref st, .ref mk, .long gn, .long ac, .long dn])), (st, .inl (cI, 82, .inl fso)), (mk, .inl (cI, 82, .inl fmo)), (clo, .inr (0, [.ref sto, .ref mko, .long gno, .long aco, .long dno])), (sto, .inl (cI, 82, .inl fso)), (mko, .inl (cI, 82, .inl fmo))] H := hP
    have hD : va_D A [(cl, .inr (0, [.ref st, .ref mk, .long gn, .long ac, .long dn])), (st, .inl (cI, 82, .inl fso)), (mk, .inl (cI, 82, .inl fmo)), (clo, .inr (0, [.ref sto, .ref mko, .long gno, .long aco, .long dno])), (sto, .inl (cI, 82, .inl fso)), (mko, .inl (cI, 82, .inl fmo))] := va_D_fst hD rfl
    refine lv_aload_n hx hb dX0_become_38 rfl (lv_at hl 1 rfl) ?_
    refine lv_aload_n hx hb dX0_become_39 rfl (lv_at hl 2 rfl) ?_
    refine va_get (D := (dC, dI)) (ci := 0) (v := .long gno) (C := RX0) (T := TX0) (N := 5) hx hb hts iX0_become_X0 hown hK hP 3 rfl rfl 2 (by decide) (hts (.fieldLink RX0 22 "TailorChalks$Cloth" "gone" "J") kX0_become_22) (fun _ h9 => h9) rfl dX0_become_40 ?_
    refine va_put (D := (dC, dI)) (ci := 0) (v := .long gno) (ty := (.long)) (C := RX0) (T := TX0) (N := 5) hx hb hts iX0_become_X0 tyX0 tyX0_ok nmX0 hown hK hP hD hS 0 rfl rfl 2 (by decide) (hts (.fieldLink RX0 22 "TailorChalks$Cloth" "gone" "J") kX0_become_22) (fun _ h9 => h9) rfl (by decide +kernel) rfl rfl (Nat.le_of_ble_eq_true rfl) dX0_become_43 (fun H locs hP hD hS => ?_)
    have hP : va_P (dC, dI) vwCl [(cl, .inr (0, [.ref st, .ref mk, .long gno, .long ac, .long dn])), (st, .inl (cI, 82, .inl fso)), (mk, .inl (cI, 82, .inl fmo)), (clo, .inr (0, [.ref sto, .ref mko, .long gno, .long aco, .long dno])), (sto, .inl (cI, 82, .inl fso)), (mko, .inl (cI, 82, .inl fmo))] H := hP
    have hD : va_D A [(cl, .inr (0, [.ref st, .ref mk, .long gno, .long ac, .long dn])), (st, .inl (cI, 82, .inl fso)), (mk, .inl (cI, 82, .inl fmo)), (clo, .inr (0, [.ref sto, .ref mko, .long gno, .long aco, .long dno])), (sto, .inl (cI, 82, .inl fso)), (mko, .inl (cI, 82, .inl fmo))] := hD
    refine lv_aload_n hx hb dX0_become_46 rfl (lv_at hl 1 rfl) ?_
    refine lv_aload_n hx hb dX0_become_47 rfl (lv_at hl 2 rfl) ?_
    refine va_get (D := (dC, dI)) (ci := 0) (v := .long aco) (C := RX0) (T := TX0) (N := 5) hx hb hts iX0_become_X0 hown hK hP 3 rfl rfl 3 (by decide) (hts (.fieldLink RX0 26 "TailorChalks$Cloth" "heldAcross" "J") kX0_become_26) (fun _ h9 => h9) rfl dX0_become_48 ?_
    refine va_put (D := (dC, dI)) (ci := 0) (v := .long aco) (ty := (.long)) (C := RX0) (T := TX0) (N := 5) hx hb hts iX0_become_X0 tyX0 tyX0_ok nmX0 hown hK hP hD hS 0 rfl rfl 3 (by decide) (hts (.fieldLink RX0 26 "TailorChalks$Cloth" "heldAcross" "J") kX0_become_26) (fun _ h9 => h9) rfl (by decide +kernel) rfl rfl (Nat.le_of_ble_eq_true rfl) dX0_become_51 (fun H locs hP hD hS => ?_)
    have hP : va_P (dC, dI) vwCl [(cl, .inr (0, [.ref st, .ref mk, .long gno, .long aco, .long dn])), (st, .inl (cI, 82, .inl fso)), (mk, .inl (cI, 82, .inl fmo)), (clo, .inr (0, [.ref sto, .ref mko, .long gno, .long aco, .long dno])), (sto, .inl (cI, 82, .inl fso)), (mko, .inl (cI, 82, .inl fmo))] H := hP
    have hD : va_D A [(cl, .inr (0, [.ref st, .ref mk, .long gno, .long aco, .long dn])), (st, .inl (cI, 82, .inl fso)), (mk, .inl (cI, 82, .inl fmo)), (clo, .inr (0, [.ref sto, .ref mko, .long gno, .long aco, .long dno])), (sto, .inl (cI, 82, .inl fso)), (mko, .inl (cI, 82, .inl fmo))] := hD
    refine lv_aload_n hx hb dX0_become_54 rfl (lv_at hl 1 rfl) ?_
    refine lv_aload_n hx hb dX0_become_55 rfl (lv_at hl 2 rfl) ?_
    refine va_get (D := (dC, dI)) (ci := 0) (v := .long dno) (C := RX0) (T := TX0) (N := 5) hx hb hts iX0_become_X0 hown hK hP 3 rfl rfl 4 (by decide) (hts (.fieldLink RX0 29 "TailorChalks$Cloth" "heldDown" "J") kX0_become_29) (fun _ h9 => h9) rfl dX0_become_56 ?_
    refine va_put (D := (dC, dI)) (ci := 0) (v := .long dno) (ty := (.long)) (C := RX0) (T := TX0) (N := 5) hx hb hts iX0_become_X0 tyX0 tyX0_ok nmX0 hown hK hP hD hS 0 rfl rfl 4 (by decide) (hts (.fieldLink RX0 29 "TailorChalks$Cloth" "heldDown" "J") kX0_become_29) (fun _ h9 => h9) rfl (by decide +kernel) rfl rfl (Nat.le_of_ble_eq_true rfl) dX0_become_59 (fun H locs hP hD hS => ?_)
    have hP : va_P (dC, dI) vwCl [(cl, .inr (0, [.ref st, .ref mk, .long gno, .long aco, .long dno])), (st, .inl (cI, 82, .inl fso)), (mk, .inl (cI, 82, .inl fmo)), (clo, .inr (0, [.ref sto, .ref mko, .long gno, .long aco, .long dno])), (sto, .inl (cI, 82, .inl fso)), (mko, .inl (cI, 82, .inl fmo))] H := hP
    have hD : va_D A [(cl, .inr (0, [.ref st, .ref mk, .long gno, .long aco, .long dno])), (st, .inl (cI, 82, .inl fso)), (mk, .inl (cI, 82, .inl fmo)), (clo, .inr (0, [.ref sto, .ref mko, .long gno, .long aco, .long dno])), (sto, .inl (cI, 82, .inl fso)), (mko, .inl (cI, 82, .inl fmo))] := hD
    exact W.vret hx hb hr (fun t ht hW => ⟨⟨(), rfl, trivial, (by show va_P _ _ _ t.heap; rw [ht]; exact hP)⟩, hS.F ht⟩) hS.2.2 dX0_become_62
  have hloop2 : ∀ (n k2 : Nat) (x2 : Int32) (w1f : Nat → Int32) (w2f : Nat → Int32) (H : Heap) (locs : List Loc) (ls : Array Slot), k2 ≤ 82 → 82 - k2 < n → x2 = nI k2 → q_1 = F_Cloth_become_L2 fs fm gno aco dno fso fmo n x2 w1f w2f → va_P (dC, dI) vwCl [(cl, .inr (0, [.ref st, .ref mk, .long gn, .long ac, .long dn])), (st, .inl (cI, 82, .inl w1f)), (mk, .inl (cI, 82, .inl w2f)), (clo, .inr (0, [.ref sto, .ref mko, .long gno, .long aco, .long dno])), (sto, .inl (cI, 82, .inl fso)), (mko, .inl (cI, 82, .inl fmo))] H → va_D A [(cl, .inr (0, [.ref st, .ref mk, .long gn, .long ac, .long dn])), (st, .inl (cI, 82, .inl w1f)), (mk, .inl (cI, 82, .inl w2f)), (clo, .inr (0, [.ref sto, .ref mko, .long gno, .long aco, .long dno])), (sto, .inl (cI, 82, .inl fso)), (mko, .inl (cI, 82, .inl fmo))] → va_S A s.heap H locs → lv_has ls 3 [(2, .int x2), (0, .ref cl), (1, .ref clo)] → W p l e (headSpec wsX0_become ({ frames := 0, cells := 0, slots := 0, locals := 0 })).room s m ([.ref cl, .ref clo] : List Value).toArray below meth c H locs 0 0 (MQ below (va_Qv (fun (_ : Unit) => True) (fun _ zt => va_P (dC, dI) vwCl [(cl, .inr (0, [.ref st, .ref mk, .long gno, .long aco, .long dno])), (st, .inl (cI, 82, .inl fso)), (mk, .inl (cI, 82, .inl fmo)), (clo, .inr (0, [.ref sto, .ref mko, .long gno, .long aco, .long dno])), (sto, .inl (cI, 82, .inl fso)), (mko, .inl (cI, 82, .inl fmo))] zt.heap) A) ([.ref cl, .ref clo] : List Value).toArray s 0 0 A) (F0 m 2 ls []) := by
    intro n
    induction n with
    | zero => intro k2 x2 w1f w2f _ _ _ _ hm; exact absurd hm (Nat.not_lt_zero _)
    | succ n ih2 =>
      intro k2 x2 w1f w2f H locs ls hk2 hm2 ex2  hq_1 hP hD hS hl
      rw [F_Cloth_become_L2] at hq_1
      refine lv_iload_n hx hb dX0_become_2 rfl (lv_at hl 0 rfl) ?_
      refine lv_bipush (v := 82) hx hb dX0_become_3 (by decide) ?_
      refine lv_icmp_ge (tgt := 38) hx hb dX0_become_5 (by decide) (fun c_2 => ?_) (fun c_2 => ?_)
      · rw [if_pos c_2] at hq_1
        subst hq_1
        exact hexit2 _ _ _  hP hD hS (lv_sub hl [0, 1, 2] rfl)
      · rw [if_neg c_2] at hq_1
        have hlt_k2 : k2 < 82 := lp_lt rfl ex2 hk2 c_2
        refine lv_aload_n hx hb dX0_become_8 rfl (lv_at hl 1 rfl) ?_
        refine va_get (D := (dC, dI)) (ci := 0) (v := .ref st) (C := RX0) (T := TX0) (N := 5) hx hb hts iX0_become_X0 hown hK hP 0 rfl rfl 0 (by decide) (hts (.fieldLink RX0 11 "TailorChalks$Cloth" "states" "[I") kX0_become_11) (fun _ h9 => h9) rfl dX0_become_9 ?_
        refine lv_iload_n hx hb dX0_become_12 rfl (lv_at hl 0 rfl) ?_
        refine lv_aload_n hx hb dX0_become_13 rfl (lv_at hl 2 rfl) ?_
        refine va_get (D := (dC, dI)) (ci := 0) (v := .ref sto) (C := RX0) (T := TX0) (N := 5) hx hb hts iX0_become_X0 hown hK hP 3 rfl rfl 0 (by decide) (hts (.fieldLink RX0 11 "TailorChalks$Cloth" "states" "[I") kX0_become_11) (fun _ h9 => h9) rfl dX0_become_14 ?_
        refine lv_iload_n hx hb dX0_become_17 rfl (lv_at hl 0 rfl) ?_
        refine va_iald hx hb hK hP 4 0 rfl rfl (by rw [ex2]; exact vp_in_nI (by omega) (by decide)) dX0_become_18 ?_
        refine va_iast hx hb hK hP hD hS 1 0 rfl rfl (by rw [ex2]; exact vp_in_nI (by omega) (by decide)) dX0_become_19 (fun H locs hP hD hS => ?_)
        have hP : va_P (dC, dI) vwCl [(cl, .inr (0, [.ref st, .ref mk, .long gn, .long ac, .long dn])), (st, .inl (cI, 82, .inl (upd w1f x2.toNatClampNeg (fso x2.toNatClampNeg)))), (mk, .inl (cI, 82, .inl w2f)), (clo, .inr (0, [.ref sto, .ref mko, .long gno, .long aco, .long dno])), (sto, .inl (cI, 82, .inl fso)), (mko, .inl (cI, 82, .inl fmo))] H := hP
        have hD : va_D A [(cl, .inr (0, [.ref st, .ref mk, .long gn, .long ac, .long dn])), (st, .inl (cI, 82, .inl (upd w1f x2.toNatClampNeg (fso x2.toNatClampNeg)))), (mk, .inl (cI, 82, .inl w2f)), (clo, .inr (0, [.ref sto, .ref mko, .long gno, .long aco, .long dno])), (sto, .inl (cI, 82, .inl fso)), (mko, .inl (cI, 82, .inl fmo))] := hD
        refine lv_aload_n hx hb dX0_become_20 rfl (lv_at hl 1 rfl) ?_
        refine va_get (D := (dC, dI)) (ci := 0) (v := .ref mk) (C := RX0) (T := TX0) (N := 5) hx hb hts iX0_become_X0 hown hK hP 0 rfl rfl 1 (by decide) (hts (.fieldLink RX0 15 "TailorChalks$Cloth" "makers" "[I") kX0_become_15) (fun _ h9 => h9) rfl dX0_become_21 ?_
        refine lv_iload_n hx hb dX0_become_24 rfl (lv_at hl 0 rfl) ?_
        refine lv_aload_n hx hb dX0_become_25 rfl (lv_at hl 2 rfl) ?_
        refine va_get (D := (dC, dI)) (ci := 0) (v := .ref mko) (C := RX0) (T := TX0) (N := 5) hx hb hts iX0_become_X0 hown hK hP 3 rfl rfl 1 (by decide) (hts (.fieldLink RX0 15 "TailorChalks$Cloth" "makers" "[I") kX0_become_15) (fun _ h9 => h9) rfl dX0_become_26 ?_
        refine lv_iload_n hx hb dX0_become_29 rfl (lv_at hl 0 rfl) ?_
        refine va_iald hx hb hK hP 5 0 rfl rfl (by rw [ex2]; exact vp_in_nI (by omega) (by decide)) dX0_become_30 ?_
        refine va_iast hx hb hK hP hD hS 2 0 rfl rfl (by rw [ex2]; exact vp_in_nI (by omega) (by decide)) dX0_become_31 (fun H locs hP hD hS => ?_)
        have hP : va_P (dC, dI) vwCl [(cl, .inr (0, [.ref st, .ref mk, .long gn, .long ac, .long dn])), (st, .inl (cI, 82, .inl (upd w1f x2.toNatClampNeg (fso x2.toNatClampNeg)))), (mk, .inl (cI, 82, .inl (upd w2f x2.toNatClampNeg (fmo x2.toNatClampNeg)))), (clo, .inr (0, [.ref sto, .ref mko, .long gno, .long aco, .long dno])), (sto, .inl (cI, 82, .inl fso)), (mko, .inl (cI, 82, .inl fmo))] H := hP
        have hD : va_D A [(cl, .inr (0, [.ref st, .ref mk, .long gn, .long ac, .long dn])), (st, .inl (cI, 82, .inl (upd w1f x2.toNatClampNeg (fso x2.toNatClampNeg)))), (mk, .inl (cI, 82, .inl (upd w2f x2.toNatClampNeg (fmo x2.toNatClampNeg)))), (clo, .inr (0, [.ref sto, .ref mko, .long gno, .long aco, .long dno])), (sto, .inl (cI, 82, .inl fso)), (mko, .inl (cI, 82, .inl fmo))] := hD
        refine lv_iinc (v := (x2 + 1)) (lv' := [(2, .int (x2 + 1)), (0, .ref cl), (1, .ref clo)]) hx hb dX0_become_32 hl (k := 0) rfl rfl (by decide) rfl (fun ls hl => ?_)
        refine lv_goto (tgt := 2) hx hb dX0_become_35 (by decide) ?_
        exact ih2 (k2 + 1) (x2 + 1) (upd w1f x2.toNatClampNeg (fso x2.toNatClampNeg)) (upd w2f x2.toNatClampNeg (fmo x2.toNatClampNeg)) _ _ _ (by omega) (by omega) (by rw [ex2]; exact nI_1 _)  hq_1 hP hD hS (lv_sub hl [0, 1, 2] rfl)
  exact hloop2 83 0 (0 : Int32) fs fm _ _ _ (by omega) (by omega) nI_0.symm  hq_1 hP hD hS (lv_sub hl [0, 1, 2] rfl)
