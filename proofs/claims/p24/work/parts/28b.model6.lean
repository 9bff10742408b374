theorem kX7_undo_16 : Cond.fieldLink RX7 16 "TailorChalksModel" "history" "[I" ∈ wsX7_undo := by decide +kernel
theorem kX7_undo_7 : Cond.fieldLink RX7 7 "TailorChalksModel" "s" "[I" ∈ wsX7_undo := by decide +kernel
def F_Model_undo_kg_L22 (vkp : Int32) (vs : Nat → Int32) (vhi : Nat → Int32) : Nat → Int32 → Int32 → (Nat → Int32) → Int32 × Int32 × (Nat → Int32)
  | 0, x1, w03, w1f => (x1, w03, w1f)
  | n + 1, x1, w03, w1f => (if (246 : Int32) ≤ x1 then (x1, w03, w1f) else (F_Model_undo_kg_L22 vkp vs vhi n (x1 + 1) w03 (upd w1f x1.toNatClampNeg (vhi (((246 : Int32) * w03) + x1).toNatClampNeg))))
def F_Model_undo_kg (vkp : Int32) (vs : Nat → Int32) (vhi : Nat → Int32) : Int32 × Int32 × (Nat → Int32) := (if vkp = 0 then ((-5), vkp, vs) else (bnd (F_Model_undo_kg_L22 vkp vs vhi 247 (0 : Int32) (vkp - 1) vs) (fun q_2 => (q_2.2.1, q_2.2.1, q_2.2.2))))
set_option maxHeartbeats 4000000 in
set_option maxRecDepth 100000 in
theorem c_Model_undo_kg (l : Launch) (dC : Nat → ClassId) (dI : Nat → Nat → Nat) (cI cC cG cZ : ClassId) (mo ms mah mhi msl msv mpd mlb : Nat) (vkp : Int32) (vln : Int32) (vs : Nat → Int32) (vhi : Nat → Int32) (hkp : tm_ok 6 vkp) (res : Int32 × Int32 × (Nat → Int32)) (hres : res = F_Model_undo_kg vkp vs vhi) : Met l yX7_undo wsX7_undo ({ frames := 0, cells := 0, slots := 0, locals := 0 }) (va_Pc [.ref mo] (wr_P (dC, dI) vwCl (tyL cI cC cG cZ) [(mo, .inr (7, [.ref ms, .ref mah, .ref mhi, .int vkp, .ref msl, .ref msv, .ref mpd, .int vln, .ref mlb])), (ms, .inl (cI, 246, .inl vs)), (mhi, .inl (cI, 1476, .inl vhi))])) (va_Qi (fun r (_ : Unit) => r = res.1) (fun _ zt => va_P (dC, dI) vwCl [(mo, .inr (7, [.ref ms, .ref mah, .ref mhi, .int res.2.1, .ref msl, .ref msv, .ref mpd, .int vln, .ref mlb])), (ms, .inl (cI, 246, .inl res.2.2)), (mhi, .inl (cI, 1476, .inl vhi))] zt.heap) (wr_A [(mo, .inr (7, [.ref ms, .ref mah, .ref mhi, .int vkp, .ref msl, .ref msv, .ref mpd, .int vln, .ref mlb])), (ms, .inl (cI, 246, .inl vs)), (mhi, .inl (cI, 1476, .inl vhi))])) 0 0 (wr_A [(mo, .inr (7, [.ref ms, .ref mah, .ref mhi, .int vkp, .ref msl, .ref msv, .ref mpd, .int vln, .ref mlb])), (ms, .inl (cI, 246, .inl vs)), (mhi, .inl (cI, 1476, .inl vhi))]) := by
  refine Met.ofW (cc := cX7_undo) (maxL := 2) (ret := (some .int)) (by decide) rfl ?_
  intro p e s m args below meth c s₁ B hml hv
  obtain ⟨rfl, hP, hK, hD0⟩ := hv
  have hx := B.exec
  have hb := B.bytes
  have hr := B.returns
  have hts := atoms_spec (ws := wsX7_undo) B.pre
  have hown : s.vm.findClass RX7 = some m.cls := findClass_of_methodNamed B.named
  have hlocks := B.notSynchronized
  have hD := wr_self hD0
  generalize hAe : wr_A [(mo, .inr (7, [.ref ms, .ref mah, .ref mhi, .int vkp, .ref msl, .ref msv, .ref mpd, .int vln, .ref mlb])), (ms, .inl (cI, 246, .inl vs)), (mhi, .inl (cI, 1476, .inl vhi))] = A at hD ⊢
  have hS : va_S A s.heap s.heap [] := va_S.rf
  have hP : va_P (dC, dI) vwCl [(mo, .inr (7, [.ref ms, .ref mah, .ref mhi, .int vkp, .ref msl, .ref msv, .ref mpd, .int vln, .ref mlb])), (ms, .inl (cI, 246, .inl vs)), (mhi, .inl (cI, 1476, .inl vhi))] s.heap := hP
  have hl := lv_entry ([.ref mo]) (n := 2) (Nat.le_of_ble_eq_true rfl)
  rw [lg_entry_eq]
  generalize (lg_sl ([.ref mo]) ++ List.replicate (2 - (lg_sl ([.ref mo])).length) Slot.unset).toArray = ls at hl ⊢
  have hl : lv_has ls 2 [(0, .ref mo)] := hl
  rw [F_Model_undo_kg] at hres
  refine lv_aload_n hx hb dX7_undo_0 rfl (lv_at hl 0 rfl) ?_
  refine va_get (D := (dC, dI)) (ci := 7) (v := .int vkp) (C := RX7) (T := TX7) (N := 9) hx hb hts iX7_undo_X7 hown hK hP 0 rfl rfl 3 (by decide) (hts (.fieldLink RX7 54 "TailorChalksModel" "kept" "I") kX7_undo_54) (fun _ h9 => h9) rfl dX7_undo_1 ?_
  refine lv_if_ne (tgt := 10) hx hb dX7_undo_4 (by decide) (fun c_1 => ?_) (fun c_1 => ?_)
  · rw [if_neg c_1] at hres
    refine lv_aload_n hx hb dX7_undo_10 rfl (lv_at hl 0 rfl) ?_
    refine lv_dup hx hb dX7_undo_11 rfl ?_
    refine va_get (D := (dC, dI)) (ci := 7) (v := .int vkp) (C := RX7) (T := TX7) (N := 9) hx hb hts iX7_undo_X7 hown hK hP 0 rfl rfl 3 (by decide) (hts (.fieldLink RX7 54 "TailorChalksModel" "kept" "I") kX7_undo_54) (fun _ h9 => h9) rfl dX7_undo_12 ?_
    refine lv_iconst (v := 1) hx hb dX7_undo_15 (by decide) ?_
    refine lv_isub hx hb dX7_undo_16 ?_
    refine va_put (D := (dC, dI)) (ci := 7) (v := .int (vkp - 1)) (ty := (.int)) (C := RX7) (T := TX7) (N := 9) hx hb hts iX7_undo_X7 tyX7 tyX7_ok nmX7 hown hK hP hD hS 0 rfl rfl 3 (by decide) (hts (.fieldLink RX7 54 "TailorChalksModel" "kept" "I") kX7_undo_54) (fun _ h9 => h9) rfl (by decide +kernel) rfl rfl (Nat.le_of_ble_eq_true rfl) dX7_undo_17 (fun H locs hP hD hS => ?_)
    have hP : va_P (dC, dI) vwCl [(mo, .inr (7, [.ref ms, .ref mah, .ref mhi, .int (vkp - 1), .ref msl, .ref msv, .ref mpd, .int vln, .ref mlb])), (ms, .inl (cI, 246, .inl vs)), (mhi, .inl (cI, 1476, .inl vhi))] H := hP
    have hD : va_D A [(mo, .inr (7, [.ref ms, .ref mah, .ref mhi, .int (vkp - 1), .ref msl, .ref msv, .ref mpd, .int vln, .ref mlb])), (ms, .inl (cI, 246, .inl vs)), (mhi, .inl (cI, 1476, .inl vhi))] := hD
    refine lv_iconst (v := 0) hx hb dX7_undo_20 (by decide) ?_
    refine lv_istore_n (lv' := [(1, .int 0), (0, .ref mo)]) hx hb dX7_undo_21 rfl hl (by decide) rfl (fun ls hl => ?_)
    obtain ⟨q_2, hq_2⟩ : ∃ z, z = F_Model_undo_kg_L22 vkp vs vhi 247 (0 : Int32) (vkp - 1) vs := ⟨_, rfl⟩
    rw [bnd_e hq_2] at hres
    have hexit22 : ∀ (H : Heap) (locs : List Loc) (ls : Array Slot), va_P (dC, dI) vwCl [(mo, .inr (7, [.ref ms, .ref mah, .ref mhi, .int q_2.2.1, .ref msl, .ref msv, .ref mpd, .int vln, .ref mlb])), (ms, .inl (cI, 246, .inl q_2.2.2)), (mhi, .inl (cI, 1476, .inl vhi))] H → va_D A [(mo, .inr (7, [.ref ms, .ref mah, .ref mhi, .int q_2.2.1, .ref msl, .ref msv, .ref mpd, .int vln, .ref mlb])), (ms, .inl (cI, 246, .inl q_2.2.2)), (mhi, .inl (cI, 1476, .inl vhi))] → va_S A s.heap H locs → lv_has ls 2 [(1, .int q_2.1), (0, .ref mo)] → W p l e (headSpec wsX7_undo ({ frames := 0, cells := 0, slots := 0, locals := 0 })).room s m ([.ref mo] : List Value).toArray below meth c H locs 0 0 (MQ below (va_Qi (fun r (_ : Unit) => r = res.1) (fun _ zt => va_P (dC, dI) vwCl [(mo, .inr (7, [.ref ms, .ref mah, .ref mhi, .int res.2.1, .ref msl, .ref msv, .ref mpd, .int vln, .ref mlb])), (ms, .inl (cI, 246, .inl res.2.2)), (mhi, .inl (cI, 1476, .inl vhi))] zt.heap) A) ([.ref mo] : List Value).toArray s 0 0 A) (F0 m 56 ls []) := by
      intro H locs ls  hP hD hS hl
      refine lv_aload_n hx hb dX7_undo_56 rfl (lv_at hl 1 rfl) ?_
      refine va_get (D := (dC, dI)) (ci := 7) (v := .int q_2.2.1) (C := RX7) (T := TX7) (N := 9) hx hb hts iX7_undo_X7 hown hK hP 0 rfl rfl 3 (by decide) (hts (.fieldLink RX7 54 "TailorChalksModel" "kept" "I") kX7_undo_54) (fun _ h9 => h9) rfl dX7_undo_57 ?_
      subst hres
      exact W.iret (v := q_2.2.1) hx hb hr (fun t ht hW => ⟨⟨q_2.2.1, (), rfl, rfl, (by show va_P _ _ _ t.heap; rw [ht]; exact hP)⟩, hS.F ht⟩) hS.2.2 dX7_undo_60
    have hloop22 : ∀ (n k22 : Nat) (x1 : Int32) (w03 : Int32) (w1f : Nat → Int32) (H : Heap) (locs : List Loc) (ls : Array Slot), k22 ≤ 246 → 246 - k22 < n → x1 = nI k22 → tm_ok 5 w03 → q_2 = F_Model_undo_kg_L22 vkp vs vhi n x1 w03 w1f → va_P (dC, dI) vwCl [(mo, .inr (7, [.ref ms, .ref mah, .ref mhi, .int w03, .ref msl, .ref msv, .ref mpd, .int vln, .ref mlb])), (ms, .inl (cI, 246, .inl w1f)), (mhi, .inl (cI, 1476, .inl vhi))] H → va_D A [(mo, .inr (7, [.ref ms, .ref mah, .ref mhi, .int w03, .ref msl, .ref msv, .ref mpd, .int vln, .ref mlb])), (ms, .inl (cI, 246, .inl w1f)), (mhi, .inl (cI, 1476, .inl vhi))] → va_S A s.heap H locs → lv_has ls 2 [(1, .int x1), (0, .ref mo)] → W p l e (headSpec wsX7_undo ({ frames := 0, cells := 0, slots := 0, locals := 0 })).room s m ([.ref mo] : List Value).toArray below meth c H locs 0 0 (MQ below (va_Qi (fun r (_ : Unit) => r = res.1) (fun _ zt => va_P (dC, dI) vwCl [(mo, .inr (7, [.ref ms, .ref mah, .ref mhi, .int res.2.1, .ref msl, .ref msv, .ref mpd, .int vln, .ref mlb])), (ms, .inl (cI, 246, .inl res.2.2)), (mhi, .inl (cI, 1476, .inl vhi))] zt.heap) A) ([.ref mo] : List Value).toArray s 0 0 A) (F0 m 22 ls []) := by
      intro n
      induction n with
      | zero => intro k22 x1 w03 w1f _ _ _ _ hm; exact absurd hm (Nat.not_lt_zero _)
      | succ n ih22 =>
        intro k22 x1 w03 w1f H locs ls hk22 hm22 ex22 hk5 hq_2 hP hD hS hl
        rw [F_Model_undo_kg_L22] at hq_2
        refine lv_iload_n hx hb dX7_undo_22 rfl (lv_at hl 0 rfl) ?_
        refine lv_sipush (v := 246) hx hb dX7_undo_23 (by decide) ?_
        refine lv_icmp_ge (tgt := 56) hx hb dX7_undo_26 (by decide) (fun c_3 => ?_) (fun c_3 => ?_)
        · rw [if_pos c_3] at hq_2
          subst hq_2
          exact hexit22 _ _ _  hP hD hS (lv_sub hl [0, 1] rfl)
        · rw [if_neg c_3] at hq_2
          have hlt_k22 : k22 < 246 := lp_lt rfl ex22 hk22 c_3
          refine lv_aload_n hx hb dX7_undo_29 rfl (lv_at hl 1 rfl) ?_
          refine va_get (D := (dC, dI)) (ci := 7) (v := .ref ms) (C := RX7) (T := TX7) (N := 9) hx hb hts iX7_undo_X7 hown hK hP 0 rfl rfl 0 (by decide) (hts (.fieldLink RX7 7 "TailorChalksModel" "s" "[I") kX7_undo_7) (fun _ h9 => h9) rfl dX7_undo_30 ?_
          refine lv_iload_n hx hb dX7_undo_33 rfl (lv_at hl 0 rfl) ?_
          refine lv_aload_n hx hb dX7_undo_34 rfl (lv_at hl 1 rfl) ?_
          refine va_get (D := (dC, dI)) (ci := 7) (v := .ref mhi) (C := RX7) (T := TX7) (N := 9) hx hb hts iX7_undo_X7 hown hK hP 0 rfl rfl 2 (by decide) (hts (.fieldLink RX7 16 "TailorChalksModel" "history" "[I") kX7_undo_16) (fun _ h9 => h9) rfl dX7_undo_35 ?_
          refine lv_sipush (v := 246) hx hb dX7_undo_38 (by decide) ?_
          refine lv_aload_n hx hb dX7_undo_41 rfl (lv_at hl 1 rfl) ?_
          refine va_get (D := (dC, dI)) (ci := 7) (v := .int w03) (C := RX7) (T := TX7) (N := 9) hx hb hts iX7_undo_X7 hown hK hP 0 rfl rfl 3 (by decide) (hts (.fieldLink RX7 54 "TailorChalksModel" "kept" "I") kX7_undo_54) (fun _ h9 => h9) rfl dX7_undo_42 ?_
          refine lv_imul hx hb dX7_undo_45 ?_
          refine lv_iload_n hx hb dX7_undo_46 rfl (lv_at hl 0 rfl) ?_
          refine lv_iadd hx hb dX7_undo_47 ?_
          refine va_iald hx hb hK hP 2 0 rfl rfl (hist_in hk5 ex22 (by omega)) dX7_undo_48 ?_
          refine va_iast hx hb hK hP hD hS 1 0 rfl rfl (by rw [ex22]; exact vp_in_nI (by omega) (by decide)) dX7_undo_49 (fun H locs hP hD hS => ?_)
          have hP : va_P (dC, dI) vwCl [(mo, .inr (7, [.ref ms, .ref mah, .ref mhi, .int w03, .ref msl, .ref msv, .ref mpd, .int vln, .ref mlb])), (ms, .inl (cI, 246, .inl (upd w1f x1.toNatClampNeg (vhi (((246 : Int32) * w03) + x1).toNatClampNeg)))), (mhi, .inl (cI, 1476, .inl vhi))] H := hP
          have hD : va_D A [(mo, .inr (7, [.ref ms, .ref mah, .ref mhi, .int w03, .ref msl, .ref msv, .ref mpd, .int vln, .ref mlb])), (ms, .inl (cI, 246, .inl (upd w1f x1.toNatClampNeg (vhi (((246 : Int32) * w03) + x1).toNatClampNeg)))), (mhi, .inl (cI, 1476, .inl vhi))] := hD
          refine lv_iinc (v := (x1 + 1)) (lv' := [(1, .int (x1 + 1)), (0, .ref mo)]) hx hb dX7_undo_50 hl (k := 0) rfl rfl (by decide) rfl (fun ls hl => ?_)
          refine lv_goto (tgt := 22) hx hb dX7_undo_53 (by decide) ?_
          exact ih22 (k22 + 1) (x1 + 1) w03 (upd w1f x1.toNatClampNeg (vhi (((246 : Int32) * w03) + x1).toNatClampNeg)) _ _ _ (by omega) (by omega) (by rw [ex22]; exact nI_1 _) hk5 hq_2 hP hD hS (lv_sub hl [0, 1] rfl)
    exact hloop22 247 0 (0 : Int32) (vkp - 1) vs _ _ _ (by omega) (by omega) nI_0.symm (kp_pos hkp c_1) hq_2 hP hD hS (lv_sub hl [0, 1] rfl)
  · rw [if_pos c_1] at hres
    refine lv_bipush (v := (-5)) hx hb dX7_undo_7 (by decide) ?_
    subst hres
    exact W.iret (v := (-5)) hx hb hr (fun t ht hW => ⟨⟨(-5), (), rfl, rfl, (by show va_P _ _ _ t.heap; rw [ht]; exact hP)⟩, hS.F ht⟩) hS.2.2 dX7_undo_9
theorem kX7_restore_19 : Cond.fieldLink RX7 19 "TailorChalksModel" "slots" "[I" ∈ wsX7_restore := by decide +kernel
theorem kX7_restore_7 : Cond.fieldLink RX7 7 "TailorChalksModel" "s" "[I" ∈ wsX7_restore := by decide +kernel
def F_Model_restore_kg_L34 (slot : Int32) (vkp : Int32) (vs : Nat → Int32) (vah : Nat → Int32) (vhi : Nat → Int32) (vsl : Nat → Int32) (vsv : Nat → Int32) : Nat → Int32 → Int32 → (Nat → Int32) → (Nat → Int32) → Int32 × Int32 × (Nat → Int32) × (Nat → Int32)
  | 0, x2, w03, w1f, w3f => (x2, w03, w1f, w3f)
  | n + 1, x2, w03, w1f, w3f => (if (246 : Int32) ≤ x2 then (x2, w03, w1f, w3f) else (F_Model_restore_kg_L34 slot vkp vs vah vhi vsl vsv n (x2 + 1) w03 (upd w1f x2.toNatClampNeg (vsl (((246 : Int32) * slot) + x2).toNatClampNeg)) w3f))
def F_Model_restore_kg (slot : Int32) (vkp : Int32) (vs : Nat → Int32) (vah : Nat → Int32) (vhi : Nat → Int32) (vsl : Nat → Int32) (vsv : Nat → Int32) : Int32 × Int32 × (Nat → Int32) × (Nat → Int32) × (Nat → Int32) := (bnd (F_Model_in slot (0 : Int32) (1 : Int32)) (fun r_1 => (if r_1 = 0 then ((-2), vkp, vs, vah, vhi) else (if (vsv slot.toNatClampNeg) = 0 then ((-5), vkp, vs, vah, vhi) else (bnd (F_Model_records vkp vs vhi) (fun r_5 => (bnd (F_Model_restore_kg_L34 slot vkp vs vah vhi vsl vsv 247 (0 : Int32) r_5.2 vs r_5.1) (fun q_6 => (bnd (F_Model_left q_6.2.2.1) (fun r_7 => (r_7, q_6.2.1, q_6.2.2.1, vs, q_6.2.2.2)))))))))))
set_option maxHeartbeats 4000000 in
set_option maxRecDepth 100000 in
theorem c_Model_restore_kg (l : Launch) (dC : Nat → ClassId) (dI : Nat → Nat → Nat) (cI cC cG cZ : ClassId) (mo ms mah mhi msl msv mpd mlb : Nat) (slot : Int32) (vkp : Int32) (vln : Int32) (vs : Nat → Int32) (vah : Nat → Int32) (vhi : Nat → Int32) (vsl : Nat → Int32) (vsv : Nat → Int32) (hkp : tm_ok 6 vkp) (res : Int32 × Int32 × (Nat → Int32) × (Nat → Int32) × (Nat → Int32)) (hres : res = F_Model_restore_kg slot vkp vs vah vhi vsl vsv) : Met l yX7_restore wsX7_restore ({ frames := 2, cells := 0, slots := 0, locals := 43 }) (va_Pc [.ref mo, .int slot] (wr_P (dC, dI) vwCl (tyL cI cC cG cZ) [(mo, .inr (7, [.ref ms, .ref mah, .ref mhi, .int vkp, .ref msl, .ref msv, .ref mpd, .int vln, .ref mlb])), (ms, .inl (cI, 246, .inl vs)), (mah, .inl (cI, 246, .inl vah)), (mhi, .inl (cI, 1476, .inl vhi)), (msl, .inl (cI, 492, .inl vsl)), (msv, .inl (cZ, 2, .inl vsv))])) (va_Qi (fun r (_ : Unit) => r = res.1) (fun _ zt => va_P (dC, dI) vwCl [(mo, .inr (7, [.ref ms, .ref mah, .ref mhi, .int res.2.1, .ref msl, .ref msv, .ref mpd, .int vln, .ref mlb])), (ms, .inl (cI, 246, .inl res.2.2.1)), (mah, .inl (cI, 246, .inl res.2.2.2.1)), (mhi, .inl (cI, 1476, .inl res.2.2.2.2)), (msl, .inl (cI, 492, .inl vsl)), (msv, .inl (cZ, 2, .inl vsv))] zt.heap) (wr_A [(mo, .inr (7, [.ref ms, .ref mah, .ref mhi, .int vkp, .ref msl, .ref msv, .ref mpd, .int vln, .ref mlb])), (ms, .inl (cI, 246, .inl vs)), (mah, .inl (cI, 246, .inl vah)), (mhi, .inl (cI, 1476, .inl vhi)), (msl, .inl (cI, 492, .inl vsl)), (msv, .inl (cZ, 2, .inl vsv))])) 0 0 (wr_A [(mo, .inr (7, [.ref ms, .ref mah, .ref mhi, .int vkp, .ref msl, .ref msv, .ref mpd, .int vln, .ref mlb])), (ms, .inl (cI, 246, .inl vs)), (mah, .inl (cI, 246, .inl vah)), (mhi, .inl (cI, 1476, .inl vhi)), (msl, .inl (cI, 492, .inl vsl)), (msv, .inl (cZ, 2, .inl vsv))]) := by
  refine Met.ofW (cc := cX7_restore) (maxL := 3) (ret := (some .int)) (by decide) rfl ?_
  intro p e s m args below meth c s₁ B hml hv
  obtain ⟨rfl, hP, hK, hD0⟩ := hv
  have hx := B.exec
  have hb := B.bytes
  have hr := B.returns
  have hts := atoms_spec (ws := wsX7_restore) B.pre
  have hown : s.vm.findClass RX7 = some m.cls := findClass_of_methodNamed B.named
  have hlocks := B.notSynchronized
  have hD := wr_self hD0
  generalize hAe : wr_A [(mo, .inr (7, [.ref ms, .ref mah, .ref mhi, .int vkp, .ref msl, .ref msv, .ref mpd, .int vln, .ref mlb])), (ms, .inl (cI, 246, .inl vs)), (mah, .inl (cI, 246, .inl vah)), (mhi, .inl (cI, 1476, .inl vhi)), (msl, .inl (cI, 492, .inl vsl)), (msv, .inl (cZ, 2, .inl vsv))] = A at hD ⊢
  have hS : va_S A s.heap s.heap [] := va_S.rf
  have hP : va_P (dC, dI) vwCl [(mo, .inr (7, [.ref ms, .ref mah, .ref mhi, .int vkp, .ref msl, .ref msv, .ref mpd, .int vln, .ref mlb])), (ms, .inl (cI, 246, .inl vs)), (mah, .inl (cI, 246, .inl vah)), (mhi, .inl (cI, 1476, .inl vhi)), (msl, .inl (cI, 492, .inl vsl)), (msv, .inl (cZ, 2, .inl vsv))] s.heap := hP
  have hl := lv_entry ([.ref mo, .int slot]) (n := 3) (Nat.le_of_ble_eq_true rfl)
  rw [lg_entry_eq]
  generalize (lg_sl ([.ref mo, .int slot]) ++ List.replicate (3 - (lg_sl ([.ref mo, .int slot])).length) Slot.unset).toArray = ls at hl ⊢
  have hl : lv_has ls 3 [(0, .ref mo), (1, .int slot)] := hl
  rw [F_Model_restore_kg] at hres
  refine lv_iload_n hx hb dX7_restore_0 rfl (lv_at hl 1 rfl) ?_
  refine lv_iconst (v := 0) hx hb dX7_restore_1 (by decide) ?_
  refine lv_iconst (v := 1) hx hb dX7_restore_2 (by decide) ?_
  obtain ⟨r_1, hr_1⟩ : ∃ z, z = F_Model_in slot (0 : Int32) (1 : Int32) := ⟨_, rfl⟩
  rw [bnd_e hr_1] at hres
  refine ro_calli (va_runS (As := [.int slot, .int 0, .int 1]) (rest := []) ⟨hx, hb, hml, hown, hts⟩ (c_Model_in l dC dI cI cC cG cZ  slot (0 : Int32) (1 : Int32)  r_1 hr_1) (va_cwS 3 hts gX7_restore_X7_in rfl rfl rfl (by decide +kernel) ⟨Nat.le_of_ble_eq_true rfl, Nat.le_of_ble_eq_true rfl⟩) (ro_preS (hP.sub (ws' := []) [] rfl) hK) rfl rfl hl.1 rfl (lv_room (Nat.le_of_ble_eq_true rfl)) dX7_restore_3 ⟨Nat.zero_le _, Nat.zero_le _⟩) hP hS (fun H locs hP hS => ?_)
  refine lv_if_ne (tgt := 12) hx hb dX7_restore_6 (by decide) (fun c_2 => ?_) (fun c_2 => ?_)
  · rw [if_neg c_2] at hres
    refine lv_aload_n hx hb dX7_restore_12 rfl (lv_at hl 0 rfl) ?_
    refine va_get (D := (dC, dI)) (ci := 7) (v := .ref msv) (C := RX7) (T := TX7) (N := 9) hx hb hts iX7_restore_X7 hown hK hP 0 rfl rfl 5 (by decide) (hts (.fieldLink RX7 22 "TailorChalksModel" "isSaved" "[Z") kX7_restore_22) (fun _ h9 => h9) rfl dX7_restore_13 ?_
    refine lv_iload_n hx hb dX7_restore_16 rfl (lv_at hl 1 rfl) ?_
    refine va_zald hx hb hK hP 5 3 rfl rfl (p01_in (in01 (by rw [← hr_1]; exact c_2))) dX7_restore_17 ?_
    refine lv_if_ne (tgt := 24) hx hb dX7_restore_18 (by decide) (fun c_3 => ?_) (fun c_3 => ?_)
    · rw [if_neg c_3] at hres
      refine lv_aload_n hx hb dX7_restore_24 rfl (lv_at hl 0 rfl) ?_
      refine wr_callv (w1 := [(mo, .inr (7, [.ref ms, .ref mah, .ref mhi, .int vkp, .ref msl, .ref msv, .ref mpd, .int vln, .ref mlb])), (ms, .inl (cI, 246, .inl vs)), (mah, .inl (cI, 246, .inl vs))]) (is := [0, 1, 2]) (va_runV (As := []) (rest := []) ⟨hx, hb, hml, hown, hts⟩ (c_Model_looks l dC dI cI cC cG cZ mo ms mah mhi msl msv mpd mlb vkp vln vs vah  ) (cwV 0 hts gX7_restore_X7_looks rfl rfl rfl (by decide +kernel) ⟨Nat.le_of_ble_eq_true rfl, Nat.le_of_ble_eq_true rfl⟩) (wr_preV (hP.sub (ws' := [(mo, .inr (7, [.ref ms, .ref mah, .ref mhi, .int vkp, .ref msl, .ref msv, .ref mpd, .int vln, .ref mlb])), (ms, .inl (cI, 246, .inl vs)), (mah, .inl (cI, 246, .inl vah))]) [0, 1, 2] rfl) hK (hD.sub (ws' := [(mo, .inr (7, [.ref ms, .ref mah, .ref mhi, .int vkp, .ref msl, .ref msv, .ref mpd, .int vln, .ref mlb])), (ms, .inl (cI, 246, .inl vs)), (mah, .inl (cI, 246, .inl vah))]) [0, 1, 2] (by decide) rfl) (ci := 7) (q0 := 0) rfl rfl) rfl rfl hl.1 rfl (lv_room (Nat.le_of_ble_eq_true rfl)) dX7_restore_25 ⟨Nat.zero_le _, Nat.zero_le _⟩) hP hD hS rfl rfl rfl (fun H locs hP hD hS => ?_)
      have hP : va_P (dC, dI) vwCl [(mo, .inr (7, [.ref ms, .ref mah, .ref mhi, .int vkp, .ref msl, .ref msv, .ref mpd, .int vln, .ref mlb])), (ms, .inl (cI, 246, .inl vs)), (mah, .inl (cI, 246, .inl vs)), (mhi, .inl (cI, 1476, .inl vhi)), (msl, .inl (cI, 492, .inl vsl)), (msv, .inl (cZ, 2, .inl vsv))] H := hP
      have hD : va_D A [(mo, .inr (7, [.ref ms, .ref mah, .ref mhi, .int vkp, .ref msl, .ref msv, .ref mpd, .int vln, .ref mlb])), (ms, .inl (cI, 246, .inl vs)), (mah, .inl (cI, 246, .inl vs)), (mhi, .inl (cI, 1476, .inl vhi)), (msl, .inl (cI, 492, .inl vsl)), (msv, .inl (cZ, 2, .inl vsv))] := hD
      refine lv_aload_n hx hb dX7_restore_28 rfl (lv_at hl 0 rfl) ?_
      obtain ⟨r_5, hr_5⟩ : ∃ z, z = F_Model_records vkp vs vhi := ⟨_, rfl⟩
      rw [bnd_e hr_5] at hres
      refine wr_callv (w1 := [(mo, .inr (7, [.ref ms, .ref mah, .ref mhi, .int r_5.2, .ref msl, .ref msv, .ref mpd, .int vln, .ref mlb])), (mah, .inl (cI, 246, .inl vs)), (mhi, .inl (cI, 1476, .inl r_5.1))]) (is := [0, 2, 3]) (va_runV (As := []) (rest := []) ⟨hx, hb, hml, hown, hts⟩ (c_Model_records l dC dI cI cC cG cZ mo ms mah mhi msl msv mpd mlb vkp vln vs vhi hkp r_5 hr_5) (cwV 0 hts gX7_restore_X7_records rfl rfl rfl (by decide +kernel) ⟨Nat.le_of_ble_eq_true rfl, Nat.le_of_ble_eq_true rfl⟩) (wr_preV (hP.sub (ws' := [(mo, .inr (7, [.ref ms, .ref mah, .ref mhi, .int vkp, .ref msl, .ref msv, .ref mpd, .int vln, .ref mlb])), (mah, .inl (cI, 246, .inl vs)), (mhi, .inl (cI, 1476, .inl vhi))]) [0, 2, 3] rfl) hK (hD.sub (ws' := [(mo, .inr (7, [.ref ms, .ref mah, .ref mhi, .int vkp, .ref msl, .ref msv, .ref mpd, .int vln, .ref mlb])), (mah, .inl (cI, 246, .inl vs)), (mhi, .inl (cI, 1476, .inl vhi))]) [0, 2, 3] (by decide) rfl) (ci := 7) (q0 := 0) rfl rfl) rfl rfl hl.1 rfl (lv_room (Nat.le_of_ble_eq_true rfl)) dX7_restore_29 ⟨Nat.zero_le _, Nat.zero_le _⟩) hP hD hS rfl rfl rfl (fun H locs hP hD hS => ?_)
      have hP : va_P (dC, dI) vwCl [(mo, .inr (7, [.ref ms, .ref mah, .ref mhi, .int r_5.2, .ref msl, .ref msv, .ref mpd, .int vln, .ref mlb])), (ms, .inl (cI, 246, .inl vs)), (mah, .inl (cI, 246, .inl vs)), (mhi, .inl (cI, 1476, .inl r_5.1)), (msl, .inl (cI, 492, .inl vsl)), (msv, .inl (cZ, 2, .inl vsv))] H := hP
      have hD : va_D A [(mo, .inr (7, [.ref ms, .ref mah, .ref mhi, .int r_5.2, .ref msl, .ref msv, .ref mpd, .int vln, .ref mlb])), (ms, .inl (cI, 246, .inl vs)), (mah, .inl (cI, 246, .inl vs)), (mhi, .inl (cI, 1476, .inl r_5.1)), (msl, .inl (cI, 492, .inl vsl)), (msv, .inl (cZ, 2, .inl vsv))] := hD
      refine lv_iconst (v := 0) hx hb dX7_restore_32 (by decide) ?_
      refine lv_istore_n (lv' := [(2, .int 0), (0, .ref mo), (1, .int slot)]) hx hb dX7_restore_33 rfl hl (by decide) rfl (fun ls hl => ?_)
      obtain ⟨q_6, hq_6⟩ : ∃ z, z = F_Model_restore_kg_L34 slot vkp vs vah vhi vsl vsv 247 (0 : Int32) r_5.2 vs r_5.1 := ⟨_, rfl⟩
      rw [bnd_e hq_6] at hres
      have hexit34 : ∀ (H : Heap) (locs : List Loc) (ls : Array Slot), va_P (dC, dI) vwCl [(mo, .inr (7, [.ref ms, .ref mah, .ref mhi, .int q_6.2.1, .ref msl, .ref msv, .ref mpd, .int vln, .ref mlb])), (ms, .inl (cI, 246, .inl q_6.2.2.1)), (mah, .inl (cI, 246, .inl vs)), (mhi, .inl (cI, 1476, .inl q_6.2.2.2)), (msl, .inl (cI, 492, .inl vsl)), (msv, .inl (cZ, 2, .inl vsv))] H → va_D A [(mo, .inr (7, [.ref ms, .ref mah, .ref mhi, .int q_6.2.1, .ref msl, .ref msv, .ref mpd, .int vln, .ref mlb])), (ms, .inl (cI, 246, .inl q_6.2.2.1)), (mah, .inl (cI, 246, .inl vs)), (mhi, .inl (cI, 1476, .inl q_6.2.2.2)), (msl, .inl (cI, 492, .inl vsl)), (msv, .inl (cZ, 2, .inl vsv))] → va_S A s.heap H locs → lv_has ls 3 [(2, .int q_6.1), (0, .ref mo), (1, .int slot)] → W p l e (headSpec wsX7_restore ({ frames := 2, cells := 0, slots := 0, locals := 43 })).room s m ([.ref mo, .int slot] : List Value).toArray below meth c H locs 0 0 (MQ below (va_Qi (fun r (_ : Unit) => r = res.1) (fun _ zt => va_P (dC, dI) vwCl [(mo, .inr (7, [.ref ms, .ref mah, .ref mhi, .int res.2.1, .ref msl, .ref msv, .ref mpd, .int vln, .ref mlb])), (ms, .inl (cI, 246, .inl res.2.2.1)), (mah, .inl (cI, 246, .inl res.2.2.2.1)), (mhi, .inl (cI, 1476, .inl res.2.2.2.2)), (msl, .inl (cI, 492, .inl vsl)), (msv, .inl (cZ, 2, .inl vsv))] zt.heap) A) ([.ref mo, .int slot] : List Value).toArray s 0 0 A) (F0 m 65 ls []) := by
        intro H locs ls  hP hD hS hl
        refine lv_aload_n hx hb dX7_restore_65 rfl (lv_at hl 1 rfl) ?_
        obtain ⟨r_7, hr_7⟩ : ∃ z, z = F_Model_left q_6.2.2.1 := ⟨_, rfl⟩
        rw [bnd_e hr_7] at hres
        refine ro_calli (va_runV (As := []) (rest := []) ⟨hx, hb, hml, hown, hts⟩ (c_Model_left l dC dI cI cC cG cZ mo ms mah mhi msl msv mpd mlb q_6.2.1 vln q_6.2.2.1  r_7 hr_7) (cwV 0 hts gX7_restore_X7_left rfl rfl rfl (by decide +kernel) ⟨Nat.le_of_ble_eq_true rfl, Nat.le_of_ble_eq_true rfl⟩) (ro_preV (hP.sub (ws' := [(mo, .inr (7, [.ref ms, .ref mah, .ref mhi, .int q_6.2.1, .ref msl, .ref msv, .ref mpd, .int vln, .ref mlb])), (ms, .inl (cI, 246, .inl q_6.2.2.1))]) [0, 1] rfl) hK (ci := 7) (q0 := 0) rfl rfl) rfl rfl hl.1 rfl (lv_room (Nat.le_of_ble_eq_true rfl)) dX7_restore_66 ⟨Nat.zero_le _, Nat.zero_le _⟩) hP hS (fun H locs hP hS => ?_)
        subst hres
        exact W.iret (v := r_7) hx hb hr (fun t ht hW => ⟨⟨r_7, (), rfl, rfl, (by show va_P _ _ _ t.heap; rw [ht]; exact hP)⟩, hS.F ht⟩) hS.2.2 dX7_restore_69
      have hloop34 : ∀ (n k34 : Nat) (x2 : Int32) (w03 : Int32) (w1f : Nat → Int32) (w3f : Nat → Int32) (H : Heap) (locs : List Loc) (ls : Array Slot), k34 ≤ 246 → 246 - k34 < n → x2 = nI k34 → q_6 = F_Model_restore_kg_L34 slot vkp vs vah vhi vsl vsv n x2 w03 w1f w3f → va_P (dC, dI) vwCl [(mo, .inr (7, [.ref ms, .ref mah, .ref mhi, .int w03, .ref msl, .ref msv, .ref mpd, .int vln, .ref mlb])), (ms, .inl (cI, 246, .inl w1f)), (mah, .inl (cI, 246, .inl vs)), (mhi, .inl (cI, 1476, .inl w3f)), (msl, .inl (cI, 492, .inl vsl)), (msv, .inl (cZ, 2, .inl vsv))] H → va_D A [(mo, .inr (7, [.ref ms, .ref mah, .ref mhi, .int w03, .ref msl, .ref msv, .ref mpd, .int vln, .ref mlb])), (ms, .inl (cI, 246, .inl w1f)), (mah, .inl (cI, 246, .inl vs)), (mhi, .inl (cI, 1476, .inl w3f)), (msl, .inl (cI, 492, .inl vsl)), (msv, .inl (cZ, 2, .inl vsv))] → va_S A s.heap H locs → lv_has ls 3 [(2, .int x2), (0, .ref mo), (1, .int slot)] → W p l e (headSpec wsX7_restore ({ frames := 2, cells := 0, slots := 0, locals := 43 })).room s m ([.ref mo, .int slot] : List Value).toArray below meth c H locs 0 0 (MQ below (va_Qi (fun r (_ : Unit) => r = res.1) (fun _ zt => va_P (dC, dI) vwCl [(mo, .inr (7, [.ref ms, .ref mah, .ref mhi, .int res.2.1, .ref msl, .ref msv, .ref mpd, .int vln, .ref mlb])), (ms, .inl (cI, 246, .inl res.2.2.1)), (mah, .inl (cI, 246, .inl res.2.2.2.1)), (mhi, .inl (cI, 1476, .inl res.2.2.2.2)), (msl, .inl (cI, 492, .inl vsl)), (msv, .inl (cZ, 2, .inl vsv))] zt.heap) A) ([.ref mo, .int slot] : List Value).toArray s 0 0 A) (F0 m 34 ls []) := by
        intro n
        induction n with
        | zero => intro k34 x2 w03 w1f w3f _ _ _ _ hm; exact absurd hm (Nat.not_lt_zero _)
        | succ n ih34 =>
          intro k34 x2 w03 w1f w3f H locs ls hk34 hm34 ex34  hq_6 hP hD hS hl
          rw [F_Model_restore_kg_L34] at hq_6
          refine lv_iload_n hx hb dX7_restore_34 rfl (lv_at hl 0 rfl) ?_
          refine lv_sipush (v := 246) hx hb dX7_restore_35 (by decide) ?_
          refine lv_icmp_ge (tgt := 65) hx hb dX7_restore_38 (by decide) (fun c_8 => ?_) (fun c_8 => ?_)
          · rw [if_pos c_8] at hq_6
            subst hq_6
            exact hexit34 _ _ _  hP hD hS (lv_sub hl [0, 1, 2] rfl)
          · rw [if_neg c_8] at hq_6
            have hlt_k34 : k34 < 246 := lp_lt rfl ex34 hk34 c_8
            refine lv_aload_n hx hb dX7_restore_41 rfl (lv_at hl 1 rfl) ?_
            refine va_get (D := (dC, dI)) (ci := 7) (v := .ref ms) (C := RX7) (T := TX7) (N := 9) hx hb hts iX7_restore_X7 hown hK hP 0 rfl rfl 0 (by decide) (hts (.fieldLink RX7 7 "TailorChalksModel" "s" "[I") kX7_restore_7) (fun _ h9 => h9) rfl dX7_restore_42 ?_
            refine lv_iload_n hx hb dX7_restore_45 rfl (lv_at hl 0 rfl) ?_
            refine lv_aload_n hx hb dX7_restore_46 rfl (lv_at hl 1 rfl) ?_
            refine va_get (D := (dC, dI)) (ci := 7) (v := .ref msl) (C := RX7) (T := TX7) (N := 9) hx hb hts iX7_restore_X7 hown hK hP 0 rfl rfl 4 (by decide) (hts (.fieldLink RX7 19 "TailorChalksModel" "slots" "[I") kX7_restore_19) (fun _ h9 => h9) rfl dX7_restore_47 ?_
            refine lv_sipush (v := 246) hx hb dX7_restore_50 (by decide) ?_
            refine lv_iload_n hx hb dX7_restore_53 rfl (lv_at hl 2 rfl) ?_
            refine lv_imul hx hb dX7_restore_54 ?_
            refine lv_iload_n hx hb dX7_restore_55 rfl (lv_at hl 0 rfl) ?_
            refine lv_iadd hx hb dX7_restore_56 ?_
            refine va_iald hx hb hK hP 4 0 rfl rfl (slot_in (in01 (by rw [← hr_1]; exact c_2)) ex34 (by omega)) dX7_restore_57 ?_
            refine va_iast hx hb hK hP hD hS 1 0 rfl rfl (by rw [ex34]; exact vp_in_nI (by omega) (by decide)) dX7_restore_58 (fun H locs hP hD hS => ?_)
            have hP : va_P (dC, dI) vwCl [(mo, .inr (7, [.ref ms, .ref mah, .ref mhi, .int w03, .ref msl, .ref msv, .ref mpd, .int vln, .ref mlb])), (ms, .inl (cI, 246, .inl (upd w1f x2.toNatClampNeg (vsl (((246 : Int32) * slot) + x2).toNatClampNeg)))), (mah, .inl (cI, 246, .inl vs)), (mhi, .inl (cI, 1476, .inl w3f)), (msl, .inl (cI, 492, .inl vsl)), (msv, .inl (cZ, 2, .inl vsv))] H := hP
            have hD : va_D A [(mo, .inr (7, [.ref ms, .ref mah, .ref mhi, .int w03, .ref msl, .ref msv, .ref mpd, .int vln, .ref mlb])), (ms, .inl (cI, 246, .inl (upd w1f x2.toNatClampNeg (vsl (((246 : Int32) * slot) + x2).toNatClampNeg)))), (mah, .inl (cI, 246, .inl vs)), (mhi, .inl (cI, 1476, .inl w3f)), (msl, .inl (cI, 492, .inl vsl)), (msv, .inl (cZ, 2, .inl vsv))] := hD
            refine lv_iinc (v := (x2 + 1)) (lv' := [(2, .int (x2 + 1)), (0, .ref mo), (1, .int slot)]) hx hb dX7_restore_59 hl (k := 0) rfl rfl (by decide) rfl (fun ls hl => ?_)
            refine lv_goto (tgt := 34) hx hb dX7_restore_62 (by decide) ?_
            exact ih34 (k34 + 1) (x2 + 1) w03 (upd w1f x2.toNatClampNeg (vsl (((246 : Int32) * slot) + x2).toNatClampNeg)) w3f _ _ _ (by omega) (by omega) (by rw [ex34]; exact nI_1 _)  hq_6 hP hD hS (lv_sub hl [0, 1, 2] rfl)
      exact hloop34 247 0 (0 : Int32) r_5.2 vs r_5.1 _ _ _ (by omega) (by omega) nI_0.symm  hq_6 hP hD hS (lv_sub hl [0, 1, 2] rfl)
    · rw [if_pos c_3] at hres
      refine lv_bipush (v := (-5)) hx hb dX7_restore_21 (by decide) ?_
      subst hres
      exact W.iret (v := (-5)) hx hb hr (fun t ht hW => ⟨⟨(-5), (), rfl, rfl, (by show va_P _ _ _ t.heap; rw [ht]; exact hP)⟩, hS.F ht⟩) hS.2.2 dX7_restore_23
  · rw [if_pos c_2] at hres
    refine lv_bipush (v := (-2)) hx hb dX7_restore_9 (by decide) ?_
    subst hres
    exact W.iret (v := (-2)) hx hb hr (fun t ht hW => ⟨⟨(-2), (), rfl, rfl, (by show va_P _ _ _ t.heap; rw [ht]; exact hP)⟩, hS.F ht⟩) hS.2.2 dX7_restore_11
theorem iX7_carryOut_X7 : ∀ w ∈ u_ws RX7 TX7 9, w ∈ wsX7_carryOut := by decide +kernel
theorem kX7_carryOut_153 : Cond.fieldLink RX7 153 "TailorChalksModel" "length" "I" ∈ wsX7_carryOut := by decide +kernel
def F_Model_carryOut_kg_L26 (vkp : Int32) (vln : Int32) (vs : Nat → Int32) (vah : Nat → Int32) (vhi : Nat → Int32) (vpd : Nat → Int32) (vlb : Nat → Int32) : Nat → Int32 → Int32 → Int32 → Int32 → (Nat → Int32) → (Nat → Int32) → (Nat → Int32) → Int32 × Int32 × Int32 × Int32 × (Nat → Int32) × (Nat → Int32) × (Nat → Int32) × Int32
  | 0, x3, x2, x1, w03, w1f, w3f, w5f => (x3, x2, x1, w03, w1f, w3f, w5f, 0)
  | n + 1, x3, x2, x1, w03, w1f, w3f, w5f => (if x3 = 0 then (x3, x2, x1, w03, w1f, w3f, w5f, 1) else (if vln ≤ x2 then (x3, x2, x1, w03, w1f, w3f, w5f, 1) else (bnd (F_Model_behindOrder x2 vln vpd) (fun r_8 => (if r_8 = (x2 + 3) then (bnd (F_Model_digitAt (x2 + 1) vln vpd) (fun r_16 => (bnd (F_Model_digitAt (x2 + 2) vln vpd) (fun r_17 => (bnd (F_Model_charAt x2 vln vpd) (fun r_18 => (bnd (F_Model_does r_18 (((10 : Int32) * r_16) + r_17) w1f w5f) (fun r_19 => (if r_19.1 < 0 then (F_Model_carryOut_kg_L26 vkp vln vs vah vhi vpd vlb n (0 : Int32) (r_8 + 1) (x1 + 0) w03 r_19.2.1 w3f r_19.2.2) else (F_Model_carryOut_kg_L26 vkp vln vs vah vhi vpd vlb n (1 : Int32) (r_8 + 1) (x1 + 1) w03 r_19.2.1 w3f r_19.2.2)))))))))) else (bnd (F_Model_digitAt (x2 + 1) vln vpd) (fun r_10 => (bnd (F_Model_charAt x2 vln vpd) (fun r_11 => (bnd (F_Model_does r_11 r_10 w1f w5f) (fun r_12 => (if r_12.1 < 0 then (F_Model_carryOut_kg_L26 vkp vln vs vah vhi vpd vlb n (0 : Int32) (r_8 + 1) (x1 + 0) w03 r_12.2.1 w3f r_12.2.2) else (F_Model_carryOut_kg_L26 vkp vln vs vah vhi vpd vlb n (1 : Int32) (r_8 + 1) (x1 + 1) w03 r_12.2.1 w3f r_12.2.2)))))))))))))
def F_Model_carryOut_kg (vkp : Int32) (vln : Int32) (vs : Nat → Int32) (vah : Nat → Int32) (vhi : Nat → Int32) (vpd : Nat → Int32) (vlb : Nat → Int32) : Int32 × Int32 × Int32 × (Nat → Int32) × (Nat → Int32) × (Nat → Int32) × (Nat → Int32) := (bnd (F_Model_wrong vln vpd) (fun r_1 => (if r_1 = (-6) then (bnd (F_Model_records vkp vs vhi) (fun r_4 => (bnd (F_Model_carryOut_kg_L26 vkp vln vs vah vhi vpd vlb 90 (1 : Int32) (0 : Int32) (0 : Int32) r_4.2 vs r_4.1 vlb) (fun q_5 => (q_5.2.2.1, q_5.2.2.2.1, 0, q_5.2.2.2.2.1, vs, q_5.2.2.2.2.2.1, q_5.2.2.2.2.2.2.1))))) else ((-3), vkp, vln, vs, vah, vhi, vlb))))
abbrev PF (z : Int32 × Int32 × Int32 × Int32 × (Nat → Int32) × (Nat → Int32) × (Nat → Int32) × Int32) : Prop := z.2.2.2.2.2.2.2 = 1
theorem co_go (vkp : Int32) (vln : Int32) (vs : Nat → Int32) (vah : Nat → Int32) (vhi : Nat → Int32) (vpd : Nat → Int32) (vlb : Nat → Int32) (hln : tm_ok 80 vln) : ∀ (n q : Nat) (x3 x1 w03 : Int32) (w1f w3f w5f : Nat → Int32), q ≤ 84 → 86 - q ≤ n → PL vln vpd (nI q) → PF (F_Model_carryOut_kg_L26 vkp vln vs vah vhi vpd vlb n x3 (nI q) x1 w03 w1f w3f w5f) := by
  intro n
  induction n with
  | zero => intro q x3 x1 w03 w1f w3f w5f hq hn; omega
  | succ n ih =>
    intro q x3 x1 w03 w1f w3f w5f hq hn hp
    rw [F_Model_carryOut_kg_L26]
    refine ite_i (P := PF) (fun _ => rfl) (fun _ => ?_)
    refine ite_i (P := PF) (fun _ => rfl) (fun c => ?_)
    refine bnd_i (P := PF) (fun r hr => ?_)
    have hp2 := pl_step hln hp c hr
    obtain ⟨q2, i, hq2, hi1, hi3, e, e2, -⟩ := pl_go hln hp c
    have eq : q = q2 := by
      have h1 := congrArg Int32.toInt e
      rw [nI_toInt (by omega), nI_toInt (by omega)] at h1
      omega
    subst eq
    rw [← hr] at e2
    rw [e2, nI_1] at hp2
    have go : ∀ (x3 x1 w03 : Int32) (w1f w3f w5f : Nat → Int32), PF (F_Model_carryOut_kg_L26 vkp vln vs vah vhi vpd vlb n x3 (r + 1) x1 w03 w1f w3f w5f) := fun x3 x1 w03 w1f w3f w5f => by
      rw [e2, nI_1]; exact ih (q + i + 1) x3 x1 w03 w1f w3f w5f (by omega) (by omega) hp2
    repeat' first | with_reducible refine bnd_i (P := PF) (fun r hr => ?_) | with_reducible refine ite_i (P := PF) (fun _ => ?_) (fun _ => ?_)
    all_goals with_reducible exact go _ _ _ _ _ _
theorem co_fin {vkp vln : Int32} {vs vah vhi vpd vlb : Nat → Int32} {w03 : Int32} {w1f w3f w5f : Nat → Int32} (hln : tm_ok 80 vln) (h : PL vln vpd 0) : PF (F_Model_carryOut_kg_L26 vkp vln vs vah vhi vpd vlb 90 1 0 0 w03 w1f w3f w5f) := co_go vkp vln vs vah vhi vpd vlb hln 90 0 1 0 w03 w1f w3f w5f (by omega) (by omega) h
set_option maxHeartbeats 4000000 in
set_option maxRecDepth 100000 in
theorem c_Model_carryOut_kg (l : Launch) (dC : Nat → ClassId) (dI : Nat → Nat → Nat) (cI cC cG cZ : ClassId) (mo ms mah mhi msl msv mpd mlb : Nat) (vkp : Int32) (vln : Int32) (vs : Nat → Int32) (vah : Nat → Int32) (vhi : Nat → Int32) (vpd : Nat → Int32) (vlb : Nat → Int32) (hMI : MI vs) (hkp : tm_ok 6 vkp) (hln : tm_ok 80 vln) (hfin : ¬ F_Model_wrong vln vpd = -99) (res : Int32 × Int32 × Int32 × (Nat → Int32) × (Nat → Int32) × (Nat → Int32) × (Nat → Int32)) (hres : res = F_Model_carryOut_kg vkp vln vs vah vhi vpd vlb) : Met l yX7_carryOut wsX7_carryOut ({ frames := 8, cells := 0, slots := 0, locals := 181 }) (va_Pc [.ref mo] (wr_P (dC, dI) vwCl (tyL cI cC cG cZ) [(mo, .inr (7, [.ref ms, .ref mah, .ref mhi, .int vkp, .ref msl, .ref msv, .ref mpd, .int vln, .ref mlb])), (ms, .inl (cI, 246, .inl vs)), (mah, .inl (cI, 246, .inl vah)), (mhi, .inl (cI, 1476, .inl vhi)), (mpd, .inl (cI, 80, .inl vpd)), (mlb, .inl (cI, 48, .inl vlb))])) (va_Qi (fun r (_ : Unit) => r = res.1) (fun _ zt => va_P (dC, dI) vwCl [(mo, .inr (7, [.ref ms, .ref mah, .ref mhi, .int res.2.1, .ref msl, .ref msv, .ref mpd, .int res.2.2.1, .ref mlb])), (ms, .inl (cI, 246, .inl res.2.2.2.1)), (mah, .inl (cI, 246, .inl res.2.2.2.2.1)), (mhi, .inl (cI, 1476, .inl res.2.2.2.2.2.1)), (mpd, .inl (cI, 80, .inl vpd)), (mlb, .inl (cI, 48, .inl res.2.2.2.2.2.2))] zt.heap) (wr_A [(mo, .inr (7, [.ref ms, .ref mah, .ref mhi, .int vkp, .ref msl, .ref msv, .ref mpd, .int vln, .ref mlb])), (ms, .inl (cI, 246, .inl vs)), (mah, .inl (cI, 246, .inl vah)), (mhi, .inl (cI, 1476, .inl vhi)), (mpd, .inl (cI, 80, .inl vpd)), (mlb, .inl (cI, 48, .inl vlb))])) 0 0 (wr_A [(mo, .inr (7, [.ref ms, .ref mah, .ref mhi, .int vkp, .ref msl, .ref msv, .ref mpd, .int vln, .ref mlb])), (ms, .inl (cI, 246, .inl vs)), (mah, .inl (cI, 246, .inl vah)), (mhi, .inl (cI, 1476, .inl vhi)), (mpd, .inl (cI, 80, .inl vpd)), (mlb, .inl (cI, 48, .inl vlb))]) := by
  refine Met.ofW (cc := cX7_carryOut) (maxL := 6) (ret := (some .int)) (by decide) rfl ?_
  intro p e s m args below meth c s₁ B hml hv
  obtain ⟨rfl, hP, hK, hD0⟩ := hv
  have hx := B.exec
  have hb := B.bytes
  have hr := B.returns
  have hts := atoms_spec (ws := wsX7_carryOut) B.pre
  have hown : s.vm.findClass RX7 = some m.cls := findClass_of_methodNamed B.named
  have hlocks := B.notSynchronized
  have hD := wr_self hD0
  generalize hAe : wr_A [(mo, .inr (7, [.ref ms, .ref mah, .ref mhi, .int vkp, .ref msl, .ref msv, .ref mpd, .int vln, .ref mlb])), (ms, .inl (cI, 246, .inl vs)), (mah, .inl (cI, 246, .inl vah)), (mhi, .inl (cI, 1476, .inl vhi)), (mpd, .inl (cI, 80, .inl vpd)), (mlb, .inl (cI, 48, .inl vlb))] = A at hD ⊢
  have hS : va_S A s.heap s.heap [] := va_S.rf
  have hP : va_P (dC, dI) vwCl [(mo, .inr (7, [.ref ms, .ref mah, .ref mhi, .int vkp, .ref msl, .ref msv, .ref mpd, .int vln, .ref mlb])), (ms, .inl (cI, 246, .inl vs)), (mah, .inl (cI, 246, .inl vah)), (mhi, .inl (cI, 1476, .inl vhi)), (mpd, .inl (cI, 80, .inl vpd)), (mlb, .inl (cI, 48, .inl vlb))] s.heap := hP
  have hl := lv_entry ([.ref mo]) (n := 6) (Nat.le_of_ble_eq_true rfl)
  rw [lg_entry_eq]
  generalize (lg_sl ([.ref mo]) ++ List.replicate (6 - (lg_sl ([.ref mo])).length) Slot.unset).toArray = ls at hl ⊢
  have hl : lv_has ls 6 [(0, .ref mo)] := hl
  rw [F_Model_carryOut_kg] at hres
  refine lv_aload_n hx hb dX7_carryOut_0 rfl (lv_at hl 0 rfl) ?_
  obtain ⟨r_1, hr_1⟩ : ∃ z, z = F_Model_wrong vln vpd := ⟨_, rfl⟩
  rw [bnd_e hr_1] at hres
  refine ro_calli (va_runV (As := []) (rest := []) ⟨hx, hb, hml, hown, hts⟩ (c_Model_wrong l dC dI cI cC cG cZ mo ms mah mhi msl msv mpd mlb vkp vln vpd hln hfin r_1 hr_1) (cwV 0 hts gX7_carryOut_X7_wrong rfl rfl rfl (by decide +kernel) ⟨Nat.le_of_ble_eq_true rfl, Nat.le_of_ble_eq_true rfl⟩) (ro_preV (hP.sub (ws' := [(mo, .inr (7, [.ref ms, .ref mah, .ref mhi, .int vkp, .ref msl, .ref msv, .ref mpd, .int vln, .ref mlb])), (mpd, .inl (cI, 80, .inl vpd))]) [0, 4] rfl) hK (ci := 7) (q0 := 0) rfl rfl) rfl rfl hl.1 rfl (lv_room (Nat.le_of_ble_eq_true rfl)) dX7_carryOut_1 ⟨Nat.zero_le _, Nat.zero_le _⟩) hP hS (fun H locs hP hS => ?_)
  refine lv_bipush (v := (-6)) hx hb dX7_carryOut_4 (by decide) ?_
  refine lv_icmp_eq (tgt := 12) hx hb dX7_carryOut_6 (by decide) (fun c_2 => ?_) (fun c_2 => ?_)
  · rw [if_pos c_2] at hres
    refine lv_aload_n hx hb dX7_carryOut_12 rfl (lv_at hl 0 rfl) ?_
    refine wr_callv (w1 := [(mo, .inr (7, [.ref ms, .ref mah, .ref mhi, .int vkp, .ref msl, .ref msv, .ref mpd, .int vln, .ref mlb])), (ms, .inl (cI, 246, .inl vs)), (mah, .inl (cI, 246, .inl vs))]) (is := [0, 1, 2]) (va_runV (As := []) (rest := []) ⟨hx, hb, hml, hown, hts⟩ (c_Model_looks l dC dI cI cC cG cZ mo ms mah mhi msl msv mpd mlb vkp vln vs vah  ) (cwV 0 hts gX7_carryOut_X7_looks rfl rfl rfl (by decide +kernel) ⟨Nat.le_of_ble_eq_true rfl, Nat.le_of_ble_eq_true rfl⟩) (wr_preV (hP.sub (ws' := [(mo, .inr (7, [.ref ms, .ref mah, .ref mhi, .int vkp, .ref msl, .ref msv, .ref mpd, .int vln, .ref mlb])), (ms, .inl (cI, 246, .inl vs)), (mah, .inl (cI, 246, .inl vah))]) [0, 1, 2] rfl) hK (hD.sub (ws' := [(mo, .inr (7, [.ref ms, .ref mah, .ref mhi, .int vkp, .ref msl, .ref msv, .ref mpd, .int vln, .ref mlb])), (ms, .inl (cI, 246, .inl vs)), (mah, .inl (cI, 246, .inl vah))]) [0, 1, 2] (by decide) rfl) (ci := 7) (q0 := 0) rfl rfl) rfl rfl hl.1 rfl (lv_room (Nat.le_of_ble_eq_true rfl)) dX7_carryOut_13 ⟨Nat.zero_le _, Nat.zero_le _⟩) hP hD hS rfl rfl rfl (fun H locs hP hD hS => ?_)
    have hP : va_P (dC, dI) vwCl [(mo, .inr (7, [.ref ms, .ref mah, .ref mhi, .int vkp, .ref msl, .ref msv, .ref mpd, .int vln, .ref mlb])), (ms, .inl (cI, 246, .inl vs)), (mah, .inl (cI, 246, .inl vs)), (mhi, .inl (cI, 1476, .inl vhi)), (mpd, .inl (cI, 80, .inl vpd)), (mlb, .inl (cI, 48, .inl vlb))] H := hP
    have hD : va_D A [(mo, .inr (7, [.ref ms, .ref mah, .ref mhi, .int vkp, .ref msl, .ref msv, .ref mpd, .int vln, .ref mlb])), (ms, .inl (cI, 246, .inl vs)), (mah, .inl (cI, 246, .inl vs)), (mhi, .inl (cI, 1476, .inl vhi)), (mpd, .inl (cI, 80, .inl vpd)), (mlb, .inl (cI, 48, .inl vlb))] := hD
    refine lv_aload_n hx hb dX7_carryOut_16 rfl (lv_at hl 0 rfl) ?_
    obtain ⟨r_4, hr_4⟩ : ∃ z, z = F_Model_records vkp vs vhi := ⟨_, rfl⟩
    rw [bnd_e hr_4] at hres
    refine wr_callv (w1 := [(mo, .inr (7, [.ref ms, .ref mah, .ref mhi, .int r_4.2, .ref msl, .ref msv, .ref mpd, .int vln, .ref mlb])), (mah, .inl (cI, 246, .inl vs)), (mhi, .inl (cI, 1476, .inl r_4.1))]) (is := [0, 2, 3]) (va_runV (As := []) (rest := []) ⟨hx, hb, hml, hown, hts⟩ (c_Model_records l dC dI cI cC cG cZ mo ms mah mhi msl msv mpd mlb vkp vln vs vhi hkp r_4 hr_4) (cwV 0 hts gX7_carryOut_X7_records rfl rfl rfl (by decide +kernel) ⟨Nat.le_of_ble_eq_true rfl, Nat.le_of_ble_eq_true rfl⟩) (wr_preV (hP.sub (ws' := [(mo, .inr (7, [.ref ms, .ref mah, .ref mhi, .int vkp, .ref msl, .ref msv, .ref mpd, .int vln, .ref mlb])), (mah, .inl (cI, 246, .inl vs)), (mhi, .inl (cI, 1476, .inl vhi))]) [0, 2, 3] rfl) hK (hD.sub (ws' := [(mo, .inr (7, [.ref ms, .ref mah, .ref mhi, .int vkp, .ref msl, .ref msv, .ref mpd, .int vln, .ref mlb])), (mah, .inl (cI, 246, .inl vs)), (mhi, .inl (cI, 1476, .inl vhi))]) [0, 2, 3] (by decide) rfl) (ci := 7) (q0 := 0) rfl rfl) rfl rfl hl.1 rfl (lv_room (Nat.le_of_ble_eq_true rfl)) dX7_carryOut_17 ⟨Nat.zero_le _, Nat.zero_le _⟩) hP hD hS rfl rfl rfl (fun H locs hP hD hS => ?_)
    have hP : va_P (dC, dI) vwCl [(mo, .inr (7, [.ref ms, .ref mah, .ref mhi, .int r_4.2, .ref msl, .ref msv, .ref mpd, .int vln, .ref mlb])), (ms, .inl (cI, 246, .inl vs)), (mah, .inl (cI, 246, .inl vs)), (mhi, .inl (cI, 1476, .inl r_4.1)), (mpd, .inl (cI, 80, .inl vpd)), (mlb, .inl (cI, 48, .inl vlb))] H := hP
    have hD : va_D A [(mo, .inr (7, [.ref ms, .ref mah, .ref mhi, .int r_4.2, .ref msl, .ref msv, .ref mpd, .int vln, .ref mlb])), (ms, .inl (cI, 246, .inl vs)), (mah, .inl (cI, 246, .inl vs)), (mhi, .inl (cI, 1476, .inl r_4.1)), (mpd, .inl (cI, 80, .inl vpd)), (mlb, .inl (cI, 48, .inl vlb))] := hD
    refine lv_iconst (v := 0) hx hb dX7_carryOut_20 (by decide) ?_
    refine lv_istore_n (lv' := [(1, .int 0), (0, .ref mo)]) hx hb dX7_carryOut_21 rfl hl (by decide) rfl (fun ls hl => ?_)
    refine lv_iconst (v := 0) hx hb dX7_carryOut_22 (by decide) ?_
    refine lv_istore_n (lv' := [(2, .int 0), (1, .int 0), (0, .ref mo)]) hx hb dX7_carryOut_23 rfl hl (by decide) rfl (fun ls hl => ?_)
    refine lv_iconst (v := 1) hx hb dX7_carryOut_24 (by decide) ?_
    refine lv_istore_n (lv' := [(3, .int 1), (2, .int 0), (1, .int 0), (0, .ref mo)]) hx hb dX7_carryOut_25 rfl hl (by decide) rfl (fun ls hl => ?_)
    obtain ⟨q_5, hq_5⟩ : ∃ z, z = F_Model_carryOut_kg_L26 vkp vln vs vah vhi vpd vlb 90 (1 : Int32) (0 : Int32) (0 : Int32) r_4.2 vs r_4.1 vlb := ⟨_, rfl⟩
    rw [bnd_e hq_5] at hres
    have hok26 : q_5.2.2.2.2.2.2.2 = 1 := by rw [hq_5]; exact (co_fin hln (pl_0 (by rw [← hr_1]; exact c_2)))
    have hexit26 : ∀ (H : Heap) (locs : List Loc) (ls : Array Slot), va_P (dC, dI) vwCl [(mo, .inr (7, [.ref ms, .ref mah, .ref mhi, .int q_5.2.2.2.1, .ref msl, .ref msv, .ref mpd, .int vln, .ref mlb])), (ms, .inl (cI, 246, .inl q_5.2.2.2.2.1)), (mah, .inl (cI, 246, .inl vs)), (mhi, .inl (cI, 1476, .inl q_5.2.2.2.2.2.1)), (mpd, .inl (cI, 80, .inl vpd)), (mlb, .inl (cI, 48, .inl q_5.2.2.2.2.2.2.1))] H → va_D A [(mo, .inr (7, [.ref ms, .ref mah, .ref mhi, .int q_5.2.2.2.1, .ref msl, .ref msv, .ref mpd, .int vln, .ref mlb])), (ms, .inl (cI, 246, .inl q_5.2.2.2.2.1)), (mah, .inl (cI, 246, .inl vs)), (mhi, .inl (cI, 1476, .inl q_5.2.2.2.2.2.1)), (mpd, .inl (cI, 80, .inl vpd)), (mlb, .inl (cI, 48, .inl q_5.2.2.2.2.2.2.1))] → va_S A s.heap H locs → lv_has ls 6 [(3, .int q_5.1), (2, .int q_5.2.1), (1, .int q_5.2.2.1), (0, .ref mo)] → W p l e (headSpec wsX7_carryOut ({ frames := 8, cells := 0, slots := 0, locals := 181 })).room s m ([.ref mo] : List Value).toArray below meth c H locs 0 0 (MQ below (va_Qi (fun r (_ : Unit) => r = res.1) (fun _ zt => va_P (dC, dI) vwCl [(mo, .inr (7, [.ref ms, .ref mah, .ref mhi, .int res.2.1, .ref msl, .ref msv, .ref mpd, .int res.2.2.1, .ref mlb])), (ms, .inl (cI, 246, .inl res.2.2.2.1)), (mah, .inl (cI, 246, .inl res.2.2.2.2.1)), (mhi, .inl (cI, 1476, .inl res.2.2.2.2.2.1)), (mpd, .inl (cI, 80, .inl vpd)), (mlb, .inl (cI, 48, .inl res.2.2.2.2.2.2))] zt.heap) A) ([.ref mo] : List Value).toArray s 0 0 A) (F0 m 123 ls []) := by
      intro H locs ls  hP hD hS hl
      refine lv_aload_n hx hb dX7_carryOut_123 rfl (lv_at hl 3 rfl) ?_
      refine lv_iconst (v := 0) hx hb dX7_carryOut_124 (by decide) ?_
      refine va_put (D := (dC, dI)) (ci := 7) (v := .int 0) (ty := (.int)) (C := RX7) (T := TX7) (N := 9) hx hb hts iX7_carryOut_X7 tyX7 tyX7_ok nmX7 hown hK hP hD hS 0 rfl rfl 7 (by decide) (hts (.fieldLink RX7 153 "TailorChalksModel" "length" "I") kX7_carryOut_153) (fun _ h9 => h9) rfl (by decide +kernel) rfl rfl (Nat.le_of_ble_eq_true rfl) dX7_carryOut_125 (fun H locs hP hD hS => ?_)
      have hP : va_P (dC, dI) vwCl [(mo, .inr (7, [.ref ms, .ref mah, .ref mhi, .int q_5.2.2.2.1, .ref msl, .ref msv, .ref mpd, .int 0, .ref mlb])), (ms, .inl (cI, 246, .inl q_5.2.2.2.2.1)), (mah, .inl (cI, 246, .inl vs)), (mhi, .inl (cI, 1476, .inl q_5.2.2.2.2.2.1)), (mpd, .inl (cI, 80, .inl vpd)), (mlb, .inl (cI, 48, .inl q_5.2.2.2.2.2.2.1))] H := hP
      have hD : va_D A [(mo, .inr (7, [.ref ms, .ref mah, .ref mhi, .int q_5.2.2.2.1, .ref msl, .ref msv, .ref mpd, .int 0, .ref mlb])), (ms, .inl (cI, 246, .inl q_5.2.2.2.2.1)), (mah, .inl (cI, 246, .inl vs)), (mhi, .inl (cI, 1476, .inl q_5.2.2.2.2.2.1)), (mpd, .inl (cI, 80, .inl vpd)), (mlb, .inl (cI, 48, .inl q_5.2.2.2.2.2.2.1))] := hD
      refine lv_iload_n hx hb dX7_carryOut_128 rfl (lv_at hl 2 rfl) ?_
      subst hres
      exact W.iret (v := q_5.2.2.1) hx hb hr (fun t ht hW => ⟨⟨q_5.2.2.1, (), rfl, rfl, (by show va_P _ _ _ t.heap; rw [ht]; exact hP)⟩, hS.F ht⟩) hS.2.2 dX7_carryOut_129
    have hloop26 : ∀ (n : Nat) (x3 : Int32) (x2 : Int32) (x1 : Int32) (w03 : Int32) (w1f : Nat → Int32) (w3f : Nat → Int32) (w5f : Nat → Int32) (H : Heap) (locs : List Loc) (ls : Array Slot), q_5.2.2.2.2.2.2.2 = 1 → PL vln vpd x2 → sm9 x2 → MI w1f → q_5 = F_Model_carryOut_kg_L26 vkp vln vs vah vhi vpd vlb n x3 x2 x1 w03 w1f w3f w5f → va_P (dC, dI) vwCl [(mo, .inr (7, [.ref ms, .ref mah, .ref mhi, .int w03, .ref msl, .ref msv, .ref mpd, .int vln, .ref mlb])), (ms, .inl (cI, 246, .inl w1f)), (mah, .inl (cI, 246, .inl vs)), (mhi, .inl (cI, 1476, .inl w3f)), (mpd, .inl (cI, 80, .inl vpd)), (mlb, .inl (cI, 48, .inl w5f))] H → va_D A [(mo, .inr (7, [.ref ms, .ref mah, .ref mhi, .int w03, .ref msl, .ref msv, .ref mpd, .int vln, .ref mlb])), (ms, .inl (cI, 246, .inl w1f)), (mah, .inl (cI, 246, .inl vs)), (mhi, .inl (cI, 1476, .inl w3f)), (mpd, .inl (cI, 80, .inl vpd)), (mlb, .inl (cI, 48, .inl w5f))] → va_S A s.heap H locs → lv_has ls 6 [(3, .int x3), (2, .int x2), (1, .int x1), (0, .ref mo)] → W p l e (headSpec wsX7_carryOut ({ frames := 8, cells := 0, slots := 0, locals := 181 })).room s m ([.ref mo] : List Value).toArray below meth c H locs 0 0 (MQ below (va_Qi (fun r (_ : Unit) => r = res.1) (fun _ zt => va_P (dC, dI) vwCl [(mo, .inr (7, [.ref ms, .ref mah, .ref mhi, .int res.2.1, .ref msl, .ref msv, .ref mpd, .int res.2.2.1, .ref mlb])), (ms, .inl (cI, 246, .inl res.2.2.2.1)), (mah, .inl (cI, 246, .inl res.2.2.2.2.1)), (mhi, .inl (cI, 1476, .inl res.2.2.2.2.2.1)), (mpd, .inl (cI, 80, .inl vpd)), (mlb, .inl (cI, 48, .inl res.2.2.2.2.2.2))] zt.heap) A) ([.ref mo] : List Value).toArray s 0 0 A) (F0 m 26 ls []) := by
      intro n
      induction n with
      | zero => intro x3 x2 x1 w03 w1f w3f w5f _ _ _ hok _ _ _ h0; rw [F_Model_carryOut_kg_L26] at h0; exact absurd hok (by rw [h0]; first | (show ¬ (0 : Int32) = 1; decide) | exact fun h => h rfl)
      | succ n ih26 =>
        intro x3 x2 x1 w03 w1f w3f w5f H locs ls hok26 hpl hs9 hmi hq_5 hP hD hS hl
        rw [F_Model_carryOut_kg_L26] at hq_5
        refine lv_iload_n hx hb dX7_carryOut_26 rfl (lv_at hl 0 rfl) ?_
        refine lv_if_eq (tgt := 123) hx hb dX7_carryOut_27 (by decide) (fun c_6 => ?_) (fun c_6 => ?_)
        · rw [if_pos c_6] at hq_5
          subst hq_5
          exact hexit26 _ _ _  hP hD hS (lv_sub hl [0, 1, 2, 3] rfl)
        · rw [if_neg c_6] at hq_5
          refine lv_iload_n hx hb dX7_carryOut_30 rfl (lv_at hl 1 rfl) ?_
          refine lv_aload_n hx hb dX7_carryOut_31 rfl (lv_at hl 3 rfl) ?_
          refine va_get (D := (dC, dI)) (ci := 7) (v := .int vln) (C := RX7) (T := TX7) (N := 9) hx hb hts iX7_carryOut_X7 hown hK hP 0 rfl rfl 7 (by decide) (hts (.fieldLink RX7 153 "TailorChalksModel" "length" "I") kX7_carryOut_153) (fun _ h9 => h9) rfl dX7_carryOut_32 ?_
          refine lv_icmp_ge (tgt := 123) hx hb dX7_carryOut_35 (by decide) (fun c_7 => ?_) (fun c_7 => ?_)
          · rw [if_pos c_7] at hq_5
            subst hq_5
            exact hexit26 _ _ _  hP hD hS (lv_sub hl [0, 1, 2, 3] rfl)
          · rw [if_neg c_7] at hq_5
            refine lv_aload_n hx hb dX7_carryOut_38 rfl (lv_at hl 3 rfl) ?_
            refine lv_iload_n hx hb dX7_carryOut_39 rfl (lv_at hl 1 rfl) ?_
            obtain ⟨r_8, hr_8⟩ : ∃ z, z = F_Model_behindOrder x2 vln vpd := ⟨_, rfl⟩
            rw [bnd_e hr_8] at hq_5
            refine ro_calli (va_runV (As := [.int x2]) (rest := []) ⟨hx, hb, hml, hown, hts⟩ (c_Model_behindOrder l dC dI cI cC cG cZ mo ms mah mhi msl msv mpd mlb x2 w03 vln vpd hs9 hln r_8 hr_8) (cwV 1 hts gX7_carryOut_X7_behindOrder rfl rfl rfl (by decide +kernel) ⟨Nat.le_of_ble_eq_true rfl, Nat.le_of_ble_eq_true rfl⟩) (ro_preV (hP.sub (ws' := [(mo, .inr (7, [.ref ms, .ref mah, .ref mhi, .int w03, .ref msl, .ref msv, .ref mpd, .int vln, .ref mlb])), (mpd, .inl (cI, 80, .inl vpd))]) [0, 4] rfl) hK (ci := 7) (q0 := 0) rfl rfl) rfl rfl hl.1 rfl (lv_room (Nat.le_of_ble_eq_true rfl)) dX7_carryOut_40 ⟨Nat.zero_le _, Nat.zero_le _⟩) hP hS (fun H locs hP hS => ?_)
            refine lv_istore (lv' := [(4, .int r_8), (3, .int x3), (2, .int x2), (1, .int x1), (0, .ref mo)]) hx hb dX7_carryOut_43 hl (by decide) rfl (fun ls hl => ?_)
            refine lv_iload hx hb dX7_carryOut_45 (lv_at hl 0 rfl) ?_
            refine lv_iload_n hx hb dX7_carryOut_47 rfl (lv_at hl 2 rfl) ?_
            refine lv_iconst (v := 3) hx hb dX7_carryOut_48 (by decide) ?_
            refine lv_iadd hx hb dX7_carryOut_49 ?_
            refine lv_icmp_ne (tgt := 74) hx hb dX7_carryOut_50 (by decide) (fun c_9 => ?_) (fun c_9 => ?_)
            · rw [if_neg c_9] at hq_5
              refine lv_aload_n hx hb dX7_carryOut_74 rfl (lv_at hl 4 rfl) ?_
              refine lv_iload_n hx hb dX7_carryOut_75 rfl (lv_at hl 2 rfl) ?_
              refine lv_iconst (v := 1) hx hb dX7_carryOut_76 (by decide) ?_
              refine lv_iadd hx hb dX7_carryOut_77 ?_
              obtain ⟨r_10, hr_10⟩ : ∃ z, z = F_Model_digitAt (x2 + 1) vln vpd := ⟨_, rfl⟩
              rw [bnd_e hr_10] at hq_5
              refine ro_calli (va_runV (As := [.int (x2 + 1)]) (rest := []) ⟨hx, hb, hml, hown, hts⟩ (c_Model_digitAt l dC dI cI cC cG cZ mo ms mah mhi msl msv mpd mlb (x2 + 1) w03 vln vpd (sm_up (q := 1) hs9 rfl (by decide)) hln r_10 hr_10) (cwV 1 hts gX7_carryOut_X7_digitAt rfl rfl rfl (by decide +kernel) ⟨Nat.le_of_ble_eq_true rfl, Nat.le_of_ble_eq_true rfl⟩) (ro_preV (hP.sub (ws' := [(mo, .inr (7, [.ref ms, .ref mah, .ref mhi, .int w03, .ref msl, .ref msv, .ref mpd, .int vln, .ref mlb])), (mpd, .inl (cI, 80, .inl vpd))]) [0, 4] rfl) hK (ci := 7) (q0 := 0) rfl rfl) rfl rfl hl.1 rfl (lv_room (Nat.le_of_ble_eq_true rfl)) dX7_carryOut_78 ⟨Nat.zero_le _, Nat.zero_le _⟩) hP hS (fun H locs hP hS => ?_)
              refine lv_istore (lv' := [(5, .int r_10), (4, .int r_8), (3, .int x3), (2, .int x2), (1, .int x1), (0, .ref mo)]) hx hb dX7_carryOut_81 hl (by decide) rfl (fun ls hl => ?_)
              refine lv_aload_n hx hb dX7_carryOut_83 rfl (lv_at hl 5 rfl) ?_
              refine lv_aload_n hx hb dX7_carryOut_84 rfl (lv_at hl 5 rfl) ?_
              refine lv_iload_n hx hb dX7_carryOut_85 rfl (lv_at hl 3 rfl) ?_
              obtain ⟨r_11, hr_11⟩ : ∃ z, z = F_Model_charAt x2 vln vpd := ⟨_, rfl⟩
              rw [bnd_e hr_11] at hq_5
              refine ro_calli (va_runV (As := [.int x2]) (rest := [.ref mo]) ⟨hx, hb, hml, hown, hts⟩ (c_Model_charAt l dC dI cI cC cG cZ mo ms mah mhi msl msv mpd mlb x2 w03 vln vpd (sm_of hs9) hln r_11 hr_11) (cwV 1 hts gX7_carryOut_X7_charAt rfl rfl rfl (by decide +kernel) ⟨Nat.le_of_ble_eq_true rfl, Nat.le_of_ble_eq_true rfl⟩) (ro_preV (hP.sub (ws' := [(mo, .inr (7, [.ref ms, .ref mah, .ref mhi, .int w03, .ref msl, .ref msv, .ref mpd, .int vln, .ref mlb])), (mpd, .inl (cI, 80, .inl vpd))]) [0, 4] rfl) hK (ci := 7) (q0 := 0) rfl rfl) rfl rfl hl.1 rfl (lv_room (Nat.le_of_ble_eq_true rfl)) dX7_carryOut_86 ⟨Nat.zero_le _, Nat.zero_le _⟩) hP hS (fun H locs hP hS => ?_)
              refine lv_iload hx hb dX7_carryOut_89 (lv_at hl 0 rfl) ?_
              obtain ⟨r_12, hr_12⟩ : ∃ z, z = F_Model_does r_11 r_10 w1f w5f := ⟨_, rfl⟩
              rw [bnd_e hr_12] at hq_5
              refine wr_calli (w1 := [(mo, .inr (7, [.ref ms, .ref mah, .ref mhi, .int w03, .ref msl, .ref msv, .ref mpd, .int vln, .ref mlb])), (ms, .inl (cI, 246, .inl r_12.2.1)), (mlb, .inl (cI, 48, .inl r_12.2.2))]) (is := [0, 1, 5]) (va_runV (As := [.int r_11, .int r_10]) (rest := []) ⟨hx, hb, hml, hown, hts⟩ (c_Model_does l dC dI cI cC cG cZ mo ms mah mhi msl msv mpd mlb r_11 r_10 w03 vln w1f w5f hmi r_12 hr_12) (cwV 2 hts gX7_carryOut_X7_does rfl rfl rfl (by decide +kernel) ⟨Nat.le_of_ble_eq_true rfl, Nat.le_of_ble_eq_true rfl⟩) (wr_preV (hP.sub (ws' := [(mo, .inr (7, [.ref ms, .ref mah, .ref mhi, .int w03, .ref msl, .ref msv, .ref mpd, .int vln, .ref mlb])), (ms, .inl (cI, 246, .inl w1f)), (mlb, .inl (cI, 48, .inl w5f))]) [0, 1, 5] rfl) hK (hD.sub (ws' := [(mo, .inr (7, [.ref ms, .ref mah, .ref mhi, .int w03, .ref msl, .ref msv, .ref mpd, .int vln, .ref mlb])), (ms, .inl (cI, 246, .inl w1f)), (mlb, .inl (cI, 48, .inl w5f))]) [0, 1, 5] (by decide) rfl) (ci := 7) (q0 := 0) rfl rfl) rfl rfl hl.1 rfl (lv_room (Nat.le_of_ble_eq_true rfl)) dX7_carryOut_91 ⟨Nat.zero_le _, Nat.zero_le _⟩) hP hD hS rfl rfl rfl (fun H locs hP hD hS => ?_)
              have hP : va_P (dC, dI) vwCl [(mo, .inr (7, [.ref ms, .ref mah, .ref mhi, .int w03, .ref msl, .ref msv, .ref mpd, .int vln, .ref mlb])), (ms, .inl (cI, 246, .inl r_12.2.1)), (mah, .inl (cI, 246, .inl vs)), (mhi, .inl (cI, 1476, .inl w3f)), (mpd, .inl (cI, 80, .inl vpd)), (mlb, .inl (cI, 48, .inl r_12.2.2))] H := hP
              have hD : va_D A [(mo, .inr (7, [.ref ms, .ref mah, .ref mhi, .int w03, .ref msl, .ref msv, .ref mpd, .int vln, .ref mlb])), (ms, .inl (cI, 246, .inl r_12.2.1)), (mah, .inl (cI, 246, .inl vs)), (mhi, .inl (cI, 1476, .inl w3f)), (mpd, .inl (cI, 80, .inl vpd)), (mlb, .inl (cI, 48, .inl r_12.2.2))] := hD
              refine lv_if_lt (tgt := 101) hx hb dX7_carryOut_94 (by decide) (fun c_13 => ?_) (fun c_13 => ?_)
              · rw [if_pos c_13] at hq_5
                refine lv_iconst (v := 0) hx hb dX7_carryOut_101 (by decide) ?_
                refine lv_istore_n (lv' := [(3, .int 0), (5, .int r_10), (4, .int r_8), (2, .int x2), (1, .int x1), (0, .ref mo)]) hx hb dX7_carryOut_102 rfl hl (by decide) rfl (fun ls hl => ?_)
                refine lv_iload_n hx hb dX7_carryOut_103 rfl (lv_at hl 4 rfl) ?_
                refine lv_iload_n hx hb dX7_carryOut_104 rfl (lv_at hl 0 rfl) ?_
                refine lv_if_eq (tgt := 112) hx hb dX7_carryOut_105 (by decide) (fun c_14 => ?_) (fun c_14 => ?_)
                rotate_left
                · exact absurd (by decide) c_14
                refine lv_iconst (v := 0) hx hb dX7_carryOut_112 (by decide) ?_
                refine lv_iadd hx hb dX7_carryOut_113 ?_
                refine lv_istore_n (lv' := [(1, .int (x1 + 0)), (3, .int 0), (5, .int r_10), (4, .int r_8), (2, .int x2), (0, .ref mo)]) hx hb dX7_carryOut_114 rfl hl (by decide) rfl (fun ls hl => ?_)
                refine lv_iload hx hb dX7_carryOut_115 (lv_at hl 3 rfl) ?_
                refine lv_iconst (v := 1) hx hb dX7_carryOut_117 (by decide) ?_
                refine lv_iadd hx hb dX7_carryOut_118 ?_
                refine lv_istore_n (lv' := [(2, .int (r_8 + 1)), (1, .int (x1 + 0)), (3, .int 0), (5, .int r_10), (4, .int r_8), (0, .ref mo)]) hx hb dX7_carryOut_119 rfl hl (by decide) rfl (fun ls hl => ?_)
                refine lv_goto (tgt := 26) hx hb dX7_carryOut_120 (by decide) ?_
                exact ih26 (0 : Int32) (r_8 + 1) (x1 + 0) w03 r_12.2.1 w3f r_12.2.2 _ _ _ hok26 (pl_step hln hpl c_7 hr_8) (pl_sm9 (pl_step hln hpl c_7 hr_8)) (by rw [hr_12]; exact does_MI hmi) hq_5 hP hD hS (lv_sub hl [2, 0, 1, 5] rfl)
              · rw [if_neg c_13] at hq_5
                refine lv_iconst (v := 1) hx hb dX7_carryOut_97 (by decide) ?_
                refine lv_goto (tgt := 102) hx hb dX7_carryOut_98 (by decide) ?_
                refine lv_istore_n (lv' := [(3, .int 1), (5, .int r_10), (4, .int r_8), (2, .int x2), (1, .int x1), (0, .ref mo)]) hx hb dX7_carryOut_102 rfl hl (by decide) rfl (fun ls hl => ?_)
                refine lv_iload_n hx hb dX7_carryOut_103 rfl (lv_at hl 4 rfl) ?_
                refine lv_iload_n hx hb dX7_carryOut_104 rfl (lv_at hl 0 rfl) ?_
                refine lv_if_eq (tgt := 112) hx hb dX7_carryOut_105 (by decide) (fun c_15 => ?_) (fun c_15 => ?_)
                · exact absurd c_15 (by decide)
                refine lv_iconst (v := 1) hx hb dX7_carryOut_108 (by decide) ?_
                refine lv_goto (tgt := 113) hx hb dX7_carryOut_109 (by decide) ?_
                refine lv_iadd hx hb dX7_carryOut_113 ?_
                refine lv_istore_n (lv' := [(1, .int (x1 + 1)), (3, .int 1), (5, .int r_10), (4, .int r_8), (2, .int x2), (0, .ref mo)]) hx hb dX7_carryOut_114 rfl hl (by decide) rfl (fun ls hl => ?_)
                refine lv_iload hx hb dX7_carryOut_115 (lv_at hl 3 rfl) ?_
                refine lv_iconst (v := 1) hx hb dX7_carryOut_117 (by decide) ?_
                refine lv_iadd hx hb dX7_carryOut_118 ?_
                refine lv_istore_n (lv' := [(2, .int (r_8 + 1)), (1, .int (x1 + 1)), (3, .int 1), (5, .int r_10), (4, .int r_8), (0, .ref mo)]) hx hb dX7_carryOut_119 rfl hl (by decide) rfl (fun ls hl => ?_)
                refine lv_goto (tgt := 26) hx hb dX7_carryOut_120 (by decide) ?_
                exact ih26 (1 : Int32) (r_8 + 1) (x1 + 1) w03 r_12.2.1 w3f r_12.2.2 _ _ _ hok26 (pl_step hln hpl c_7 hr_8) (pl_sm9 (pl_step hln hpl c_7 hr_8)) (by rw [hr_12]; exact does_MI hmi) hq_5 hP hD hS (lv_sub hl [2, 0, 1, 5] rfl)
            · rw [if_pos c_9] at hq_5
              refine lv_bipush (v := 10) hx hb dX7_carryOut_53 (by decide) ?_
              refine lv_aload_n hx hb dX7_carryOut_55 rfl (lv_at hl 4 rfl) ?_
              refine lv_iload_n hx hb dX7_carryOut_56 rfl (lv_at hl 2 rfl) ?_
              refine lv_iconst (v := 1) hx hb dX7_carryOut_57 (by decide) ?_
              refine lv_iadd hx hb dX7_carryOut_58 ?_
              obtain ⟨r_16, hr_16⟩ : ∃ z, z = F_Model_digitAt (x2 + 1) vln vpd := ⟨_, rfl⟩
              rw [bnd_e hr_16] at hq_5
              refine ro_calli (va_runV (As := [.int (x2 + 1)]) (rest := [.int 10]) ⟨hx, hb, hml, hown, hts⟩ (c_Model_digitAt l dC dI cI cC cG cZ mo ms mah mhi msl msv mpd mlb (x2 + 1) w03 vln vpd (sm_up (q := 1) hs9 rfl (by decide)) hln r_16 hr_16) (cwV 1 hts gX7_carryOut_X7_digitAt rfl rfl rfl (by decide +kernel) ⟨Nat.le_of_ble_eq_true rfl, Nat.le_of_ble_eq_true rfl⟩) (ro_preV (hP.sub (ws' := [(mo, .inr (7, [.ref ms, .ref mah, .ref mhi, .int w03, .ref msl, .ref msv, .ref mpd, .int vln, .ref mlb])), (mpd, .inl (cI, 80, .inl vpd))]) [0, 4] rfl) hK (ci := 7) (q0 := 0) rfl rfl) rfl rfl hl.1 rfl (lv_room (Nat.le_of_ble_eq_true rfl)) dX7_carryOut_59 ⟨Nat.zero_le _, Nat.zero_le _⟩) hP hS (fun H locs hP hS => ?_)
              refine lv_imul hx hb dX7_carryOut_62 ?_
              refine lv_aload_n hx hb dX7_carryOut_63 rfl (lv_at hl 4 rfl) ?_
              refine lv_iload_n hx hb dX7_carryOut_64 rfl (lv_at hl 2 rfl) ?_
              refine lv_iconst (v := 2) hx hb dX7_carryOut_65 (by decide) ?_
              refine lv_iadd hx hb dX7_carryOut_66 ?_
              obtain ⟨r_17, hr_17⟩ : ∃ z, z = F_Model_digitAt (x2 + 2) vln vpd := ⟨_, rfl⟩
              rw [bnd_e hr_17] at hq_5
              refine ro_calli (va_runV (As := [.int (x2 + 2)]) (rest := [.int ((10 : Int32) * r_16)]) ⟨hx, hb, hml, hown, hts⟩ (c_Model_digitAt l dC dI cI cC cG cZ mo ms mah mhi msl msv mpd mlb (x2 + 2) w03 vln vpd (sm_up (q := 2) hs9 rfl (by decide)) hln r_17 hr_17) (cwV 1 hts gX7_carryOut_X7_digitAt rfl rfl rfl (by decide +kernel) ⟨Nat.le_of_ble_eq_true rfl, Nat.le_of_ble_eq_true rfl⟩) (ro_preV (hP.sub (ws' := [(mo, .inr (7, [.ref ms, .ref mah, .ref mhi, .int w03, .ref msl, .ref msv, .ref mpd, .int vln, .ref mlb])), (mpd, .inl (cI, 80, .inl vpd))]) [0, 4] rfl) hK (ci := 7) (q0 := 0) rfl rfl) rfl rfl hl.1 rfl (lv_room (Nat.le_of_ble_eq_true rfl)) dX7_carryOut_67 ⟨Nat.zero_le _, Nat.zero_le _⟩) hP hS (fun H locs hP hS => ?_)
              refine lv_iadd hx hb dX7_carryOut_70 ?_
              refine lv_goto (tgt := 81) hx hb dX7_carryOut_71 (by decide) ?_
              refine lv_istore (lv' := [(5, .int (((10 : Int32) * r_16) + r_17)), (4, .int r_8), (3, .int x3), (2, .int x2), (1, .int x1), (0, .ref mo)]) hx hb dX7_carryOut_81 hl (by decide) rfl (fun ls hl => ?_)
              refine lv_aload_n hx hb dX7_carryOut_83 rfl (lv_at hl 5 rfl) ?_
              refine lv_aload_n hx hb dX7_carryOut_84 rfl (lv_at hl 5 rfl) ?_
              refine lv_iload_n hx hb dX7_carryOut_85 rfl (lv_at hl 3 rfl) ?_
              obtain ⟨r_18, hr_18⟩ : ∃ z, z = F_Model_charAt x2 vln vpd := ⟨_, rfl⟩
              rw [bnd_e hr_18] at hq_5
              refine ro_calli (va_runV (As := [.int x2]) (rest := [.ref mo]) ⟨hx, hb, hml, hown, hts⟩ (c_Model_charAt l dC dI cI cC cG cZ mo ms mah mhi msl msv mpd mlb x2 w03 vln vpd (sm_of hs9) hln r_18 hr_18) (cwV 1 hts gX7_carryOut_X7_charAt rfl rfl rfl (by decide +kernel) ⟨Nat.le_of_ble_eq_true rfl, Nat.le_of_ble_eq_true rfl⟩) (ro_preV (hP.sub (ws' := [(mo, .inr (7, [.ref ms, .ref mah, .ref mhi, .int w03, .ref msl, .ref msv, .ref mpd, .int vln, .ref mlb])), (mpd, .inl (cI, 80, .inl vpd))]) [0, 4] rfl) hK (ci := 7) (q0 := 0) rfl rfl) rfl rfl hl.1 rfl (lv_room (Nat.le_of_ble_eq_true rfl)) dX7_carryOut_86 ⟨Nat.zero_le _, Nat.zero_le _⟩) hP hS (fun H locs hP hS => ?_)
              refine lv_iload hx hb dX7_carryOut_89 (lv_at hl 0 rfl) ?_
              obtain ⟨r_19, hr_19⟩ : ∃ z, z = F_Model_does r_18 (((10 : Int32) * r_16) + r_17) w1f w5f := ⟨_, rfl⟩
              rw [bnd_e hr_19] at hq_5
              refine wr_calli (w1 := [(mo, .inr (7, [.ref ms, .ref mah, .ref mhi, .int w03, .ref msl, .ref msv, .ref mpd, .int vln, .ref mlb])), (ms, .inl (cI, 246, .inl r_19.2.1)), (mlb, .inl (cI, 48, .inl r_19.2.2))]) (is := [0, 1, 5]) (va_runV (As := [.int r_18, .int (((10 : Int32) * r_16) + r_17)]) (rest := []) ⟨hx, hb, hml, hown, hts⟩ (c_Model_does l dC dI cI cC cG cZ mo ms mah mhi msl msv mpd mlb r_18 (((10 : Int32) * r_16) + r_17) w03 vln w1f w5f hmi r_19 hr_19) (cwV 2 hts gX7_carryOut_X7_does rfl rfl rfl (by decide +kernel) ⟨Nat.le_of_ble_eq_true rfl, Nat.le_of_ble_eq_true rfl⟩) (wr_preV (hP.sub (ws' := [(mo, .inr (7, [.ref ms, .ref mah, .ref mhi, .int w03, .ref msl, .ref msv, .ref mpd, .int vln, .ref mlb])), (ms, .inl (cI, 246, .inl w1f)), (mlb, .inl (cI, 48, .inl w5f))]) [0, 1, 5] rfl) hK (hD.sub (ws' := [(mo, .inr (7, [.ref ms, .ref mah, .ref mhi, .int w03, .ref msl, .ref msv, .ref mpd, .int vln, .ref mlb])), (ms, .inl (cI, 246, .inl w1f)), (mlb, .inl (cI, 48, .inl w5f))]) [0, 1, 5] (by decide) rfl) (ci := 7) (q0 := 0) rfl rfl) rfl rfl hl.1 rfl (lv_room (Nat.le_of_ble_eq_true rfl)) dX7_carryOut_91 ⟨Nat.zero_le _, Nat.zero_le _⟩) hP hD hS rfl rfl rfl (fun H locs hP hD hS => ?_)
              have hP : va_P (dC, dI) vwCl [(mo, .inr (7, [.ref ms, .ref mah, .ref mhi, .int w03, .ref msl, .ref msv, .ref mpd, .int vln, .ref mlb])), (ms, .inl (cI, 246, .inl r_19.2.1)), (mah, .inl (cI, 246, .inl vs)), (mhi, .inl (cI, 1476, .inl w3f)), (mpd, .inl (cI, 80, .inl vpd)), (mlb, .inl (cI, 48, .inl r_19.2.2))] H := hP
              have hD : va_D A [(mo, .inr (7, [.ref ms, .ref mah, .ref mhi, .int w03, .ref msl, .ref msv, .ref mpd, .int vln, .ref mlb])), (ms, .inl (cI, 246, .inl r_19.2.1)), (mah, .inl (cI, 246, .inl vs)), (mhi, .inl (cI, 1476, .inl w3f)), (mpd, .inl (cI, 80, .inl vpd)), (mlb, .inl (cI, 48, .inl r_19.2.2))] := hD
              refine lv_if_lt (tgt := 101) hx hb dX7_carryOut_94 (by decide) (fun c_20 => ?_) (fun c_20 => ?_)
              · rw [if_pos c_20] at hq_5
                refine lv_iconst (v := 0) hx hb dX7_carryOut_101 (by decide) ?_
                refine lv_istore_n (lv' := [(3, .int 0), (5, .int (((10 : Int32) * r_16) + r_17)), (4, .int r_8), (2, .int x2), (1, .int x1), (0, .ref mo)]) hx hb dX7_carryOut_102 rfl hl (by decide) rfl (fun ls hl => ?_)
                refine lv_iload_n hx hb dX7_carryOut_103 rfl (lv_at hl 4 rfl) ?_
                refine lv_iload_n hx hb dX7_carryOut_104 rfl (lv_at hl 0 rfl) ?_
                refine lv_if_eq (tgt := 112) hx hb dX7_carryOut_105 (by decide) (fun c_21 => ?_) (fun c_21 => ?_)
                rotate_left
                · exact absurd (by decide) c_21
                refine lv_iconst (v := 0) hx hb dX7_carryOut_112 (by decide) ?_
                refine lv_iadd hx hb dX7_carryOut_113 ?_
                refine lv_istore_n (lv' := [(1, .int (x1 + 0)), (3, .int 0), (5, .int (((10 : Int32) * r_16) + r_17)), (4, .int r_8), (2, .int x2), (0, .ref mo)]) hx hb dX7_carryOut_114 rfl hl (by decide) rfl (fun ls hl => ?_)
                refine lv_iload hx hb dX7_carryOut_115 (lv_at hl 3 rfl) ?_
                refine lv_iconst (v := 1) hx hb dX7_carryOut_117 (by decide) ?_
                refine lv_iadd hx hb dX7_carryOut_118 ?_
                refine lv_istore_n (lv' := [(2, .int (r_8 + 1)), (1, .int (x1 + 0)), (3, .int 0), (5, .int (((10 : Int32) * r_16) + r_17)), (4, .int r_8), (0, .ref mo)]) hx hb dX7_carryOut_119 rfl hl (by decide) rfl (fun ls hl => ?_)
                refine lv_goto (tgt := 26) hx hb dX7_carryOut_120 (by decide) ?_
                exact ih26 (0 : Int32) (r_8 + 1) (x1 + 0) w03 r_19.2.1 w3f r_19.2.2 _ _ _ hok26 (pl_step hln hpl c_7 hr_8) (pl_sm9 (pl_step hln hpl c_7 hr_8)) (by rw [hr_19]; exact does_MI hmi) hq_5 hP hD hS (lv_sub hl [2, 0, 1, 5] rfl)
              · rw [if_neg c_20] at hq_5
                refine lv_iconst (v := 1) hx hb dX7_carryOut_97 (by decide) ?_
                refine lv_goto (tgt := 102) hx hb dX7_carryOut_98 (by decide) ?_
                refine lv_istore_n (lv' := [(3, .int 1), (5, .int (((10 : Int32) * r_16) + r_17)), (4, .int r_8), (2, .int x2), (1, .int x1), (0, .ref mo)]) hx hb dX7_carryOut_102 rfl hl (by decide) rfl (fun ls hl => ?_)
                refine lv_iload_n hx hb dX7_carryOut_103 rfl (lv_at hl 4 rfl) ?_
                refine lv_iload_n hx hb dX7_carryOut_104 rfl (lv_at hl 0 rfl) ?_
                refine lv_if_eq (tgt := 112) hx hb dX7_carryOut_105 (by decide) (fun c_22 => ?_) (fun c_22 => ?_)
                · exact absurd c_22 (by decide)
                refine lv_iconst (v := 1) hx hb dX7_carryOut_108 (by decide) ?_
                refine lv_goto (tgt := 113) hx hb dX7_carryOut_109 (by decide) ?_
                refine lv_iadd hx hb dX7_carryOut_113 ?_
                refine lv_istore_n (lv' := [(1, .int (x1 + 1)), (3, .int 1), (5, .int (((10 : Int32) * r_16) + r_17)), (4, .int r_8), (2, .int x2), (0, .ref mo)]) hx hb dX7_carryOut_114 rfl hl (by decide) rfl (fun ls hl => ?_)
                refine lv_iload hx hb dX7_carryOut_115 (lv_at hl 3 rfl) ?_
                refine lv_iconst (v := 1) hx hb dX7_carryOut_117 (by decide) ?_
                refine lv_iadd hx hb dX7_carryOut_118 ?_
                refine lv_istore_n (lv' := [(2, .int (r_8 + 1)), (1, .int (x1 + 1)), (3, .int 1), (5, .int (((10 : Int32) * r_16) + r_17)), (4, .int r_8), (0, .ref mo)]) hx hb dX7_carryOut_119 rfl hl (by decide) rfl (fun ls hl => ?_)
                refine lv_goto (tgt := 26) hx hb dX7_carryOut_120 (by decide) ?_
                exact ih26 (1 : Int32) (r_8 + 1) (x1 + 1) w03 r_19.2.1 w3f r_19.2.2 _ _ _ hok26 (pl_step hln hpl c_7 hr_8) (pl_sm9 (pl_step hln hpl c_7 hr_8)) (by rw [hr_19]; exact does_MI hmi) hq_5 hP hD hS (lv_sub hl [2, 0, 1, 5] rfl)
    exact hloop26 90 (1 : Int32) (0 : Int32) (0 : Int32) r_4.2 vs r_4.1 vlb _ _ _ hok26 (pl_0 (by rw [← hr_1]; exact c_2)) sm9_0 hMI hq_5 hP hD hS (lv_sub hl [0, 1, 2, 3] rfl)
  · rw [if_neg c_2] at hres
    refine lv_bipush (v := (-3)) hx hb dX7_carryOut_9 (by decide) ?_
    subst hres
    exact W.iret (v := (-3)) hx hb hr (fun t ht hW => ⟨⟨(-3), (), rfl, rfl, (by show va_P _ _ _ t.heap; rw [ht]; exact hP)⟩, hS.F ht⟩) hS.2.2 dX7_carryOut_11
