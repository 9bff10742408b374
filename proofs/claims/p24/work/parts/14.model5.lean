theorem iX7_put_X7 : ∀ w ∈ u_ws RX7 TX7 9, w ∈ wsX7_put := by decide +kernel
theorem kX7_put_153 : Cond.fieldLink RX7 153 "TailorChalksModel" "length" "I" ∈ wsX7_put := by decide +kernel
theorem kX7_put_26 : Cond.fieldLink RX7 26 "TailorChalksModel" "pad" "[I" ∈ wsX7_put := by decide +kernel
def F_Model_put_L126 (characters : Int64) (vln : Int32) (vpd : Nat → Int32) : Nat → Int32 → Int32 → Int32 → (Nat → Int32) → Int32 × Int32 × Int32 × (Nat → Int32)
  | 0, x5, x4, x3, w1f => (x5, x4, x3, w1f)
  | n + 1, x5, x4, x3, w1f => (if x3 ≤ x5 then (x5, x4, x3, w1f) else (F_Model_put_L126 characters vln vpd n (x5 + 1) x4 x3 (upd w1f (((vln + x3) - 1) - x5).toNatClampNeg (((characters.toUInt64 >>> (((8 : Int32) * x5).toInt64.toUInt64 &&& Int64.toUInt64 63)).toInt64 &&& 255).toInt32))))
def F_Model_put_L8 (characters : Int64) (vln : Int32) (vpd : Nat → Int32) : Nat → Int32 → Int32 → Int32 → Int32 × Int32 × Int32
  | 0, x5, x4, x3 => (x5, x4, x3)
  | n + 1, x5, x4, x3 => (if (8 : Int32) ≤ x5 then (x5, x4, x3) else (if x5 ≤ 0 then (if x4 = 0 then (bnd (F_Model_in (((characters.toUInt64 >>> (((8 : Int32) * x5).toInt64.toUInt64 &&& Int64.toUInt64 63)).toInt64 &&& 255).toInt32) (33 : Int32) (126 : Int32)) (fun r_11 => (if r_11 = 0 then (F_Model_put_L8 characters vln vpd n (x5 + 1) (1 : Int32) (x3 + 1)) else (F_Model_put_L8 characters vln vpd n (x5 + 1) (0 : Int32) (x3 + 1))))) else (F_Model_put_L8 characters vln vpd n (x5 + 1) (1 : Int32) (x3 + 1))) else (if (lg_cmp ((characters.toUInt64 >>> (((8 : Int32) * x5).toInt64.toUInt64 &&& Int64.toUInt64 63)).toInt64) 0) = 0 then (if x4 = 0 then (F_Model_put_L8 characters vln vpd n (x5 + 1) (0 : Int32) (x3 + 0)) else (F_Model_put_L8 characters vln vpd n (x5 + 1) (1 : Int32) (x3 + 0))) else (if x4 = 0 then (bnd (F_Model_in (((characters.toUInt64 >>> (((8 : Int32) * x5).toInt64.toUInt64 &&& Int64.toUInt64 63)).toInt64 &&& 255).toInt32) (33 : Int32) (126 : Int32)) (fun r_19 => (if r_19 = 0 then (F_Model_put_L8 characters vln vpd n (x5 + 1) (1 : Int32) (x3 + 1)) else (F_Model_put_L8 characters vln vpd n (x5 + 1) (0 : Int32) (x3 + 1))))) else (F_Model_put_L8 characters vln vpd n (x5 + 1) (1 : Int32) (x3 + 1))))))
def F_Model_put (characters : Int64) (vln : Int32) (vpd : Nat → Int32) : Int32 × Int32 × (Nat → Int32) := (bnd (F_Model_put_L8 characters vln vpd 9 (0 : Int32) (0 : Int32) (0 : Int32)) (fun q_1 => (if q_1.2.1 = 0 then (if (vln + q_1.2.2) ≤ 80 then (bnd (F_Model_put_L126 characters vln vpd 9 (0 : Int32) q_1.2.1 q_1.2.2 vpd) (fun q_4 => ((vln + q_4.2.2.1), (vln + q_4.2.2.1), q_4.2.2.2))) else ((-4), vln, vpd)) else ((-2), vln, vpd))))
set_option maxHeartbeats 4000000 in
set_option maxRecDepth 100000 in
theorem c_Model_put (l : Launch) (dC : Nat → ClassId) (dI : Nat → Nat → Nat) (cI cC cG cZ : ClassId) (mo ms mah mhi msl msv mpd mlb : Nat) (characters : Int64) (vkp : Int32) (vln : Int32) (vpd : Nat → Int32) (hln : tm_ok 80 vln) (res : Int32 × Int32 × (Nat → Int32)) (hres : res = F_Model_put characters vln vpd) : Met l yX7_put wsX7_put ({ frames := 1, cells := 0, slots := 0, locals := 22 }) (va_Pc [.ref mo, .long characters] (wr_P (dC, dI) vwCl (tyL cI cC cG cZ) [(mo, .inr (7, [.ref ms, .ref mah, .ref mhi, .int vkp, .ref msl, .ref msv, .ref mpd, .int vln, .ref mlb])), (mpd, .inl (cI, 80, .inl vpd))])) (va_Qi (fun r (_ : Unit) => r = res.1) (fun _ zt => va_P (dC, dI) vwCl [(mo, .inr (7, [.ref ms, .ref mah, .ref mhi, .int vkp, .ref msl, .ref msv, .ref mpd, .int res.2.1, .ref mlb])), (mpd, .inl (cI, 80, .inl res.2.2))] zt.heap) (wr_A [(mo, .inr (7, [.ref ms, .ref mah, .ref mhi, .int vkp, .ref msl, .ref msv, .ref mpd, .int vln, .ref mlb])), (mpd, .inl (cI, 80, .inl vpd))])) 0 0 (wr_A [(mo, .inr (7, [.ref ms, .ref mah, .ref mhi, .int vkp, .ref msl, .ref msv, .ref mpd, .int vln, .ref mlb])), (mpd, .inl (cI, 80, .inl vpd))]) := by
  refine Met.ofW (cc := cX7_put) (maxL := 8) (ret := (some .int)) (by decide) rfl ?_
  intro p e s m args below meth c s₁ B hml hv
  obtain ⟨rfl, hP, hK, hD0⟩ := hv
  have hx := B.exec
  have hb := B.bytes
  have hr := B.returns
  have hts := atoms_spec (ws := wsX7_put) B.pre
  have hown : s.vm.findClass RX7 = some m.cls := findClass_of_methodNamed B.named
  have hlocks := B.notSynchronized
  have hD := wr_self hD0
  generalize hAe : wr_A [(mo, .inr (7, [.ref ms, .ref mah, .ref mhi, .int vkp, .ref msl, .ref msv, .ref mpd, .int vln, .ref mlb])), (mpd, .inl (cI, 80, .inl vpd))] = A at hD ⊢
  have hS : va_S A s.heap s.heap [] := va_S.rf
  have hP : va_P (dC, dI) vwCl [(mo, .inr (7, [.ref ms, .ref mah, .ref mhi, .int vkp, .ref msl, .ref msv, .ref mpd, .int vln, .ref mlb])), (mpd, .inl (cI, 80, .inl vpd))] s.heap := hP
  have hl := lv_entry ([.ref mo, .long characters]) (n := 8) (Nat.le_of_ble_eq_true rfl)
  rw [lg_entry_eq]
  generalize (lg_sl ([.ref mo, .long characters]) ++ List.replicate (8 - (lg_sl ([.ref mo, .long characters])).length) Slot.unset).toArray = ls at hl ⊢
  have hl : lv_has ls 8 [(0, .ref mo), (1, .long characters)] := hl
  rw [F_Model_put] at hres
  refine lv_iconst (v := 0) hx hb dX7_put_0 (by decide) ?_
  refine lv_istore_n (lv' := [(3, .int 0), (0, .ref mo), (1, .long characters)]) hx hb dX7_put_1 rfl hl (by decide) rfl (fun ls hl => ?_)
  refine lv_iconst (v := 0) hx hb dX7_put_2 (by decide) ?_
  refine lv_istore (lv' := [(4, .int 0), (3, .int 0), (0, .ref mo), (1, .long characters)]) hx hb dX7_put_3 hl (by decide) rfl (fun ls hl => ?_)
  refine lv_iconst (v := 0) hx hb dX7_put_5 (by decide) ?_
  refine lv_istore (lv' := [(5, .int 0), (4, .int 0), (3, .int 0), (0, .ref mo), (1, .long characters)]) hx hb dX7_put_6 hl (by decide) rfl (fun ls hl => ?_)
  obtain ⟨q_1, hq_1⟩ : ∃ z, z = F_Model_put_L8 characters vln vpd 9 (0 : Int32) (0 : Int32) (0 : Int32) := ⟨_, rfl⟩
  rw [bnd_e hq_1] at hres
  have hexit8 : ∀ (H : Heap) (locs : List Loc) (ls : Array Slot), kq q_1.2.2 8 → va_P (dC, dI) vwCl [(mo, .inr (7, [.ref ms, .ref mah, .ref mhi, .int vkp, .ref msl, .ref msv, .ref mpd, .int vln, .ref mlb])), (mpd, .inl (cI, 80, .inl vpd))] H → va_D A [(mo, .inr (7, [.ref ms, .ref mah, .ref mhi, .int vkp, .ref msl, .ref msv, .ref mpd, .int vln, .ref mlb])), (mpd, .inl (cI, 80, .inl vpd))] → va_S A s.heap H locs → lv_has ls 8 [(5, .int q_1.1), (4, .int q_1.2.1), (3, .int q_1.2.2), (0, .ref mo), (1, .long characters)] → W p l e (headSpec wsX7_put ({ frames := 1, cells := 0, slots := 0, locals := 22 })).room s m ([.ref mo, .long characters] : List Value).toArray below meth c H locs 0 0 (MQ below (va_Qi (fun r (_ : Unit) => r = res.1) (fun _ zt => va_P (dC, dI) vwCl [(mo, .inr (7, [.ref ms, .ref mah, .ref mhi, .int vkp, .ref msl, .ref msv, .ref mpd, .int res.2.1, .ref mlb])), (mpd, .inl (cI, 80, .inl res.2.2))] zt.heap) A) ([.ref mo, .long characters] : List Value).toArray s 0 0 A) (F0 m 101 ls []) := by
    intro H locs ls hmn8 hP hD hS hl
    refine lv_iload hx hb dX7_put_101 (lv_at hl 1 rfl) ?_
    refine lv_if_eq (tgt := 109) hx hb dX7_put_103 (by decide) (fun c_2 => ?_) (fun c_2 => ?_)
    · rw [if_pos c_2] at hres
      refine lv_aload_n hx hb dX7_put_109 rfl (lv_at hl 3 rfl) ?_
      refine va_get (D := (dC, dI)) (ci := 7) (v := .int vln) (C := RX7) (T := TX7) (N := 9) hx hb hts iX7_put_X7 hown hK hP 0 rfl rfl 7 (by decide) (hts (.fieldLink RX7 153 "TailorChalksModel" "length" "I") kX7_put_153) (fun _ h9 => h9) rfl dX7_put_110 ?_
      refine lv_iload_n hx hb dX7_put_113 rfl (lv_at hl 2 rfl) ?_
      refine lv_iadd hx hb dX7_put_114 ?_
      refine lv_bipush (v := 80) hx hb dX7_put_115 (by decide) ?_
      refine lv_icmp_le (tgt := 123) hx hb dX7_put_117 (by decide) (fun c_3 => ?_) (fun c_3 => ?_)
      · rw [if_pos c_3] at hres
        refine lv_iconst (v := 0) hx hb dX7_put_123 (by decide) ?_
        refine lv_istore (lv' := [(5, .int 0), (4, .int q_1.2.1), (3, .int q_1.2.2), (0, .ref mo), (1, .long characters)]) hx hb dX7_put_124 hl (by decide) rfl (fun ls hl => ?_)
        obtain ⟨mm, hmm8, emm⟩ := hmn8
        obtain ⟨L0, hL80, eL0⟩ := hln
        have hsum : L0 + mm ≤ 80 := pad_room2 emm hmm8 eL0 hL80 c_3
        obtain ⟨q_4, hq_4⟩ : ∃ z, z = F_Model_put_L126 characters vln vpd 9 (0 : Int32) q_1.2.1 q_1.2.2 vpd := ⟨_, rfl⟩
        rw [bnd_e hq_4] at hres
        have hexit126 : ∀ (H : Heap) (locs : List Loc) (ls : Array Slot), va_P (dC, dI) vwCl [(mo, .inr (7, [.ref ms, .ref mah, .ref mhi, .int vkp, .ref msl, .ref msv, .ref mpd, .int vln, .ref mlb])), (mpd, .inl (cI, 80, .inl q_4.2.2.2))] H → va_D A [(mo, .inr (7, [.ref ms, .ref mah, .ref mhi, .int vkp, .ref msl, .ref msv, .ref mpd, .int vln, .ref mlb])), (mpd, .inl (cI, 80, .inl q_4.2.2.2))] → va_S A s.heap H locs → lv_has ls 8 [(5, .int q_4.1), (4, .int q_4.2.1), (3, .int q_4.2.2.1), (0, .ref mo), (1, .long characters)] → W p l e (headSpec wsX7_put ({ frames := 1, cells := 0, slots := 0, locals := 22 })).room s m ([.ref mo, .long characters] : List Value).toArray below meth c H locs 0 0 (MQ below (va_Qi (fun r (_ : Unit) => r = res.1) (fun _ zt => va_P (dC, dI) vwCl [(mo, .inr (7, [.ref ms, .ref mah, .ref mhi, .int vkp, .ref msl, .ref msv, .ref mpd, .int res.2.1, .ref mlb])), (mpd, .inl (cI, 80, .inl res.2.2))] zt.heap) A) ([.ref mo, .long characters] : List Value).toArray s 0 0 A) (F0 m 166 ls []) := by
          intro H locs ls  hP hD hS hl
          refine lv_aload_n hx hb dX7_put_166 rfl (lv_at hl 3 rfl) ?_
          refine lv_dup hx hb dX7_put_167 rfl ?_
          refine va_get (D := (dC, dI)) (ci := 7) (v := .int vln) (C := RX7) (T := TX7) (N := 9) hx hb hts iX7_put_X7 hown hK hP 0 rfl rfl 7 (by decide) (hts (.fieldLink RX7 153 "TailorChalksModel" "length" "I") kX7_put_153) (fun _ h9 => h9) rfl dX7_put_168 ?_
          refine lv_iload_n hx hb dX7_put_171 rfl (lv_at hl 2 rfl) ?_
          refine lv_iadd hx hb dX7_put_172 ?_
          refine va_put (D := (dC, dI)) (ci := 7) (v := .int (vln + q_4.2.2.1)) (ty := (.int)) (C := RX7) (T := TX7) (N := 9) hx hb hts iX7_put_X7 tyX7 tyX7_ok nmX7 hown hK hP hD hS 0 rfl rfl 7 (by decide) (hts (.fieldLink RX7 153 "TailorChalksModel" "length" "I") kX7_put_153) (fun _ h9 => h9) rfl (by decide +kernel) rfl rfl (Nat.le_of_ble_eq_true rfl) dX7_put_173 (fun H locs hP hD hS => ?_)
          have hP : va_P (dC, dI) vwCl [(mo, .inr (7, [.ref ms, .ref mah, .ref mhi, .int vkp, .ref msl, .ref msv, .ref mpd, .int (vln + q_4.2.2.1), .ref mlb])), (mpd, .inl (cI, 80, .inl q_4.2.2.2))] H := hP
          have hD : va_D A [(mo, .inr (7, [.ref ms, .ref mah, .ref mhi, .int vkp, .ref msl, .ref msv, .ref mpd, .int (vln + q_4.2.2.1), .ref mlb])), (mpd, .inl (cI, 80, .inl q_4.2.2.2))] := hD
          refine lv_aload_n hx hb dX7_put_176 rfl (lv_at hl 3 rfl) ?_
          refine va_get (D := (dC, dI)) (ci := 7) (v := .int (vln + q_4.2.2.1)) (C := RX7) (T := TX7) (N := 9) hx hb hts iX7_put_X7 hown hK hP 0 rfl rfl 7 (by decide) (hts (.fieldLink RX7 153 "TailorChalksModel" "length" "I") kX7_put_153) (fun _ h9 => h9) rfl dX7_put_177 ?_
          subst hres
          exact W.iret (v := (vln + q_4.2.2.1)) hx hb hr (fun t ht hW => ⟨⟨(vln + q_4.2.2.1), (), rfl, rfl, (by show va_P _ _ _ t.heap; rw [ht]; exact hP)⟩, hS.F ht⟩) hS.2.2 dX7_put_180
        have hloop126 : ∀ (n k126 : Nat) (x5 : Int32) (x4 : Int32) (x3 : Int32) (w1f : Nat → Int32) (H : Heap) (locs : List Loc) (ls : Array Slot), k126 ≤ mm → mm - k126 < n → x5 = nI k126 → x3 = nI mm → q_4 = F_Model_put_L126 characters vln vpd n x5 x4 x3 w1f → va_P (dC, dI) vwCl [(mo, .inr (7, [.ref ms, .ref mah, .ref mhi, .int vkp, .ref msl, .ref msv, .ref mpd, .int vln, .ref mlb])), (mpd, .inl (cI, 80, .inl w1f))] H → va_D A [(mo, .inr (7, [.ref ms, .ref mah, .ref mhi, .int vkp, .ref msl, .ref msv, .ref mpd, .int vln, .ref mlb])), (mpd, .inl (cI, 80, .inl w1f))] → va_S A s.heap H locs → lv_has ls 8 [(5, .int x5), (4, .int x4), (3, .int x3), (0, .ref mo), (1, .long characters)] → W p l e (headSpec wsX7_put ({ frames := 1, cells := 0, slots := 0, locals := 22 })).room s m ([.ref mo, .long characters] : List Value).toArray below meth c H locs 0 0 (MQ below (va_Qi (fun r (_ : Unit) => r = res.1) (fun _ zt => va_P (dC, dI) vwCl [(mo, .inr (7, [.ref ms, .ref mah, .ref mhi, .int vkp, .ref msl, .ref msv, .ref mpd, .int res.2.1, .ref mlb])), (mpd, .inl (cI, 80, .inl res.2.2))] zt.heap) A) ([.ref mo, .long characters] : List Value).toArray s 0 0 A) (F0 m 126 ls []) := by
          intro n
          induction n with
          | zero => intro k126 x5 x4 x3 w1f _ _ _ _ hm; exact absurd hm (Nat.not_lt_zero _)
          | succ n ih126 =>
            intro k126 x5 x4 x3 w1f H locs ls hk126 hm126 ex126 hmm hq_4 hP hD hS hl
            rw [F_Model_put_L126] at hq_4
            refine lv_iload hx hb dX7_put_126 (lv_at hl 0 rfl) ?_
            refine lv_iload_n hx hb dX7_put_128 rfl (lv_at hl 2 rfl) ?_
            refine lv_icmp_ge (tgt := 166) hx hb dX7_put_129 (by decide) (fun c_5 => ?_) (fun c_5 => ?_)
            · rw [if_pos c_5] at hq_4
              subst hq_4
              exact hexit126 _ _ _  hP hD hS (lv_sub hl [0, 1, 2, 3, 4] rfl)
            · rw [if_neg c_5] at hq_4
              have hlt_k126 : k126 < mm := lp_lt hmm ex126 hk126 c_5
              refine lv_aload_n hx hb dX7_put_132 rfl (lv_at hl 3 rfl) ?_
              refine va_get (D := (dC, dI)) (ci := 7) (v := .ref mpd) (C := RX7) (T := TX7) (N := 9) hx hb hts iX7_put_X7 hown hK hP 0 rfl rfl 6 (by decide) (hts (.fieldLink RX7 26 "TailorChalksModel" "pad" "[I") kX7_put_26) (fun _ h9 => h9) rfl dX7_put_133 ?_
              refine lv_aload_n hx hb dX7_put_136 rfl (lv_at hl 3 rfl) ?_
              refine va_get (D := (dC, dI)) (ci := 7) (v := .int vln) (C := RX7) (T := TX7) (N := 9) hx hb hts iX7_put_X7 hown hK hP 0 rfl rfl 7 (by decide) (hts (.fieldLink RX7 153 "TailorChalksModel" "length" "I") kX7_put_153) (fun _ h9 => h9) rfl dX7_put_137 ?_
              refine lv_iload_n hx hb dX7_put_140 rfl (lv_at hl 2 rfl) ?_
              refine lv_iadd hx hb dX7_put_141 ?_
              refine lv_iconst (v := 1) hx hb dX7_put_142 (by decide) ?_
              refine lv_isub hx hb dX7_put_143 ?_
              refine lv_iload hx hb dX7_put_144 (lv_at hl 0 rfl) ?_
              refine lv_isub hx hb dX7_put_146 ?_
              refine lv_lload_n hx hb dX7_put_147 rfl (lv_at hl 4 rfl) ?_
              refine lv_bipush (v := 8) hx hb dX7_put_148 (by decide) ?_
              refine lv_iload hx hb dX7_put_150 (lv_at hl 0 rfl) ?_
              refine lv_imul hx hb dX7_put_152 ?_
              refine lv_lushr (v := (characters.toUInt64 >>> (((8 : Int32) * x5).toInt64.toUInt64 &&& Int64.toUInt64 63)).toInt64) hx hb dX7_put_153 rfl ?_
              refine lv_ldc2 (v := 255) hx hb hown (hts (.constantLong RX7 159 (255)) (by decide +kernel)) dX7_put_154 ?_
              refine lv_land hx hb dX7_put_157 ?_
              refine lv_l2i (v := ((characters.toUInt64 >>> (((8 : Int32) * x5).toInt64.toUInt64 &&& Int64.toUInt64 63)).toInt64 &&& 255).toInt32) hx hb dX7_put_158 rfl ?_
              refine va_iast hx hb hK hP hD hS 1 0 rfl rfl (put_in eL0 hmm ex126 hlt_k126 hsum) dX7_put_159 (fun H locs hP hD hS => ?_)
              have hP : va_P (dC, dI) vwCl [(mo, .inr (7, [.ref ms, .ref mah, .ref mhi, .int vkp, .ref msl, .ref msv, .ref mpd, .int vln, .ref mlb])), (mpd, .inl (cI, 80, .inl (upd w1f (((vln + x3) - 1) - x5).toNatClampNeg (((characters.toUInt64 >>> (((8 : Int32) * x5).toInt64.toUInt64 &&& Int64.toUInt64 63)).toInt64 &&& 255).toInt32))))] H := hP
              have hD : va_D A [(mo, .inr (7, [.ref ms, .ref mah, .ref mhi, .int vkp, .ref msl, .ref msv, .ref mpd, .int vln, .ref mlb])), (mpd, .inl (cI, 80, .inl (upd w1f (((vln + x3) - 1) - x5).toNatClampNeg (((characters.toUInt64 >>> (((8 : Int32) * x5).toInt64.toUInt64 &&& Int64.toUInt64 63)).toInt64 &&& 255).toInt32))))] := hD
              refine lv_iinc (v := (x5 + 1)) (lv' := [(5, .int (x5 + 1)), (4, .int x4), (3, .int x3), (0, .ref mo), (1, .long characters)]) hx hb dX7_put_160 hl (k := 0) rfl rfl (by decide) rfl (fun ls hl => ?_)
              refine lv_goto (tgt := 126) hx hb dX7_put_163 (by decide) ?_
              exact ih126 (k126 + 1) (x5 + 1) x4 x3 (upd w1f (((vln + x3) - 1) - x5).toNatClampNeg (((characters.toUInt64 >>> (((8 : Int32) * x5).toInt64.toUInt64 &&& Int64.toUInt64 63)).toInt64 &&& 255).toInt32)) _ _ _ (by omega) (by omega) (by rw [ex126]; exact nI_1 _) hmm hq_4 hP hD hS (lv_sub hl [0, 1, 2, 3, 4] rfl)
        exact hloop126 9 0 (0 : Int32) q_1.2.1 q_1.2.2 vpd _ _ _ (by omega) (by omega) nI_0.symm emm hq_4 hP hD hS (lv_sub hl [0, 1, 2, 3, 4] rfl)
      · rw [if_neg c_3] at hres
        refine lv_bipush (v := (-4)) hx hb dX7_put_120 (by decide) ?_
        subst hres
        exact W.iret (v := (-4)) hx hb hr (fun t ht hW => ⟨⟨(-4), (), rfl, rfl, (by show va_P _ _ _ t.heap; rw [ht]; exact hP)⟩, hS.F ht⟩) hS.2.2 dX7_put_122
    · rw [if_neg c_2] at hres
      refine lv_bipush (v := (-2)) hx hb dX7_put_106 (by decide) ?_
      subst hres
      exact W.iret (v := (-2)) hx hb hr (fun t ht hW => ⟨⟨(-2), (), rfl, rfl, (by show va_P _ _ _ t.heap; rw [ht]; exact hP)⟩, hS.F ht⟩) hS.2.2 dX7_put_108
  have hloop8 : ∀ (n k8 : Nat) (x5 : Int32) (x4 : Int32) (x3 : Int32) (H : Heap) (locs : List Loc) (ls : Array Slot), k8 ≤ 8 → 8 - k8 < n → x5 = nI k8 → kq x3 k8 → q_1 = F_Model_put_L8 characters vln vpd n x5 x4 x3 → va_P (dC, dI) vwCl [(mo, .inr (7, [.ref ms, .ref mah, .ref mhi, .int vkp, .ref msl, .ref msv, .ref mpd, .int vln, .ref mlb])), (mpd, .inl (cI, 80, .inl vpd))] H → va_D A [(mo, .inr (7, [.ref ms, .ref mah, .ref mhi, .int vkp, .ref msl, .ref msv, .ref mpd, .int vln, .ref mlb])), (mpd, .inl (cI, 80, .inl vpd))] → va_S A s.heap H locs → lv_has ls 8 [(5, .int x5), (4, .int x4), (3, .int x3), (0, .ref mo), (1, .long characters)] → W p l e (headSpec wsX7_put ({ frames := 1, cells := 0, slots := 0, locals := 22 })).room s m ([.ref mo, .long characters] : List Value).toArray below meth c H locs 0 0 (MQ below (va_Qi (fun r (_ : Unit) => r = res.1) (fun _ zt => va_P (dC, dI) vwCl [(mo, .inr (7, [.ref ms, .ref mah, .ref mhi, .int vkp, .ref msl, .ref msv, .ref mpd, .int res.2.1, .ref mlb])), (mpd, .inl (cI, 80, .inl res.2.2))] zt.heap) A) ([.ref mo, .long characters] : List Value).toArray s 0 0 A) (F0 m 8 ls []) := by
    intro n
    induction n with
    | zero => intro k8 x5 x4 x3 _ _ _ _ hm; exact absurd hm (Nat.not_lt_zero _)
    | succ n ih8 =>
      intro k8 x5 x4 x3 H locs ls hk8 hm8 ex8 hmn hq_1 hP hD hS hl
      rw [F_Model_put_L8] at hq_1
      refine lv_iload hx hb dX7_put_8 (lv_at hl 0 rfl) ?_
      refine lv_bipush (v := 8) hx hb dX7_put_10 (by decide) ?_
      refine lv_icmp_ge (tgt := 101) hx hb dX7_put_12 (by decide) (fun c_6 => ?_) (fun c_6 => ?_)
      · rw [if_pos c_6] at hq_1
        subst hq_1
        exact hexit8 _ _ _ (kq_le hmn hk8) hP hD hS (lv_sub hl [0, 1, 2, 3, 4] rfl)
      · rw [if_neg c_6] at hq_1
        have hlt_k8 : k8 < 8 := lp_lt rfl ex8 hk8 c_6
        refine lv_lload_n hx hb dX7_put_15 rfl (lv_at hl 4 rfl) ?_
        refine lv_bipush (v := 8) hx hb dX7_put_16 (by decide) ?_
        refine lv_iload hx hb dX7_put_18 (lv_at hl 0 rfl) ?_
        refine lv_imul hx hb dX7_put_20 ?_
        refine lv_lushr (v := (characters.toUInt64 >>> (((8 : Int32) * x5).toInt64.toUInt64 &&& Int64.toUInt64 63)).toInt64) hx hb dX7_put_21 rfl ?_
        refine lv_ldc2 (v := 255) hx hb hown (hts (.constantLong RX7 159 (255)) (by decide +kernel)) dX7_put_22 ?_
        refine lv_land hx hb dX7_put_25 ?_
        refine lv_l2i (v := ((characters.toUInt64 >>> (((8 : Int32) * x5).toInt64.toUInt64 &&& Int64.toUInt64 63)).toInt64 &&& 255).toInt32) hx hb dX7_put_26 rfl ?_
        refine lv_istore (lv' := [(6, .int (((characters.toUInt64 >>> (((8 : Int32) * x5).toInt64.toUInt64 &&& Int64.toUInt64 63)).toInt64 &&& 255).toInt32)), (5, .int x5), (4, .int x4), (3, .int x3), (0, .ref mo), (1, .long characters)]) hx hb dX7_put_27 hl (by decide) rfl (fun ls hl => ?_)
        refine lv_iload hx hb dX7_put_29 (lv_at hl 1 rfl) ?_
        refine lv_if_le (tgt := 50) hx hb dX7_put_31 (by decide) (fun c_7 => ?_) (fun c_7 => ?_)
        · rw [if_pos c_7] at hq_1
          refine lv_iconst (v := 0) hx hb dX7_put_50 (by decide) ?_
          refine lv_istore (lv' := [(7, .int 0), (6, .int (((characters.toUInt64 >>> (((8 : Int32) * x5).toInt64.toUInt64 &&& Int64.toUInt64 63)).toInt64 &&& 255).toInt32)), (5, .int x5), (4, .int x4), (3, .int x3), (0, .ref mo), (1, .long characters)]) hx hb dX7_put_51 hl (by decide) rfl (fun ls hl => ?_)
          refine lv_iload hx hb dX7_put_53 (lv_at hl 3 rfl) ?_
          refine lv_if_ne (tgt := 75) hx hb dX7_put_55 (by decide) (fun c_8 => ?_) (fun c_8 => ?_)
          · rw [if_neg c_8] at hq_1
            refine lv_iconst (v := 1) hx hb dX7_put_75 (by decide) ?_
            refine lv_goto (tgt := 80) hx hb dX7_put_76 (by decide) ?_
            refine lv_istore (lv' := [(4, .int 1), (7, .int 0), (6, .int (((characters.toUInt64 >>> (((8 : Int32) * x5).toInt64.toUInt64 &&& Int64.toUInt64 63)).toInt64 &&& 255).toInt32)), (5, .int x5), (3, .int x3), (0, .ref mo), (1, .long characters)]) hx hb dX7_put_80 hl (by decide) rfl (fun ls hl => ?_)
            refine lv_iload_n hx hb dX7_put_82 rfl (lv_at hl 4 rfl) ?_
            refine lv_iload hx hb dX7_put_83 (lv_at hl 1 rfl) ?_
            refine lv_if_eq (tgt := 92) hx hb dX7_put_85 (by decide) (fun c_9 => ?_) (fun c_9 => ?_)
            rotate_left
            · exact absurd (by decide) c_9
            refine lv_iconst (v := 1) hx hb dX7_put_92 (by decide) ?_
            refine lv_iadd hx hb dX7_put_93 ?_
            refine lv_istore_n (lv' := [(3, .int (x3 + 1)), (4, .int 1), (7, .int 0), (6, .int (((characters.toUInt64 >>> (((8 : Int32) * x5).toInt64.toUInt64 &&& Int64.toUInt64 63)).toInt64 &&& 255).toInt32)), (5, .int x5), (0, .ref mo), (1, .long characters)]) hx hb dX7_put_94 rfl hl (by decide) rfl (fun ls hl => ?_)
            refine lv_iinc (v := (x5 + 1)) (lv' := [(5, .int (x5 + 1)), (3, .int (x3 + 1)), (4, .int 1), (7, .int 0), (6, .int (((characters.toUInt64 >>> (((8 : Int32) * x5).toInt64.toUInt64 &&& Int64.toUInt64 63)).toInt64 &&& 255).toInt32)), (0, .ref mo), (1, .long characters)]) hx hb dX7_put_95 hl (k := 4) rfl rfl (by decide) rfl (fun ls hl => ?_)
            refine lv_goto (tgt := 8) hx hb dX7_put_98 (by decide) ?_
            exact ih8 (k8 + 1) (x5 + 1) (1 : Int32) (x3 + 1) _ _ _ (by omega) (by omega) (by rw [ex8]; exact nI_1 _) (by first | exact kq_up hmn | (rw [Int32.add_zero]; exact kq_keep hmn)) hq_1 hP hD hS (lv_sub hl [0, 2, 1, 5, 6] rfl)
          · rw [if_pos c_8] at hq_1
            refine lv_iload hx hb dX7_put_58 (lv_at hl 0 rfl) ?_
            refine lv_if_ne (tgt := 79) hx hb dX7_put_60 (by decide) (fun c_10 => ?_) (fun c_10 => ?_)
            · exact absurd (by decide) c_10
            refine lv_iload hx hb dX7_put_63 (lv_at hl 1 rfl) ?_
            refine lv_bipush (v := 33) hx hb dX7_put_65 (by decide) ?_
            refine lv_bipush (v := 126) hx hb dX7_put_67 (by decide) ?_
            obtain ⟨r_11, hr_11⟩ : ∃ z, z = F_Model_in (((characters.toUInt64 >>> (((8 : Int32) * x5).toInt64.toUInt64 &&& Int64.toUInt64 63)).toInt64 &&& 255).toInt32) (33 : Int32) (126 : Int32) := ⟨_, rfl⟩
            rw [bnd_e hr_11] at hq_1
            refine ro_calli (va_runS (As := [.int (((characters.toUInt64 >>> (((8 : Int32) * x5).toInt64.toUInt64 &&& Int64.toUInt64 63)).toInt64 &&& 255).toInt32), .int 33, .int 126]) (rest := []) ⟨hx, hb, hml, hown, hts⟩ (c_Model_in l dC dI cI cC cG cZ  (((characters.toUInt64 >>> (((8 : Int32) * x5).toInt64.toUInt64 &&& Int64.toUInt64 63)).toInt64 &&& 255).toInt32) (33 : Int32) (126 : Int32)  r_11 hr_11) (va_cwS 3 hts gX7_put_X7_in rfl rfl rfl (by decide +kernel) ⟨Nat.le_of_ble_eq_true rfl, Nat.le_of_ble_eq_true rfl⟩) (ro_preS (hP.sub (ws' := []) [] rfl) hK) rfl rfl hl.1 rfl (lv_room (Nat.le_of_ble_eq_true rfl)) dX7_put_69 ⟨Nat.zero_le _, Nat.zero_le _⟩) hP hS (fun H locs hP hS => ?_)
            refine lv_if_ne (tgt := 79) hx hb dX7_put_72 (by decide) (fun c_12 => ?_) (fun c_12 => ?_)
            · rw [if_neg c_12] at hq_1
              refine lv_iconst (v := 0) hx hb dX7_put_79 (by decide) ?_
              refine lv_istore (lv' := [(4, .int 0), (7, .int 0), (6, .int (((characters.toUInt64 >>> (((8 : Int32) * x5).toInt64.toUInt64 &&& Int64.toUInt64 63)).toInt64 &&& 255).toInt32)), (5, .int x5), (3, .int x3), (0, .ref mo), (1, .long characters)]) hx hb dX7_put_80 hl (by decide) rfl (fun ls hl => ?_)
              refine lv_iload_n hx hb dX7_put_82 rfl (lv_at hl 4 rfl) ?_
              refine lv_iload hx hb dX7_put_83 (lv_at hl 1 rfl) ?_
              refine lv_if_eq (tgt := 92) hx hb dX7_put_85 (by decide) (fun c_13 => ?_) (fun c_13 => ?_)
              rotate_left
              · exact absurd (by decide) c_13
              refine lv_iconst (v := 1) hx hb dX7_put_92 (by decide) ?_
              refine lv_iadd hx hb dX7_put_93 ?_
              refine lv_istore_n (lv' := [(3, .int (x3 + 1)), (4, .int 0), (7, .int 0), (6, .int (((characters.toUInt64 >>> (((8 : Int32) * x5).toInt64.toUInt64 &&& Int64.toUInt64 63)).toInt64 &&& 255).toInt32)), (5, .int x5), (0, .ref mo), (1, .long characters)]) hx hb dX7_put_94 rfl hl (by decide) rfl (fun ls hl => ?_)
              refine lv_iinc (v := (x5 + 1)) (lv' := [(5, .int (x5 + 1)), (3, .int (x3 + 1)), (4, .int 0), (7, .int 0), (6, .int (((characters.toUInt64 >>> (((8 : Int32) * x5).toInt64.toUInt64 &&& Int64.toUInt64 63)).toInt64 &&& 255).toInt32)), (0, .ref mo), (1, .long characters)]) hx hb dX7_put_95 hl (k := 4) rfl rfl (by decide) rfl (fun ls hl => ?_)
              refine lv_goto (tgt := 8) hx hb dX7_put_98 (by decide) ?_
              exact ih8 (k8 + 1) (x5 + 1) (0 : Int32) (x3 + 1) _ _ _ (by omega) (by omega) (by rw [ex8]; exact nI_1 _) (by first | exact kq_up hmn | (rw [Int32.add_zero]; exact kq_keep hmn)) hq_1 hP hD hS (lv_sub hl [0, 2, 1, 5, 6] rfl)
            · rw [if_pos c_12] at hq_1
              refine lv_iconst (v := 1) hx hb dX7_put_75 (by decide) ?_
              refine lv_goto (tgt := 80) hx hb dX7_put_76 (by decide) ?_
              refine lv_istore (lv' := [(4, .int 1), (7, .int 0), (6, .int (((characters.toUInt64 >>> (((8 : Int32) * x5).toInt64.toUInt64 &&& Int64.toUInt64 63)).toInt64 &&& 255).toInt32)), (5, .int x5), (3, .int x3), (0, .ref mo), (1, .long characters)]) hx hb dX7_put_80 hl (by decide) rfl (fun ls hl => ?_)
              refine lv_iload_n hx hb dX7_put_82 rfl (lv_at hl 4 rfl) ?_
              refine lv_iload hx hb dX7_put_83 (lv_at hl 1 rfl) ?_
              refine lv_if_eq (tgt := 92) hx hb dX7_put_85 (by decide) (fun c_14 => ?_) (fun c_14 => ?_)
              rotate_left
              · exact absurd (by decide) c_14
              refine lv_iconst (v := 1) hx hb dX7_put_92 (by decide) ?_
              refine lv_iadd hx hb dX7_put_93 ?_
              refine lv_istore_n (lv' := [(3, .int (x3 + 1)), (4, .int 1), (7, .int 0), (6, .int (((characters.toUInt64 >>> (((8 : Int32) * x5).toInt64.toUInt64 &&& Int64.toUInt64 63)).toInt64 &&& 255).toInt32)), (5, .int x5), (0, .ref mo), (1, .long characters)]) hx hb dX7_put_94 rfl hl (by decide) rfl (fun ls hl => ?_)
              refine lv_iinc (v := (x5 + 1)) (lv' := [(5, .int (x5 + 1)), (3, .int (x3 + 1)), (4, .int 1), (7, .int 0), (6, .int (((characters.toUInt64 >>> (((8 : Int32) * x5).toInt64.toUInt64 &&& Int64.toUInt64 63)).toInt64 &&& 255).toInt32)), (0, .ref mo), (1, .long characters)]) hx hb dX7_put_95 hl (k := 4) rfl rfl (by decide) rfl (fun ls hl => ?_)
              refine lv_goto (tgt := 8) hx hb dX7_put_98 (by decide) ?_
              exact ih8 (k8 + 1) (x5 + 1) (1 : Int32) (x3 + 1) _ _ _ (by omega) (by omega) (by rw [ex8]; exact nI_1 _) (by first | exact kq_up hmn | (rw [Int32.add_zero]; exact kq_keep hmn)) hq_1 hP hD hS (lv_sub hl [0, 2, 1, 5, 6] rfl)
        · rw [if_neg c_7] at hq_1
          refine lv_lload_n hx hb dX7_put_34 rfl (lv_at hl 5 rfl) ?_
          refine lv_bipush (v := 8) hx hb dX7_put_35 (by decide) ?_
          refine lv_iload hx hb dX7_put_37 (lv_at hl 1 rfl) ?_
          refine lv_imul hx hb dX7_put_39 ?_
          refine lv_lushr (v := (characters.toUInt64 >>> (((8 : Int32) * x5).toInt64.toUInt64 &&& Int64.toUInt64 63)).toInt64) hx hb dX7_put_40 rfl ?_
          refine lv_lconst (v := 0) hx hb dX7_put_41 (by decide) ?_
          refine W.lcmp hx hb dX7_put_42 ?_
          refine lv_if_ne (tgt := 50) hx hb dX7_put_43 (by decide) (fun c_15 => ?_) (fun c_15 => ?_)
          · rw [if_neg c_15] at hq_1
            refine lv_iconst (v := 0) hx hb dX7_put_50 (by decide) ?_
            refine lv_istore (lv' := [(7, .int 0), (6, .int (((characters.toUInt64 >>> (((8 : Int32) * x5).toInt64.toUInt64 &&& Int64.toUInt64 63)).toInt64 &&& 255).toInt32)), (5, .int x5), (4, .int x4), (3, .int x3), (0, .ref mo), (1, .long characters)]) hx hb dX7_put_51 hl (by decide) rfl (fun ls hl => ?_)
            refine lv_iload hx hb dX7_put_53 (lv_at hl 3 rfl) ?_
            refine lv_if_ne (tgt := 75) hx hb dX7_put_55 (by decide) (fun c_16 => ?_) (fun c_16 => ?_)
            · rw [if_neg c_16] at hq_1
              refine lv_iconst (v := 1) hx hb dX7_put_75 (by decide) ?_
              refine lv_goto (tgt := 80) hx hb dX7_put_76 (by decide) ?_
              refine lv_istore (lv' := [(4, .int 1), (7, .int 0), (6, .int (((characters.toUInt64 >>> (((8 : Int32) * x5).toInt64.toUInt64 &&& Int64.toUInt64 63)).toInt64 &&& 255).toInt32)), (5, .int x5), (3, .int x3), (0, .ref mo), (1, .long characters)]) hx hb dX7_put_80 hl (by decide) rfl (fun ls hl => ?_)
              refine lv_iload_n hx hb dX7_put_82 rfl (lv_at hl 4 rfl) ?_
              refine lv_iload hx hb dX7_put_83 (lv_at hl 1 rfl) ?_
              refine lv_if_eq (tgt := 92) hx hb dX7_put_85 (by decide) (fun c_17 => ?_) (fun c_17 => ?_)
              rotate_left
              · exact absurd (by decide) c_17
              refine lv_iconst (v := 1) hx hb dX7_put_92 (by decide) ?_
              refine lv_iadd hx hb dX7_put_93 ?_
              refine lv_istore_n (lv' := [(3, .int (x3 + 1)), (4, .int 1), (7, .int 0), (6, .int (((characters.toUInt64 >>> (((8 : Int32) * x5).toInt64.toUInt64 &&& Int64.toUInt64 63)).toInt64 &&& 255).toInt32)), (5, .int x5), (0, .ref mo), (1, .long characters)]) hx hb dX7_put_94 rfl hl (by decide) rfl (fun ls hl => ?_)
              refine lv_iinc (v := (x5 + 1)) (lv' := [(5, .int (x5 + 1)), (3, .int (x3 + 1)), (4, .int 1), (7, .int 0), (6, .int (((characters.toUInt64 >>> (((8 : Int32) * x5).toInt64.toUInt64 &&& Int64.toUInt64 63)).toInt64 &&& 255).toInt32)), (0, .ref mo), (1, .long characters)]) hx hb dX7_put_95 hl (k := 4) rfl rfl (by decide) rfl (fun ls hl => ?_)
              refine lv_goto (tgt := 8) hx hb dX7_put_98 (by decide) ?_
              exact ih8 (k8 + 1) (x5 + 1) (1 : Int32) (x3 + 1) _ _ _ (by omega) (by omega) (by rw [ex8]; exact nI_1 _) (by first | exact kq_up hmn | (rw [Int32.add_zero]; exact kq_keep hmn)) hq_1 hP hD hS (lv_sub hl [0, 2, 1, 5, 6] rfl)
            · rw [if_pos c_16] at hq_1
              refine lv_iload hx hb dX7_put_58 (lv_at hl 0 rfl) ?_
              refine lv_if_ne (tgt := 79) hx hb dX7_put_60 (by decide) (fun c_18 => ?_) (fun c_18 => ?_)
              · exact absurd (by decide) c_18
              refine lv_iload hx hb dX7_put_63 (lv_at hl 1 rfl) ?_
              refine lv_bipush (v := 33) hx hb dX7_put_65 (by decide) ?_
              refine lv_bipush (v := 126) hx hb dX7_put_67 (by decide) ?_
              obtain ⟨r_19, hr_19⟩ : ∃ z, z = F_Model_in (((characters.toUInt64 >>> (((8 : Int32) * x5).toInt64.toUInt64 &&& Int64.toUInt64 63)).toInt64 &&& 255).toInt32) (33 : Int32) (126 : Int32) := ⟨_, rfl⟩
              rw [bnd_e hr_19] at hq_1
              refine ro_calli (va_runS (As := [.int (((characters.toUInt64 >>> (((8 : Int32) * x5).toInt64.toUInt64 &&& Int64.toUInt64 63)).toInt64 &&& 255).toInt32), .int 33, .int 126]) (rest := []) ⟨hx, hb, hml, hown, hts⟩ (c_Model_in l dC dI cI cC cG cZ  (((characters.toUInt64 >>> (((8 : Int32) * x5).toInt64.toUInt64 &&& Int64.toUInt64 63)).toInt64 &&& 255).toInt32) (33 : Int32) (126 : Int32)  r_19 hr_19) (va_cwS 3 hts gX7_put_X7_in rfl rfl rfl (by decide +kernel) ⟨Nat.le_of_ble_eq_true rfl, Nat.le_of_ble_eq_true rfl⟩) (ro_preS (hP.sub (ws' := []) [] rfl) hK) rfl rfl hl.1 rfl (lv_room (Nat.le_of_ble_eq_true rfl)) dX7_put_69 ⟨Nat.zero_le _, Nat.zero_le _⟩) hP hS (fun H locs hP hS => ?_)
              refine lv_if_ne (tgt := 79) hx hb dX7_put_72 (by decide) (fun c_20 => ?_) (fun c_20 => ?_)
              · rw [if_neg c_20] at hq_1
                refine lv_iconst (v := 0) hx hb dX7_put_79 (by decide) ?_
                refine lv_istore (lv' := [(4, .int 0), (7, .int 0), (6, .int (((characters.toUInt64 >>> (((8 : Int32) * x5).toInt64.toUInt64 &&& Int64.toUInt64 63)).toInt64 &&& 255).toInt32)), (5, .int x5), (3, .int x3), (0, .ref mo), (1, .long characters)]) hx hb dX7_put_80 hl (by decide) rfl (fun ls hl => ?_)
                refine lv_iload_n hx hb dX7_put_82 rfl (lv_at hl 4 rfl) ?_
                refine lv_iload hx hb dX7_put_83 (lv_at hl 1 rfl) ?_
                refine lv_if_eq (tgt := 92) hx hb dX7_put_85 (by decide) (fun c_21 => ?_) (fun c_21 => ?_)
                rotate_left
                · exact absurd (by decide) c_21
                refine lv_iconst (v := 1) hx hb dX7_put_92 (by decide) ?_
                refine lv_iadd hx hb dX7_put_93 ?_
                refine lv_istore_n (lv' := [(3, .int (x3 + 1)), (4, .int 0), (7, .int 0), (6, .int (((characters.toUInt64 >>> (((8 : Int32) * x5).toInt64.toUInt64 &&& Int64.toUInt64 63)).toInt64 &&& 255).toInt32)), (5, .int x5), (0, .ref mo), (1, .long characters)]) hx hb dX7_put_94 rfl hl (by decide) rfl (fun ls hl => ?_)
                refine lv_iinc (v := (x5 + 1)) (lv' := [(5, .int (x5 + 1)), (3, .int (x3 + 1)), (4, .int 0), (7, .int 0), (6, .int (((characters.toUInt64 >>> (((8 : Int32) * x5).toInt64.toUInt64 &&& Int64.toUInt64 63)).toInt64 &&& 255).toInt32)), (0, .ref mo), (1, .long characters)]) hx hb dX7_put_95 hl (k := 4) rfl rfl (by decide) rfl (fun ls hl => ?_)
                refine lv_goto (tgt := 8) hx hb dX7_put_98 (by decide) ?_
                exact ih8 (k8 + 1) (x5 + 1) (0 : Int32) (x3 + 1) _ _ _ (by omega) (by omega) (by rw [ex8]; exact nI_1 _) (by first | exact kq_up hmn | (rw [Int32.add_zero]; exact kq_keep hmn)) hq_1 hP hD hS (lv_sub hl [0, 2, 1, 5, 6] rfl)
              · rw [if_pos c_20] at hq_1
                refine lv_iconst (v := 1) hx hb dX7_put_75 (by decide) ?_
                refine lv_goto (tgt := 80) hx hb dX7_put_76 (by decide) ?_
                refine lv_istore (lv' := [(4, .int 1), (7, .int 0), (6, .int (((characters.toUInt64 >>> (((8 : Int32) * x5).toInt64.toUInt64 &&& Int64.toUInt64 63)).toInt64 &&& 255).toInt32)), (5, .int x5), (3, .int x3), (0, .ref mo), (1, .long characters)]) hx hb dX7_put_80 hl (by decide) rfl (fun ls hl => ?_)
                refine lv_iload_n hx hb dX7_put_82 rfl (lv_at hl 4 rfl) ?_
                refine lv_iload hx hb dX7_put_83 (lv_at hl 1 rfl) ?_
                refine lv_if_eq (tgt := 92) hx hb dX7_put_85 (by decide) (fun c_22 => ?_) (fun c_22 => ?_)
                rotate_left
                · exact absurd (by decide) c_22
                refine lv_iconst (v := 1) hx hb dX7_put_92 (by decide) ?_
                refine lv_iadd hx hb dX7_put_93 ?_
                refine lv_istore_n (lv' := [(3, .int (x3 + 1)), (4, .int 1), (7, .int 0), (6, .int (((characters.toUInt64 >>> (((8 : Int32) * x5).toInt64.toUInt64 &&& Int64.toUInt64 63)).toInt64 &&& 255).toInt32)), (5, .int x5), (0, .ref mo), (1, .long characters)]) hx hb dX7_put_94 rfl hl (by decide) rfl (fun ls hl => ?_)
                refine lv_iinc (v := (x5 + 1)) (lv' := [(5, .int (x5 + 1)), (3, .int (x3 + 1)), (4, .int 1), (7, .int 0), (6, .int (((characters.toUInt64 >>> (((8 : Int32) * x5).toInt64.toUInt64 &&& Int64.toUInt64 63)).toInt64 &&& 255).toInt32)), (0, .ref mo), (1, .long characters)]) hx hb dX7_put_95 hl (k := 4) rfl rfl (by decide) rfl (fun ls hl => ?_)
                refine lv_goto (tgt := 8) hx hb dX7_put_98 (by decide) ?_
                exact ih8 (k8 + 1) (x5 + 1) (1 : Int32) (x3 + 1) _ _ _ (by omega) (by omega) (by rw [ex8]; exact nI_1 _) (by first | exact kq_up hmn | (rw [Int32.add_zero]; exact kq_keep hmn)) hq_1 hP hD hS (lv_sub hl [0, 2, 1, 5, 6] rfl)
          · rw [if_pos c_15] at hq_1
            refine lv_iconst (v := 1) hx hb dX7_put_46 (by decide) ?_
            refine lv_goto (tgt := 51) hx hb dX7_put_47 (by decide) ?_
            refine lv_istore (lv' := [(7, .int 1), (6, .int (((characters.toUInt64 >>> (((8 : Int32) * x5).toInt64.toUInt64 &&& Int64.toUInt64 63)).toInt64 &&& 255).toInt32)), (5, .int x5), (4, .int x4), (3, .int x3), (0, .ref mo), (1, .long characters)]) hx hb dX7_put_51 hl (by decide) rfl (fun ls hl => ?_)
            refine lv_iload hx hb dX7_put_53 (lv_at hl 3 rfl) ?_
            refine lv_if_ne (tgt := 75) hx hb dX7_put_55 (by decide) (fun c_23 => ?_) (fun c_23 => ?_)
            · rw [if_neg c_23] at hq_1
              refine lv_iconst (v := 1) hx hb dX7_put_75 (by decide) ?_
              refine lv_goto (tgt := 80) hx hb dX7_put_76 (by decide) ?_
              refine lv_istore (lv' := [(4, .int 1), (7, .int 1), (6, .int (((characters.toUInt64 >>> (((8 : Int32) * x5).toInt64.toUInt64 &&& Int64.toUInt64 63)).toInt64 &&& 255).toInt32)), (5, .int x5), (3, .int x3), (0, .ref mo), (1, .long characters)]) hx hb dX7_put_80 hl (by decide) rfl (fun ls hl => ?_)
              refine lv_iload_n hx hb dX7_put_82 rfl (lv_at hl 4 rfl) ?_
              refine lv_iload hx hb dX7_put_83 (lv_at hl 1 rfl) ?_
              refine lv_if_eq (tgt := 92) hx hb dX7_put_85 (by decide) (fun c_24 => ?_) (fun c_24 => ?_)
              · exact absurd c_24 (by decide)
              refine lv_iconst (v := 0) hx hb dX7_put_88 (by decide) ?_
              refine lv_goto (tgt := 93) hx hb dX7_put_89 (by decide) ?_
              refine lv_iadd hx hb dX7_put_93 ?_
              refine lv_istore_n (lv' := [(3, .int (x3 + 0)), (4, .int 1), (7, .int 1), (6, .int (((characters.toUInt64 >>> (((8 : Int32) * x5).toInt64.toUInt64 &&& Int64.toUInt64 63)).toInt64 &&& 255).toInt32)), (5, .int x5), (0, .ref mo), (1, .long characters)]) hx hb dX7_put_94 rfl hl (by decide) rfl (fun ls hl => ?_)
              refine lv_iinc (v := (x5 + 1)) (lv' := [(5, .int (x5 + 1)), (3, .int (x3 + 0)), (4, .int 1), (7, .int 1), (6, .int (((characters.toUInt64 >>> (((8 : Int32) * x5).toInt64.toUInt64 &&& Int64.toUInt64 63)).toInt64 &&& 255).toInt32)), (0, .ref mo), (1, .long characters)]) hx hb dX7_put_95 hl (k := 4) rfl rfl (by decide) rfl (fun ls hl => ?_)
              refine lv_goto (tgt := 8) hx hb dX7_put_98 (by decide) ?_
              exact ih8 (k8 + 1) (x5 + 1) (1 : Int32) (x3 + 0) _ _ _ (by omega) (by omega) (by rw [ex8]; exact nI_1 _) (by first | exact kq_up hmn | (rw [Int32.add_zero]; exact kq_keep hmn)) hq_1 hP hD hS (lv_sub hl [0, 2, 1, 5, 6] rfl)
            · rw [if_pos c_23] at hq_1
              refine lv_iload hx hb dX7_put_58 (lv_at hl 0 rfl) ?_
              refine lv_if_ne (tgt := 79) hx hb dX7_put_60 (by decide) (fun c_25 => ?_) (fun c_25 => ?_)
              rotate_left
              · exact absurd c_25 (by decide)
              refine lv_iconst (v := 0) hx hb dX7_put_79 (by decide) ?_
              refine lv_istore (lv' := [(4, .int 0), (7, .int 1), (6, .int (((characters.toUInt64 >>> (((8 : Int32) * x5).toInt64.toUInt64 &&& Int64.toUInt64 63)).toInt64 &&& 255).toInt32)), (5, .int x5), (3, .int x3), (0, .ref mo), (1, .long characters)]) hx hb dX7_put_80 hl (by decide) rfl (fun ls hl => ?_)
              refine lv_iload_n hx hb dX7_put_82 rfl (lv_at hl 4 rfl) ?_
              refine lv_iload hx hb dX7_put_83 (lv_at hl 1 rfl) ?_
              refine lv_if_eq (tgt := 92) hx hb dX7_put_85 (by decide) (fun c_26 => ?_) (fun c_26 => ?_)
              · exact absurd c_26 (by decide)
              refine lv_iconst (v := 0) hx hb dX7_put_88 (by decide) ?_
              refine lv_goto (tgt := 93) hx hb dX7_put_89 (by decide) ?_
              refine lv_iadd hx hb dX7_put_93 ?_
              refine lv_istore_n (lv' := [(3, .int (x3 + 0)), (4, .int 0), (7, .int 1), (6, .int (((characters.toUInt64 >>> (((8 : Int32) * x5).toInt64.toUInt64 &&& Int64.toUInt64 63)).toInt64 &&& 255).toInt32)), (5, .int x5), (0, .ref mo), (1, .long characters)]) hx hb dX7_put_94 rfl hl (by decide) rfl (fun ls hl => ?_)
              refine lv_iinc (v := (x5 + 1)) (lv' := [(5, .int (x5 + 1)), (3, .int (x3 + 0)), (4, .int 0), (7, .int 1), (6, .int (((characters.toUInt64 >>> (((8 : Int32) * x5).toInt64.toUInt64 &&& Int64.toUInt64 63)).toInt64 &&& 255).toInt32)), (0, .ref mo), (1, .long characters)]) hx hb dX7_put_95 hl (k := 4) rfl rfl (by decide) rfl (fun ls hl => ?_)
              refine lv_goto (tgt := 8) hx hb dX7_put_98 (by decide) ?_
              exact ih8 (k8 + 1) (x5 + 1) (0 : Int32) (x3 + 0) _ _ _ (by omega) (by omega) (by rw [ex8]; exact nI_1 _) (by first | exact kq_up hmn | (rw [Int32.add_zero]; exact kq_keep hmn)) hq_1 hP hD hS (lv_sub hl [0, 2, 1, 5, 6] rfl)
  exact hloop8 9 0 (0 : Int32) (0 : Int32) (0 : Int32) _ _ _ (by omega) (by omega) nI_0.symm kq_0 hq_1 hP hD hS (lv_sub hl [0, 1, 2, 3, 4] rfl)
theorem iX7_wipe_X7 : ∀ w ∈ u_ws RX7 TX7 9, w ∈ wsX7_wipe := by decide +kernel
theorem kX7_wipe_153 : Cond.fieldLink RX7 153 "TailorChalksModel" "length" "I" ∈ wsX7_wipe := by decide +kernel
def F_Model_wipe (vln : Int32) : Int32 × Int32 := (vln, 0)
set_option maxHeartbeats 4000000 in
set_option maxRecDepth 100000 in
theorem c_Model_wipe (l : Launch) (dC : Nat → ClassId) (dI : Nat → Nat → Nat) (cI cC cG cZ : ClassId) (mo ms mah mhi msl msv mpd mlb : Nat) (vkp : Int32) (vln : Int32) (res : Int32 × Int32) (hres : res = F_Model_wipe vln) : Met l yX7_wipe wsX7_wipe ({ frames := 0, cells := 0, slots := 0, locals := 0 }) (va_Pc [.ref mo] (wr_P (dC, dI) vwCl (tyL cI cC cG cZ) [(mo, .inr (7, [.ref ms, .ref mah, .ref mhi, .int vkp, .ref msl, .ref msv, .ref mpd, .int vln, .ref mlb]))])) (va_Qi (fun r (_ : Unit) => r = res.1) (fun _ zt => va_P (dC, dI) vwCl [(mo, .inr (7, [.ref ms, .ref mah, .ref mhi, .int vkp, .ref msl, .ref msv, .ref mpd, .int res.2, .ref mlb]))] zt.heap) (wr_A [(mo, .inr (7, [.ref ms, .ref mah, .ref mhi, .int vkp, .ref msl, .ref msv, .ref mpd, .int vln, .ref mlb]))])) 0 0 (wr_A [(mo, .inr (7, [.ref ms, .ref mah, .ref mhi, .int vkp, .ref msl, .ref msv, .ref mpd, .int vln, .ref mlb]))]) := by
  refine Met.ofW (cc := cX7_wipe) (maxL := 2) (ret := (some .int)) (by decide) rfl ?_
  intro p e s m args below meth c s₁ B hml hv
  obtain ⟨rfl, hP, hK, hD0⟩ := hv
  have hx := B.exec
  have hb := B.bytes
  have hr := B.returns
  have hts := atoms_spec (ws := wsX7_wipe) B.pre
  have hown : s.vm.findClass RX7 = some m.cls := findClass_of_methodNamed B.named
  have hlocks := B.notSynchronized
  have hD := wr_self hD0
  generalize hAe : wr_A [(mo, .inr (7, [.ref ms, .ref mah, .ref mhi, .int vkp, .ref msl, .ref msv, .ref mpd, .int vln, .ref mlb]))] = A at hD ⊢
  have hS : va_S A s.heap s.heap [] := va_S.rf
  have hP : va_P (dC, dI) vwCl [(mo, .inr (7, [.ref ms, .ref mah, .ref mhi, .int vkp, .ref msl, .ref msv, .ref mpd, .int vln, .ref mlb]))] s.heap := hP
  have hl := lv_entry ([.ref mo]) (n := 2) (Nat.le_of_ble_eq_true rfl)
  rw [lg_entry_eq]
  generalize (lg_sl ([.ref mo]) ++ List.replicate (2 - (lg_sl ([.ref mo])).length) Slot.unset).toArray = ls at hl ⊢
  have hl : lv_has ls 2 [(0, .ref mo)] := hl
  rw [F_Model_wipe] at hres
  refine lv_aload_n hx hb dX7_wipe_0 rfl (lv_at hl 0 rfl) ?_
  refine va_get (D := (dC, dI)) (ci := 7) (v := .int vln) (C := RX7) (T := TX7) (N := 9) hx hb hts iX7_wipe_X7 hown hK hP 0 rfl rfl 7 (by decide) (hts (.fieldLink RX7 153 "TailorChalksModel" "length" "I") kX7_wipe_153) (fun _ h9 => h9) rfl dX7_wipe_1 ?_
  refine lv_istore_n (lv' := [(1, .int vln), (0, .ref mo)]) hx hb dX7_wipe_4 rfl hl (by decide) rfl (fun ls hl => ?_)
  refine lv_aload_n hx hb dX7_wipe_5 rfl (lv_at hl 1 rfl) ?_
  refine lv_iconst (v := 0) hx hb dX7_wipe_6 (by decide) ?_
  refine va_put (D := (dC, dI)) (ci := 7) (v := .int 0) (ty := (.int)) (C := RX7) (T := TX7) (N := 9) hx hb hts iX7_wipe_X7 tyX7 tyX7_ok nmX7 hown hK hP hD hS 0 rfl rfl 7 (by decide) (hts (.fieldLink RX7 153 "TailorChalksModel" "length" "I") kX7_wipe_153) (fun _ h9 => h9) rfl (by decide +kernel) rfl rfl (Nat.le_of_ble_eq_true rfl) dX7_wipe_7 (fun H locs hP hD hS => ?_)
  have hP : va_P (dC, dI) vwCl [(mo, .inr (7, [.ref ms, .ref mah, .ref mhi, .int vkp, .ref msl, .ref msv, .ref mpd, .int 0, .ref mlb]))] H := hP
  have hD : va_D A [(mo, .inr (7, [.ref ms, .ref mah, .ref mhi, .int vkp, .ref msl, .ref msv, .ref mpd, .int 0, .ref mlb]))] := hD
  refine lv_iload_n hx hb dX7_wipe_10 rfl (lv_at hl 0 rfl) ?_
  subst hres
  exact W.iret (v := vln) hx hb hr (fun t ht hW => ⟨⟨vln, (), rfl, rfl, (by show va_P _ _ _ t.heap; rw [ht]; exact hP)⟩, hS.F ht⟩) hS.2.2 dX7_wipe_11
theorem iX7_charAt_X7 : ∀ w ∈ u_ws RX7 TX7 9, w ∈ wsX7_charAt := by decide +kernel
theorem kX7_charAt_153 : Cond.fieldLink RX7 153 "TailorChalksModel" "length" "I" ∈ wsX7_charAt := by decide +kernel
theorem kX7_charAt_26 : Cond.fieldLink RX7 26 "TailorChalksModel" "pad" "[I" ∈ wsX7_charAt := by decide +kernel
def F_Model_charAt (place : Int32) (vln : Int32) (vpd : Nat → Int32) : Int32 := (if vln ≤ place then 0 else (vpd place.toNatClampNeg))
set_option maxHeartbeats 4000000 in
set_option maxRecDepth 100000 in
theorem c_Model_charAt (l : Launch) (dC : Nat → ClassId) (dI : Nat → Nat → Nat) (cI cC cG cZ : ClassId) (mo ms mah mhi msl msv mpd mlb : Nat) (place : Int32) (vkp : Int32) (vln : Int32) (vpd : Nat → Int32) (hsm : sm place) (hln : tm_ok 80 vln) (res : Int32) (hres : res = F_Model_charAt place vln vpd) : Met l yX7_charAt wsX7_charAt ({ frames := 0, cells := 0, slots := 0, locals := 0 }) (va_Pc [.ref mo, .int place] (ro_P (dC, dI) vwCl (tyL cI cC cG cZ) [(mo, .inr (7, [.ref ms, .ref mah, .ref mhi, .int vkp, .ref msl, .ref msv, .ref mpd, .int vln, .ref mlb])), (mpd, .inl (cI, 80, .inl vpd))])) (va_Qi (fun r (_ : Unit) => r = res) (fun _ _ => True) ro_F) 0 0 ro_F := by
  refine Met.ofW (cc := cX7_charAt) (maxL := 2) (ret := (some .int)) (by decide) rfl ?_
  intro p e s m args below meth c s₁ B hml hv
  obtain ⟨rfl, hP, hK⟩ := hv
  have hx := B.exec
  have hb := B.bytes
  have hr := B.returns
  have hts := atoms_spec (ws := wsX7_charAt) B.pre
  have hown : s.vm.findClass RX7 = some m.cls := findClass_of_methodNamed B.named
  have hlocks := B.notSynchronized
  have hS : va_S ro_F s.heap s.heap [] := va_S.rf
  have hl := lv_entry ([.ref mo, .int place]) (n := 2) (Nat.le_of_ble_eq_true rfl)
  rw [lg_entry_eq]
  generalize (lg_sl ([.ref mo, .int place]) ++ List.replicate (2 - (lg_sl ([.ref mo, .int place])).length) Slot.unset).toArray = ls at hl ⊢
  have hl : lv_has ls 2 [(0, .ref mo), (1, .int place)] := hl
  rw [F_Model_charAt] at hres
  refine lv_iload_n hx hb dX7_charAt_0 rfl (lv_at hl 1 rfl) ?_
  refine lv_aload_n hx hb dX7_charAt_1 rfl (lv_at hl 0 rfl) ?_
  refine va_get (D := (dC, dI)) (ci := 7) (v := .int vln) (C := RX7) (T := TX7) (N := 9) hx hb hts iX7_charAt_X7 hown hK hP 0 rfl rfl 7 (by decide) (hts (.fieldLink RX7 153 "TailorChalksModel" "length" "I") kX7_charAt_153) (fun _ h9 => h9) rfl dX7_charAt_2 ?_
  refine lv_icmp_ge (tgt := 17) hx hb dX7_charAt_5 (by decide) (fun c_1 => ?_) (fun c_1 => ?_)
  · rw [if_pos c_1] at hres
    refine lv_iconst (v := 0) hx hb dX7_charAt_17 (by decide) ?_
    exact W.iret (v := 0) hx hb hr (fun t ht hW => ⟨⟨0, (), rfl, hres.symm, trivial⟩, hS.F ht⟩) hS.2.2 dX7_charAt_18
  · rw [if_neg c_1] at hres
    refine lv_aload_n hx hb dX7_charAt_8 rfl (lv_at hl 0 rfl) ?_
    refine va_get (D := (dC, dI)) (ci := 7) (v := .ref mpd) (C := RX7) (T := TX7) (N := 9) hx hb hts iX7_charAt_X7 hown hK hP 0 rfl rfl 6 (by decide) (hts (.fieldLink RX7 26 "TailorChalksModel" "pad" "[I") kX7_charAt_26) (fun _ h9 => h9) rfl dX7_charAt_9 ?_
    refine lv_iload_n hx hb dX7_charAt_12 rfl (lv_at hl 1 rfl) ?_
    refine va_iald hx hb hK hP 1 0 rfl rfl (sm_in hsm.1 hln (by decide) c_1) dX7_charAt_13 ?_
    refine lv_goto (tgt := 18) hx hb dX7_charAt_14 (by decide) ?_
    exact W.iret (v := (vpd place.toNatClampNeg)) hx hb hr (fun t ht hW => ⟨⟨(vpd place.toNatClampNeg), (), rfl, hres.symm, trivial⟩, hS.F ht⟩) hS.2.2 dX7_charAt_18
def F_Model_digitAt (place : Int32) (vln : Int32) (vpd : Nat → Int32) : Int32 := (bnd (F_Model_charAt place vln vpd) (fun r_1 => (r_1 - 48)))
set_option maxHeartbeats 4000000 in
set_option maxRecDepth 100000 in
theorem c_Model_digitAt (l : Launch) (dC : Nat → ClassId) (dI : Nat → Nat → Nat) (cI cC cG cZ : ClassId) (mo ms mah mhi msl msv mpd mlb : Nat) (place : Int32) (vkp : Int32) (vln : Int32) (vpd : Nat → Int32) (hsm : sm place) (hln : tm_ok 80 vln) (res : Int32) (hres : res = F_Model_digitAt place vln vpd) : Met l yX7_digitAt wsX7_digitAt ({ frames := 1, cells := 0, slots := 0, locals := 21 }) (va_Pc [.ref mo, .int place] (ro_P (dC, dI) vwCl (tyL cI cC cG cZ) [(mo, .inr (7, [.ref ms, .ref mah, .ref mhi, .int vkp, .ref msl, .ref msv, .ref mpd, .int vln, .ref mlb])), (mpd, .inl (cI, 80, .inl vpd))])) (va_Qi (fun r (_ : Unit) => r = res) (fun _ _ => True) ro_F) 0 0 ro_F := by
  refine Met.ofW (cc := cX7_digitAt) (maxL := 2) (ret := (some .int)) (by decide) rfl ?_
  intro p e s m args below meth c s₁ B hml hv
  obtain ⟨rfl, hP, hK⟩ := hv
  have hx := B.exec
  have hb := B.bytes
  have hr := B.returns
  have hts := atoms_spec (ws := wsX7_digitAt) B.pre
  have hown : s.vm.findClass RX7 = some m.cls := findClass_of_methodNamed B.named
  have hlocks := B.notSynchronized
  have hS : va_S ro_F s.heap s.heap [] := va_S.rf
  have hl := lv_entry ([.ref mo, .int place]) (n := 2) (Nat.le_of_ble_eq_true rfl)
  rw [lg_entry_eq]
  generalize (lg_sl ([.ref mo, .int place]) ++ List.replicate (2 - (lg_sl ([.ref mo, .int place])).length) Slot.unset).toArray = ls at hl ⊢
  have hl : lv_has ls 2 [(0, .ref mo), (1, .int place)] := hl
  rw [F_Model_digitAt] at hres
  refine lv_aload_n hx hb dX7_digitAt_0 rfl (lv_at hl 0 rfl) ?_
  refine lv_iload_n hx hb dX7_digitAt_1 rfl (lv_at hl 1 rfl) ?_
  obtain ⟨r_1, hr_1⟩ : ∃ z, z = F_Model_charAt place vln vpd := ⟨_, rfl⟩
  rw [bnd_e hr_1] at hres
  refine ro_calli (va_runV (As := [.int place]) (rest := []) ⟨hx, hb, hml, hown, hts⟩ (c_Model_charAt l dC dI cI cC cG cZ mo ms mah mhi msl msv mpd mlb place vkp vln vpd hsm hln r_1 hr_1) (cwV 1 hts gX7_digitAt_X7_charAt rfl rfl rfl (by decide +kernel) ⟨Nat.le_of_ble_eq_true rfl, Nat.le_of_ble_eq_true rfl⟩) (ro_preV (hP.sub (ws' := [(mo, .inr (7, [.ref ms, .ref mah, .ref mhi, .int vkp, .ref msl, .ref msv, .ref mpd, .int vln, .ref mlb])), (mpd, .inl (cI, 80, .inl vpd))]) [0, 1] rfl) hK (ci := 7) (q0 := 0) rfl rfl) rfl rfl hl.1 rfl (lv_room (Nat.le_of_ble_eq_true rfl)) dX7_digitAt_2 ⟨Nat.zero_le _, Nat.zero_le _⟩) hP hS (fun H locs hP hS => ?_)
  refine lv_bipush (v := 48) hx hb dX7_digitAt_5 (by decide) ?_
  refine lv_isub hx hb dX7_digitAt_7 ?_
  exact W.iret (v := (r_1 - 48)) hx hb hr (fun t ht hW => ⟨⟨(r_1 - 48), (), rfl, hres.symm, trivial⟩, hS.F ht⟩) hS.2.2 dX7_digitAt_8
def F_Model_behindOrder (place : Int32) (vln : Int32) (vpd : Nat → Int32) : Int32 := (bnd (F_Model_charAt place vln vpd) (fun r_1 => (if r_1 = 112 then (place + 1) else (if r_1 = 99 then (bnd (F_Model_digitAt (place + 1) vln vpd) (fun r_4 => (bnd (F_Model_in r_4 (0 : Int32) (9 : Int32)) (fun r_5 => (if r_5 = 0 then ((-2 : Int32) - place) else (bnd (F_Model_digitAt (place + 1) vln vpd) (fun r_7 => (if r_7 ≤ 0 then (place + 2) else (bnd (F_Model_digitAt (place + 2) vln vpd) (fun r_9 => (bnd (F_Model_in r_9 (0 : Int32) (9 : Int32)) (fun r_10 => (if r_10 = 0 then (place + 2) else (place + 3)))))))))))))) else (if r_1 = 115 then (bnd (F_Model_digitAt (place + 1) vln vpd) (fun r_13 => (bnd (F_Model_in r_13 (0 : Int32) (9 : Int32)) (fun r_14 => (if r_14 = 0 then ((-2 : Int32) - place) else (bnd (F_Model_digitAt (place + 1) vln vpd) (fun r_16 => (if r_16 ≤ 0 then (place + 2) else (bnd (F_Model_digitAt (place + 2) vln vpd) (fun r_18 => (bnd (F_Model_in r_18 (0 : Int32) (9 : Int32)) (fun r_19 => (if r_19 = 0 then (place + 2) else (place + 3)))))))))))))) else (if r_1 = 119 then (bnd (F_Model_digitAt (place + 1) vln vpd) (fun r_22 => (bnd (F_Model_in r_22 (0 : Int32) (9 : Int32)) (fun r_23 => (if r_23 = 0 then ((-2 : Int32) - place) else (bnd (F_Model_digitAt (place + 1) vln vpd) (fun r_25 => (if r_25 ≤ 0 then (place + 2) else (bnd (F_Model_digitAt (place + 2) vln vpd) (fun r_27 => (bnd (F_Model_in r_27 (0 : Int32) (9 : Int32)) (fun r_28 => (if r_28 = 0 then (place + 2) else (place + 3)))))))))))))) else (if r_1 = 98 then (bnd (F_Model_digitAt (place + 1) vln vpd) (fun r_31 => (bnd (F_Model_in r_31 (0 : Int32) (9 : Int32)) (fun r_32 => (if r_32 = 0 then ((-2 : Int32) - place) else (bnd (F_Model_digitAt (place + 1) vln vpd) (fun r_34 => (if r_34 ≤ 0 then (place + 2) else (bnd (F_Model_digitAt (place + 2) vln vpd) (fun r_36 => (bnd (F_Model_in r_36 (0 : Int32) (9 : Int32)) (fun r_37 => (if r_37 = 0 then (place + 2) else (place + 3)))))))))))))) else (if r_1 = 100 then (bnd (F_Model_digitAt (place + 1) vln vpd) (fun r_40 => (bnd (F_Model_in r_40 (0 : Int32) (9 : Int32)) (fun r_41 => (if r_41 = 0 then ((-2 : Int32) - place) else (bnd (F_Model_digitAt (place + 1) vln vpd) (fun r_43 => (if r_43 ≤ 0 then (place + 2) else (bnd (F_Model_digitAt (place + 2) vln vpd) (fun r_45 => (bnd (F_Model_in r_45 (0 : Int32) (9 : Int32)) (fun r_46 => (if r_46 = 0 then (place + 2) else (place + 3)))))))))))))) else ((-1 : Int32) - place)))))))))
set_option maxHeartbeats 4000000 in
set_option maxRecDepth 100000 in
theorem c_Model_behindOrder (l : Launch) (dC : Nat → ClassId) (dI : Nat → Nat → Nat) (cI cC cG cZ : ClassId) (mo ms mah mhi msl msv mpd mlb : Nat) (place : Int32) (vkp : Int32) (vln : Int32) (vpd : Nat → Int32) (hs9 : sm9 place) (hln : tm_ok 80 vln) (res : Int32) (hres : res = F_Model_behindOrder place vln vpd) : Met l yX7_behindOrder wsX7_behindOrder ({ frames := 2, cells := 0, slots := 0, locals := 42 }) (va_Pc [.ref mo, .int place] (ro_P (dC, dI) vwCl (tyL cI cC cG cZ) [(mo, .inr (7, [.ref ms, .ref mah, .ref mhi, .int vkp, .ref msl, .ref msv, .ref mpd, .int vln, .ref mlb])), (mpd, .inl (cI, 80, .inl vpd))])) (va_Qi (fun r (_ : Unit) => r = res) (fun _ _ => True) ro_F) 0 0 ro_F := by
  refine Met.ofW (cc := cX7_behindOrder) (maxL := 3) (ret := (some .int)) (by decide) rfl ?_
  intro p e s m args below meth c s₁ B hml hv
  obtain ⟨rfl, hP, hK⟩ := hv
  have hx := B.exec
  have hb := B.bytes
  have hr := B.returns
  have hts := atoms_spec (ws := wsX7_behindOrder) B.pre
  have hown : s.vm.findClass RX7 = some m.cls := findClass_of_methodNamed B.named
  have hlocks := B.notSynchronized
  have hS : va_S ro_F s.heap s.heap [] := va_S.rf
  have hl := lv_entry ([.ref mo, .int place]) (n := 3) (Nat.le_of_ble_eq_true rfl)
  rw [lg_entry_eq]
  generalize (lg_sl ([.ref mo, .int place]) ++ List.replicate (3 - (lg_sl ([.ref mo, .int place])).length) Slot.unset).toArray = ls at hl ⊢
  have hl : lv_has ls 3 [(0, .ref mo), (1, .int place)] := hl
  rw [F_Model_behindOrder] at hres
  refine lv_aload_n hx hb dX7_behindOrder_0 rfl (lv_at hl 0 rfl) ?_
  refine lv_iload_n hx hb dX7_behindOrder_1 rfl (lv_at hl 1 rfl) ?_
  obtain ⟨r_1, hr_1⟩ : ∃ z, z = F_Model_charAt place vln vpd := ⟨_, rfl⟩
  rw [bnd_e hr_1] at hres
  refine ro_calli (va_runV (As := [.int place]) (rest := []) ⟨hx, hb, hml, hown, hts⟩ (c_Model_charAt l dC dI cI cC cG cZ mo ms mah mhi msl msv mpd mlb place vkp vln vpd (sm_of hs9) hln r_1 hr_1) (cwV 1 hts gX7_behindOrder_X7_charAt rfl rfl rfl (by decide +kernel) ⟨Nat.le_of_ble_eq_true rfl, Nat.le_of_ble_eq_true rfl⟩) (ro_preV (hP.sub (ws' := [(mo, .inr (7, [.ref ms, .ref mah, .ref mhi, .int vkp, .ref msl, .ref msv, .ref mpd, .int vln, .ref mlb])), (mpd, .inl (cI, 80, .inl vpd))]) [0, 1] rfl) hK (ci := 7) (q0 := 0) rfl rfl) rfl rfl hl.1 rfl (lv_room (Nat.le_of_ble_eq_true rfl)) dX7_behindOrder_2 ⟨Nat.zero_le _, Nat.zero_le _⟩) hP hS (fun H locs hP hS => ?_)
  refine lv_istore_n (lv' := [(2, .int r_1), (0, .ref mo), (1, .int place)]) hx hb dX7_behindOrder_5 rfl hl (by decide) rfl (fun ls hl => ?_)
  refine lv_iload_n hx hb dX7_behindOrder_6 rfl (lv_at hl 0 rfl) ?_
  refine lv_bipush (v := 112) hx hb dX7_behindOrder_7 (by decide) ?_
  refine lv_icmp_ne (tgt := 16) hx hb dX7_behindOrder_9 (by decide) (fun c_2 => ?_) (fun c_2 => ?_)
  · rw [if_neg c_2] at hres
    refine lv_iload_n hx hb dX7_behindOrder_16 rfl (lv_at hl 0 rfl) ?_
    refine lv_bipush (v := 99) hx hb dX7_behindOrder_17 (by decide) ?_
    refine lv_icmp_eq (tgt := 50) hx hb dX7_behindOrder_19 (by decide) (fun c_3 => ?_) (fun c_3 => ?_)
    · rw [if_pos c_3] at hres
      refine lv_aload_n hx hb dX7_behindOrder_50 rfl (lv_at hl 1 rfl) ?_
      refine lv_iload_n hx hb dX7_behindOrder_51 rfl (lv_at hl 2 rfl) ?_
      refine lv_iconst (v := 1) hx hb dX7_behindOrder_52 (by decide) ?_
      refine lv_iadd hx hb dX7_behindOrder_53 ?_
      obtain ⟨r_4, hr_4⟩ : ∃ z, z = F_Model_digitAt (place + 1) vln vpd := ⟨_, rfl⟩
      rw [bnd_e hr_4] at hres
      refine ro_calli (va_runV (As := [.int (place + 1)]) (rest := []) ⟨hx, hb, hml, hown, hts⟩ (c_Model_digitAt l dC dI cI cC cG cZ mo ms mah mhi msl msv mpd mlb (place + 1) vkp vln vpd (sm_up (q := 1) hs9 rfl (by decide)) hln r_4 hr_4) (cwV 1 hts gX7_behindOrder_X7_digitAt rfl rfl rfl (by decide +kernel) ⟨Nat.le_of_ble_eq_true rfl, Nat.le_of_ble_eq_true rfl⟩) (ro_preV (hP.sub (ws' := [(mo, .inr (7, [.ref ms, .ref mah, .ref mhi, .int vkp, .ref msl, .ref msv, .ref mpd, .int vln, .ref mlb])), (mpd, .inl (cI, 80, .inl vpd))]) [0, 1] rfl) hK (ci := 7) (q0 := 0) rfl rfl) rfl rfl hl.1 rfl (lv_room (Nat.le_of_ble_eq_true rfl)) dX7_behindOrder_54 ⟨Nat.zero_le _, Nat.zero_le _⟩) hP hS (fun H locs hP hS => ?_)
      refine lv_iconst (v := 0) hx hb dX7_behindOrder_57 (by decide) ?_
      refine lv_bipush (v := 9) hx hb dX7_behindOrder_58 (by decide) ?_
      obtain ⟨r_5, hr_5⟩ : ∃ z, z = F_Model_in r_4 (0 : Int32) (9 : Int32) := ⟨_, rfl⟩
      rw [bnd_e hr_5] at hres
      refine ro_calli (va_runS (As := [.int r_4, .int 0, .int 9]) (rest := []) ⟨hx, hb, hml, hown, hts⟩ (c_Model_in l dC dI cI cC cG cZ  r_4 (0 : Int32) (9 : Int32)  r_5 hr_5) (va_cwS 3 hts gX7_behindOrder_X7_in rfl rfl rfl (by decide +kernel) ⟨Nat.le_of_ble_eq_true rfl, Nat.le_of_ble_eq_true rfl⟩) (ro_preS (hP.sub (ws' := []) [] rfl) hK) rfl rfl hl.1 rfl (lv_room (Nat.le_of_ble_eq_true rfl)) dX7_behindOrder_60 ⟨Nat.zero_le _, Nat.zero_le _⟩) hP hS (fun H locs hP hS => ?_)
      refine lv_if_ne (tgt := 71) hx hb dX7_behindOrder_63 (by decide) (fun c_6 => ?_) (fun c_6 => ?_)
      · rw [if_neg c_6] at hres
        refine lv_aload_n hx hb dX7_behindOrder_71 rfl (lv_at hl 1 rfl) ?_
        refine lv_iload_n hx hb dX7_behindOrder_72 rfl (lv_at hl 2 rfl) ?_
        refine lv_iconst (v := 1) hx hb dX7_behindOrder_73 (by decide) ?_
        refine lv_iadd hx hb dX7_behindOrder_74 ?_
        obtain ⟨r_7, hr_7⟩ : ∃ z, z = F_Model_digitAt (place + 1) vln vpd := ⟨_, rfl⟩
        rw [bnd_e hr_7] at hres
        refine ro_calli (va_runV (As := [.int (place + 1)]) (rest := []) ⟨hx, hb, hml, hown, hts⟩ (c_Model_digitAt l dC dI cI cC cG cZ mo ms mah mhi msl msv mpd mlb (place + 1) vkp vln vpd (sm_up (q := 1) hs9 rfl (by decide)) hln r_7 hr_7) (cwV 1 hts gX7_behindOrder_X7_digitAt rfl rfl rfl (by decide +kernel) ⟨Nat.le_of_ble_eq_true rfl, Nat.le_of_ble_eq_true rfl⟩) (ro_preV (hP.sub (ws' := [(mo, .inr (7, [.ref ms, .ref mah, .ref mhi, .int vkp, .ref msl, .ref msv, .ref mpd, .int vln, .ref mlb])), (mpd, .inl (cI, 80, .inl vpd))]) [0, 1] rfl) hK (ci := 7) (q0 := 0) rfl rfl) rfl rfl hl.1 rfl (lv_room (Nat.le_of_ble_eq_true rfl)) dX7_behindOrder_75 ⟨Nat.zero_le _, Nat.zero_le _⟩) hP hS (fun H locs hP hS => ?_)
        refine lv_if_le (tgt := 103) hx hb dX7_behindOrder_78 (by decide) (fun c_8 => ?_) (fun c_8 => ?_)
        · rw [if_pos c_8] at hres
          refine lv_iload_n hx hb dX7_behindOrder_103 rfl (lv_at hl 2 rfl) ?_
          refine lv_iconst (v := 2) hx hb dX7_behindOrder_104 (by decide) ?_
          refine lv_iadd hx hb dX7_behindOrder_105 ?_
          exact W.iret (v := (place + 2)) hx hb hr (fun t ht hW => ⟨⟨(place + 2), (), rfl, hres.symm, trivial⟩, hS.F ht⟩) hS.2.2 dX7_behindOrder_106
        · rw [if_neg c_8] at hres
          refine lv_aload_n hx hb dX7_behindOrder_81 rfl (lv_at hl 1 rfl) ?_
          refine lv_iload_n hx hb dX7_behindOrder_82 rfl (lv_at hl 2 rfl) ?_
          refine lv_iconst (v := 2) hx hb dX7_behindOrder_83 (by decide) ?_
          refine lv_iadd hx hb dX7_behindOrder_84 ?_
          obtain ⟨r_9, hr_9⟩ : ∃ z, z = F_Model_digitAt (place + 2) vln vpd := ⟨_, rfl⟩
          rw [bnd_e hr_9] at hres
          refine ro_calli (va_runV (As := [.int (place + 2)]) (rest := []) ⟨hx, hb, hml, hown, hts⟩ (c_Model_digitAt l dC dI cI cC cG cZ mo ms mah mhi msl msv mpd mlb (place + 2) vkp vln vpd (sm_up (q := 2) hs9 rfl (by decide)) hln r_9 hr_9) (cwV 1 hts gX7_behindOrder_X7_digitAt rfl rfl rfl (by decide +kernel) ⟨Nat.le_of_ble_eq_true rfl, Nat.le_of_ble_eq_true rfl⟩) (ro_preV (hP.sub (ws' := [(mo, .inr (7, [.ref ms, .ref mah, .ref mhi, .int vkp, .ref msl, .ref msv, .ref mpd, .int vln, .ref mlb])), (mpd, .inl (cI, 80, .inl vpd))]) [0, 1] rfl) hK (ci := 7) (q0 := 0) rfl rfl) rfl rfl hl.1 rfl (lv_room (Nat.le_of_ble_eq_true rfl)) dX7_behindOrder_85 ⟨Nat.zero_le _, Nat.zero_le _⟩) hP hS (fun H locs hP hS => ?_)
          refine lv_iconst (v := 0) hx hb dX7_behindOrder_88 (by decide) ?_
          refine lv_bipush (v := 9) hx hb dX7_behindOrder_89 (by decide) ?_
          obtain ⟨r_10, hr_10⟩ : ∃ z, z = F_Model_in r_9 (0 : Int32) (9 : Int32) := ⟨_, rfl⟩
          rw [bnd_e hr_10] at hres
          refine ro_calli (va_runS (As := [.int r_9, .int 0, .int 9]) (rest := []) ⟨hx, hb, hml, hown, hts⟩ (c_Model_in l dC dI cI cC cG cZ  r_9 (0 : Int32) (9 : Int32)  r_10 hr_10) (va_cwS 3 hts gX7_behindOrder_X7_in rfl rfl rfl (by decide +kernel) ⟨Nat.le_of_ble_eq_true rfl, Nat.le_of_ble_eq_true rfl⟩) (ro_preS (hP.sub (ws' := []) [] rfl) hK) rfl rfl hl.1 rfl (lv_room (Nat.le_of_ble_eq_true rfl)) dX7_behindOrder_91 ⟨Nat.zero_le _, Nat.zero_le _⟩) hP hS (fun H locs hP hS => ?_)
          refine lv_if_eq (tgt := 103) hx hb dX7_behindOrder_94 (by decide) (fun c_11 => ?_) (fun c_11 => ?_)
          · rw [if_pos c_11] at hres
            refine lv_iload_n hx hb dX7_behindOrder_103 rfl (lv_at hl 2 rfl) ?_
            refine lv_iconst (v := 2) hx hb dX7_behindOrder_104 (by decide) ?_
            refine lv_iadd hx hb dX7_behindOrder_105 ?_
            exact W.iret (v := (place + 2)) hx hb hr (fun t ht hW => ⟨⟨(place + 2), (), rfl, hres.symm, trivial⟩, hS.F ht⟩) hS.2.2 dX7_behindOrder_106
          · rw [if_neg c_11] at hres
            refine lv_iload_n hx hb dX7_behindOrder_97 rfl (lv_at hl 2 rfl) ?_
            refine lv_iconst (v := 3) hx hb dX7_behindOrder_98 (by decide) ?_
            refine lv_iadd hx hb dX7_behindOrder_99 ?_
            refine lv_goto (tgt := 106) hx hb dX7_behindOrder_100 (by decide) ?_
            exact W.iret (v := (place + 3)) hx hb hr (fun t ht hW => ⟨⟨(place + 3), (), rfl, hres.symm, trivial⟩, hS.F ht⟩) hS.2.2 dX7_behindOrder_106
      · rw [if_pos c_6] at hres
        refine lv_bipush (v := (-2)) hx hb dX7_behindOrder_66 (by decide) ?_
        refine lv_iload_n hx hb dX7_behindOrder_68 rfl (lv_at hl 2 rfl) ?_
        refine lv_isub hx hb dX7_behindOrder_69 ?_
        exact W.iret (v := ((-2 : Int32) - place)) hx hb hr (fun t ht hW => ⟨⟨((-2 : Int32) - place), (), rfl, hres.symm, trivial⟩, hS.F ht⟩) hS.2.2 dX7_behindOrder_70
    · rw [if_neg c_3] at hres
      refine lv_iload_n hx hb dX7_behindOrder_22 rfl (lv_at hl 0 rfl) ?_
      refine lv_bipush (v := 115) hx hb dX7_behindOrder_23 (by decide) ?_
      refine lv_icmp_eq (tgt := 50) hx hb dX7_behindOrder_25 (by decide) (fun c_12 => ?_) (fun c_12 => ?_)
      · rw [if_pos c_12] at hres
        refine lv_aload_n hx hb dX7_behindOrder_50 rfl (lv_at hl 1 rfl) ?_
        refine lv_iload_n hx hb dX7_behindOrder_51 rfl (lv_at hl 2 rfl) ?_
        refine lv_iconst (v := 1) hx hb dX7_behindOrder_52 (by decide) ?_
        refine lv_iadd hx hb dX7_behindOrder_53 ?_
        obtain ⟨r_13, hr_13⟩ : ∃ z, z = F_Model_digitAt (place + 1) vln vpd := ⟨_, rfl⟩
        rw [bnd_e hr_13] at hres
        refine ro_calli (va_runV (As := [.int (place + 1)]) (rest := []) ⟨hx, hb, hml, hown, hts⟩ (c_Model_digitAt l dC dI cI cC cG cZ mo ms mah mhi msl msv mpd mlb (place + 1) vkp vln vpd (sm_up (q := 1) hs9 rfl (by decide)) hln r_13 hr_13) (cwV 1 hts gX7_behindOrder_X7_digitAt rfl rfl rfl (by decide +kernel) ⟨Nat.le_of_ble_eq_true rfl, Nat.le_of_ble_eq_true rfl⟩) (ro_preV (hP.sub (ws' := [(mo, .inr (7, [.ref ms, .ref mah, .ref mhi, .int vkp, .ref msl, .ref msv, .ref mpd, .int vln, .ref mlb])), (mpd, .inl (cI, 80, .inl vpd))]) [0, 1] rfl) hK (ci := 7) (q0 := 0) rfl rfl) rfl rfl hl.1 rfl (lv_room (Nat.le_of_ble_eq_true rfl)) dX7_behindOrder_54 ⟨Nat.zero_le _, Nat.zero_le _⟩) hP hS (fun H locs hP hS => ?_)
        refine lv_iconst (v := 0) hx hb dX7_behindOrder_57 (by decide) ?_
        refine lv_bipush (v := 9) hx hb dX7_behindOrder_58 (by decide) ?_
        obtain ⟨r_14, hr_14⟩ : ∃ z, z = F_Model_in r_13 (0 : Int32) (9 : Int32) := ⟨_, rfl⟩
        rw [bnd_e hr_14] at hres
        refine ro_calli (va_runS (As := [.int r_13, .int 0, .int 9]) (rest := []) ⟨hx, hb, hml, hown, hts⟩ (c_Model_in l dC dI cI cC cG cZ  r_13 (0 : Int32) (9 : Int32)  r_14 hr_14) (va_cwS 3 hts gX7_behindOrder_X7_in rfl rfl rfl (by decide +kernel) ⟨Nat.le_of_ble_eq_true rfl, Nat.le_of_ble_eq_true rfl⟩) (ro_preS (hP.sub (ws' := []) [] rfl) hK) rfl rfl hl.1 rfl (lv_room (Nat.le_of_ble_eq_true rfl)) dX7_behindOrder_60 ⟨Nat.zero_le _, Nat.zero_le _⟩) hP hS (fun H locs hP hS => ?_)
        refine lv_if_ne (tgt := 71) hx hb dX7_behindOrder_63 (by decide) (fun c_15 => ?_) (fun c_15 => ?_)
        · rw [if_neg c_15] at hres
          refine lv_aload_n hx hb dX7_behindOrder_71 rfl (lv_at hl 1 rfl) ?_
          refine lv_iload_n hx hb dX7_behindOrder_72 rfl (lv_at hl 2 rfl) ?_
          refine lv_iconst (v := 1) hx hb dX7_behindOrder_73 (by decide) ?_
          refine lv_iadd hx hb dX7_behindOrder_74 ?_
          obtain ⟨r_16, hr_16⟩ : ∃ z, z = F_Model_digitAt (place + 1) vln vpd := ⟨_, rfl⟩
          rw [bnd_e hr_16] at hres
          refine ro_calli (va_runV (As := [.int (place + 1)]) (rest := []) ⟨hx, hb, hml, hown, hts⟩ (c_Model_digitAt l dC dI cI cC cG cZ mo ms mah mhi msl msv mpd mlb (place + 1) vkp vln vpd (sm_up (q := 1) hs9 rfl (by decide)) hln r_16 hr_16) (cwV 1 hts gX7_behindOrder_X7_digitAt rfl rfl rfl (by decide +kernel) ⟨Nat.le_of_ble_eq_true rfl, Nat.le_of_ble_eq_true rfl⟩) (ro_preV (hP.sub (ws' := [(mo, .inr (7, [.ref ms, .ref mah, .ref mhi, .int vkp, .ref msl, .ref msv, .ref mpd, .int vln, .ref mlb])), (mpd, .inl (cI, 80, .inl vpd))]) [0, 1] rfl) hK (ci := 7) (q0 := 0) rfl rfl) rfl rfl hl.1 rfl (lv_room (Nat.le_of_ble_eq_true rfl)) dX7_behindOrder_75 ⟨Nat.zero_le _, Nat.zero_le _⟩) hP hS (fun H locs hP hS => ?_)
          refine lv_if_le (tgt := 103) hx hb dX7_behindOrder_78 (by decide) (fun c_17 => ?_) (fun c_17 => ?_)
          · rw [if_pos c_17] at hres
            refine lv_iload_n hx hb dX7_behindOrder_103 rfl (lv_at hl 2 rfl) ?_
            refine lv_iconst (v := 2) hx hb dX7_behindOrder_104 (by decide) ?_
            refine lv_iadd hx hb dX7_behindOrder_105 ?_
            exact W.iret (v := (place + 2)) hx hb hr (fun t ht hW => ⟨⟨(place + 2), (), rfl, hres.symm, trivial⟩, hS.F ht⟩) hS.2.2 dX7_behindOrder_106
          · rw [if_neg c_17] at hres
            refine lv_aload_n hx hb dX7_behindOrder_81 rfl (lv_at hl 1 rfl) ?_
            refine lv_iload_n hx hb dX7_behindOrder_82 rfl (lv_at hl 2 rfl) ?_
            refine lv_iconst (v := 2) hx hb dX7_behindOrder_83 (by decide) ?_
            refine lv_iadd hx hb dX7_behindOrder_84 ?_
            obtain ⟨r_18, hr_18⟩ : ∃ z, z = F_Model_digitAt (place + 2) vln vpd := ⟨_, rfl⟩
            rw [bnd_e hr_18] at hres
            refine ro_calli (va_runV (As := [.int (place + 2)]) (rest := []) ⟨hx, hb, hml, hown, hts⟩ (c_Model_digitAt l dC dI cI cC cG cZ mo ms mah mhi msl msv mpd mlb (place + 2) vkp vln vpd (sm_up (q := 2) hs9 rfl (by decide)) hln r_18 hr_18) (cwV 1 hts gX7_behindOrder_X7_digitAt rfl rfl rfl (by decide +kernel) ⟨Nat.le_of_ble_eq_true rfl, Nat.le_of_ble_eq_true rfl⟩) (ro_preV (hP.sub (ws' := [(mo, .inr (7, [.ref ms, .ref mah, .ref mhi, .int vkp, .ref msl, .ref msv, .ref mpd, .int vln, .ref mlb])), (mpd, .inl (cI, 80, .inl vpd))]) [0, 1] rfl) hK (ci := 7) (q0 := 0) rfl rfl) rfl rfl hl.1 rfl (lv_room (Nat.le_of_ble_eq_true rfl)) dX7_behindOrder_85 ⟨Nat.zero_le _, Nat.zero_le _⟩) hP hS (fun H locs hP hS => ?_)
            refine lv_iconst (v := 0) hx hb dX7_behindOrder_88 (by decide) ?_
            refine lv_bipush (v := 9) hx hb dX7_behindOrder_89 (by decide) ?_
            obtain ⟨r_19, hr_19⟩ : ∃ z, z = F_Model_in r_18 (0 : Int32) (9 : Int32) := ⟨_, rfl⟩
            rw [bnd_e hr_19] at hres
            refine ro_calli (va_runS (As := [.int r_18, .int 0, .int 9]) (rest := []) ⟨hx, hb, hml, hown, hts⟩ (c_Model_in l dC dI cI cC cG cZ  r_18 (0 : Int32) (9 : Int32)  r_19 hr_19) (va_cwS 3 hts gX7_behindOrder_X7_in rfl rfl rfl (by decide +kernel) ⟨Nat.le_of_ble_eq_true rfl, Nat.le_of_ble_eq_true rfl⟩) (ro_preS (hP.sub (ws' := []) [] rfl) hK) rfl rfl hl.1 rfl (lv_room (Nat.le_of_ble_eq_true rfl)) dX7_behindOrder_91 ⟨Nat.zero_le _, Nat.zero_le _⟩) hP hS (fun H locs hP hS => ?_)
            refine lv_if_eq (tgt := 103) hx hb dX7_behindOrder_94 (by decide) (fun c_20 => ?_) (fun c_20 => ?_)
            · rw [if_pos c_20] at hres
              refine lv_iload_n hx hb dX7_behindOrder_103 rfl (lv_at hl 2 rfl) ?_
              refine lv_iconst (v := 2) hx hb dX7_behindOrder_104 (by decide) ?_
              refine lv_iadd hx hb dX7_behindOrder_105 ?_
              exact W.iret (v := (place + 2)) hx hb hr (fun t ht hW => ⟨⟨(place + 2), (), rfl, hres.symm, trivial⟩, hS.F ht⟩) hS.2.2 dX7_behindOrder_106
            · rw [if_neg c_20] at hres
              refine lv_iload_n hx hb dX7_behindOrder_97 rfl (lv_at hl 2 rfl) ?_
              refine lv_iconst (v := 3) hx hb dX7_behindOrder_98 (by decide) ?_
              refine lv_iadd hx hb dX7_behindOrder_99 ?_
              refine lv_goto (tgt := 106) hx hb dX7_behindOrder_100 (by decide) ?_
              exact W.iret (v := (place + 3)) hx hb hr (fun t ht hW => ⟨⟨(place + 3), (), rfl, hres.symm, trivial⟩, hS.F ht⟩) hS.2.2 dX7_behindOrder_106
        · rw [if_pos c_15] at hres
          refine lv_bipush (v := (-2)) hx hb dX7_behindOrder_66 (by decide) ?_
          refine lv_iload_n hx hb dX7_behindOrder_68 rfl (lv_at hl 2 rfl) ?_
          refine lv_isub hx hb dX7_behindOrder_69 ?_
          exact W.iret (v := ((-2 : Int32) - place)) hx hb hr (fun t ht hW => ⟨⟨((-2 : Int32) - place), (), rfl, hres.symm, trivial⟩, hS.F ht⟩) hS.2.2 dX7_behindOrder_70
      · rw [if_neg c_12] at hres
        refine lv_iload_n hx hb dX7_behindOrder_28 rfl (lv_at hl 0 rfl) ?_
        refine lv_bipush (v := 119) hx hb dX7_behindOrder_29 (by decide) ?_
        refine lv_icmp_eq (tgt := 50) hx hb dX7_behindOrder_31 (by decide) (fun c_21 => ?_) (fun c_21 => ?_)
        · rw [if_pos c_21] at hres
          refine lv_aload_n hx hb dX7_behindOrder_50 rfl (lv_at hl 1 rfl) ?_
          refine lv_iload_n hx hb dX7_behindOrder_51 rfl (lv_at hl 2 rfl) ?_
          refine lv_iconst (v := 1) hx hb dX7_behindOrder_52 (by decide) ?_
          refine lv_iadd hx hb dX7_behindOrder_53 ?_
          obtain ⟨r_22, hr_22⟩ : ∃ z, z = F_Model_digitAt (place + 1) vln vpd := ⟨_, rfl⟩
          rw [bnd_e hr_22] at hres
          refine ro_calli (va_runV (As := [.int (place + 1)]) (rest := []) ⟨hx, hb, hml, hown, hts⟩ (c_Model_digitAt l dC dI cI cC cG cZ mo ms mah mhi msl msv mpd mlb (place + 1) vkp vln vpd (sm_up (q := 1) hs9 rfl (by decide)) hln r_22 hr_22) (cwV 1 hts gX7_behindOrder_X7_digitAt rfl rfl rfl (by decide +kernel) ⟨Nat.le_of_ble_eq_true rfl, Nat.le_of_ble_eq_true rfl⟩) (ro_preV (hP.sub (ws' := [(mo, .inr (7, [.ref ms, .ref mah, .ref mhi, .int vkp, .ref msl, .ref msv, .ref mpd, .int vln, .ref mlb])), (mpd, .inl (cI, 80, .inl vpd))]) [0, 1] rfl) hK (ci := 7) (q0 := 0) rfl rfl) rfl rfl hl.1 rfl (lv_room (Nat.le_of_ble_eq_true rfl)) dX7_behindOrder_54 ⟨Nat.zero_le _, Nat.zero_le _⟩) hP hS (fun H locs hP hS => ?_)
          refine lv_iconst (v := 0) hx hb dX7_behindOrder_57 (by decide) ?_
          refine lv_bipush (v := 9) hx hb dX7_behindOrder_58 (by decide) ?_
          obtain ⟨r_23, hr_23⟩ : ∃ z, z = F_Model_in r_22 (0 : Int32) (9 : Int32) := ⟨_, rfl⟩
          rw [bnd_e hr_23] at hres
          refine ro_calli (va_runS (As := [.int r_22, .int 0, .int 9]) (rest := []) ⟨hx, hb, hml, hown, hts⟩ (c_Model_in l dC dI cI cC cG cZ  r_22 (0 : Int32) (9 : Int32)  r_23 hr_23) (va_cwS 3 hts gX7_behindOrder_X7_in rfl rfl rfl (by decide +kernel) ⟨Nat.le_of_ble_eq_true rfl, Nat.le_of_ble_eq_true rfl⟩) (ro_preS (hP.sub (ws' := []) [] rfl) hK) rfl rfl hl.1 rfl (lv_room (Nat.le_of_ble_eq_true rfl)) dX7_behindOrder_60 ⟨Nat.zero_le _, Nat.zero_le _⟩) hP hS (fun H locs hP hS => ?_)
          refine lv_if_ne (tgt := 71) hx hb dX7_behindOrder_63 (by decide) (fun c_24 => ?_) (fun c_24 => ?_)
          · rw [if_neg c_24] at hres
            refine lv_aload_n hx hb dX7_behindOrder_71 rfl (lv_at hl 1 rfl) ?_
            refine lv_iload_n hx hb dX7_behindOrder_72 rfl (lv_at hl 2 rfl) ?_
            refine lv_iconst (v := 1) hx hb dX7_behindOrder_73 (by decide) ?_
            refine lv_iadd hx hb dX7_behindOrder_74 ?_
            obtain ⟨r_25, hr_25⟩ : ∃ z, z = F_Model_digitAt (place + 1) vln vpd := ⟨_, rfl⟩
            rw [bnd_e hr_25] at hres
            refine ro_calli (va_runV (As := [.int (place + 1)]) (rest := []) ⟨hx, hb, hml, hown, hts⟩ (c_Model_digitAt l dC dI cI cC cG cZ mo ms mah mhi msl msv mpd mlb (place + 1) vkp vln vpd (sm_up (q := 1) hs9 rfl (by decide)) hln r_25 hr_25) (cwV 1 hts gX7_behindOrder_X7_digitAt rfl rfl rfl (by decide +kernel) ⟨Nat.le_of_ble_eq_true rfl, Nat.le_of_ble_eq_true rfl⟩) (ro_preV (hP.sub (ws' := [(mo, .inr (7, [.ref ms, .ref mah, .ref mhi, .int vkp, .ref msl, .ref msv, .ref mpd, .int vln, .ref mlb])), (mpd, .inl (cI, 80, .inl vpd))]) [0, 1] rfl) hK (ci := 7) (q0 := 0) rfl rfl) rfl rfl hl.1 rfl (lv_room (Nat.le_of_ble_eq_true rfl)) dX7_behindOrder_75 ⟨Nat.zero_le _, Nat.zero_le _⟩) hP hS (fun H locs hP hS => ?_)
            refine lv_if_le (tgt := 103) hx hb dX7_behindOrder_78 (by decide) (fun c_26 => ?_) (fun c_26 => ?_)
            · rw [if_pos c_26] at hres
              refine lv_iload_n hx hb dX7_behindOrder_103 rfl (lv_at hl 2 rfl) ?_
              refine lv_iconst (v := 2) hx hb dX7_behindOrder_104 (by decide) ?_
              refine lv_iadd hx hb dX7_behindOrder_105 ?_
              exact W.iret (v := (place + 2)) hx hb hr (fun t ht hW => ⟨⟨(place + 2), (), rfl, hres.symm, trivial⟩, hS.F ht⟩) hS.2.2 dX7_behindOrder_106
            · rw [if_neg c_26] at hres
              refine lv_aload_n hx hb dX7_behindOrder_81 rfl (lv_at hl 1 rfl) ?_
              refine lv_iload_n hx hb dX7_behindOrder_82 rfl (lv_at hl 2 rfl) ?_
              refine lv_iconst (v := 2) hx hb dX7_behindOrder_83 (by decide) ?_
              refine lv_iadd hx hb dX7_behindOrder_84 ?_
              obtain ⟨r_27, hr_27⟩ : ∃ z, z = F_Model_digitAt (place + 2) vln vpd := ⟨_, rfl⟩
              rw [bnd_e hr_27] at hres
              refine ro_calli (va_runV (As := [.int (place + 2)]) (rest := []) ⟨hx, hb, hml, hown, hts⟩ (c_Model_digitAt l dC dI cI cC cG cZ mo ms mah mhi msl msv mpd mlb (place + 2) vkp vln vpd (sm_up (q := 2) hs9 rfl (by decide)) hln r_27 hr_27) (cwV 1 hts gX7_behindOrder_X7_digitAt rfl rfl rfl (by decide +kernel) ⟨Nat.le_of_ble_eq_true rfl, Nat.le_of_ble_eq_true rfl⟩) (ro_preV (hP.sub (ws' := [(mo, .inr (7, [.ref ms, .ref mah, .ref mhi, .int vkp, .ref msl, .ref msv, .ref mpd, .int vln, .ref mlb])), (mpd, .inl (cI, 80, .inl vpd))]) [0, 1] rfl) hK (ci := 7) (q0 := 0) rfl rfl) rfl rfl hl.1 rfl (lv_room (Nat.le_of_ble_eq_true rfl)) dX7_behindOrder_85 ⟨Nat.zero_le _, Nat.zero_le _⟩) hP hS (fun H locs hP hS => ?_)
              refine lv_iconst (v := 0) hx hb dX7_behindOrder_88 (by decide) ?_
              refine lv_bipush (v := 9) hx hb dX7_behindOrder_89 (by decide) ?_
              obtain ⟨r_28, hr_28⟩ : ∃ z, z = F_Model_in r_27 (0 : Int32) (9 : Int32) := ⟨_, rfl⟩
              rw [bnd_e hr_28] at hres
              refine ro_calli (va_runS (As := [.int r_27, .int 0, .int 9]) (rest := []) ⟨hx, hb, hml, hown, hts⟩ (c_Model_in l dC dI cI cC cG cZ  r_27 (0 : Int32) (9 : Int32)  r_28 hr_28) (va_cwS 3 hts gX7_behindOrder_X7_in rfl rfl rfl (by decide +kernel) ⟨Nat.le_of_ble_eq_true rfl, Nat.le_of_ble_eq_true rfl⟩) (ro_preS (hP.sub (ws' := []) [] rfl) hK) rfl rfl hl.1 rfl (lv_room (Nat.le_of_ble_eq_true rfl)) dX7_behindOrder_91 ⟨Nat.zero_le _, Nat.zero_le _⟩) hP hS (fun H locs hP hS => ?_)
              refine lv_if_eq (tgt := 103) hx hb dX7_behindOrder_94 (by decide) (fun c_29 => ?_) (fun c_29 => ?_)
              · rw [if_pos c_29] at hres
                refine lv_iload_n hx hb dX7_behindOrder_103 rfl (lv_at hl 2 rfl) ?_
                refine lv_iconst (v := 2) hx hb dX7_behindOrder_104 (by decide) ?_
                refine lv_iadd hx hb dX7_behindOrder_105 ?_
                exact W.iret (v := (place + 2)) hx hb hr (fun t ht hW => ⟨⟨(place + 2), (), rfl, hres.symm, trivial⟩, hS.F ht⟩) hS.2.2 dX7_behindOrder_106
              · rw [if_neg c_29] at hres
                refine lv_iload_n hx hb dX7_behindOrder_97 rfl (lv_at hl 2 rfl) ?_
                refine lv_iconst (v := 3) hx hb dX7_behindOrder_98 (by decide) ?_
                refine lv_iadd hx hb dX7_behindOrder_99 ?_
                refine lv_goto (tgt := 106) hx hb dX7_behindOrder_100 (by decide) ?_
                exact W.iret (v := (place + 3)) hx hb hr (fun t ht hW => ⟨⟨(place + 3), (), rfl, hres.symm, trivial⟩, hS.F ht⟩) hS.2.2 dX7_behindOrder_106
          · rw [if_pos c_24] at hres
            refine lv_bipush (v := (-2)) hx hb dX7_behindOrder_66 (by decide) ?_
            refine lv_iload_n hx hb dX7_behindOrder_68 rfl (lv_at hl 2 rfl) ?_
            refine lv_isub hx hb dX7_behindOrder_69 ?_
            exact W.iret (v := ((-2 : Int32) - place)) hx hb hr (fun t ht hW => ⟨⟨((-2 : Int32) - place), (), rfl, hres.symm, trivial⟩, hS.F ht⟩) hS.2.2 dX7_behindOrder_70
        · rw [if_neg c_21] at hres
          refine lv_iload_n hx hb dX7_behindOrder_34 rfl (lv_at hl 0 rfl) ?_
          refine lv_bipush (v := 98) hx hb dX7_behindOrder_35 (by decide) ?_
          refine lv_icmp_eq (tgt := 50) hx hb dX7_behindOrder_37 (by decide) (fun c_30 => ?_) (fun c_30 => ?_)
          · rw [if_pos c_30] at hres
            refine lv_aload_n hx hb dX7_behindOrder_50 rfl (lv_at hl 1 rfl) ?_
            refine lv_iload_n hx hb dX7_behindOrder_51 rfl (lv_at hl 2 rfl) ?_
            refine lv_iconst (v := 1) hx hb dX7_behindOrder_52 (by decide) ?_
            refine lv_iadd hx hb dX7_behindOrder_53 ?_
            obtain ⟨r_31, hr_31⟩ : ∃ z, z = F_Model_digitAt (place + 1) vln vpd := ⟨_, rfl⟩
            rw [bnd_e hr_31] at hres
            refine ro_calli (va_runV (As := [.int (place + 1)]) (rest := []) ⟨hx, hb, hml, hown, hts⟩ (c_Model_digitAt l dC dI cI cC cG cZ mo ms mah mhi msl msv mpd mlb (place + 1) vkp vln vpd (sm_up (q := 1) hs9 rfl (by decide)) hln r_31 hr_31) (cwV 1 hts gX7_behindOrder_X7_digitAt rfl rfl rfl (by decide +kernel) ⟨Nat.le_of_ble_eq_true rfl, Nat.le_of_ble_eq_true rfl⟩) (ro_preV (hP.sub (ws' := [(mo, .inr (7, [.ref ms, .ref mah, .ref mhi, .int vkp, .ref msl, .ref msv, .ref mpd, .int vln, .ref mlb])), (mpd, .inl (cI, 80, .inl vpd))]) [0, 1] rfl) hK (ci := 7) (q0 := 0) rfl rfl) rfl rfl hl.1 rfl (lv_room (Nat.le_of_ble_eq_true rfl)) dX7_behindOrder_54 ⟨Nat.zero_le _, Nat.zero_le _⟩) hP hS (fun H locs hP hS => ?_)
            refine lv_iconst (v := 0) hx hb dX7_behindOrder_57 (by decide) ?_
            refine lv_bipush (v := 9) hx hb dX7_behindOrder_58 (by decide) ?_
            obtain ⟨r_32, hr_32⟩ : ∃ z, z = F_Model_in r_31 (0 : Int32) (9 : Int32) := ⟨_, rfl⟩
            rw [bnd_e hr_32] at hres
            refine ro_calli (va_runS (As := [.int r_31, .int 0, .int 9]) (rest := []) ⟨hx, hb, hml, hown, hts⟩ (c_Model_in l dC dI cI cC cG cZ  r_31 (0 : Int32) (9 : Int32)  r_32 hr_32) (va_cwS 3 hts gX7_behindOrder_X7_in rfl rfl rfl (by decide +kernel) ⟨Nat.le_of_ble_eq_true rfl, Nat.le_of_ble_eq_true rfl⟩) (ro_preS (hP.sub (ws' := []) [] rfl) hK) rfl rfl hl.1 rfl (lv_room (Nat.le_of_ble_eq_true rfl)) dX7_behindOrder_60 ⟨Nat.zero_le _, Nat.zero_le _⟩) hP hS (fun H locs hP hS => ?_)
            refine lv_if_ne (tgt := 71) hx hb dX7_behindOrder_63 (by decide) (fun c_33 => ?_) (fun c_33 => ?_)
            · rw [if_neg c_33] at hres
              refine lv_aload_n hx hb dX7_behindOrder_71 rfl (lv_at hl 1 rfl) ?_
              refine lv_iload_n hx hb dX7_behindOrder_72 rfl (lv_at hl 2 rfl) ?_
              refine lv_iconst (v := 1) hx hb dX7_behindOrder_73 (by decide) ?_
              refine lv_iadd hx hb dX7_behindOrder_74 ?_
              obtain ⟨r_34, hr_34⟩ : ∃ z, z = F_Model_digitAt (place + 1) vln vpd := ⟨_, rfl⟩
              rw [bnd_e hr_34] at hres
              refine ro_calli (va_runV (As := [.int (place + 1)]) (rest := []) ⟨hx, hb, hml, hown, hts⟩ (c_Model_digitAt l dC dI cI cC cG cZ mo ms mah mhi msl msv mpd mlb (place + 1) vkp vln vpd (sm_up (q := 1) hs9 rfl (by decide)) hln r_34 hr_34) (cwV 1 hts gX7_behindOrder_X7_digitAt rfl rfl rfl (by decide +kernel) ⟨Nat.le_of_ble_eq_true rfl, Nat.le_of_ble_eq_true rfl⟩) (ro_preV (hP.sub (ws' := [(mo, .inr (7, [.ref ms, .ref mah, .ref mhi, .int vkp, .ref msl, .ref msv, .ref mpd, .int vln, .ref mlb])), (mpd, .inl (cI, 80, .inl vpd))]) [0, 1] rfl) hK (ci := 7) (q0 := 0) rfl rfl) rfl rfl hl.1 rfl (lv_room (Nat.le_of_ble_eq_true rfl)) dX7_behindOrder_75 ⟨Nat.zero_le _, Nat.zero_le _⟩) hP hS (fun H locs hP hS => ?_)
              refine lv_if_le (tgt := 103) hx hb dX7_behindOrder_78 (by decide) (fun c_35 => ?_) (fun c_35 => ?_)
              · rw [if_pos c_35] at hres
                refine lv_iload_n hx hb dX7_behindOrder_103 rfl (lv_at hl 2 rfl) ?_
                refine lv_iconst (v := 2) hx hb dX7_behindOrder_104 (by decide) ?_
                refine lv_iadd hx hb dX7_behindOrder_105 ?_
                exact W.iret (v := (place + 2)) hx hb hr (fun t ht hW => ⟨⟨(place + 2), (), rfl, hres.symm, trivial⟩, hS.F ht⟩) hS.2.2 dX7_behindOrder_106
              · rw [if_neg c_35] at hres
                refine lv_aload_n hx hb dX7_behindOrder_81 rfl (lv_at hl 1 rfl) ?_
                refine lv_iload_n hx hb dX7_behindOrder_82 rfl (lv_at hl 2 rfl) ?_
                refine lv_iconst (v := 2) hx hb dX7_behindOrder_83 (by decide) ?_
                refine lv_iadd hx hb dX7_behindOrder_84 ?_
                obtain ⟨r_36, hr_36⟩ : ∃ z, z = F_Model_digitAt (place + 2) vln vpd := ⟨_, rfl⟩
                rw [bnd_e hr_36] at hres
                refine ro_calli (va_runV (As := [.int (place + 2)]) (rest := []) ⟨hx, hb, hml, hown, hts⟩ (c_Model_digitAt l dC dI cI cC cG cZ mo ms mah mhi msl msv mpd mlb (place + 2) vkp vln vpd (sm_up (q := 2) hs9 rfl (by decide)) hln r_36 hr_36) (cwV 1 hts gX7_behindOrder_X7_digitAt rfl rfl rfl (by decide +kernel) ⟨Nat.le_of_ble_eq_true rfl, Nat.le_of_ble_eq_true rfl⟩) (ro_preV (hP.sub (ws' := [(mo, .inr (7, [.ref ms, .ref mah, .ref mhi, .int vkp, .ref msl, .ref msv, .ref mpd, .int vln, .ref mlb])), (mpd, .inl (cI, 80, .inl vpd))]) [0, 1] rfl) hK (ci := 7) (q0 := 0) rfl rfl) rfl rfl hl.1 rfl (lv_room (Nat.le_of_ble_eq_true rfl)) dX7_behindOrder_85 ⟨Nat.zero_le _, Nat.zero_le _⟩) hP hS (fun H locs hP hS => ?_)
                refine lv_iconst (v := 0) hx hb dX7_behindOrder_88 (by decide) ?_
                refine lv_bipush (v := 9) hx hb dX7_behindOrder_89 (by decide) ?_
                obtain ⟨r_37, hr_37⟩ : ∃ z, z = F_Model_in r_36 (0 : Int32) (9 : Int32) := ⟨_, rfl⟩
                rw [bnd_e hr_37] at hres
                refine ro_calli (va_runS (As := [.int r_36, .int 0, .int 9]) (rest := []) ⟨hx, hb, hml, hown, hts⟩ (c_Model_in l dC dI cI cC cG cZ  r_36 (0 : Int32) (9 : Int32)  r_37 hr_37) (va_cwS 3 hts gX7_behindOrder_X7_in rfl rfl rfl (by decide +kernel) ⟨Nat.le_of_ble_eq_true rfl, Nat.le_of_ble_eq_true rfl⟩) (ro_preS (hP.sub (ws' := []) [] rfl) hK) rfl rfl hl.1 rfl (lv_room (Nat.le_of_ble_eq_true rfl)) dX7_behindOrder_91 ⟨Nat.zero_le _, Nat.zero_le _⟩) hP hS (fun H locs hP hS => ?_)
                refine lv_if_eq (tgt := 103) hx hb dX7_behindOrder_94 (by decide) (fun c_38 => ?_) (fun c_38 => ?_)
                · rw [if_pos c_38] at hres
                  refine lv_iload_n hx hb dX7_behindOrder_103 rfl (lv_at hl 2 rfl) ?_
                  refine lv_iconst (v := 2) hx hb dX7_behindOrder_104 (by decide) ?_
                  refine lv_iadd hx hb dX7_behindOrder_105 ?_
                  exact W.iret (v := (place + 2)) hx hb hr (fun t ht hW => ⟨⟨(place + 2), (), rfl, hres.symm, trivial⟩, hS.F ht⟩) hS.2.2 dX7_behindOrder_106
                · rw [if_neg c_38] at hres
                  refine lv_iload_n hx hb dX7_behindOrder_97 rfl (lv_at hl 2 rfl) ?_
                  refine lv_iconst (v := 3) hx hb dX7_behindOrder_98 (by decide) ?_
                  refine lv_iadd hx hb dX7_behindOrder_99 ?_
                  refine lv_goto (tgt := 106) hx hb dX7_behindOrder_100 (by decide) ?_
                  exact W.iret (v := (place + 3)) hx hb hr (fun t ht hW => ⟨⟨(place + 3), (), rfl, hres.symm, trivial⟩, hS.F ht⟩) hS.2.2 dX7_behindOrder_106
            · rw [if_pos c_33] at hres
              refine lv_bipush (v := (-2)) hx hb dX7_behindOrder_66 (by decide) ?_
              refine lv_iload_n hx hb dX7_behindOrder_68 rfl (lv_at hl 2 rfl) ?_
              refine lv_isub hx hb dX7_behindOrder_69 ?_
              exact W.iret (v := ((-2 : Int32) - place)) hx hb hr (fun t ht hW => ⟨⟨((-2 : Int32) - place), (), rfl, hres.symm, trivial⟩, hS.F ht⟩) hS.2.2 dX7_behindOrder_70
          · rw [if_neg c_30] at hres
            refine lv_iload_n hx hb dX7_behindOrder_40 rfl (lv_at hl 0 rfl) ?_
            refine lv_bipush (v := 100) hx hb dX7_behindOrder_41 (by decide) ?_
            refine lv_icmp_eq (tgt := 50) hx hb dX7_behindOrder_43 (by decide) (fun c_39 => ?_) (fun c_39 => ?_)
            · rw [if_pos c_39] at hres
              refine lv_aload_n hx hb dX7_behindOrder_50 rfl (lv_at hl 1 rfl) ?_
              refine lv_iload_n hx hb dX7_behindOrder_51 rfl (lv_at hl 2 rfl) ?_
              refine lv_iconst (v := 1) hx hb dX7_behindOrder_52 (by decide) ?_
              refine lv_iadd hx hb dX7_behindOrder_53 ?_
              obtain ⟨r_40, hr_40⟩ : ∃ z, z = F_Model_digitAt (place + 1) vln vpd := ⟨_, rfl⟩
              rw [bnd_e hr_40] at hres
              refine ro_calli (va_runV (As := [.int (place + 1)]) (rest := []) ⟨hx, hb, hml, hown, hts⟩ (c_Model_digitAt l dC dI cI cC cG cZ mo ms mah mhi msl msv mpd mlb (place + 1) vkp vln vpd (sm_up (q := 1) hs9 rfl (by decide)) hln r_40 hr_40) (cwV 1 hts gX7_behindOrder_X7_digitAt rfl rfl rfl (by decide +kernel) ⟨Nat.le_of_ble_eq_true rfl, Nat.le_of_ble_eq_true rfl⟩) (ro_preV (hP.sub (ws' := [(mo, .inr (7, [.ref ms, .ref mah, .ref mhi, .int vkp, .ref msl, .ref msv, .ref mpd, .int vln, .ref mlb])), (mpd, .inl (cI, 80, .inl vpd))]) [0, 1] rfl) hK (ci := 7) (q0 := 0) rfl rfl) rfl rfl hl.1 rfl (lv_room (Nat.le_of_ble_eq_true rfl)) dX7_behindOrder_54 ⟨Nat.zero_le _, Nat.zero_le _⟩) hP hS (fun H locs hP hS => ?_)
              refine lv_iconst (v := 0) hx hb dX7_behindOrder_57 (by decide) ?_
              refine lv_bipush (v := 9) hx hb dX7_behindOrder_58 (by decide) ?_
              obtain ⟨r_41, hr_41⟩ : ∃ z, z = F_Model_in r_40 (0 : Int32) (9 : Int32) := ⟨_, rfl⟩
              rw [bnd_e hr_41] at hres
              refine ro_calli (va_runS (As := [.int r_40, .int 0, .int 9]) (rest := []) ⟨hx, hb, hml, hown, hts⟩ (c_Model_in l dC dI cI cC cG cZ  r_40 (0 : Int32) (9 : Int32)  r_41 hr_41) (va_cwS 3 hts gX7_behindOrder_X7_in rfl rfl rfl (by decide +kernel) ⟨Nat.le_of_ble_eq_true rfl, Nat.le_of_ble_eq_true rfl⟩) (ro_preS (hP.sub (ws' := []) [] rfl) hK) rfl rfl hl.1 rfl (lv_room (Nat.le_of_ble_eq_true rfl)) dX7_behindOrder_60 ⟨Nat.zero_le _, Nat.zero_le _⟩) hP hS (fun H locs hP hS => ?_)
              refine lv_if_ne (tgt := 71) hx hb dX7_behindOrder_63 (by decide) (fun c_42 => ?_) (fun c_42 => ?_)
              · rw [if_neg c_42] at hres
                refine lv_aload_n hx hb dX7_behindOrder_71 rfl (lv_at hl 1 rfl) ?_
                refine lv_iload_n hx hb dX7_behindOrder_72 rfl (lv_at hl 2 rfl) ?_
                refine lv_iconst (v := 1) hx hb dX7_behindOrder_73 (by decide) ?_
                refine lv_iadd hx hb dX7_behindOrder_74 ?_
                obtain ⟨r_43, hr_43⟩ : ∃ z, z = F_Model_digitAt (place + 1) vln vpd := ⟨_, rfl⟩
                rw [bnd_e hr_43] at hres
                refine ro_calli (va_runV (As := [.int (place + 1)]) (rest := []) ⟨hx, hb, hml, hown, hts⟩ (c_Model_digitAt l dC dI cI cC cG cZ mo ms mah mhi msl msv mpd mlb (place + 1) vkp vln vpd (sm_up (q := 1) hs9 rfl (by decide)) hln r_43 hr_43) (cwV 1 hts gX7_behindOrder_X7_digitAt rfl rfl rfl (by decide +kernel) ⟨Nat.le_of_ble_eq_true rfl, Nat.le_of_ble_eq_true rfl⟩) (ro_preV (hP.sub (ws' := [(mo, .inr (7, [.ref ms, .ref mah, .ref mhi, .int vkp, .ref msl, .ref msv, .ref mpd, .int vln, .ref mlb])), (mpd, .inl (cI, 80, .inl vpd))]) [0, 1] rfl) hK (ci := 7) (q0 := 0) rfl rfl) rfl rfl hl.1 rfl (lv_room (Nat.le_of_ble_eq_true rfl)) dX7_behindOrder_75 ⟨Nat.zero_le _, Nat.zero_le _⟩) hP hS (fun H locs hP hS => ?_)
                refine lv_if_le (tgt := 103) hx hb dX7_behindOrder_78 (by decide) (fun c_44 => ?_) (fun c_44 => ?_)
                · rw [if_pos c_44] at hres
                  refine lv_iload_n hx hb dX7_behindOrder_103 rfl (lv_at hl 2 rfl) ?_
                  refine lv_iconst (v := 2) hx hb dX7_behindOrder_104 (by decide) ?_
                  refine lv_iadd hx hb dX7_behindOrder_105 ?_
                  exact W.iret (v := (place + 2)) hx hb hr (fun t ht hW => ⟨⟨(place + 2), (), rfl, hres.symm, trivial⟩, hS.F ht⟩) hS.2.2 dX7_behindOrder_106
                · rw [if_neg c_44] at hres
                  refine lv_aload_n hx hb dX7_behindOrder_81 rfl (lv_at hl 1 rfl) ?_
                  refine lv_iload_n hx hb dX7_behindOrder_82 rfl (lv_at hl 2 rfl) ?_
                  refine lv_iconst (v := 2) hx hb dX7_behindOrder_83 (by decide) ?_
                  refine lv_iadd hx hb dX7_behindOrder_84 ?_
                  obtain ⟨r_45, hr_45⟩ : ∃ z, z = F_Model_digitAt (place + 2) vln vpd := ⟨_, rfl⟩
                  rw [bnd_e hr_45] at hres
                  refine ro_calli (va_runV (As := [.int (place + 2)]) (rest := []) ⟨hx, hb, hml, hown, hts⟩ (c_Model_digitAt l dC dI cI cC cG cZ mo ms mah mhi msl msv mpd mlb (place + 2) vkp vln vpd (sm_up (q := 2) hs9 rfl (by decide)) hln r_45 hr_45) (cwV 1 hts gX7_behindOrder_X7_digitAt rfl rfl rfl (by decide +kernel) ⟨Nat.le_of_ble_eq_true rfl, Nat.le_of_ble_eq_true rfl⟩) (ro_preV (hP.sub (ws' := [(mo, .inr (7, [.ref ms, .ref mah, .ref mhi, .int vkp, .ref msl, .ref msv, .ref mpd, .int vln, .ref mlb])), (mpd, .inl (cI, 80, .inl vpd))]) [0, 1] rfl) hK (ci := 7) (q0 := 0) rfl rfl) rfl rfl hl.1 rfl (lv_room (Nat.le_of_ble_eq_true rfl)) dX7_behindOrder_85 ⟨Nat.zero_le _, Nat.zero_le _⟩) hP hS (fun H locs hP hS => ?_)
                  refine lv_iconst (v := 0) hx hb dX7_behindOrder_88 (by decide) ?_
                  refine lv_bipush (v := 9) hx hb dX7_behindOrder_89 (by decide) ?_
                  obtain ⟨r_46, hr_46⟩ : ∃ z, z = F_Model_in r_45 (0 : Int32) (9 : Int32) := ⟨_, rfl⟩
                  rw [bnd_e hr_46] at hres
                  refine ro_calli (va_runS (As := [.int r_45, .int 0, .int 9]) (rest := []) ⟨hx, hb, hml, hown, hts⟩ (c_Model_in l dC dI cI cC cG cZ  r_45 (0 : Int32) (9 : Int32)  r_46 hr_46) (va_cwS 3 hts gX7_behindOrder_X7_in rfl rfl rfl (by decide +kernel) ⟨Nat.le_of_ble_eq_true rfl, Nat.le_of_ble_eq_true rfl⟩) (ro_preS (hP.sub (ws' := []) [] rfl) hK) rfl rfl hl.1 rfl (lv_room (Nat.le_of_ble_eq_true rfl)) dX7_behindOrder_91 ⟨Nat.zero_le _, Nat.zero_le _⟩) hP hS (fun H locs hP hS => ?_)
                  refine lv_if_eq (tgt := 103) hx hb dX7_behindOrder_94 (by decide) (fun c_47 => ?_) (fun c_47 => ?_)
                  · rw [if_pos c_47] at hres
                    refine lv_iload_n hx hb dX7_behindOrder_103 rfl (lv_at hl 2 rfl) ?_
                    refine lv_iconst (v := 2) hx hb dX7_behindOrder_104 (by decide) ?_
                    refine lv_iadd hx hb dX7_behindOrder_105 ?_
                    exact W.iret (v := (place + 2)) hx hb hr (fun t ht hW => ⟨⟨(place + 2), (), rfl, hres.symm, trivial⟩, hS.F ht⟩) hS.2.2 dX7_behindOrder_106
                  · rw [if_neg c_47] at hres
                    refine lv_iload_n hx hb dX7_behindOrder_97 rfl (lv_at hl 2 rfl) ?_
                    refine lv_iconst (v := 3) hx hb dX7_behindOrder_98 (by decide) ?_
                    refine lv_iadd hx hb dX7_behindOrder_99 ?_
                    refine lv_goto (tgt := 106) hx hb dX7_behindOrder_100 (by decide) ?_
                    exact W.iret (v := (place + 3)) hx hb hr (fun t ht hW => ⟨⟨(place + 3), (), rfl, hres.symm, trivial⟩, hS.F ht⟩) hS.2.2 dX7_behindOrder_106
              · rw [if_pos c_42] at hres
                refine lv_bipush (v := (-2)) hx hb dX7_behindOrder_66 (by decide) ?_
                refine lv_iload_n hx hb dX7_behindOrder_68 rfl (lv_at hl 2 rfl) ?_
                refine lv_isub hx hb dX7_behindOrder_69 ?_
                exact W.iret (v := ((-2 : Int32) - place)) hx hb hr (fun t ht hW => ⟨⟨((-2 : Int32) - place), (), rfl, hres.symm, trivial⟩, hS.F ht⟩) hS.2.2 dX7_behindOrder_70
            · rw [if_neg c_39] at hres
              refine lv_iconst (v := (-1)) hx hb dX7_behindOrder_46 (by decide) ?_
              refine lv_iload_n hx hb dX7_behindOrder_47 rfl (lv_at hl 2 rfl) ?_
              refine lv_isub hx hb dX7_behindOrder_48 ?_
              exact W.iret (v := ((-1 : Int32) - place)) hx hb hr (fun t ht hW => ⟨⟨((-1 : Int32) - place), (), rfl, hres.symm, trivial⟩, hS.F ht⟩) hS.2.2 dX7_behindOrder_49
  · rw [if_pos c_2] at hres
    refine lv_iload_n hx hb dX7_behindOrder_12 rfl (lv_at hl 2 rfl) ?_
    refine lv_iconst (v := 1) hx hb dX7_behindOrder_13 (by decide) ?_
    refine lv_iadd hx hb dX7_behindOrder_14 ?_
    exact W.iret (v := (place + 1)) hx hb hr (fun t ht hW => ⟨⟨(place + 1), (), rfl, hres.symm, trivial⟩, hS.F ht⟩) hS.2.2 dX7_behindOrder_15
theorem iX7_wrong_X7 : ∀ w ∈ u_ws RX7 TX7 9, w ∈ wsX7_wrong := by decide +kernel
theorem kX7_wrong_153 : Cond.fieldLink RX7 153 "TailorChalksModel" "length" "I" ∈ wsX7_wrong := by decide +kernel
theorem kX7_wrong_26 : Cond.fieldLink RX7 26 "TailorChalksModel" "pad" "[I" ∈ wsX7_wrong := by decide +kernel
def F_Model_wrong_L4 (vln : Int32) (vpd : Nat → Int32) : Nat → Int32 → Int32 → Int32
  | 0, x2, x1 => (-99)
  | n + 1, x2, x1 => (if x2 = 0 then (-6) else (bnd (F_Model_behindOrder x1 vln vpd) (fun r_2 => (if (0 : Int32) ≤ r_2 then (if vln ≤ r_2 then (F_Model_wrong_L4 vln vpd n (0 : Int32) (r_2 + 0)) else (if (vpd r_2.toNatClampNeg) = 59 then (F_Model_wrong_L4 vln vpd n (1 : Int32) (r_2 + 1)) else r_2)) else ((-1 : Int32) - r_2)))))
def F_Model_wrong (vln : Int32) (vpd : Nat → Int32) : Int32 := (F_Model_wrong_L4 vln vpd 90 (1 : Int32) (0 : Int32))
set_option maxHeartbeats 4000000 in
set_option maxRecDepth 100000 in
theorem c_Model_wrong (l : Launch) (dC : Nat → ClassId) (dI : Nat → Nat → Nat) (cI cC cG cZ : ClassId) (mo ms mah mhi msl msv mpd mlb : Nat) (vkp : Int32) (vln : Int32) (vpd : Nat → Int32) (hln : tm_ok 80 vln) (hfin : ¬ F_Model_wrong vln vpd = -99) (res : Int32) (hres : res = F_Model_wrong vln vpd) : Met l yX7_wrong wsX7_wrong ({ frames := 3, cells := 0, slots := 0, locals := 64 }) (va_Pc [.ref mo] (ro_P (dC, dI) vwCl (tyL cI cC cG cZ) [(mo, .inr (7, [.ref ms, .ref mah, .ref mhi, .int vkp, .ref msl, .ref msv, .ref mpd, .int vln, .ref mlb])), (mpd, .inl (cI, 80, .inl vpd))])) (va_Qi (fun r (_ : Unit) => r = res) (fun _ _ => True) ro_F) 0 0 ro_F := by
  refine Met.ofW (cc := cX7_wrong) (maxL := 3) (ret := (some .int)) (by decide) rfl ?_
  intro p e s m args below meth c s₁ B hml hv
  obtain ⟨rfl, hP, hK⟩ := hv
  have hx := B.exec
  have hb := B.bytes
  have hr := B.returns
  have hts := atoms_spec (ws := wsX7_wrong) B.pre
  have hown : s.vm.findClass RX7 = some m.cls := findClass_of_methodNamed B.named
  have hlocks := B.notSynchronized
  have hS : va_S ro_F s.heap s.heap [] := va_S.rf
  have hl := lv_entry ([.ref mo]) (n := 3) (Nat.le_of_ble_eq_true rfl)
  rw [lg_entry_eq]
  generalize (lg_sl ([.ref mo]) ++ List.replicate (3 - (lg_sl ([.ref mo])).length) Slot.unset).toArray = ls at hl ⊢
  have hl : lv_has ls 3 [(0, .ref mo)] := hl
  have hok0 : res ≠ -99 := by rw [hres]; exact hfin
  rw [F_Model_wrong] at hres
  refine lv_iconst (v := 0) hx hb dX7_wrong_0 (by decide) ?_
  refine lv_istore_n (lv' := [(1, .int 0), (0, .ref mo)]) hx hb dX7_wrong_1 rfl hl (by decide) rfl (fun ls hl => ?_)
  refine lv_iconst (v := 1) hx hb dX7_wrong_2 (by decide) ?_
  refine lv_istore_n (lv' := [(2, .int 1), (1, .int 0), (0, .ref mo)]) hx hb dX7_wrong_3 rfl hl (by decide) rfl (fun ls hl => ?_)
  have hok4 : res ≠ -99 := hok0
  have hloop4 : ∀ (n : Nat) (x2 : Int32) (x1 : Int32) (H : Heap) (locs : List Loc) (ls : Array Slot), res ≠ -99 → x2 = 0 ∨ sm9 x1 → res = F_Model_wrong_L4 vln vpd n x2 x1 → va_P (dC, dI) vwCl [(mo, .inr (7, [.ref ms, .ref mah, .ref mhi, .int vkp, .ref msl, .ref msv, .ref mpd, .int vln, .ref mlb])), (mpd, .inl (cI, 80, .inl vpd))] H → va_S ro_F s.heap H locs → lv_has ls 3 [(2, .int x2), (1, .int x1), (0, .ref mo)] → W p l e (headSpec wsX7_wrong ({ frames := 3, cells := 0, slots := 0, locals := 64 })).room s m ([.ref mo] : List Value).toArray below meth c H locs 0 0 (MQ below (va_Qi (fun r (_ : Unit) => r = res) (fun _ _ => True) ro_F) ([.ref mo] : List Value).toArray s 0 0 ro_F) (F0 m 4 ls []) := by
    intro n
    induction n with
    | zero => intro x2 x1 _ _ _ hok _ h0; rw [F_Model_wrong_L4] at h0; exact absurd hok (by rw [h0]; first | (show ¬ (0 : Int32) = 1; decide) | exact fun h => h rfl)
    | succ n ih4 =>
      intro x2 x1 H locs ls hok4 hs0 hres hP hS hl
      rw [F_Model_wrong_L4] at hres
      refine lv_iload_n hx hb dX7_wrong_4 rfl (lv_at hl 0 rfl) ?_
      refine lv_if_eq (tgt := 68) hx hb dX7_wrong_5 (by decide) (fun c_1 => ?_) (fun c_1 => ?_)
      · rw [if_pos c_1] at hres
        refine lv_bipush (v := (-6)) hx hb dX7_wrong_68 (by decide) ?_
        exact W.iret (v := (-6)) hx hb hr (fun t ht hW => ⟨⟨(-6), (), rfl, hres.symm, trivial⟩, hS.F ht⟩) hS.2.2 dX7_wrong_70
      · rw [if_neg c_1] at hres
        have hs9 := hs0.resolve_left c_1
        refine lv_aload_n hx hb dX7_wrong_8 rfl (lv_at hl 2 rfl) ?_
        refine lv_iload_n hx hb dX7_wrong_9 rfl (lv_at hl 1 rfl) ?_
        obtain ⟨r_2, hr_2⟩ : ∃ z, z = F_Model_behindOrder x1 vln vpd := ⟨_, rfl⟩
        rw [bnd_e hr_2] at hres
        refine ro_calli (va_runV (As := [.int x1]) (rest := []) ⟨hx, hb, hml, hown, hts⟩ (c_Model_behindOrder l dC dI cI cC cG cZ mo ms mah mhi msl msv mpd mlb x1 vkp vln vpd hs9 hln r_2 hr_2) (cwV 1 hts gX7_wrong_X7_behindOrder rfl rfl rfl (by decide +kernel) ⟨Nat.le_of_ble_eq_true rfl, Nat.le_of_ble_eq_true rfl⟩) (ro_preV (hP.sub (ws' := [(mo, .inr (7, [.ref ms, .ref mah, .ref mhi, .int vkp, .ref msl, .ref msv, .ref mpd, .int vln, .ref mlb])), (mpd, .inl (cI, 80, .inl vpd))]) [0, 1] rfl) hK (ci := 7) (q0 := 0) rfl rfl) rfl rfl hl.1 rfl (lv_room (Nat.le_of_ble_eq_true rfl)) dX7_wrong_10 ⟨Nat.zero_le _, Nat.zero_le _⟩) hP hS (fun H locs hP hS => ?_)
        refine lv_istore_n (lv' := [(1, .int r_2), (2, .int x2), (0, .ref mo)]) hx hb dX7_wrong_13 rfl hl (by decide) rfl (fun ls hl => ?_)
        refine lv_iload_n hx hb dX7_wrong_14 rfl (lv_at hl 0 rfl) ?_
        refine lv_if_ge (tgt := 22) hx hb dX7_wrong_15 (by decide) (fun c_3 => ?_) (fun c_3 => ?_)
        · rw [if_pos c_3] at hres
          refine lv_iload_n hx hb dX7_wrong_22 rfl (lv_at hl 0 rfl) ?_
          refine lv_aload_n hx hb dX7_wrong_23 rfl (lv_at hl 2 rfl) ?_
          refine va_get (D := (dC, dI)) (ci := 7) (v := .int vln) (C := RX7) (T := TX7) (N := 9) hx hb hts iX7_wrong_X7 hown hK hP 0 rfl rfl 7 (by decide) (hts (.fieldLink RX7 153 "TailorChalksModel" "length" "I") kX7_wrong_153) (fun _ h9 => h9) rfl dX7_wrong_24 ?_
          refine lv_icmp_ge (tgt := 34) hx hb dX7_wrong_27 (by decide) (fun c_4 => ?_) (fun c_4 => ?_)
          · rw [if_pos c_4] at hres
            refine lv_iconst (v := 0) hx hb dX7_wrong_34 (by decide) ?_
            refine lv_istore_n (lv' := [(2, .int 0), (1, .int r_2), (0, .ref mo)]) hx hb dX7_wrong_35 rfl hl (by decide) rfl (fun ls hl => ?_)
            refine lv_iload_n hx hb dX7_wrong_36 rfl (lv_at hl 0 rfl) ?_
            refine lv_if_eq (tgt := 53) hx hb dX7_wrong_37 (by decide) (fun c_5 => ?_) (fun c_5 => ?_)
            rotate_left
            · exact absurd (by decide) c_5
            refine lv_iload_n hx hb dX7_wrong_53 rfl (lv_at hl 1 rfl) ?_
            refine lv_iload_n hx hb dX7_wrong_54 rfl (lv_at hl 0 rfl) ?_
            refine lv_if_eq (tgt := 62) hx hb dX7_wrong_55 (by decide) (fun c_6 => ?_) (fun c_6 => ?_)
            rotate_left
            · exact absurd (by decide) c_6
            refine lv_iconst (v := 0) hx hb dX7_wrong_62 (by decide) ?_
            refine lv_iadd hx hb dX7_wrong_63 ?_
            refine lv_istore_n (lv' := [(1, .int (r_2 + 0)), (2, .int 0), (0, .ref mo)]) hx hb dX7_wrong_64 rfl hl (by decide) rfl (fun ls hl => ?_)
            refine lv_goto (tgt := 4) hx hb dX7_wrong_65 (by decide) ?_
            exact ih4 (0 : Int32) (r_2 + 0) _ _ _ hok4 (Or.inl rfl) hres hP hS (lv_sub hl [1, 0, 2] rfl)
          · rw [if_neg c_4] at hres
            refine lv_iconst (v := 1) hx hb dX7_wrong_30 (by decide) ?_
            refine lv_goto (tgt := 35) hx hb dX7_wrong_31 (by decide) ?_
            refine lv_istore_n (lv' := [(2, .int 1), (1, .int r_2), (0, .ref mo)]) hx hb dX7_wrong_35 rfl hl (by decide) rfl (fun ls hl => ?_)
            refine lv_iload_n hx hb dX7_wrong_36 rfl (lv_at hl 0 rfl) ?_
            refine lv_if_eq (tgt := 53) hx hb dX7_wrong_37 (by decide) (fun c_7 => ?_) (fun c_7 => ?_)
            · exact absurd c_7 (by decide)
            refine lv_aload_n hx hb dX7_wrong_40 rfl (lv_at hl 2 rfl) ?_
            refine va_get (D := (dC, dI)) (ci := 7) (v := .ref mpd) (C := RX7) (T := TX7) (N := 9) hx hb hts iX7_wrong_X7 hown hK hP 0 rfl rfl 6 (by decide) (hts (.fieldLink RX7 26 "TailorChalksModel" "pad" "[I") kX7_wrong_26) (fun _ h9 => h9) rfl dX7_wrong_41 ?_
            refine lv_iload_n hx hb dX7_wrong_44 rfl (lv_at hl 1 rfl) ?_
            refine va_iald hx hb hK hP 1 0 rfl rfl (sm_in (nn_of2 c_3) hln (by decide) c_4) dX7_wrong_45 ?_
            refine lv_bipush (v := 59) hx hb dX7_wrong_46 (by decide) ?_
            refine lv_icmp_eq (tgt := 53) hx hb dX7_wrong_48 (by decide) (fun c_8 => ?_) (fun c_8 => ?_)
            · rw [if_pos c_8] at hres
              refine lv_iload_n hx hb dX7_wrong_53 rfl (lv_at hl 1 rfl) ?_
              refine lv_iload_n hx hb dX7_wrong_54 rfl (lv_at hl 0 rfl) ?_
              refine lv_if_eq (tgt := 62) hx hb dX7_wrong_55 (by decide) (fun c_9 => ?_) (fun c_9 => ?_)
              · exact absurd c_9 (by decide)
              refine lv_iconst (v := 1) hx hb dX7_wrong_58 (by decide) ?_
              refine lv_goto (tgt := 63) hx hb dX7_wrong_59 (by decide) ?_
              refine lv_iadd hx hb dX7_wrong_63 ?_
              refine lv_istore_n (lv' := [(1, .int (r_2 + 1)), (2, .int 1), (0, .ref mo)]) hx hb dX7_wrong_64 rfl hl (by decide) rfl (fun ls hl => ?_)
              refine lv_goto (tgt := 4) hx hb dX7_wrong_65 (by decide) ?_
              exact ih4 (1 : Int32) (r_2 + 1) _ _ _ hok4 (Or.inr (sm9_up (nn_of2 c_3) hln c_4)) hres hP hS (lv_sub hl [1, 0, 2] rfl)
            · rw [if_neg c_8] at hres
              refine lv_iload_n hx hb dX7_wrong_51 rfl (lv_at hl 1 rfl) ?_
              exact W.iret (v := r_2) hx hb hr (fun t ht hW => ⟨⟨r_2, (), rfl, hres.symm, trivial⟩, hS.F ht⟩) hS.2.2 dX7_wrong_52
        · rw [if_neg c_3] at hres
          refine lv_iconst (v := (-1)) hx hb dX7_wrong_18 (by decide) ?_
          refine lv_iload_n hx hb dX7_wrong_19 rfl (lv_at hl 0 rfl) ?_
          refine lv_isub hx hb dX7_wrong_20 ?_
          exact W.iret (v := ((-1 : Int32) - r_2)) hx hb hr (fun t ht hW => ⟨⟨((-1 : Int32) - r_2), (), rfl, hres.symm, trivial⟩, hS.F ht⟩) hS.2.2 dX7_wrong_21
  exact hloop4 90 (1 : Int32) (0 : Int32) _ _ _ hok4 (Or.inr sm9_0) hres hP hS (lv_sub hl [0, 1, 2] rfl)
def F_Model_fault (vln : Int32) (vpd : Nat → Int32) : Int32 := (bnd (F_Model_wrong vln vpd) (fun r_1 => r_1))
set_option maxHeartbeats 4000000 in
set_option maxRecDepth 100000 in
theorem c_Model_fault (l : Launch) (dC : Nat → ClassId) (dI : Nat → Nat → Nat) (cI cC cG cZ : ClassId) (mo ms mah mhi msl msv mpd mlb : Nat) (vkp : Int32) (vln : Int32) (vpd : Nat → Int32) (hln : tm_ok 80 vln) (hfin : ¬ F_Model_wrong vln vpd = -99) (res : Int32) (hres : res = F_Model_fault vln vpd) : Met l yX7_fault wsX7_fault ({ frames := 4, cells := 0, slots := 0, locals := 86 }) (va_Pc [.ref mo] (ro_P (dC, dI) vwCl (tyL cI cC cG cZ) [(mo, .inr (7, [.ref ms, .ref mah, .ref mhi, .int vkp, .ref msl, .ref msv, .ref mpd, .int vln, .ref mlb])), (mpd, .inl (cI, 80, .inl vpd))])) (va_Qi (fun r (_ : Unit) => r = res) (fun _ _ => True) ro_F) 0 0 ro_F := by
  refine Met.ofW (cc := cX7_fault) (maxL := 1) (ret := (some .int)) (by decide) rfl ?_
  intro p e s m args below meth c s₁ B hml hv
  obtain ⟨rfl, hP, hK⟩ := hv
  have hx := B.exec
  have hb := B.bytes
  have hr := B.returns
  have hts := atoms_spec (ws := wsX7_fault) B.pre
  have hown : s.vm.findClass RX7 = some m.cls := findClass_of_methodNamed B.named
  have hlocks := B.notSynchronized
  have hS : va_S ro_F s.heap s.heap [] := va_S.rf
  have hl := lv_entry ([.ref mo]) (n := 1) (Nat.le_of_ble_eq_true rfl)
  rw [lg_entry_eq]
  generalize (lg_sl ([.ref mo]) ++ List.replicate (1 - (lg_sl ([.ref mo])).length) Slot.unset).toArray = ls at hl ⊢
  have hl : lv_has ls 1 [(0, .ref mo)] := hl
  rw [F_Model_fault] at hres
  refine lv_aload_n hx hb dX7_fault_0 rfl (lv_at hl 0 rfl) ?_
  obtain ⟨r_1, hr_1⟩ : ∃ z, z = F_Model_wrong vln vpd := ⟨_, rfl⟩
  rw [bnd_e hr_1] at hres
  refine ro_calli (va_runV (As := []) (rest := []) ⟨hx, hb, hml, hown, hts⟩ (c_Model_wrong l dC dI cI cC cG cZ mo ms mah mhi msl msv mpd mlb vkp vln vpd hln hfin r_1 hr_1) (cwV 0 hts gX7_fault_X7_wrong rfl rfl rfl (by decide +kernel) ⟨Nat.le_of_ble_eq_true rfl, Nat.le_of_ble_eq_true rfl⟩) (ro_preV (hP.sub (ws' := [(mo, .inr (7, [.ref ms, .ref mah, .ref mhi, .int vkp, .ref msl, .ref msv, .ref mpd, .int vln, .ref mlb])), (mpd, .inl (cI, 80, .inl vpd))]) [0, 1] rfl) hK (ci := 7) (q0 := 0) rfl rfl) rfl rfl hl.1 rfl (lv_room (Nat.le_of_ble_eq_true rfl)) dX7_fault_1 ⟨Nat.zero_le _, Nat.zero_le _⟩) hP hS (fun H locs hP hS => ?_)
  exact W.iret (v := r_1) hx hb hr (fun t ht hW => ⟨⟨r_1, (), rfl, hres.symm, trivial⟩, hS.F ht⟩) hS.2.2 dX7_fault_4
def F_Model_carryOut (vln : Int32) (vpd : Nat → Int32) : Int32 := (bnd (F_Model_wrong vln vpd) (fun r_1 => (-3)))
set_option maxHeartbeats 4000000 in
set_option maxRecDepth 100000 in
theorem c_Model_carryOut (l : Launch) (dC : Nat → ClassId) (dI : Nat → Nat → Nat) (cI cC cG cZ : ClassId) (mo ms mah mhi msl msv mpd mlb : Nat) (vkp : Int32) (vln : Int32) (vpd : Nat → Int32) (hln : tm_ok 80 vln) (hfin : ¬ F_Model_wrong vln vpd = -99) (hbad : ¬ F_Model_wrong vln vpd = -6) (res : Int32) (hres : res = F_Model_carryOut vln vpd) : Met l yX7_carryOut wsX7_carryOut ({ frames := 8, cells := 0, slots := 0, locals := 181 }) (va_Pc [.ref mo] (ro_P (dC, dI) vwCl (tyL cI cC cG cZ) [(mo, .inr (7, [.ref ms, .ref mah, .ref mhi, .int vkp, .ref msl, .ref msv, .ref mpd, .int vln, .ref mlb])), (mpd, .inl (cI, 80, .inl vpd))])) (va_Qi (fun r (_ : Unit) => r = res) (fun _ _ => True) ro_F) 0 0 ro_F := by
  refine Met.ofW (cc := cX7_carryOut) (maxL := 6) (ret := (some .int)) (by decide) rfl ?_
  intro p e s m args below meth c s₁ B hml hv
  obtain ⟨rfl, hP, hK⟩ := hv
  have hx := B.exec
  have hb := B.bytes
  have hr := B.returns
  have hts := atoms_spec (ws := wsX7_carryOut) B.pre
  have hown : s.vm.findClass RX7 = some m.cls := findClass_of_methodNamed B.named
  have hlocks := B.notSynchronized
  have hS : va_S ro_F s.heap s.heap [] := va_S.rf
  have hl := lv_entry ([.ref mo]) (n := 6) (Nat.le_of_ble_eq_true rfl)
  rw [lg_entry_eq]
  generalize (lg_sl ([.ref mo]) ++ List.replicate (6 - (lg_sl ([.ref mo])).length) Slot.unset).toArray = ls at hl ⊢
  have hl : lv_has ls 6 [(0, .ref mo)] := hl
  rw [F_Model_carryOut] at hres
  refine lv_aload_n hx hb dX7_carryOut_0 rfl (lv_at hl 0 rfl) ?_
  obtain ⟨r_1, hr_1⟩ : ∃ z, z = F_Model_wrong vln vpd := ⟨_, rfl⟩
  rw [bnd_e hr_1] at hres
  refine ro_calli (va_runV (As := []) (rest := []) ⟨hx, hb, hml, hown, hts⟩ (c_Model_wrong l dC dI cI cC cG cZ mo ms mah mhi msl msv mpd mlb vkp vln vpd hln hfin r_1 hr_1) (cwV 0 hts gX7_carryOut_X7_wrong rfl rfl rfl (by decide +kernel) ⟨Nat.le_of_ble_eq_true rfl, Nat.le_of_ble_eq_true rfl⟩) (ro_preV (hP.sub (ws' := [(mo, .inr (7, [.ref ms, .ref mah, .ref mhi, .int vkp, .ref msl, .ref msv, .ref mpd, .int vln, .ref mlb])), (mpd, .inl (cI, 80, .inl vpd))]) [0, 1] rfl) hK (ci := 7) (q0 := 0) rfl rfl) rfl rfl hl.1 rfl (lv_room (Nat.le_of_ble_eq_true rfl)) dX7_carryOut_1 ⟨Nat.zero_le _, Nat.zero_le _⟩) hP hS (fun H locs hP hS => ?_)
  refine lv_bipush (v := (-6)) hx hb dX7_carryOut_4 (by decide) ?_
  refine lv_icmp_eq (tgt := 12) hx hb dX7_carryOut_6 (by decide) (fun c_2 => ?_) (fun c_2 => ?_)
  · exact absurd c_2 (by rw [hr_1]; exact hbad)
  refine lv_bipush (v := (-3)) hx hb dX7_carryOut_9 (by decide) ?_
  exact W.iret (v := (-3)) hx hb hr (fun t ht hW => ⟨⟨(-3), (), rfl, hres.symm, trivial⟩, hS.F ht⟩) hS.2.2 dX7_carryOut_11
theorem iX7_undo_X7 : ∀ w ∈ u_ws RX7 TX7 9, w ∈ wsX7_undo := by decide +kernel
theorem kX7_undo_54 : Cond.fieldLink RX7 54 "TailorChalksModel" "kept" "I" ∈ wsX7_undo := by decide +kernel
def F_Model_undo  : Int32 := (-5)
set_option maxHeartbeats 4000000 in
set_option maxRecDepth 100000 in
theorem c_Model_undo (l : Launch) (dC : Nat → ClassId) (dI : Nat → Nat → Nat) (cI cC cG cZ : ClassId) (mo ms mah mhi msl msv mpd mlb : Nat) (vln : Int32) (res : Int32) (hres : res = F_Model_undo ) : Met l yX7_undo wsX7_undo ({ frames := 0, cells := 0, slots := 0, locals := 0 }) (va_Pc [.ref mo] (ro_P (dC, dI) vwCl (tyL cI cC cG cZ) [(mo, .inr (7, [.ref ms, .ref mah, .ref mhi, .int 0, .ref msl, .ref msv, .ref mpd, .int vln, .ref mlb]))])) (va_Qi (fun r (_ : Unit) => r = res) (fun _ _ => True) ro_F) 0 0 ro_F := by
  refine Met.ofW (cc := cX7_undo) (maxL := 2) (ret := (some .int)) (by decide) rfl ?_
  intro p e s m args below meth c s₁ B hml hv
  obtain ⟨rfl, hP, hK⟩ := hv
  have hx := B.exec
  have hb := B.bytes
  have hr := B.returns
  have hts := atoms_spec (ws := wsX7_undo) B.pre
  have hown : s.vm.findClass RX7 = some m.cls := findClass_of_methodNamed B.named
  have hlocks := B.notSynchronized
  have hS : va_S ro_F s.heap s.heap [] := va_S.rf
  have hl := lv_entry ([.ref mo]) (n := 2) (Nat.le_of_ble_eq_true rfl)
  rw [lg_entry_eq]
  generalize (lg_sl ([.ref mo]) ++ List.replicate (2 - (lg_sl ([.ref mo])).length) Slot.unset).toArray = ls at hl ⊢
  have hl : lv_has ls 2 [(0, .ref mo)] := hl
  rw [F_Model_undo] at hres
  refine lv_aload_n hx hb dX7_undo_0 rfl (lv_at hl 0 rfl) ?_
  refine va_get (D := (dC, dI)) (ci := 7) (v := .int 0) (C := RX7) (T := TX7) (N := 9) hx hb hts iX7_undo_X7 hown hK hP 0 rfl rfl 3 (by decide) (hts (.fieldLink RX7 54 "TailorChalksModel" "kept" "I") kX7_undo_54) (fun _ h9 => h9) rfl dX7_undo_1 ?_
  refine lv_if_ne (tgt := 10) hx hb dX7_undo_4 (by decide) (fun c_1 => ?_) (fun c_1 => ?_)
  · exact absurd (by decide) c_1
  refine lv_bipush (v := (-5)) hx hb dX7_undo_7 (by decide) ?_
  exact W.iret (v := (-5)) hx hb hr (fun t ht hW => ⟨⟨(-5), (), rfl, hres.symm, trivial⟩, hS.F ht⟩) hS.2.2 dX7_undo_9
theorem iX7_save_X7 : ∀ w ∈ u_ws RX7 TX7 9, w ∈ wsX7_save := by decide +kernel
theorem kX7_save_19 : Cond.fieldLink RX7 19 "TailorChalksModel" "slots" "[I" ∈ wsX7_save := by decide +kernel
theorem kX7_save_22 : Cond.fieldLink RX7 22 "TailorChalksModel" "isSaved" "[Z" ∈ wsX7_save := by decide +kernel
theorem kX7_save_7 : Cond.fieldLink RX7 7 "TailorChalksModel" "s" "[I" ∈ wsX7_save := by decide +kernel
def F_Model_save_L14 (slot : Int32) (vs : Nat → Int32) (vsl : Nat → Int32) (vsv : Nat → Int32) : Nat → Int32 → (Nat → Int32) → Int32 × (Nat → Int32)
  | 0, x2, w2f => (x2, w2f)
  | n + 1, x2, w2f => (if (246 : Int32) ≤ x2 then (x2, w2f) else (F_Model_save_L14 slot vs vsl vsv n (x2 + 1) (upd w2f (((246 : Int32) * slot) + x2).toNatClampNeg (vs x2.toNatClampNeg))))
def F_Model_save (slot : Int32) (vs : Nat → Int32) (vsl : Nat → Int32) (vsv : Nat → Int32) : Int32 × (Nat → Int32) × (Nat → Int32) := (bnd (F_Model_in slot (0 : Int32) (1 : Int32)) (fun r_1 => (if r_1 = 0 then ((-2), vsl, vsv) else (bnd (F_Model_save_L14 slot vs vsl vsv 247 (0 : Int32) vsl) (fun q_3 => (bnd (F_Model_left vs) (fun r_4 => (r_4, q_3.2, (upd vsv slot.toNatClampNeg (vp_nar .boolean 1))))))))))
set_option maxHeartbeats 4000000 in
set_option maxRecDepth 100000 in
theorem c_Model_save (l : Launch) (dC : Nat → ClassId) (dI : Nat → Nat → Nat) (cI cC cG cZ : ClassId) (mo ms mah mhi msl msv mpd mlb : Nat) (slot : Int32) (vkp : Int32) (vln : Int32) (vs : Nat → Int32) (vsl : Nat → Int32) (vsv : Nat → Int32) (res : Int32 × (Nat → Int32) × (Nat → Int32)) (hres : res = F_Model_save slot vs vsl vsv) : Met l yX7_save wsX7_save ({ frames := 2, cells := 0, slots := 0, locals := 43 }) (va_Pc [.ref mo, .int slot] (wr_P (dC, dI) vwCl (tyL cI cC cG cZ) [(mo, .inr (7, [.ref ms, .ref mah, .ref mhi, .int vkp, .ref msl, .ref msv, .ref mpd, .int vln, .ref mlb])), (ms, .inl (cI, 246, .inl vs)), (msl, .inl (cI, 492, .inl vsl)), (msv, .inl (cZ, 2, .inl vsv))])) (va_Qi (fun r (_ : Unit) => r = res.1) (fun _ zt => va_P (dC, dI) vwCl [(mo, .inr (7, [.ref ms, .ref mah, .ref mhi, .int vkp, .ref msl, .ref msv, .ref mpd, .int vln, .ref mlb])), (ms, .inl (cI, 246, .inl vs)), (msl, .inl (cI, 492, .inl res.2.1)), (msv, .inl (cZ, 2, .inl res.2.2))] zt.heap) (wr_A [(mo, .inr (7, [.ref ms, .ref mah, .ref mhi, .int vkp, .ref msl, .ref msv, .ref mpd, .int vln, .ref mlb])), (ms, .inl (cI, 246, .inl vs)), (msl, .inl (cI, 492, .inl vsl)), (msv, .inl (cZ, 2, .inl vsv))])) 0 0 (wr_A [(mo, .inr (7, [.ref ms, .ref mah, .ref mhi, .int vkp, .ref msl, .ref msv, .ref mpd, .int vln, .ref mlb])), (ms, .inl (cI, 246, .inl vs)), (msl, .inl (cI, 492, .inl vsl)), (msv, .inl (cZ, 2, .inl vsv))]) := by
  refine Met.ofW (cc := cX7_save) (maxL := 3) (ret := (some .int)) (by decide) rfl ?_
  intro p e s m args below meth c s₁ B hml hv
  obtain ⟨rfl, hP, hK, hD0⟩ := hv
  have hx := B.exec
  have hb := B.bytes
  have hr := B.returns
  have hts := atoms_spec (ws := wsX7_save) B.pre
  have hown : s.vm.findClass RX7 = some m.cls := findClass_of_methodNamed B.named
  have hlocks := B.notSynchronized
  have hD := wr_self hD0
  generalize hAe : wr_A [(mo, .inr (7, [.ref ms, .ref mah, .ref mhi, .int vkp, .ref msl, .ref msv, .ref mpd, .int vln, .ref mlb])), (ms, .inl (cI, 246, .inl vs)), (msl, .inl (cI, 492, .inl vsl)), (msv, .inl (cZ, 2, .inl vsv))] = A at hD ⊢
  have hS : va_S A s.heap s.heap [] := va_S.rf
  have hP : va_P (dC, dI) vwCl [(mo, .inr (7, [.ref ms, .ref mah, .ref mhi, .int vkp, .ref msl, .ref msv, .ref mpd, .int vln, .ref mlb])), (ms, .inl (cI, 246, .inl vs)), (msl, .inl (cI, 492, .inl vsl)), (msv, .inl (cZ, 2, .inl vsv))] s.heap := hP
  have hl := lv_entry ([.ref mo, .int slot]) (n := 3) (Nat.le_of_ble_eq_true rfl)
  rw [lg_entry_eq]
  generalize (lg_sl ([.ref mo, .int slot]) ++ List.replicate (3 - (lg_sl ([.ref mo, .int slot])).length) Slot.unset).toArray = ls at hl ⊢
  have hl : lv_has ls 3 [(0, .ref mo), (1, .int slot)] := hl
  rw [F_Model_save] at hres
  refine lv_iload_n hx hb dX7_save_0 rfl (lv_at hl 1 rfl) ?_
  refine lv_iconst (v := 0) hx hb dX7_save_1 (by decide) ?_
  refine lv_iconst (v := 1) hx hb dX7_save_2 (by decide) ?_
  obtain ⟨r_1, hr_1⟩ : ∃ z, z = F_Model_in slot (0 : Int32) (1 : Int32) := ⟨_, rfl⟩
  rw [bnd_e hr_1] at hres
  refine ro_calli (va_runS (As := [.int slot, .int 0, .int 1]) (rest := []) ⟨hx, hb, hml, hown, hts⟩ (c_Model_in l dC dI cI cC cG cZ  slot (0 : Int32) (1 : Int32)  r_1 hr_1) (va_cwS 3 hts gX7_save_X7_in rfl rfl rfl (by decide +kernel) ⟨Nat.le_of_ble_eq_true rfl, Nat.le_of_ble_eq_true rfl⟩) (ro_preS (hP.sub (ws' := []) [] rfl) hK) rfl rfl hl.1 rfl (lv_room (Nat.le_of_ble_eq_true rfl)) dX7_save_3 ⟨Nat.zero_le _, Nat.zero_le _⟩) hP hS (fun H locs hP hS => ?_)
  refine lv_if_ne (tgt := 12) hx hb dX7_save_6 (by decide) (fun c_2 => ?_) (fun c_2 => ?_)
  · rw [if_neg c_2] at hres
    refine lv_iconst (v := 0) hx hb dX7_save_12 (by decide) ?_
    refine lv_istore_n (lv' := [(2, .int 0), (0, .ref mo), (1, .int slot)]) hx hb dX7_save_13 rfl hl (by decide) rfl (fun ls hl => ?_)
    obtain ⟨q_3, hq_3⟩ : ∃ z, z = F_Model_save_L14 slot vs vsl vsv 247 (0 : Int32) vsl := ⟨_, rfl⟩
    rw [bnd_e hq_3] at hres
    have hexit14 : ∀ (H : Heap) (locs : List Loc) (ls : Array Slot), va_P (dC, dI) vwCl [(mo, .inr (7, [.ref ms, .ref mah, .ref mhi, .int vkp, .ref msl, .ref msv, .ref mpd, .int vln, .ref mlb])), (ms, .inl (cI, 246, .inl vs)), (msl, .inl (cI, 492, .inl q_3.2)), (msv, .inl (cZ, 2, .inl vsv))] H → va_D A [(mo, .inr (7, [.ref ms, .ref mah, .ref mhi, .int vkp, .ref msl, .ref msv, .ref mpd, .int vln, .ref mlb])), (ms, .inl (cI, 246, .inl vs)), (msl, .inl (cI, 492, .inl q_3.2)), (msv, .inl (cZ, 2, .inl vsv))] → va_S A s.heap H locs → lv_has ls 3 [(2, .int q_3.1), (0, .ref mo), (1, .int slot)] → W p l e (headSpec wsX7_save ({ frames := 2, cells := 0, slots := 0, locals := 43 })).room s m ([.ref mo, .int slot] : List Value).toArray below meth c H locs 0 0 (MQ below (va_Qi (fun r (_ : Unit) => r = res.1) (fun _ zt => va_P (dC, dI) vwCl [(mo, .inr (7, [.ref ms, .ref mah, .ref mhi, .int vkp, .ref msl, .ref msv, .ref mpd, .int vln, .ref mlb])), (ms, .inl (cI, 246, .inl vs)), (msl, .inl (cI, 492, .inl res.2.1)), (msv, .inl (cZ, 2, .inl res.2.2))] zt.heap) A) ([.ref mo, .int slot] : List Value).toArray s 0 0 A) (F0 m 45 ls []) := by
      intro H locs ls  hP hD hS hl
      refine lv_aload_n hx hb dX7_save_45 rfl (lv_at hl 1 rfl) ?_
      refine va_get (D := (dC, dI)) (ci := 7) (v := .ref msv) (C := RX7) (T := TX7) (N := 9) hx hb hts iX7_save_X7 hown hK hP 0 rfl rfl 5 (by decide) (hts (.fieldLink RX7 22 "TailorChalksModel" "isSaved" "[Z") kX7_save_22) (fun _ h9 => h9) rfl dX7_save_46 ?_
      refine lv_iload_n hx hb dX7_save_49 rfl (lv_at hl 2 rfl) ?_
      refine lv_iconst (v := 1) hx hb dX7_save_50 (by decide) ?_
      refine va_zast hx hb hK hP hD hS 3 3 rfl rfl (p01_in (in01 (by rw [← hr_1]; exact c_2))) dX7_save_51 (fun H locs hP hD hS => ?_)
      have hP : va_P (dC, dI) vwCl [(mo, .inr (7, [.ref ms, .ref mah, .ref mhi, .int vkp, .ref msl, .ref msv, .ref mpd, .int vln, .ref mlb])), (ms, .inl (cI, 246, .inl vs)), (msl, .inl (cI, 492, .inl q_3.2)), (msv, .inl (cZ, 2, .inl (upd vsv slot.toNatClampNeg (vp_nar .boolean 1))))] H := hP
      have hD : va_D A [(mo, .inr (7, [.ref ms, .ref mah, .ref mhi, .int vkp, .ref msl, .ref msv, .ref mpd, .int vln, .ref mlb])), (ms, .inl (cI, 246, .inl vs)), (msl, .inl (cI, 492, .inl q_3.2)), (msv, .inl (cZ, 2, .inl (upd vsv slot.toNatClampNeg (vp_nar .boolean 1))))] := hD
      refine lv_aload_n hx hb dX7_save_52 rfl (lv_at hl 1 rfl) ?_
      obtain ⟨r_4, hr_4⟩ : ∃ z, z = F_Model_left vs := ⟨_, rfl⟩
      rw [bnd_e hr_4] at hres
      refine ro_calli (va_runV (As := []) (rest := []) ⟨hx, hb, hml, hown, hts⟩ (c_Model_left l dC dI cI cC cG cZ mo ms mah mhi msl msv mpd mlb vkp vln vs  r_4 hr_4) (cwV 0 hts gX7_save_X7_left rfl rfl rfl (by decide +kernel) ⟨Nat.le_of_ble_eq_true rfl, Nat.le_of_ble_eq_true rfl⟩) (ro_preV (hP.sub (ws' := [(mo, .inr (7, [.ref ms, .ref mah, .ref mhi, .int vkp, .ref msl, .ref msv, .ref mpd, .int vln, .ref mlb])), (ms, .inl (cI, 246, .inl vs))]) [0, 1] rfl) hK (ci := 7) (q0 := 0) rfl rfl) rfl rfl hl.1 rfl (lv_room (Nat.le_of_ble_eq_true rfl)) dX7_save_53 ⟨Nat.zero_le _, Nat.zero_le _⟩) hP hS (fun H locs hP hS => ?_)
      subst hres
      exact W.iret (v := r_4) hx hb hr (fun t ht hW => ⟨⟨r_4, (), rfl, rfl, (by show va_P _ _ _ t.heap; rw [ht]; exact hP)⟩, hS.F ht⟩) hS.2.2 dX7_save_56
    have hloop14 : ∀ (n k14 : Nat) (x2 : Int32) (w2f : Nat → Int32) (H : Heap) (locs : List Loc) (ls : Array Slot), k14 ≤ 246 → 246 - k14 < n → x2 = nI k14 → q_3 = F_Model_save_L14 slot vs vsl vsv n x2 w2f → va_P (dC, dI) vwCl [(mo, .inr (7, [.ref ms, .ref mah, .ref mhi, .int vkp, .ref msl, .ref msv, .ref mpd, .int vln, .ref mlb])), (ms, .inl (cI, 246, .inl vs)), (msl, .inl (cI, 492, .inl w2f)), (msv, .inl (cZ, 2, .inl vsv))] H → va_D A [(mo, .inr (7, [.ref ms, .ref mah, .ref mhi, .int vkp, .ref msl, .ref msv, .ref mpd, .int vln, .ref mlb])), (ms, .inl (cI, 246, .inl vs)), (msl, .inl (cI, 492, .inl w2f)), (msv, .inl (cZ, 2, .inl vsv))] → va_S A s.heap H locs → lv_has ls 3 [(2, .int x2), (0, .ref mo), (1, .int slot)] → W p l e (headSpec wsX7_save ({ frames := 2, cells := 0, slots := 0, locals := 43 })).room s m ([.ref mo, .int slot] : List Value).toArray below meth c H locs 0 0 (MQ below (va_Qi (fun r (_ : Unit) => r = res.1) (fun _ zt => va_P (dC, dI) vwCl [(mo, .inr (7, [.ref ms, .ref mah, .ref mhi, .int vkp, .ref msl, .ref msv, .ref mpd, .int vln, .ref mlb])), (ms, .inl (cI, 246, .inl vs)), (msl, .inl (cI, 492, .inl res.2.1)), (msv, .inl (cZ, 2, .inl res.2.2))] zt.heap) A) ([.ref mo, .int slot] : List Value).toArray s 0 0 A) (F0 m 14 ls []) := by
      intro n
      induction n with
      | zero => intro k14 x2 w2f _ _ _ _ hm; exact absurd hm (Nat.not_lt_zero _)
      | succ n ih14 =>
        intro k14 x2 w2f H locs ls hk14 hm14 ex14  hq_3 hP hD hS hl
        rw [F_Model_save_L14] at hq_3
        refine lv_iload_n hx hb dX7_save_14 rfl (lv_at hl 0 rfl) ?_
        refine lv_sipush (v := 246) hx hb dX7_save_15 (by decide) ?_
        refine lv_icmp_ge (tgt := 45) hx hb dX7_save_18 (by decide) (fun c_5 => ?_) (fun c_5 => ?_)
        · rw [if_pos c_5] at hq_3
          subst hq_3
          exact hexit14 _ _ _  hP hD hS (lv_sub hl [0, 1, 2] rfl)
        · rw [if_neg c_5] at hq_3
          have hlt_k14 : k14 < 246 := lp_lt rfl ex14 hk14 c_5
          refine lv_aload_n hx hb dX7_save_21 rfl (lv_at hl 1 rfl) ?_
          refine va_get (D := (dC, dI)) (ci := 7) (v := .ref msl) (C := RX7) (T := TX7) (N := 9) hx hb hts iX7_save_X7 hown hK hP 0 rfl rfl 4 (by decide) (hts (.fieldLink RX7 19 "TailorChalksModel" "slots" "[I") kX7_save_19) (fun _ h9 => h9) rfl dX7_save_22 ?_
          refine lv_sipush (v := 246) hx hb dX7_save_25 (by decide) ?_
          refine lv_iload_n hx hb dX7_save_28 rfl (lv_at hl 2 rfl) ?_
          refine lv_imul hx hb dX7_save_29 ?_
          refine lv_iload_n hx hb dX7_save_30 rfl (lv_at hl 0 rfl) ?_
          refine lv_iadd hx hb dX7_save_31 ?_
          refine lv_aload_n hx hb dX7_save_32 rfl (lv_at hl 1 rfl) ?_
          refine va_get (D := (dC, dI)) (ci := 7) (v := .ref ms) (C := RX7) (T := TX7) (N := 9) hx hb hts iX7_save_X7 hown hK hP 0 rfl rfl 0 (by decide) (hts (.fieldLink RX7 7 "TailorChalksModel" "s" "[I") kX7_save_7) (fun _ h9 => h9) rfl dX7_save_33 ?_
          refine lv_iload_n hx hb dX7_save_36 rfl (lv_at hl 0 rfl) ?_
          refine va_iald hx hb hK hP 1 0 rfl rfl (by rw [ex14]; exact vp_in_nI (by omega) (by decide)) dX7_save_37 ?_
          refine va_iast hx hb hK hP hD hS 2 0 rfl rfl (slot_in (in01 (by rw [← hr_1]; exact c_2)) ex14 hlt_k14) dX7_save_38 (fun H locs hP hD hS => ?_)
          have hP : va_P (dC, dI) vwCl [(mo, .inr (7, [.ref ms, .ref mah, .ref mhi, .int vkp, .ref msl, .ref msv, .ref mpd, .int vln, .ref mlb])), (ms, .inl (cI, 246, .inl vs)), (msl, .inl (cI, 492, .inl (upd w2f (((246 : Int32) * slot) + x2).toNatClampNeg (vs x2.toNatClampNeg)))), (msv, .inl (cZ, 2, .inl vsv))] H := hP
          have hD : va_D A [(mo, .inr (7, [.ref ms, .ref mah, .ref mhi, .int vkp, .ref msl, .ref msv, .ref mpd, .int vln, .ref mlb])), (ms, .inl (cI, 246, .inl vs)), (msl, .inl (cI, 492, .inl (upd w2f (((246 : Int32) * slot) + x2).toNatClampNeg (vs x2.toNatClampNeg)))), (msv, .inl (cZ, 2, .inl vsv))] := hD
          refine lv_iinc (v := (x2 + 1)) (lv' := [(2, .int (x2 + 1)), (0, .ref mo), (1, .int slot)]) hx hb dX7_save_39 hl (k := 0) rfl rfl (by decide) rfl (fun ls hl => ?_)
          refine lv_goto (tgt := 14) hx hb dX7_save_42 (by decide) ?_
          exact ih14 (k14 + 1) (x2 + 1) (upd w2f (((246 : Int32) * slot) + x2).toNatClampNeg (vs x2.toNatClampNeg)) _ _ _ (by omega) (by omega) (by rw [ex14]; exact nI_1 _)  hq_3 hP hD hS (lv_sub hl [0, 1, 2] rfl)
    exact hloop14 247 0 (0 : Int32) vsl _ _ _ (by omega) (by omega) nI_0.symm  hq_3 hP hD hS (lv_sub hl [0, 1, 2] rfl)
  · rw [if_pos c_2] at hres
    refine lv_bipush (v := (-2)) hx hb dX7_save_9 (by decide) ?_
    subst hres
    exact W.iret (v := (-2)) hx hb hr (fun t ht hW => ⟨⟨(-2), (), rfl, rfl, (by show va_P _ _ _ t.heap; rw [ht]; exact hP)⟩, hS.F ht⟩) hS.2.2 dX7_save_11
theorem iX7_restore_X7 : ∀ w ∈ u_ws RX7 TX7 9, w ∈ wsX7_restore := by decide +kernel
theorem kX7_restore_22 : Cond.fieldLink RX7 22 "TailorChalksModel" "isSaved" "[Z" ∈ wsX7_restore := by decide +kernel
def F_Model_restore (slot : Int32) : Int32 := (bnd (F_Model_in slot (0 : Int32) (1 : Int32)) (fun r_1 => (if r_1 = 0 then (-2) else (-5))))
set_option maxHeartbeats 4000000 in
set_option maxRecDepth 100000 in
theorem c_Model_restore (l : Launch) (dC : Nat → ClassId) (dI : Nat → Nat → Nat) (cI cC cG cZ : ClassId) (mo ms mah mhi msl msv mpd mlb : Nat) (slot : Int32) (vkp : Int32) (vln : Int32) (vsv : Nat → Int32) (hsv : ∀ j, vsv j = 0) (res : Int32) (hres : res = F_Model_restore slot) : Met l yX7_restore wsX7_restore ({ frames := 2, cells := 0, slots := 0, locals := 43 }) (va_Pc [.ref mo, .int slot] (ro_P (dC, dI) vwCl (tyL cI cC cG cZ) [(mo, .inr (7, [.ref ms, .ref mah, .ref mhi, .int vkp, .ref msl, .ref msv, .ref mpd, .int vln, .ref mlb])), (msv, .inl (cZ, 2, .inl vsv))])) (va_Qi (fun r (_ : Unit) => r = res) (fun _ _ => True) ro_F) 0 0 ro_F := by
  refine Met.ofW (cc := cX7_restore) (maxL := 3) (ret := (some .int)) (by decide) rfl ?_
  intro p e s m args below meth c s₁ B hml hv
  obtain ⟨rfl, hP, hK⟩ := hv
  have hx := B.exec
  have hb := B.bytes
  have hr := B.returns
  have hts := atoms_spec (ws := wsX7_restore) B.pre
  have hown : s.vm.findClass RX7 = some m.cls := findClass_of_methodNamed B.named
  have hlocks := B.notSynchronized
  have hS : va_S ro_F s.heap s.heap [] := va_S.rf
  have hl := lv_entry ([.ref mo, .int slot]) (n := 3) (Nat.le_of_ble_eq_true rfl)
  rw [lg_entry_eq]
  generalize (lg_sl ([.ref mo, .int slot]) ++ List.replicate (3 - (lg_sl ([.ref mo, .int slot])).length) Slot.unset).toArray = ls at hl ⊢
  have hl : lv_has ls 3 [(0, .ref mo), (1, .int slot)] := hl
  rw [F_Model_restore] at hres
  refine lv_iload_n hx hb dX7_restore_0 rfl (lv_at hl 1 rfl) ?_
  refine lv_iconst (v := 0) hx hb dX7_restore_1 (by decide) ?_
  refine lv_iconst (v := 1) hx hb dX7_restore_2 (by decide) ?_
  obtain ⟨r_1, hr_1⟩ : ∃ z, z = F_Model_in slot (0 : Int32) (1 : Int32) := ⟨_, rfl⟩
  rw [bnd_e hr_1] at hres
  refine ro_calli (va_runS (As := [.int slot, .int 0, .int 1]) (rest := []) ⟨hx, hb, hml, hown, hts⟩ (c_Model_in l dC dI cI cC cG cZ  slot (0 : Int32) (1 : Int32)  r_1 hr_1) (va_cwS 3 hts gX7_restore_X7_in rfl rfl rfl (by decide +kernel) ⟨Nat.le_of_ble_eq_true rfl, Nat.le_of_ble_eq_true rfl⟩) (ro_preS (hP.sub (ws' := []) [] rfl) hK) rfl rfl hl.1 rfl (lv_room (Nat.le_of_ble_eq_true rfl)) dX7_restore_3 ⟨Nat.zero_le _, Nat.zero_le _⟩) hP hS (fun H locs hP hS => ?_)
  refine lv_if_ne (tgt := 12) hx hb dX7_restore_6 (by decide) (fun c_2 => ?_) (fun c_2 => ?_)
  · rw [if_neg c_2] at hres
    refine lv_aload_n hx hb dX7_restore_12 rfl (lv_at hl 0 rfl) ?_
    refine va_get (D := (dC, dI)) (ci := 7) (v := .ref msv) (C := RX7) (T := TX7) (N := 9) hx hb hts iX7_restore_X7 hown hK hP 0 rfl rfl 5 (by decide) (hts (.fieldLink RX7 22 "TailorChalksModel" "isSaved" "[Z") kX7_restore_22) (fun _ h9 => h9) rfl dX7_restore_13 ?_
    refine lv_iload_n hx hb dX7_restore_16 rfl (lv_at hl 1 rfl) ?_
    refine va_zald hx hb hK hP 1 3 rfl rfl (p01_in (in01 (by rw [← hr_1]; exact c_2))) dX7_restore_17 ?_
    refine lv_if_ne (tgt := 24) hx hb dX7_restore_18 (by decide) (fun c_3 => ?_) (fun c_3 => ?_)
    · exact absurd (hsv _) c_3
    refine lv_bipush (v := (-5)) hx hb dX7_restore_21 (by decide) ?_
    exact W.iret (v := (-5)) hx hb hr (fun t ht hW => ⟨⟨(-5), (), rfl, hres.symm, trivial⟩, hS.F ht⟩) hS.2.2 dX7_restore_23
  · rw [if_pos c_2] at hres
    refine lv_bipush (v := (-2)) hx hb dX7_restore_9 (by decide) ?_
    exact W.iret (v := (-2)) hx hb hr (fun t ht hW => ⟨⟨(-2), (), rfl, hres.symm, trivial⟩, hS.F ht⟩) hS.2.2 dX7_restore_11
