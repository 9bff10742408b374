def F_Pad_charactersIn_L4 (characters : Int64) : Nat → Int64 → Int32 → Int32
  | 0, x3, x2 => 0
  | n + 1, x3, x2 => (if (lg_cmp x3 0) = 0 then x2 else (if (8 : Int32) ≤ x2 then x2 else (if (lg_cmp (x3 &&& 255) 33) < 0 then 0 else (if (lg_cmp (x3 &&& 255) 126) ≤ 0 then (F_Pad_charactersIn_L4 characters n ((x3.toUInt64 >>> ((8 : Int32).toInt64.toUInt64 &&& Int64.toUInt64 63)).toInt64) (x2 + 1)) else 0))))
def F_Pad_charactersIn (characters : Int64) : Int32 := (F_Pad_charactersIn_L4 characters 9 characters (0 : Int32))
set_option maxHeartbeats 4000000 in
set_option maxRecDepth 100000 in
theorem c_Pad_charactersIn (l : Launch) (dC : Nat → ClassId) (dI : Nat → Nat → Nat) (cI cC cG cZ : ClassId) (characters : Int64) (res : Int32) (hres : res = F_Pad_charactersIn characters) : Met l yX3_charactersIn wsX3_charactersIn ({ frames := 0, cells := 0, slots := 0, locals := 0 }) (va_Pc [.long characters] (ro_P (dC, dI) vwCl (tyL cI cC cG cZ) [])) (va_Qi (fun r (_ : Unit) => r = res) (fun _ _ => True) ro_F) 0 0 ro_F := by
  refine Met.ofW (cc := cX3_charactersIn) (maxL := 7) (ret := (some .int)) (by decide) rfl ?_
  intro p e s m args below meth c s₁ B hml hv
  obtain ⟨rfl, hP, hK⟩ := hv
  have hx := B.exec
  have hb := B.bytes
  have hr := B.returns
  have hts := atoms_spec (ws := wsX3_charactersIn) B.pre
  have hown : s.vm.findClass RX3 = some m.cls := findClass_of_methodNamed B.named
  have hlocks := B.notSynchronized
  have hS : va_S ro_F s.heap s.heap [] := va_S.rf
  have hl := lv_entry ([.long characters]) (n := 7) (Nat.le_of_ble_eq_true rfl)
  rw [lg_entry_eq]
  generalize (lg_sl ([.long characters]) ++ List.replicate (7 - (lg_sl ([.long characters])).length) Slot.unset).toArray = ls at hl ⊢
  have hl : lv_has ls 7 [(0, .long characters)] := hl
  rw [F_Pad_charactersIn] at hres
  refine lv_iconst (v := 0) hx hb dX3_charactersIn_0 (by decide) ?_
  refine lv_istore_n (lv' := [(2, .int 0), (0, .long characters)]) hx hb dX3_charactersIn_1 rfl hl (by decide) rfl (fun ls hl => ?_)
  refine lv_lload_n hx hb dX3_charactersIn_2 rfl (lv_at hl 1 rfl) ?_
  refine lv_lstore_n (lv' := [(3, .long characters), (2, .int 0), (0, .long characters)]) hx hb dX3_charactersIn_3 rfl hl (by decide) rfl (fun ls hl => ?_)
  have hloop4 : ∀ (n k4 : Nat) (x3 : Int64) (x2 : Int32) (H : Heap) (locs : List Loc) (ls : Array Slot), k4 ≤ 8 → 8 - k4 < n → x2 = nI k4 → res = F_Pad_charactersIn_L4 characters n x3 x2 → va_P (dC, dI) vwCl [] H → va_S ro_F s.heap H locs → lv_has ls 7 [(3, .long x3), (2, .int x2), (0, .long characters)] → W p l e (headSpec wsX3_charactersIn ({ frames := 0, cells := 0, slots := 0, locals := 0 })).room s m ([.long characters] : List Value).toArray below meth c H locs 0 0 (MQ below (va_Qi (fun r (_ : Unit) => r = res) (fun _ _ => True) ro_F) ([.long characters] : List Value).toArray s 0 0 ro_F) (F0 m 4 ls []) := by
    intro n
    induction n with
    | zero => intro k4 x3 x2 _ _ _ _ hm; exact absurd hm (Nat.not_lt_zero _)
    | succ n ih4 =>
      intro k4 x3 x2 H locs ls hk4 hm4 ex4  hres hP hS hl
      rw [F_Pad_charactersIn_L4] at hres
      refine lv_lload_n hx hb dX3_charactersIn_4 rfl (lv_at hl 0 rfl) ?_
      refine lv_lconst (v := 0) hx hb dX3_charactersIn_5 (by decide) ?_
      refine W.lcmp hx hb dX3_charactersIn_6 ?_
      refine lv_if_eq (tgt := 54) hx hb dX3_charactersIn_7 (by decide) (fun c_1 => ?_) (fun c_1 => ?_)
      · rw [if_pos c_1] at hres
        refine lv_iload_n hx hb dX3_charactersIn_54 rfl (lv_at hl 1 rfl) ?_
        exact W.iret (v := x2) hx hb hr (fun t ht hW => ⟨⟨x2, (), rfl, hres.symm, trivial⟩, hS.F ht⟩) hS.2.2 dX3_charactersIn_55
      · rw [if_neg c_1] at hres
        refine lv_iload_n hx hb dX3_charactersIn_10 rfl (lv_at hl 1 rfl) ?_
        refine lv_bipush (v := 8) hx hb dX3_charactersIn_11 (by decide) ?_
        refine lv_icmp_ge (tgt := 54) hx hb dX3_charactersIn_13 (by decide) (fun c_2 => ?_) (fun c_2 => ?_)
        · rw [if_pos c_2] at hres
          refine lv_iload_n hx hb dX3_charactersIn_54 rfl (lv_at hl 1 rfl) ?_
          exact W.iret (v := x2) hx hb hr (fun t ht hW => ⟨⟨x2, (), rfl, hres.symm, trivial⟩, hS.F ht⟩) hS.2.2 dX3_charactersIn_55
        · rw [if_neg c_2] at hres
          have hlt_k4 : k4 < 8 := lp_lt rfl ex4 hk4 c_2
          refine lv_lload_n hx hb dX3_charactersIn_16 rfl (lv_at hl 0 rfl) ?_
          refine lv_ldc2 (v := 255) hx hb hown (hts (.constantLong RX3 23 (255)) (by decide +kernel)) dX3_charactersIn_17 ?_
          refine lv_land hx hb dX3_charactersIn_20 ?_
          refine lv_lstore (lv' := [(5, .long (x3 &&& 255)), (3, .long x3), (2, .int x2), (0, .long characters)]) hx hb dX3_charactersIn_21 hl (by decide) rfl (fun ls hl => ?_)
          refine lv_lload hx hb dX3_charactersIn_23 (lv_at hl 0 rfl) ?_
          refine lv_ldc2 (v := 33) hx hb hown (hts (.constantLong RX3 25 (33)) (by decide +kernel)) dX3_charactersIn_25 ?_
          refine W.lcmp hx hb dX3_charactersIn_28 ?_
          refine lv_if_lt (tgt := 41) hx hb dX3_charactersIn_29 (by decide) (fun c_3 => ?_) (fun c_3 => ?_)
          · rw [if_pos c_3] at hres
            refine lv_iconst (v := 0) hx hb dX3_charactersIn_41 (by decide) ?_
            exact W.iret (v := 0) hx hb hr (fun t ht hW => ⟨⟨0, (), rfl, hres.symm, trivial⟩, hS.F ht⟩) hS.2.2 dX3_charactersIn_42
          · rw [if_neg c_3] at hres
            refine lv_lload hx hb dX3_charactersIn_32 (lv_at hl 0 rfl) ?_
            refine lv_ldc2 (v := 126) hx hb hown (hts (.constantLong RX3 27 (126)) (by decide +kernel)) dX3_charactersIn_34 ?_
            refine W.lcmp hx hb dX3_charactersIn_37 ?_
            refine lv_if_le (tgt := 43) hx hb dX3_charactersIn_38 (by decide) (fun c_4 => ?_) (fun c_4 => ?_)
            · rw [if_pos c_4] at hres
              refine lv_iinc (v := (x2 + 1)) (lv' := [(2, .int (x2 + 1)), (5, .long (x3 &&& 255)), (3, .long x3), (0, .long characters)]) hx hb dX3_charactersIn_43 hl (k := 2) rfl rfl (by decide) rfl (fun ls hl => ?_)
              refine lv_lload_n hx hb dX3_charactersIn_46 rfl (lv_at hl 2 rfl) ?_
              refine lv_bipush (v := 8) hx hb dX3_charactersIn_47 (by decide) ?_
              refine lv_lushr (v := (x3.toUInt64 >>> ((8 : Int32).toInt64.toUInt64 &&& Int64.toUInt64 63)).toInt64) hx hb dX3_charactersIn_49 rfl ?_
              refine lv_lstore_n (lv' := [(3, .long ((x3.toUInt64 >>> ((8 : Int32).toInt64.toUInt64 &&& Int64.toUInt64 63)).toInt64)), (2, .int (x2 + 1)), (5, .long (x3 &&& 255)), (0, .long characters)]) hx hb dX3_charactersIn_50 rfl hl (by decide) rfl (fun ls hl => ?_)
              refine lv_goto (tgt := 4) hx hb dX3_charactersIn_51 (by decide) ?_
              exact ih4 (k4 + 1) ((x3.toUInt64 >>> ((8 : Int32).toInt64.toUInt64 &&& Int64.toUInt64 63)).toInt64) (x2 + 1) _ _ _ (by omega) (by omega) (by rw [ex4]; exact nI_1 _)  hres hP hS (lv_sub hl [0, 1, 3] rfl)
            · rw [if_neg c_4] at hres
              refine lv_iconst (v := 0) hx hb dX3_charactersIn_41 (by decide) ?_
              exact W.iret (v := 0) hx hb hr (fun t ht hW => ⟨⟨0, (), rfl, hres.symm, trivial⟩, hS.F ht⟩) hS.2.2 dX3_charactersIn_42
  exact hloop4 9 0 characters (0 : Int32) _ _ _ (by omega) (by omega) nI_0.symm  hres hP hS (lv_sub hl [0, 1, 2] rfl)
theorem chars_loop (characters : Int64) : ∀ (n k : Nat) (x3 : Int64), k ≤ 8 → 8 - k < n → tm_ok 8 (F_Pad_charactersIn_L4 characters n x3 (nI k)) := by
  intro n
  induction n with
  | zero => intro k x3 hk hn; exact absurd hn (Nat.not_lt_zero _)
  | succ n ih =>
    intro k x3 hk hn
    rw [F_Pad_charactersIn_L4]
    split
    · exact ⟨k, hk, rfl⟩
    · split
      · exact ⟨k, hk, rfl⟩
      · rename_i c
        have hlt : k < 8 := lp_lt rfl rfl hk c
        (repeat' split) <;> first | exact ⟨0, by omega, rfl⟩ | (rw [nI_1]; exact ih (k + 1) _ (by omega) (by omega))
theorem charactersIn_ok {characters : Int64} : tm_ok 8 (F_Pad_charactersIn characters) := chars_loop characters 9 0 characters (by omega) (by omega)
theorem iX3_append_X3 : ∀ w ∈ u_ws RX3 TX3 2, w ∈ wsX3_append := by decide +kernel
theorem kX3_append_11 : Cond.fieldLink RX3 11 "TailorChalks$Pad" "signs" "[C" ∈ wsX3_append := by decide +kernel
theorem kX3_append_19 : Cond.fieldLink RX3 19 "TailorChalks$Pad" "length" "I" ∈ wsX3_append := by decide +kernel
def F_Pad_append_L31 (characters : Int64) (ln : Int32) (fsg : Nat → Int32) : Nat → Int32 → Int32 → Int32 → (Nat → Int32) → Int32 × Int32 × Int32 × (Nat → Int32)
  | 0, x4, x3, w01, w1f => (x4, x3, w01, w1f)
  | n + 1, x4, x3, w01, w1f => (if x4 < 0 then (x4, x3, w01, w1f) else (F_Pad_append_L31 characters ln fsg n (x4 + (-1)) x3 (w01 + 1) (upd w1f w01.toNatClampNeg (vp_nar .char (((((characters.toUInt64 >>> (((8 : Int32) * x4).toInt64.toUInt64 &&& Int64.toUInt64 63)).toInt64 &&& 255).toInt32).toUInt32 % 65536).toInt32)))))
def F_Pad_append (characters : Int64) (ln : Int32) (fsg : Nat → Int32) : Int32 × Int32 × (Nat → Int32) := (bnd (F_Pad_charactersIn characters) (fun r_1 => (if r_1 = 0 then ((-2), ln, fsg) else (if r_1 ≤ ((80 : Int32) - ln) then (bnd (F_Pad_append_L31 characters ln fsg 9 (r_1 - 1) r_1 ln fsg) (fun q_4 => (q_4.2.2.1, q_4.2.2.1, q_4.2.2.2))) else ((-4), ln, fsg)))))
set_option maxHeartbeats 4000000 in
set_option maxRecDepth 100000 in
theorem c_Pad_append (l : Launch) (dC : Nat → ClassId) (dI : Nat → Nat → Nat) (cI cC cG cZ : ClassId) (pd sg : Nat) (characters : Int64) (ln : Int32) (fsg : Nat → Int32) (hln : tm_ok 80 ln) (res : Int32 × Int32 × (Nat → Int32)) (hres : res = F_Pad_append characters ln fsg) : Met l yX3_append wsX3_append ({ frames := 1, cells := 0, slots := 0, locals := 26 }) (va_Pc [.ref pd, .long characters] (wr_P (dC, dI) vwCl (tyL cI cC cG cZ) [(pd, .inr (3, [.ref sg, .int ln])), (sg, .inl (cC, 80, .inl fsg))])) (va_Qi (fun r (_ : Unit) => r = res.1) (fun _ zt => va_P (dC, dI) vwCl [(pd, .inr (3, [.ref sg, .int res.2.1])), (sg, .inl (cC, 80, .inl res.2.2))] zt.heap) (wr_A [(pd, .inr (3, [.ref sg, .int ln])), (sg, .inl (cC, 80, .inl fsg))])) 0 0 (wr_A [(pd, .inr (3, [.ref sg, .int ln])), (sg, .inl (cC, 80, .inl fsg))]) := by
  refine Met.ofW (cc := cX3_append) (maxL := 5) (ret := (some .int)) (by decide) rfl ?_
  intro p e s m args below meth c s₁ B hml hv
  obtain ⟨rfl, hP, hK, hD0⟩ := hv
  have hx := B.exec
  have hb := B.bytes
  have hr := B.returns
  have hts := atoms_spec (ws := wsX3_append) B.pre
  have hown : s.vm.findClass RX3 = some m.cls := findClass_of_methodNamed B.named
  have hlocks := B.notSynchronized
  have hD := wr_self hD0
  generalize hAe : wr_A [(pd, .inr (3, [.ref sg, .int ln])), (sg, .inl (cC, 80, .inl fsg))] = A at hD ⊢
  have hS : va_S A s.heap s.heap [] := va_S.rf
  have hP : va_P (dC, dI) vwCl [(pd, .inr (3, [.ref sg, .int ln])), (sg, .inl (cC, 80, .inl fsg))] s.heap := hP
  have hl := lv_entry ([.ref pd, .long characters]) (n := 5) (Nat.le_of_ble_eq_true rfl)
  rw [lg_entry_eq]
  generalize (lg_sl ([.ref pd, .long characters]) ++ List.replicate (5 - (lg_sl ([.ref pd, .long characters])).length) Slot.unset).toArray = ls at hl ⊢
  have hl : lv_has ls 5 [(0, .ref pd), (1, .long characters)] := hl
  obtain ⟨L0, hL80, eL0⟩ := hln
  rw [F_Pad_append] at hres
  refine lv_lload_n hx hb dX3_append_0 rfl (lv_at hl 1 rfl) ?_
  obtain ⟨r_1, hr_1⟩ : ∃ z, z = F_Pad_charactersIn characters := ⟨_, rfl⟩
  rw [bnd_e hr_1] at hres
  refine ro_calli (va_runS (As := [.long characters]) (rest := []) ⟨hx, hb, hml, hown, hts⟩ (c_Pad_charactersIn l dC dI cI cC cG cZ  characters  r_1 hr_1) (va_cwS 1 hts gX3_append_X3_charactersIn rfl rfl rfl (by decide +kernel) ⟨Nat.le_of_ble_eq_true rfl, Nat.le_of_ble_eq_true rfl⟩) (ro_preS (hP.sub (ws' := []) [] rfl) hK) rfl rfl hl.1 rfl (lv_room (Nat.le_of_ble_eq_true rfl)) dX3_append_1 ⟨Nat.zero_le _, Nat.zero_le _⟩) hP hS (fun H locs hP hS => ?_)
  refine lv_istore_n (lv' := [(3, .int r_1), (0, .ref pd), (1, .long characters)]) hx hb dX3_append_4 rfl hl (by decide) rfl (fun ls hl => ?_)
  refine lv_iload_n hx hb dX3_append_5 rfl (lv_at hl 0 rfl) ?_
  refine lv_if_ne (tgt := 12) hx hb dX3_append_6 (by decide) (fun c_2 => ?_) (fun c_2 => ?_)
  · rw [if_neg c_2] at hres
    refine lv_iload_n hx hb dX3_append_12 rfl (lv_at hl 0 rfl) ?_
    refine lv_bipush (v := 80) hx hb dX3_append_13 (by decide) ?_
    refine lv_aload_n hx hb dX3_append_15 rfl (lv_at hl 1 rfl) ?_
    refine va_get (D := (dC, dI)) (ci := 3) (v := .int ln) (C := RX3) (T := TX3) (N := 2) hx hb hts iX3_append_X3 hown hK hP 0 rfl rfl 1 (by decide) (hts (.fieldLink RX3 19 "TailorChalks$Pad" "length" "I") kX3_append_19) (fun _ h9 => h9) rfl dX3_append_16 ?_
    refine lv_isub hx hb dX3_append_19 ?_
    refine lv_icmp_le (tgt := 26) hx hb dX3_append_20 (by decide) (fun c_3 => ?_) (fun c_3 => ?_)
    · rw [if_pos c_3] at hres
      refine lv_iload_n hx hb dX3_append_26 rfl (lv_at hl 0 rfl) ?_
      refine lv_iconst (v := 1) hx hb dX3_append_27 (by decide) ?_
      refine lv_isub hx hb dX3_append_28 ?_
      refine lv_istore (lv' := [(4, .int (r_1 - 1)), (3, .int r_1), (0, .ref pd), (1, .long characters)]) hx hb dX3_append_29 hl (by decide) rfl (fun ls hl => ?_)
      obtain ⟨mm, hmm8, emm⟩ : tm_ok 8 r_1 := by rw [hr_1]; exact charactersIn_ok
      have hsum : L0 + mm ≤ 80 := pad_room emm hmm8 eL0 hL80 c_3
      obtain ⟨q_4, hq_4⟩ : ∃ z, z = F_Pad_append_L31 characters ln fsg 9 (r_1 - 1) r_1 ln fsg := ⟨_, rfl⟩
      rw [bnd_e hq_4] at hres
      have hexit31 : ∀ (H : Heap) (locs : List Loc) (ls : Array Slot), va_P (dC, dI) vwCl [(pd, .inr (3, [.ref sg, .int q_4.2.2.1])), (sg, .inl (cC, 80, .inl q_4.2.2.2))] H → va_D A [(pd, .inr (3, [.ref sg, .int q_4.2.2.1])), (sg, .inl (cC, 80, .inl q_4.2.2.2))] → va_S A s.heap H locs → lv_has ls 5 [(4, .int q_4.1), (3, .int q_4.2.1), (0, .ref pd), (1, .long characters)] → W p l e (headSpec wsX3_append ({ frames := 1, cells := 0, slots := 0, locals := 26 })).room s m ([.ref pd, .long characters] : List Value).toArray below meth c H locs 0 0 (MQ below (va_Qi (fun r (_ : Unit) => r = res.1) (fun _ zt => va_P (dC, dI) vwCl [(pd, .inr (3, [.ref sg, .int res.2.1])), (sg, .inl (cC, 80, .inl res.2.2))] zt.heap) A) ([.ref pd, .long characters] : List Value).toArray s 0 0 A) (F0 m 74 ls []) := by
        intro H locs ls  hP hD hS hl
        refine lv_aload_n hx hb dX3_append_74 rfl (lv_at hl 2 rfl) ?_
        refine va_get (D := (dC, dI)) (ci := 3) (v := .int q_4.2.2.1) (C := RX3) (T := TX3) (N := 2) hx hb hts iX3_append_X3 hown hK hP 0 rfl rfl 1 (by decide) (hts (.fieldLink RX3 19 "TailorChalks$Pad" "length" "I") kX3_append_19) (fun _ h9 => h9) rfl dX3_append_75 ?_
        subst hres
        exact W.iret (v := q_4.2.2.1) hx hb hr (fun t ht hW => ⟨⟨q_4.2.2.1, (), rfl, rfl, (by show va_P _ _ _ t.heap; rw [ht]; exact hP)⟩, hS.F ht⟩) hS.2.2 dX3_append_78
      have hloop31 : ∀ (n k31 : Nat) (x4 : Int32) (x3 : Int32) (w01 : Int32) (w1f : Nat → Int32) (H : Heap) (locs : List Loc) (ls : Array Slot), k31 ≤ mm → mm - k31 < n → x4 = nI (mm - k31) - 1 → w01 = nI (L0 + k31) → q_4 = F_Pad_append_L31 characters ln fsg n x4 x3 w01 w1f → va_P (dC, dI) vwCl [(pd, .inr (3, [.ref sg, .int w01])), (sg, .inl (cC, 80, .inl w1f))] H → va_D A [(pd, .inr (3, [.ref sg, .int w01])), (sg, .inl (cC, 80, .inl w1f))] → va_S A s.heap H locs → lv_has ls 5 [(4, .int x4), (3, .int x3), (0, .ref pd), (1, .long characters)] → W p l e (headSpec wsX3_append ({ frames := 1, cells := 0, slots := 0, locals := 26 })).room s m ([.ref pd, .long characters] : List Value).toArray below meth c H locs 0 0 (MQ below (va_Qi (fun r (_ : Unit) => r = res.1) (fun _ zt => va_P (dC, dI) vwCl [(pd, .inr (3, [.ref sg, .int res.2.1])), (sg, .inl (cC, 80, .inl res.2.2))] zt.heap) A) ([.ref pd, .long characters] : List Value).toArray s 0 0 A) (F0 m 31 ls []) := by
        intro n
        induction n with
        | zero => intro k31 x4 x3 w01 w1f _ _ _ _ hm; exact absurd hm (Nat.not_lt_zero _)
        | succ n ih31 =>
          intro k31 x4 x3 w01 w1f H locs ls hk31 hm31 ex31 hlen hq_4 hP hD hS hl
          rw [F_Pad_append_L31] at hq_4
          refine lv_iload hx hb dX3_append_31 (lv_at hl 0 rfl) ?_
          refine lv_if_lt (tgt := 74) hx hb dX3_append_33 (by decide) (fun c_5 => ?_) (fun c_5 => ?_)
          · rw [if_pos c_5] at hq_4
            subst hq_4
            exact hexit31 _ _ _  hP hD hS (lv_sub hl [0, 1, 2, 3] rfl)
          · rw [if_neg c_5] at hq_4
            have hlt : k31 < mm := dn_lt ex31 hk31 (by omega) c_5
            refine lv_aload_n hx hb dX3_append_36 rfl (lv_at hl 2 rfl) ?_
            refine va_get (D := (dC, dI)) (ci := 3) (v := .ref sg) (C := RX3) (T := TX3) (N := 2) hx hb hts iX3_append_X3 hown hK hP 0 rfl rfl 0 (by decide) (hts (.fieldLink RX3 11 "TailorChalks$Pad" "signs" "[C") kX3_append_11) (fun _ h9 => h9) rfl dX3_append_37 ?_
            refine lv_aload_n hx hb dX3_append_40 rfl (lv_at hl 2 rfl) ?_
            refine va_get (D := (dC, dI)) (ci := 3) (v := .int w01) (C := RX3) (T := TX3) (N := 2) hx hb hts iX3_append_X3 hown hK hP 0 rfl rfl 1 (by decide) (hts (.fieldLink RX3 19 "TailorChalks$Pad" "length" "I") kX3_append_19) (fun _ h9 => h9) rfl dX3_append_41 ?_
            refine lv_lload_n hx hb dX3_append_44 rfl (lv_at hl 3 rfl) ?_
            refine lv_bipush (v := 8) hx hb dX3_append_45 (by decide) ?_
            refine lv_iload hx hb dX3_append_47 (lv_at hl 0 rfl) ?_
            refine lv_imul hx hb dX3_append_49 ?_
            refine lv_lushr (v := (characters.toUInt64 >>> (((8 : Int32) * x4).toInt64.toUInt64 &&& Int64.toUInt64 63)).toInt64) hx hb dX3_append_50 rfl ?_
            refine lv_ldc2 (v := 255) hx hb hown (hts (.constantLong RX3 23 (255)) (by decide +kernel)) dX3_append_51 ?_
            refine lv_land hx hb dX3_append_54 ?_
            refine lv_l2i (v := ((characters.toUInt64 >>> (((8 : Int32) * x4).toInt64.toUInt64 &&& Int64.toUInt64 63)).toInt64 &&& 255).toInt32) hx hb dX3_append_55 rfl ?_
            refine lv_i2c (v := ((((characters.toUInt64 >>> (((8 : Int32) * x4).toInt64.toUInt64 &&& Int64.toUInt64 63)).toInt64 &&& 255).toInt32).toUInt32 % 65536).toInt32) hx hb dX3_append_56 rfl ?_
            refine va_cast hx hb hK hP hD hS 1 1 rfl rfl (by rw [hlen]; exact vp_in_nI (by omega) (by decide)) dX3_append_57 (fun H locs hP hD hS => ?_)
            have hP : va_P (dC, dI) vwCl [(pd, .inr (3, [.ref sg, .int w01])), (sg, .inl (cC, 80, .inl (upd w1f w01.toNatClampNeg (vp_nar .char (((((characters.toUInt64 >>> (((8 : Int32) * x4).toInt64.toUInt64 &&& Int64.toUInt64 63)).toInt64 &&& 255).toInt32).toUInt32 % 65536).toInt32)))))] H := hP
            have hD : va_D A [(pd, .inr (3, [.ref sg, .int w01])), (sg, .inl (cC, 80, .inl (upd w1f w01.toNatClampNeg (vp_nar .char (((((characters.toUInt64 >>> (((8 : Int32) * x4).toInt64.toUInt64 &&& Int64.toUInt64 63)).toInt64 &&& 255).toInt32).toUInt32 % 65536).toInt32)))))] := hD
            refine lv_aload_n hx hb dX3_append_58 rfl (lv_at hl 2 rfl) ?_
            refine lv_dup hx hb dX3_append_59 rfl ?_
            refine va_get (D := (dC, dI)) (ci := 3) (v := .int w01) (C := RX3) (T := TX3) (N := 2) hx hb hts iX3_append_X3 hown hK hP 0 rfl rfl 1 (by decide) (hts (.fieldLink RX3 19 "TailorChalks$Pad" "length" "I") kX3_append_19) (fun _ h9 => h9) rfl dX3_append_60 ?_
            refine lv_iconst (v := 1) hx hb dX3_append_63 (by decide) ?_
            refine lv_iadd hx hb dX3_append_64 ?_
            refine va_put (D := (dC, dI)) (ci := 3) (v := .int (w01 + 1)) (ty := (.int)) (C := RX3) (T := TX3) (N := 2) hx hb hts iX3_append_X3 tyX3 tyX3_ok nmX3 hown hK hP hD hS 0 rfl rfl 1 (by decide) (hts (.fieldLink RX3 19 "TailorChalks$Pad" "length" "I") kX3_append_19) (fun _ h9 => h9) rfl (by decide +kernel) rfl rfl (Nat.le_of_ble_eq_true rfl) dX3_append_65 (fun H locs hP hD hS => ?_)
            have hP : va_P (dC, dI) vwCl [(pd, .inr (3, [.ref sg, .int (w01 + 1)])), (sg, .inl (cC, 80, .inl (upd w1f w01.toNatClampNeg (vp_nar .char (((((characters.toUInt64 >>> (((8 : Int32) * x4).toInt64.toUInt64 &&& Int64.toUInt64 63)).toInt64 &&& 255).toInt32).toUInt32 % 65536).toInt32)))))] H := hP
            have hD : va_D A [(pd, .inr (3, [.ref sg, .int (w01 + 1)])), (sg, .inl (cC, 80, .inl (upd w1f w01.toNatClampNeg (vp_nar .char (((((characters.toUInt64 >>> (((8 : Int32) * x4).toInt64.toUInt64 &&& Int64.toUInt64 63)).toInt64 &&& 255).toInt32).toUInt32 % 65536).toInt32)))))] := hD
            refine lv_iinc (v := (x4 + (-1))) (lv' := [(4, .int (x4 + (-1))), (3, .int x3), (0, .ref pd), (1, .long characters)]) hx hb dX3_append_68 hl (k := 0) rfl rfl (by decide) rfl (fun ls hl => ?_)
            refine lv_goto (tgt := 31) hx hb dX3_append_71 (by decide) ?_
            exact ih31 (k31 + 1) (x4 + (-1)) x3 (w01 + 1) (upd w1f w01.toNatClampNeg (vp_nar .char (((((characters.toUInt64 >>> (((8 : Int32) * x4).toInt64.toUInt64 &&& Int64.toUInt64 63)).toInt64 &&& 255).toInt32).toUInt32 % 65536).toInt32))) _ _ _ (by omega) (by omega) (dn_step ex31 hlt) (by rw [hlen]; exact nI_1 _) hq_4 hP hD hS (lv_sub hl [0, 1, 2, 3] rfl)
      exact hloop31 9 0 (r_1 - 1) r_1 ln fsg _ _ _ (by omega) (by omega) (by rw [emm]; rfl) (by rw [eL0]; rfl) hq_4 hP hD hS (lv_sub hl [0, 1, 2, 3] rfl)
    · rw [if_neg c_3] at hres
      refine lv_bipush (v := (-4)) hx hb dX3_append_23 (by decide) ?_
      subst hres
      exact W.iret (v := (-4)) hx hb hr (fun t ht hW => ⟨⟨(-4), (), rfl, rfl, (by show va_P _ _ _ t.heap; rw [ht]; exact hP)⟩, hS.F ht⟩) hS.2.2 dX3_append_25
  · rw [if_pos c_2] at hres
    refine lv_bipush (v := (-2)) hx hb dX3_append_9 (by decide) ?_
    subst hres
    exact W.iret (v := (-2)) hx hb hr (fun t ht hW => ⟨⟨(-2), (), rfl, rfl, (by show va_P _ _ _ t.heap; rw [ht]; exact hP)⟩, hS.F ht⟩) hS.2.2 dX3_append_11
theorem iX3_clear_X3 : ∀ w ∈ u_ws RX3 TX3 2, w ∈ wsX3_clear := by decide +kernel
theorem kX3_clear_19 : Cond.fieldLink RX3 19 "TailorChalks$Pad" "length" "I" ∈ wsX3_clear := by decide +kernel
def F_Pad_clear (ln : Int32) : Int32 × Int32 := (ln, 0)
set_option maxHeartbeats 4000000 in
set_option maxRecDepth 100000 in
theorem c_Pad_clear (l : Launch) (dC : Nat → ClassId) (dI : Nat → Nat → Nat) (cI cC cG cZ : ClassId) (pd sg : Nat) (ln : Int32) (res : Int32 × Int32) (hres : res = F_Pad_clear ln) : Met l yX3_clear wsX3_clear ({ frames := 0, cells := 0, slots := 0, locals := 0 }) (va_Pc [.ref pd] (wr_P (dC, dI) vwCl (tyL cI cC cG cZ) [(pd, .inr (3, [.ref sg, .int ln]))])) (va_Qi (fun r (_ : Unit) => r = res.1) (fun _ zt => va_P (dC, dI) vwCl [(pd, .inr (3, [.ref sg, .int res.2]))] zt.heap) (wr_A [(pd, .inr (3, [.ref sg, .int ln]))])) 0 0 (wr_A [(pd, .inr (3, [.ref sg, .int ln]))]) := by
  refine Met.ofW (cc := cX3_clear) (maxL := 2) (ret := (some .int)) (by decide) rfl ?_
  intro p e s m args below meth c s₁ B hml hv
  obtain ⟨rfl, hP, hK, hD0⟩ := hv
  have hx := B.exec
  have hb := B.bytes
  have hr := B.returns
  have hts := atoms_spec (ws := wsX3_clear) B.pre
  have hown : s.vm.findClass RX3 = some m.cls := findClass_of_methodNamed B.named
  have hlocks := B.notSynchronized
  have hD := wr_self hD0
  generalize hAe : wr_A [(pd, .inr (3, [.ref sg, .int ln]))] = A at hD ⊢
  have hS : va_S A s.heap s.heap [] := va_S.rf
  have hP : va_P (dC, dI) vwCl [(pd, .inr (3, [.ref sg, .int ln]))] s.heap := hP
  have hl := lv_entry ([.ref pd]) (n := 2) (Nat.le_of_ble_eq_true rfl)
  rw [lg_entry_eq]
  generalize (lg_sl ([.ref pd]) ++ List.replicate (2 - (lg_sl ([.ref pd])).length) Slot.unset).toArray = ls at hl ⊢
  have hl : lv_has ls 2 [(0, .ref pd)] := hl
  rw [F_Pad_clear] at hres
  refine lv_aload_n hx hb dX3_clear_0 rfl (lv_at hl 0 rfl) ?_
  refine va_get (D := (dC, dI)) (ci := 3) (v := .int ln) (C := RX3) (T := TX3) (N := 2) hx hb hts iX3_clear_X3 hown hK hP 0 rfl rfl 1 (by decide) (hts (.fieldLink RX3 19 "TailorChalks$Pad" "length" "I") kX3_clear_19) (fun _ h9 => h9) rfl dX3_clear_1 ?_
  refine lv_istore_n (lv' := [(1, .int ln), (0, .ref pd)]) hx hb dX3_clear_4 rfl hl (by decide) rfl (fun ls hl => ?_)
  refine lv_aload_n hx hb dX3_clear_5 rfl (lv_at hl 1 rfl) ?_
  refine lv_iconst (v := 0) hx hb dX3_clear_6 (by decide) ?_
  refine va_put (D := (dC, dI)) (ci := 3) (v := .int 0) (ty := (.int)) (C := RX3) (T := TX3) (N := 2) hx hb hts iX3_clear_X3 tyX3 tyX3_ok nmX3 hown hK hP hD hS 0 rfl rfl 1 (by decide) (hts (.fieldLink RX3 19 "TailorChalks$Pad" "length" "I") kX3_clear_19) (fun _ h9 => h9) rfl (by decide +kernel) rfl rfl (Nat.le_of_ble_eq_true rfl) dX3_clear_7 (fun H locs hP hD hS => ?_)
  have hP : va_P (dC, dI) vwCl [(pd, .inr (3, [.ref sg, .int 0]))] H := hP
  have hD : va_D A [(pd, .inr (3, [.ref sg, .int 0]))] := hD
  refine lv_iload_n hx hb dX3_clear_10 rfl (lv_at hl 0 rfl) ?_
  subst hres
  exact W.iret (v := ln) hx hb hr (fun t ht hW => ⟨⟨ln, (), rfl, rfl, (by show va_P _ _ _ t.heap; rw [ht]; exact hP)⟩, hS.F ht⟩) hS.2.2 dX3_clear_11
def F_Pad_isDigit (sign : Int32) : Int32 := (if sign < 48 then 0 else (if (57 : Int32) < sign then 0 else 1))
set_option maxHeartbeats 4000000 in
set_option maxRecDepth 100000 in
theorem c_Pad_isDigit (l : Launch) (dC : Nat → ClassId) (dI : Nat → Nat → Nat) (cI cC cG cZ : ClassId) (sign : Int32) (res : Int32) (hres : res = F_Pad_isDigit sign) : Met l yX3_isDigit wsX3_isDigit ({ frames := 0, cells := 0, slots := 0, locals := 0 }) (va_Pc [.int sign] (ro_P (dC, dI) vwCl (tyL cI cC cG cZ) [])) (va_Qi (fun r (_ : Unit) => r = res) (fun _ _ => True) ro_F) 0 0 ro_F := by
  refine Met.ofW (cc := cX3_isDigit) (maxL := 1) (ret := (some .boolean)) (by decide) rfl ?_
  intro p e s m args below meth c s₁ B hml hv
  obtain ⟨rfl, hP, hK⟩ := hv
  have hx := B.exec
  have hb := B.bytes
  have hr := B.returns
  have hts := atoms_spec (ws := wsX3_isDigit) B.pre
  have hown : s.vm.findClass RX3 = some m.cls := findClass_of_methodNamed B.named
  have hlocks := B.notSynchronized
  have hS : va_S ro_F s.heap s.heap [] := va_S.rf
  have hl := lv_entry ([.int sign]) (n := 1) (Nat.le_of_ble_eq_true rfl)
  rw [lg_entry_eq]
  generalize (lg_sl ([.int sign]) ++ List.replicate (1 - (lg_sl ([.int sign])).length) Slot.unset).toArray = ls at hl ⊢
  have hl : lv_has ls 1 [(0, .int sign)] := hl
  rw [F_Pad_isDigit] at hres
  refine lv_iload_n hx hb dX3_isDigit_0 rfl (lv_at hl 0 rfl) ?_
  refine lv_bipush (v := 48) hx hb dX3_isDigit_1 (by decide) ?_
  refine lv_icmp_lt (tgt := 16) hx hb dX3_isDigit_3 (by decide) (fun c_1 => ?_) (fun c_1 => ?_)
  · rw [if_pos c_1] at hres
    refine lv_iconst (v := 0) hx hb dX3_isDigit_16 (by decide) ?_
    exact W.zret (v := 0) hx hb hr rfl (fun t ht hW => ⟨⟨0, (), rfl, hres.symm, trivial⟩, hS.F ht⟩) hS.2.2 dX3_isDigit_17
  · rw [if_neg c_1] at hres
    refine lv_iload_n hx hb dX3_isDigit_6 rfl (lv_at hl 0 rfl) ?_
    refine lv_bipush (v := 57) hx hb dX3_isDigit_7 (by decide) ?_
    refine lv_icmp_gt (tgt := 16) hx hb dX3_isDigit_9 (by decide) (fun c_2 => ?_) (fun c_2 => ?_)
    · rw [if_pos c_2] at hres
      refine lv_iconst (v := 0) hx hb dX3_isDigit_16 (by decide) ?_
      exact W.zret (v := 0) hx hb hr rfl (fun t ht hW => ⟨⟨0, (), rfl, hres.symm, trivial⟩, hS.F ht⟩) hS.2.2 dX3_isDigit_17
    · rw [if_neg c_2] at hres
      refine lv_iconst (v := 1) hx hb dX3_isDigit_12 (by decide) ?_
      refine lv_goto (tgt := 17) hx hb dX3_isDigit_13 (by decide) ?_
      exact W.zret (v := 1) hx hb hr rfl (fun t ht hW => ⟨⟨1, (), rfl, hres.symm, trivial⟩, hS.F ht⟩) hS.2.2 dX3_isDigit_17
theorem F_Pad_isDigit_b (sign : Int32) : F_Pad_isDigit sign = 0 ∨ F_Pad_isDigit sign = 1 := by
  unfold F_Pad_isDigit
  try simp only [bnd]
  (repeat' split) <;> first | exact Or.inl rfl | exact Or.inr rfl
def F_Pad_placeBehindOrder (sign : Int32) : Int32 := (if sign = 98 then 1 else (if sign = 99 then 1 else (if sign = 100 then 1 else (if sign = 112 then 3 else (if sign = 115 then 1 else (if sign = 119 then 1 else 4))))))
set_option maxHeartbeats 4000000 in
set_option maxRecDepth 100000 in
theorem c_Pad_placeBehindOrder (l : Launch) (dC : Nat → ClassId) (dI : Nat → Nat → Nat) (cI cC cG cZ : ClassId) (sign : Int32) (res : Int32) (hres : res = F_Pad_placeBehindOrder sign) : Met l yX3_placeBehindOrder wsX3_placeBehindOrder ({ frames := 0, cells := 0, slots := 0, locals := 0 }) (va_Pc [.int sign] (ro_P (dC, dI) vwCl (tyL cI cC cG cZ) [])) (va_Qi (fun r (_ : Unit) => r = res) (fun _ _ => True) ro_F) 0 0 ro_F := by
  refine Met.ofW (cc := cX3_placeBehindOrder) (maxL := 1) (ret := (some .int)) (by decide) rfl ?_
  intro p e s m args below meth c s₁ B hml hv
  obtain ⟨rfl, hP, hK⟩ := hv
  have hx := B.exec
  have hb := B.bytes
  have hr := B.returns
  have hts := atoms_spec (ws := wsX3_placeBehindOrder) B.pre
  have hown : s.vm.findClass RX3 = some m.cls := findClass_of_methodNamed B.named
  have hlocks := B.notSynchronized
  have hS : va_S ro_F s.heap s.heap [] := va_S.rf
  have hl := lv_entry ([.int sign]) (n := 1) (Nat.le_of_ble_eq_true rfl)
  rw [lg_entry_eq]
  generalize (lg_sl ([.int sign]) ++ List.replicate (1 - (lg_sl ([.int sign])).length) Slot.unset).toArray = ls at hl ⊢
  have hl : lv_has ls 1 [(0, .int sign)] := hl
  rw [F_Pad_placeBehindOrder] at hres
  refine lv_iload_n hx hb dX3_placeBehindOrder_0 rfl (lv_at hl 0 rfl) ?_
  by_cases c_1 : sign = 98
  · rw [if_pos c_1] at hres
    refine lv_lookup (off := 59) (tgt := 60) hx hb dX3_placeBehindOrder_1 (by decide) (by rw [c_1]; rfl) (by decide) ?_
    refine lv_iconst (v := 1) hx hb dX3_placeBehindOrder_60 (by decide) ?_
    exact W.iret (v := 1) hx hb hr (fun t ht hW => ⟨⟨1, (), rfl, hres.symm, trivial⟩, hS.F ht⟩) hS.2.2 dX3_placeBehindOrder_61
  · rw [if_neg c_1] at hres
    by_cases c_2 : sign = 99
    · rw [if_pos c_2] at hres
      refine lv_lookup (off := 59) (tgt := 60) hx hb dX3_placeBehindOrder_1 (by decide) (by rw [c_2]; rfl) (by decide) ?_
      refine lv_iconst (v := 1) hx hb dX3_placeBehindOrder_60 (by decide) ?_
      exact W.iret (v := 1) hx hb hr (fun t ht hW => ⟨⟨1, (), rfl, hres.symm, trivial⟩, hS.F ht⟩) hS.2.2 dX3_placeBehindOrder_61
    · rw [if_neg c_2] at hres
      by_cases c_3 : sign = 100
      · rw [if_pos c_3] at hres
        refine lv_lookup (off := 59) (tgt := 60) hx hb dX3_placeBehindOrder_1 (by decide) (by rw [c_3]; rfl) (by decide) ?_
        refine lv_iconst (v := 1) hx hb dX3_placeBehindOrder_60 (by decide) ?_
        exact W.iret (v := 1) hx hb hr (fun t ht hW => ⟨⟨1, (), rfl, hres.symm, trivial⟩, hS.F ht⟩) hS.2.2 dX3_placeBehindOrder_61
      · rw [if_neg c_3] at hres
        by_cases c_4 : sign = 112
        · rw [if_pos c_4] at hres
          refine lv_lookup (off := 61) (tgt := 62) hx hb dX3_placeBehindOrder_1 (by decide) (by rw [c_4]; rfl) (by decide) ?_
          refine lv_iconst (v := 3) hx hb dX3_placeBehindOrder_62 (by decide) ?_
          exact W.iret (v := 3) hx hb hr (fun t ht hW => ⟨⟨3, (), rfl, hres.symm, trivial⟩, hS.F ht⟩) hS.2.2 dX3_placeBehindOrder_63
        · rw [if_neg c_4] at hres
          by_cases c_5 : sign = 115
          · rw [if_pos c_5] at hres
            refine lv_lookup (off := 59) (tgt := 60) hx hb dX3_placeBehindOrder_1 (by decide) (by rw [c_5]; rfl) (by decide) ?_
            refine lv_iconst (v := 1) hx hb dX3_placeBehindOrder_60 (by decide) ?_
            exact W.iret (v := 1) hx hb hr (fun t ht hW => ⟨⟨1, (), rfl, hres.symm, trivial⟩, hS.F ht⟩) hS.2.2 dX3_placeBehindOrder_61
          · rw [if_neg c_5] at hres
            by_cases c_6 : sign = 119
            · rw [if_pos c_6] at hres
              refine lv_lookup (off := 59) (tgt := 60) hx hb dX3_placeBehindOrder_1 (by decide) (by rw [c_6]; rfl) (by decide) ?_
              refine lv_iconst (v := 1) hx hb dX3_placeBehindOrder_60 (by decide) ?_
              exact W.iret (v := 1) hx hb hr (fun t ht hW => ⟨⟨1, (), rfl, hres.symm, trivial⟩, hS.F ht⟩) hS.2.2 dX3_placeBehindOrder_61
            · rw [if_neg c_6] at hres
              refine lv_lookup (off := 63) (tgt := 64) hx hb dX3_placeBehindOrder_1 (by decide) (by show Op.lookupswitch.offset [(98, 59), (99, 59), (100, 59), (112, 61), (115, 59), (119, 59)] 63 _ = _; rw [lv_osw (a := 98) c_1 rfl, lv_osw (a := 99) c_2 rfl, lv_osw (a := 100) c_3 rfl, lv_osw (a := 112) c_4 rfl, lv_osw (a := 115) c_5 rfl, lv_osw (a := 119) c_6 rfl]; rfl) (by decide) ?_
              refine lv_iconst (v := 4) hx hb dX3_placeBehindOrder_64 (by decide) ?_
              exact W.iret (v := 4) hx hb hr (fun t ht hW => ⟨⟨4, (), rfl, hres.symm, trivial⟩, hS.F ht⟩) hS.2.2 dX3_placeBehindOrder_65
def F_Pad_placeBehind (place : Int32) (sign : Int32) : Int32 := (if place = 0 then (bnd (F_Pad_placeBehindOrder sign) (fun r_28 => r_28)) else (if place = 1 then (bnd (F_Pad_isDigit sign) (fun r_14 => (if r_14 = 0 then (if place = 2 then (bnd (F_Pad_isDigit sign) (fun r_22 => (if r_22 = 0 then (if sign = 59 then 0 else 4) else 3))) else (if place = 3 then (if sign = 59 then 0 else 4) else 4)) else (if sign = 48 then 3 else 2)))) else (if place = 2 then (bnd (F_Pad_isDigit sign) (fun r_9 => (if r_9 = 0 then (if sign = 59 then 0 else 4) else 3))) else (if place = 3 then (if sign = 59 then 0 else 4) else 4))))
set_option maxHeartbeats 4000000 in
set_option maxRecDepth 100000 in
theorem c_Pad_placeBehind (l : Launch) (dC : Nat → ClassId) (dI : Nat → Nat → Nat) (cI cC cG cZ : ClassId) (place : Int32) (sign : Int32) (res : Int32) (hres : res = F_Pad_placeBehind place sign) : Met l yX3_placeBehind wsX3_placeBehind ({ frames := 1, cells := 0, slots := 0, locals := 20 }) (va_Pc [.int place, .int sign] (ro_P (dC, dI) vwCl (tyL cI cC cG cZ) [])) (va_Qi (fun r (_ : Unit) => r = res) (fun _ _ => True) ro_F) 0 0 ro_F := by
  refine Met.ofW (cc := cX3_placeBehind) (maxL := 3) (ret := (some .int)) (by decide) rfl ?_
  intro p e s m args below meth c s₁ B hml hv
  obtain ⟨rfl, hP, hK⟩ := hv
  have hx := B.exec
  have hb := B.bytes
  have hr := B.returns
  have hts := atoms_spec (ws := wsX3_placeBehind) B.pre
  have hown : s.vm.findClass RX3 = some m.cls := findClass_of_methodNamed B.named
  have hlocks := B.notSynchronized
  have hS : va_S ro_F s.heap s.heap [] := va_S.rf
  have hl := lv_entry ([.int place, .int sign]) (n := 3) (Nat.le_of_ble_eq_true rfl)
  rw [lg_entry_eq]
  generalize (lg_sl ([.int place, .int sign]) ++ List.replicate (3 - (lg_sl ([.int place, .int sign])).length) Slot.unset).toArray = ls at hl ⊢
  have hl : lv_has ls 3 [(0, .int place), (1, .int sign)] := hl
  rw [F_Pad_placeBehind] at hres
  refine lv_iload_n hx hb dX3_placeBehind_0 rfl (lv_at hl 0 rfl) ?_
  refine lv_if_ne (tgt := 9) hx hb dX3_placeBehind_1 (by decide) (fun c_1 => ?_) (fun c_1 => ?_)
  · rw [if_neg c_1] at hres
    refine lv_iload_n hx hb dX3_placeBehind_9 rfl (lv_at hl 0 rfl) ?_
    refine lv_iconst (v := 1) hx hb dX3_placeBehind_10 (by decide) ?_
    refine lv_icmp_ne (tgt := 33) hx hb dX3_placeBehind_11 (by decide) (fun c_2 => ?_) (fun c_2 => ?_)
    · rw [if_neg c_2] at hres
      refine lv_iload_n hx hb dX3_placeBehind_33 rfl (lv_at hl 0 rfl) ?_
      refine lv_iconst (v := 2) hx hb dX3_placeBehind_34 (by decide) ?_
      refine lv_icmp_ne (tgt := 47) hx hb dX3_placeBehind_35 (by decide) (fun c_3 => ?_) (fun c_3 => ?_)
      · rw [if_neg c_3] at hres
        refine lv_iload_n hx hb dX3_placeBehind_47 rfl (lv_at hl 0 rfl) ?_
        refine lv_iconst (v := 2) hx hb dX3_placeBehind_48 (by decide) ?_
        refine lv_icmp_eq (tgt := 57) hx hb dX3_placeBehind_49 (by decide) (fun c_4 => ?_) (fun c_4 => ?_)
        · exact absurd c_4 c_3
        refine lv_iload_n hx hb dX3_placeBehind_52 rfl (lv_at hl 0 rfl) ?_
        refine lv_iconst (v := 3) hx hb dX3_placeBehind_53 (by decide) ?_
        refine lv_icmp_ne (tgt := 61) hx hb dX3_placeBehind_54 (by decide) (fun c_5 => ?_) (fun c_5 => ?_)
        · rw [if_neg c_5] at hres
          refine lv_iconst (v := 0) hx hb dX3_placeBehind_61 (by decide) ?_
          refine lv_istore_n (lv' := [(2, .int 0), (0, .int place), (1, .int sign)]) hx hb dX3_placeBehind_62 rfl hl (by decide) rfl (fun ls hl => ?_)
          refine lv_iload_n hx hb dX3_placeBehind_63 rfl (lv_at hl 0 rfl) ?_
          refine lv_if_eq (tgt := 77) hx hb dX3_placeBehind_64 (by decide) (fun c_6 => ?_) (fun c_6 => ?_)
          rotate_left
          · exact absurd (by decide) c_6
          refine lv_iconst (v := 4) hx hb dX3_placeBehind_77 (by decide) ?_
          exact W.iret (v := 4) hx hb hr (fun t ht hW => ⟨⟨4, (), rfl, hres.symm, trivial⟩, hS.F ht⟩) hS.2.2 dX3_placeBehind_78
        · rw [if_pos c_5] at hres
          refine lv_iconst (v := 1) hx hb dX3_placeBehind_57 (by decide) ?_
          refine lv_goto (tgt := 62) hx hb dX3_placeBehind_58 (by decide) ?_
          refine lv_istore_n (lv' := [(2, .int 1), (0, .int place), (1, .int sign)]) hx hb dX3_placeBehind_62 rfl hl (by decide) rfl (fun ls hl => ?_)
          refine lv_iload_n hx hb dX3_placeBehind_63 rfl (lv_at hl 0 rfl) ?_
          refine lv_if_eq (tgt := 77) hx hb dX3_placeBehind_64 (by decide) (fun c_7 => ?_) (fun c_7 => ?_)
          · exact absurd c_7 (by decide)
          refine lv_iload_n hx hb dX3_placeBehind_67 rfl (lv_at hl 2 rfl) ?_
          refine lv_bipush (v := 59) hx hb dX3_placeBehind_68 (by decide) ?_
          refine lv_icmp_ne (tgt := 77) hx hb dX3_placeBehind_70 (by decide) (fun c_8 => ?_) (fun c_8 => ?_)
          · rw [if_neg c_8] at hres
            refine lv_iconst (v := 4) hx hb dX3_placeBehind_77 (by decide) ?_
            exact W.iret (v := 4) hx hb hr (fun t ht hW => ⟨⟨4, (), rfl, hres.symm, trivial⟩, hS.F ht⟩) hS.2.2 dX3_placeBehind_78
          · rw [if_pos c_8] at hres
            refine lv_iconst (v := 0) hx hb dX3_placeBehind_73 (by decide) ?_
            refine lv_goto (tgt := 78) hx hb dX3_placeBehind_74 (by decide) ?_
            exact W.iret (v := 0) hx hb hr (fun t ht hW => ⟨⟨0, (), rfl, hres.symm, trivial⟩, hS.F ht⟩) hS.2.2 dX3_placeBehind_78
      · rw [if_pos c_3] at hres
        refine lv_iload_n hx hb dX3_placeBehind_38 rfl (lv_at hl 1 rfl) ?_
        obtain ⟨r_9, hr_9⟩ : ∃ z, z = F_Pad_isDigit sign := ⟨_, rfl⟩
        rw [bnd_e hr_9] at hres
        refine ro_calli (va_runS (As := [.int sign]) (rest := []) ⟨hx, hb, hml, hown, hts⟩ (c_Pad_isDigit l dC dI cI cC cG cZ  sign  r_9 hr_9) (va_cwS 1 hts gX3_placeBehind_X3_isDigit rfl rfl rfl (by decide +kernel) ⟨Nat.le_of_ble_eq_true rfl, Nat.le_of_ble_eq_true rfl⟩) (ro_preS (hP.sub (ws' := []) [] rfl) hK) rfl rfl hl.1 rfl (lv_room (Nat.le_of_ble_eq_true rfl)) dX3_placeBehind_39 ⟨Nat.zero_le _, Nat.zero_le _⟩) hP hS (fun H locs hP hS => ?_)
        refine lv_if_eq (tgt := 47) hx hb dX3_placeBehind_42 (by decide) (fun c_10 => ?_) (fun c_10 => ?_)
        · rw [if_pos c_10] at hres
          refine lv_iload_n hx hb dX3_placeBehind_47 rfl (lv_at hl 0 rfl) ?_
          refine lv_iconst (v := 2) hx hb dX3_placeBehind_48 (by decide) ?_
          refine lv_icmp_eq (tgt := 57) hx hb dX3_placeBehind_49 (by decide) (fun c_11 => ?_) (fun c_11 => ?_)
          rotate_left
          · exact absurd c_3 c_11
          refine lv_iconst (v := 1) hx hb dX3_placeBehind_57 (by decide) ?_
          refine lv_goto (tgt := 62) hx hb dX3_placeBehind_58 (by decide) ?_
          refine lv_istore_n (lv' := [(2, .int 1), (0, .int place), (1, .int sign)]) hx hb dX3_placeBehind_62 rfl hl (by decide) rfl (fun ls hl => ?_)
          refine lv_iload_n hx hb dX3_placeBehind_63 rfl (lv_at hl 0 rfl) ?_
          refine lv_if_eq (tgt := 77) hx hb dX3_placeBehind_64 (by decide) (fun c_12 => ?_) (fun c_12 => ?_)
          · exact absurd c_12 (by decide)
          refine lv_iload_n hx hb dX3_placeBehind_67 rfl (lv_at hl 2 rfl) ?_
          refine lv_bipush (v := 59) hx hb dX3_placeBehind_68 (by decide) ?_
          refine lv_icmp_ne (tgt := 77) hx hb dX3_placeBehind_70 (by decide) (fun c_13 => ?_) (fun c_13 => ?_)
          · rw [if_neg c_13] at hres
            refine lv_iconst (v := 4) hx hb dX3_placeBehind_77 (by decide) ?_
            exact W.iret (v := 4) hx hb hr (fun t ht hW => ⟨⟨4, (), rfl, hres.symm, trivial⟩, hS.F ht⟩) hS.2.2 dX3_placeBehind_78
          · rw [if_pos c_13] at hres
            refine lv_iconst (v := 0) hx hb dX3_placeBehind_73 (by decide) ?_
            refine lv_goto (tgt := 78) hx hb dX3_placeBehind_74 (by decide) ?_
            exact W.iret (v := 0) hx hb hr (fun t ht hW => ⟨⟨0, (), rfl, hres.symm, trivial⟩, hS.F ht⟩) hS.2.2 dX3_placeBehind_78
        · rw [if_neg c_10] at hres
          refine lv_iconst (v := 3) hx hb dX3_placeBehind_45 (by decide) ?_
          exact W.iret (v := 3) hx hb hr (fun t ht hW => ⟨⟨3, (), rfl, hres.symm, trivial⟩, hS.F ht⟩) hS.2.2 dX3_placeBehind_46
    · rw [if_pos c_2] at hres
      refine lv_iload_n hx hb dX3_placeBehind_14 rfl (lv_at hl 1 rfl) ?_
      obtain ⟨r_14, hr_14⟩ : ∃ z, z = F_Pad_isDigit sign := ⟨_, rfl⟩
      rw [bnd_e hr_14] at hres
      refine ro_calli (va_runS (As := [.int sign]) (rest := []) ⟨hx, hb, hml, hown, hts⟩ (c_Pad_isDigit l dC dI cI cC cG cZ  sign  r_14 hr_14) (va_cwS 1 hts gX3_placeBehind_X3_isDigit rfl rfl rfl (by decide +kernel) ⟨Nat.le_of_ble_eq_true rfl, Nat.le_of_ble_eq_true rfl⟩) (ro_preS (hP.sub (ws' := []) [] rfl) hK) rfl rfl hl.1 rfl (lv_room (Nat.le_of_ble_eq_true rfl)) dX3_placeBehind_15 ⟨Nat.zero_le _, Nat.zero_le _⟩) hP hS (fun H locs hP hS => ?_)
      refine lv_if_eq (tgt := 33) hx hb dX3_placeBehind_18 (by decide) (fun c_15 => ?_) (fun c_15 => ?_)
      · rw [if_pos c_15] at hres
        refine lv_iload_n hx hb dX3_placeBehind_33 rfl (lv_at hl 0 rfl) ?_
        refine lv_iconst (v := 2) hx hb dX3_placeBehind_34 (by decide) ?_
        refine lv_icmp_ne (tgt := 47) hx hb dX3_placeBehind_35 (by decide) (fun c_16 => ?_) (fun c_16 => ?_)
        · rw [if_neg c_16] at hres
          refine lv_iload_n hx hb dX3_placeBehind_47 rfl (lv_at hl 0 rfl) ?_
          refine lv_iconst (v := 2) hx hb dX3_placeBehind_48 (by decide) ?_
          refine lv_icmp_eq (tgt := 57) hx hb dX3_placeBehind_49 (by decide) (fun c_17 => ?_) (fun c_17 => ?_)
          · exact absurd c_17 c_16
          refine lv_iload_n hx hb dX3_placeBehind_52 rfl (lv_at hl 0 rfl) ?_
          refine lv_iconst (v := 3) hx hb dX3_placeBehind_53 (by decide) ?_
          refine lv_icmp_ne (tgt := 61) hx hb dX3_placeBehind_54 (by decide) (fun c_18 => ?_) (fun c_18 => ?_)
          · rw [if_neg c_18] at hres
            refine lv_iconst (v := 0) hx hb dX3_placeBehind_61 (by decide) ?_
            refine lv_istore_n (lv' := [(2, .int 0), (0, .int place), (1, .int sign)]) hx hb dX3_placeBehind_62 rfl hl (by decide) rfl (fun ls hl => ?_)
            refine lv_iload_n hx hb dX3_placeBehind_63 rfl (lv_at hl 0 rfl) ?_
            refine lv_if_eq (tgt := 77) hx hb dX3_placeBehind_64 (by decide) (fun c_19 => ?_) (fun c_19 => ?_)
            rotate_left
            · exact absurd (by decide) c_19
            refine lv_iconst (v := 4) hx hb dX3_placeBehind_77 (by decide) ?_
            exact W.iret (v := 4) hx hb hr (fun t ht hW => ⟨⟨4, (), rfl, hres.symm, trivial⟩, hS.F ht⟩) hS.2.2 dX3_placeBehind_78
          · rw [if_pos c_18] at hres
            refine lv_iconst (v := 1) hx hb dX3_placeBehind_57 (by decide) ?_
            refine lv_goto (tgt := 62) hx hb dX3_placeBehind_58 (by decide) ?_
            refine lv_istore_n (lv' := [(2, .int 1), (0, .int place), (1, .int sign)]) hx hb dX3_placeBehind_62 rfl hl (by decide) rfl (fun ls hl => ?_)
            refine lv_iload_n hx hb dX3_placeBehind_63 rfl (lv_at hl 0 rfl) ?_
            refine lv_if_eq (tgt := 77) hx hb dX3_placeBehind_64 (by decide) (fun c_20 => ?_) (fun c_20 => ?_)
            · exact absurd c_20 (by decide)
            refine lv_iload_n hx hb dX3_placeBehind_67 rfl (lv_at hl 2 rfl) ?_
            refine lv_bipush (v := 59) hx hb dX3_placeBehind_68 (by decide) ?_
            refine lv_icmp_ne (tgt := 77) hx hb dX3_placeBehind_70 (by decide) (fun c_21 => ?_) (fun c_21 => ?_)
            · rw [if_neg c_21] at hres
              refine lv_iconst (v := 4) hx hb dX3_placeBehind_77 (by decide) ?_
              exact W.iret (v := 4) hx hb hr (fun t ht hW => ⟨⟨4, (), rfl, hres.symm, trivial⟩, hS.F ht⟩) hS.2.2 dX3_placeBehind_78
            · rw [if_pos c_21] at hres
              refine lv_iconst (v := 0) hx hb dX3_placeBehind_73 (by decide) ?_
              refine lv_goto (tgt := 78) hx hb dX3_placeBehind_74 (by decide) ?_
              exact W.iret (v := 0) hx hb hr (fun t ht hW => ⟨⟨0, (), rfl, hres.symm, trivial⟩, hS.F ht⟩) hS.2.2 dX3_placeBehind_78
        · rw [if_pos c_16] at hres
          refine lv_iload_n hx hb dX3_placeBehind_38 rfl (lv_at hl 1 rfl) ?_
          obtain ⟨r_22, hr_22⟩ : ∃ z, z = F_Pad_isDigit sign := ⟨_, rfl⟩
          rw [bnd_e hr_22] at hres
          refine ro_calli (va_runS (As := [.int sign]) (rest := []) ⟨hx, hb, hml, hown, hts⟩ (c_Pad_isDigit l dC dI cI cC cG cZ  sign  r_22 hr_22) (va_cwS 1 hts gX3_placeBehind_X3_isDigit rfl rfl rfl (by decide +kernel) ⟨Nat.le_of_ble_eq_true rfl, Nat.le_of_ble_eq_true rfl⟩) (ro_preS (hP.sub (ws' := []) [] rfl) hK) rfl rfl hl.1 rfl (lv_room (Nat.le_of_ble_eq_true rfl)) dX3_placeBehind_39 ⟨Nat.zero_le _, Nat.zero_le _⟩) hP hS (fun H locs hP hS => ?_)
          refine lv_if_eq (tgt := 47) hx hb dX3_placeBehind_42 (by decide) (fun c_23 => ?_) (fun c_23 => ?_)
          · rw [if_pos c_23] at hres
            refine lv_iload_n hx hb dX3_placeBehind_47 rfl (lv_at hl 0 rfl) ?_
            refine lv_iconst (v := 2) hx hb dX3_placeBehind_48 (by decide) ?_
            refine lv_icmp_eq (tgt := 57) hx hb dX3_placeBehind_49 (by decide) (fun c_24 => ?_) (fun c_24 => ?_)
            rotate_left
            · exact absurd c_16 c_24
            refine lv_iconst (v := 1) hx hb dX3_placeBehind_57 (by decide) ?_
            refine lv_goto (tgt := 62) hx hb dX3_placeBehind_58 (by decide) ?_
            refine lv_istore_n (lv' := [(2, .int 1), (0, .int place), (1, .int sign)]) hx hb dX3_placeBehind_62 rfl hl (by decide) rfl (fun ls hl => ?_)
            refine lv_iload_n hx hb dX3_placeBehind_63 rfl (lv_at hl 0 rfl) ?_
            refine lv_if_eq (tgt := 77) hx hb dX3_placeBehind_64 (by decide) (fun c_25 => ?_) (fun c_25 => ?_)
            · exact absurd c_25 (by decide)
            refine lv_iload_n hx hb dX3_placeBehind_67 rfl (lv_at hl 2 rfl) ?_
            refine lv_bipush (v := 59) hx hb dX3_placeBehind_68 (by decide) ?_
            refine lv_icmp_ne (tgt := 77) hx hb dX3_placeBehind_70 (by decide) (fun c_26 => ?_) (fun c_26 => ?_)
            · rw [if_neg c_26] at hres
              refine lv_iconst (v := 4) hx hb dX3_placeBehind_77 (by decide) ?_
              exact W.iret (v := 4) hx hb hr (fun t ht hW => ⟨⟨4, (), rfl, hres.symm, trivial⟩, hS.F ht⟩) hS.2.2 dX3_placeBehind_78
            · rw [if_pos c_26] at hres
              refine lv_iconst (v := 0) hx hb dX3_placeBehind_73 (by decide) ?_
              refine lv_goto (tgt := 78) hx hb dX3_placeBehind_74 (by decide) ?_
              exact W.iret (v := 0) hx hb hr (fun t ht hW => ⟨⟨0, (), rfl, hres.symm, trivial⟩, hS.F ht⟩) hS.2.2 dX3_placeBehind_78
          · rw [if_neg c_23] at hres
            refine lv_iconst (v := 3) hx hb dX3_placeBehind_45 (by decide) ?_
            exact W.iret (v := 3) hx hb hr (fun t ht hW => ⟨⟨3, (), rfl, hres.symm, trivial⟩, hS.F ht⟩) hS.2.2 dX3_placeBehind_46
      · rw [if_neg c_15] at hres
        refine lv_iload_n hx hb dX3_placeBehind_21 rfl (lv_at hl 1 rfl) ?_
        refine lv_bipush (v := 48) hx hb dX3_placeBehind_22 (by decide) ?_
        refine lv_icmp_ne (tgt := 31) hx hb dX3_placeBehind_24 (by decide) (fun c_27 => ?_) (fun c_27 => ?_)
        · rw [if_neg c_27] at hres
          refine lv_iconst (v := 2) hx hb dX3_placeBehind_31 (by decide) ?_
          exact W.iret (v := 2) hx hb hr (fun t ht hW => ⟨⟨2, (), rfl, hres.symm, trivial⟩, hS.F ht⟩) hS.2.2 dX3_placeBehind_32
        · rw [if_pos c_27] at hres
          refine lv_iconst (v := 3) hx hb dX3_placeBehind_27 (by decide) ?_
          refine lv_goto (tgt := 32) hx hb dX3_placeBehind_28 (by decide) ?_
          exact W.iret (v := 3) hx hb hr (fun t ht hW => ⟨⟨3, (), rfl, hres.symm, trivial⟩, hS.F ht⟩) hS.2.2 dX3_placeBehind_32
  · rw [if_pos c_1] at hres
    refine lv_iload_n hx hb dX3_placeBehind_4 rfl (lv_at hl 1 rfl) ?_
    obtain ⟨r_28, hr_28⟩ : ∃ z, z = F_Pad_placeBehindOrder sign := ⟨_, rfl⟩
    rw [bnd_e hr_28] at hres
    refine ro_calli (va_runS (As := [.int sign]) (rest := []) ⟨hx, hb, hml, hown, hts⟩ (c_Pad_placeBehindOrder l dC dI cI cC cG cZ  sign  r_28 hr_28) (va_cwS 1 hts gX3_placeBehind_X3_placeBehindOrder rfl rfl rfl (by decide +kernel) ⟨Nat.le_of_ble_eq_true rfl, Nat.le_of_ble_eq_true rfl⟩) (ro_preS (hP.sub (ws' := []) [] rfl) hK) rfl rfl hl.1 rfl (lv_room (Nat.le_of_ble_eq_true rfl)) dX3_placeBehind_5 ⟨Nat.zero_le _, Nat.zero_le _⟩) hP hS (fun H locs hP hS => ?_)
    exact W.iret (v := r_28) hx hb hr (fun t ht hW => ⟨⟨r_28, (), rfl, hres.symm, trivial⟩, hS.F ht⟩) hS.2.2 dX3_placeBehind_8
theorem iX3_firstFault_X3 : ∀ w ∈ u_ws RX3 TX3 2, w ∈ wsX3_firstFault := by decide +kernel
theorem kX3_firstFault_11 : Cond.fieldLink RX3 11 "TailorChalks$Pad" "signs" "[C" ∈ wsX3_firstFault := by decide +kernel
theorem kX3_firstFault_19 : Cond.fieldLink RX3 19 "TailorChalks$Pad" "length" "I" ∈ wsX3_firstFault := by decide +kernel
def F_Pad_firstFault_L4 (ln : Int32) (fsg : Nat → Int32) : Nat → Int32 → Int32 → Int32
  | 0, x2, x1 => 0
  | n + 1, x2, x1 => (if ln ≤ x2 then (if x1 = 2 then (-6) else (if x1 = 3 then (-6) else ln)) else (bnd (F_Pad_placeBehind x1 (fsg x2.toNatClampNeg)) (fun r_4 => (if r_4 = 4 then x2 else (F_Pad_firstFault_L4 ln fsg n (x2 + 1) r_4)))))
def F_Pad_firstFault (ln : Int32) (fsg : Nat → Int32) : Int32 := (F_Pad_firstFault_L4 ln fsg 81 (0 : Int32) (0 : Int32))
set_option maxHeartbeats 4000000 in
set_option maxRecDepth 100000 in
theorem c_Pad_firstFault (l : Launch) (dC : Nat → ClassId) (dI : Nat → Nat → Nat) (cI cC cG cZ : ClassId) (pd sg : Nat) (ln : Int32) (fsg : Nat → Int32) (hln : tm_ok 80 ln) (res : Int32) (hres : res = F_Pad_firstFault ln fsg) : Met l yX3_firstFault wsX3_firstFault ({ frames := 2, cells := 0, slots := 0, locals := 42 }) (va_Pc [.ref pd] (ro_P (dC, dI) vwCl (tyL cI cC cG cZ) [(pd, .inr (3, [.ref sg, .int ln])), (sg, .inl (cC, 80, .inl fsg))])) (va_Qi (fun r (_ : Unit) => r = res) (fun _ _ => True) ro_F) 0 0 ro_F := by
  refine Met.ofW (cc := cX3_firstFault) (maxL := 3) (ret := (some .int)) (by decide) rfl ?_
  intro p e s m args below meth c s₁ B hml hv
  obtain ⟨rfl, hP, hK⟩ := hv
  have hx := B.exec
  have hb := B.bytes
  have hr := B.returns
  have hts := atoms_spec (ws := wsX3_firstFault) B.pre
  have hown : s.vm.findClass RX3 = some m.cls := findClass_of_methodNamed B.named
  have hlocks := B.notSynchronized
  have hS : va_S ro_F s.heap s.heap [] := va_S.rf
  have hl := lv_entry ([.ref pd]) (n := 3) (Nat.le_of_ble_eq_true rfl)
  rw [lg_entry_eq]
  generalize (lg_sl ([.ref pd]) ++ List.replicate (3 - (lg_sl ([.ref pd])).length) Slot.unset).toArray = ls at hl ⊢
  have hl : lv_has ls 3 [(0, .ref pd)] := hl
  obtain ⟨L0, hL80, eL0⟩ := hln
  rw [F_Pad_firstFault] at hres
  refine lv_iconst (v := 0) hx hb dX3_firstFault_0 (by decide) ?_
  refine lv_istore_n (lv' := [(1, .int 0), (0, .ref pd)]) hx hb dX3_firstFault_1 rfl hl (by decide) rfl (fun ls hl => ?_)
  refine lv_iconst (v := 0) hx hb dX3_firstFault_2 (by decide) ?_
  refine lv_istore_n (lv' := [(2, .int 0), (1, .int 0), (0, .ref pd)]) hx hb dX3_firstFault_3 rfl hl (by decide) rfl (fun ls hl => ?_)
  have hloop4 : ∀ (n k4 : Nat) (x2 : Int32) (x1 : Int32) (H : Heap) (locs : List Loc) (ls : Array Slot), k4 ≤ L0 → L0 - k4 < n → x2 = nI k4 → res = F_Pad_firstFault_L4 ln fsg n x2 x1 → va_P (dC, dI) vwCl [(pd, .inr (3, [.ref sg, .int ln])), (sg, .inl (cC, 80, .inl fsg))] H → va_S ro_F s.heap H locs → lv_has ls 3 [(2, .int x2), (1, .int x1), (0, .ref pd)] → W p l e (headSpec wsX3_firstFault ({ frames := 2, cells := 0, slots := 0, locals := 42 })).room s m ([.ref pd] : List Value).toArray below meth c H locs 0 0 (MQ below (va_Qi (fun r (_ : Unit) => r = res) (fun _ _ => True) ro_F) ([.ref pd] : List Value).toArray s 0 0 ro_F) (F0 m 4 ls []) := by
    intro n
    induction n with
    | zero => intro k4 x2 x1 _ _ _ _ hm; exact absurd hm (Nat.not_lt_zero _)
    | succ n ih4 =>
      intro k4 x2 x1 H locs ls hk4 hm4 ex4  hres hP hS hl
      rw [F_Pad_firstFault_L4] at hres
      refine lv_iload_n hx hb dX3_firstFault_4 rfl (lv_at hl 0 rfl) ?_
      refine lv_aload_n hx hb dX3_firstFault_5 rfl (lv_at hl 2 rfl) ?_
      refine va_get (D := (dC, dI)) (ci := 3) (v := .int ln) (C := RX3) (T := TX3) (N := 2) hx hb hts iX3_firstFault_X3 hown hK hP 0 rfl rfl 1 (by decide) (hts (.fieldLink RX3 19 "TailorChalks$Pad" "length" "I") kX3_firstFault_19) (fun _ h9 => h9) rfl dX3_firstFault_6 ?_
      refine lv_icmp_ge (tgt := 36) hx hb dX3_firstFault_9 (by decide) (fun c_1 => ?_) (fun c_1 => ?_)
      · rw [if_pos c_1] at hres
        refine lv_iload_n hx hb dX3_firstFault_36 rfl (lv_at hl 1 rfl) ?_
        refine lv_iconst (v := 2) hx hb dX3_firstFault_37 (by decide) ?_
        refine lv_icmp_eq (tgt := 46) hx hb dX3_firstFault_38 (by decide) (fun c_2 => ?_) (fun c_2 => ?_)
        · rw [if_pos c_2] at hres
          refine lv_bipush (v := (-6)) hx hb dX3_firstFault_46 (by decide) ?_
          refine lv_goto (tgt := 55) hx hb dX3_firstFault_48 (by decide) ?_
          exact W.iret (v := (-6)) hx hb hr (fun t ht hW => ⟨⟨(-6), (), rfl, hres.symm, trivial⟩, hS.F ht⟩) hS.2.2 dX3_firstFault_55
        · rw [if_neg c_2] at hres
          refine lv_iload_n hx hb dX3_firstFault_41 rfl (lv_at hl 1 rfl) ?_
          refine lv_iconst (v := 3) hx hb dX3_firstFault_42 (by decide) ?_
          refine lv_icmp_ne (tgt := 51) hx hb dX3_firstFault_43 (by decide) (fun c_3 => ?_) (fun c_3 => ?_)
          · rw [if_neg c_3] at hres
            refine lv_aload_n hx hb dX3_firstFault_51 rfl (lv_at hl 2 rfl) ?_
            refine va_get (D := (dC, dI)) (ci := 3) (v := .int ln) (C := RX3) (T := TX3) (N := 2) hx hb hts iX3_firstFault_X3 hown hK hP 0 rfl rfl 1 (by decide) (hts (.fieldLink RX3 19 "TailorChalks$Pad" "length" "I") kX3_firstFault_19) (fun _ h9 => h9) rfl dX3_firstFault_52 ?_
            exact W.iret (v := ln) hx hb hr (fun t ht hW => ⟨⟨ln, (), rfl, hres.symm, trivial⟩, hS.F ht⟩) hS.2.2 dX3_firstFault_55
          · rw [if_pos c_3] at hres
            refine lv_bipush (v := (-6)) hx hb dX3_firstFault_46 (by decide) ?_
            refine lv_goto (tgt := 55) hx hb dX3_firstFault_48 (by decide) ?_
            exact W.iret (v := (-6)) hx hb hr (fun t ht hW => ⟨⟨(-6), (), rfl, hres.symm, trivial⟩, hS.F ht⟩) hS.2.2 dX3_firstFault_55
      · rw [if_neg c_1] at hres
        have hlt_k4 : k4 < L0 := lp_lt eL0 ex4 hk4 c_1
        refine lv_iload_n hx hb dX3_firstFault_12 rfl (lv_at hl 1 rfl) ?_
        refine lv_aload_n hx hb dX3_firstFault_13 rfl (lv_at hl 2 rfl) ?_
        refine va_get (D := (dC, dI)) (ci := 3) (v := .ref sg) (C := RX3) (T := TX3) (N := 2) hx hb hts iX3_firstFault_X3 hown hK hP 0 rfl rfl 0 (by decide) (hts (.fieldLink RX3 11 "TailorChalks$Pad" "signs" "[C") kX3_firstFault_11) (fun _ h9 => h9) rfl dX3_firstFault_14 ?_
        refine lv_iload_n hx hb dX3_firstFault_17 rfl (lv_at hl 0 rfl) ?_
        refine va_cald hx hb hK hP 1 1 rfl rfl (by rw [ex4]; exact vp_in_nI (by omega) (by decide)) dX3_firstFault_18 ?_
        obtain ⟨r_4, hr_4⟩ : ∃ z, z = F_Pad_placeBehind x1 (fsg x2.toNatClampNeg) := ⟨_, rfl⟩
        rw [bnd_e hr_4] at hres
        refine ro_calli (va_runS (As := [.int x1, .int (fsg x2.toNatClampNeg)]) (rest := []) ⟨hx, hb, hml, hown, hts⟩ (c_Pad_placeBehind l dC dI cI cC cG cZ  x1 (fsg x2.toNatClampNeg)  r_4 hr_4) (va_cwS 2 hts gX3_firstFault_X3_placeBehind rfl rfl rfl (by decide +kernel) ⟨Nat.le_of_ble_eq_true rfl, Nat.le_of_ble_eq_true rfl⟩) (ro_preS (hP.sub (ws' := []) [] rfl) hK) rfl rfl hl.1 rfl (lv_room (Nat.le_of_ble_eq_true rfl)) dX3_firstFault_19 ⟨Nat.zero_le _, Nat.zero_le _⟩) hP hS (fun H locs hP hS => ?_)
        refine lv_istore_n (lv' := [(1, .int r_4), (2, .int x2), (0, .ref pd)]) hx hb dX3_firstFault_22 rfl hl (by decide) rfl (fun ls hl => ?_)
        refine lv_iload_n hx hb dX3_firstFault_23 rfl (lv_at hl 0 rfl) ?_
        refine lv_iconst (v := 4) hx hb dX3_firstFault_24 (by decide) ?_
        refine lv_icmp_ne (tgt := 30) hx hb dX3_firstFault_25 (by decide) (fun c_5 => ?_) (fun c_5 => ?_)
        · rw [if_neg c_5] at hres
          refine lv_iinc (v := (x2 + 1)) (lv' := [(2, .int (x2 + 1)), (1, .int r_4), (0, .ref pd)]) hx hb dX3_firstFault_30 hl (k := 1) rfl rfl (by decide) rfl (fun ls hl => ?_)
          refine lv_goto (tgt := 4) hx hb dX3_firstFault_33 (by decide) ?_
          exact ih4 (k4 + 1) (x2 + 1) r_4 _ _ _ (by omega) (by omega) (by rw [ex4]; exact nI_1 _)  hres hP hS (lv_sub hl [0, 1, 2] rfl)
        · rw [if_pos c_5] at hres
          refine lv_iload_n hx hb dX3_firstFault_28 rfl (lv_at hl 1 rfl) ?_
          exact W.iret (v := x2) hx hb hr (fun t ht hW => ⟨⟨x2, (), rfl, hres.symm, trivial⟩, hS.F ht⟩) hS.2.2 dX3_firstFault_29
  exact hloop4 81 0 (0 : Int32) (0 : Int32) _ _ _ (by omega) (by omega) nI_0.symm  hres hP hS (lv_sub hl [0, 1, 2] rfl)
