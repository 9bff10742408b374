def F_Long_bitCount (x : Int64) : Int32 := (((((((((x - ((x.toUInt64 >>> ((1 : Int32).toInt64.toUInt64 &&& Int64.toUInt64 63)).toInt64 &&& 6148914691236517205)) &&& 3689348814741910323) + (((x - ((x.toUInt64 >>> ((1 : Int32).toInt64.toUInt64 &&& Int64.toUInt64 63)).toInt64 &&& 6148914691236517205)).toUInt64 >>> ((2 : Int32).toInt64.toUInt64 &&& Int64.toUInt64 63)).toInt64 &&& 3689348814741910323)) + ((((x - ((x.toUInt64 >>> ((1 : Int32).toInt64.toUInt64 &&& Int64.toUInt64 63)).toInt64 &&& 6148914691236517205)) &&& 3689348814741910323) + (((x - ((x.toUInt64 >>> ((1 : Int32).toInt64.toUInt64 &&& Int64.toUInt64 63)).toInt64 &&& 6148914691236517205)).toUInt64 >>> ((2 : Int32).toInt64.toUInt64 &&& Int64.toUInt64 63)).toInt64 &&& 3689348814741910323)).toUInt64 >>> ((4 : Int32).toInt64.toUInt64 &&& Int64.toUInt64 63)).toInt64) &&& 1085102592571150095) + ((((((x - ((x.toUInt64 >>> ((1 : Int32).toInt64.toUInt64 &&& Int64.toUInt64 63)).toInt64 &&& 6148914691236517205)) &&& 3689348814741910323) + (((x - ((x.toUInt64 >>> ((1 : Int32).toInt64.toUInt64 &&& Int64.toUInt64 63)).toInt64 &&& 6148914691236517205)).toUInt64 >>> ((2 : Int32).toInt64.toUInt64 &&& Int64.toUInt64 63)).toInt64 &&& 3689348814741910323)) + ((((x - ((x.toUInt64 >>> ((1 : Int32).toInt64.toUInt64 &&& Int64.toUInt64 63)).toInt64 &&& 6148914691236517205)) &&& 3689348814741910323) + (((x - ((x.toUInt64 >>> ((1 : Int32).toInt64.toUInt64 &&& Int64.toUInt64 63)).toInt64 &&& 6148914691236517205)).toUInt64 >>> ((2 : Int32).toInt64.toUInt64 &&& Int64.toUInt64 63)).toInt64 &&& 3689348814741910323)).toUInt64 >>> ((4 : Int32).toInt64.toUInt64 &&& Int64.toUInt64 63)).toInt64) &&& 1085102592571150095).toUInt64 >>> ((8 : Int32).toInt64.toUInt64 &&& Int64.toUInt64 63)).toInt64) + (((((((x - ((x.toUInt64 >>> ((1 : Int32).toInt64.toUInt64 &&& Int64.toUInt64 63)).toInt64 &&& 6148914691236517205)) &&& 3689348814741910323) + (((x - ((x.toUInt64 >>> ((1 : Int32).toInt64.toUInt64 &&& Int64.toUInt64 63)).toInt64 &&& 6148914691236517205)).toUInt64 >>> ((2 : Int32).toInt64.toUInt64 &&& Int64.toUInt64 63)).toInt64 &&& 3689348814741910323)) + ((((x - ((x.toUInt64 >>> ((1 : Int32).toInt64.toUInt64 &&& Int64.toUInt64 63)).toInt64 &&& 6148914691236517205)) &&& 3689348814741910323) + (((x - ((x.toUInt64 >>> ((1 : Int32).toInt64.toUInt64 &&& Int64.toUInt64 63)).toInt64 &&& 6148914691236517205)).toUInt64 >>> ((2 : Int32).toInt64.toUInt64 &&& Int64.toUInt64 63)).toInt64 &&& 3689348814741910323)).toUInt64 >>> ((4 : Int32).toInt64.toUInt64 &&& Int64.toUInt64 63)).toInt64) &&& 1085102592571150095) + ((((((x - ((x.toUInt64 >>> ((1 : Int32).toInt64.toUInt64 &&& Int64.toUInt64 63)).toInt64 &&& 6148914691236517205)) &&& 3689348814741910323) + (((x - ((x.toUInt64 >>> ((1 : Int32).toInt64.toUInt64 &&& Int64.toUInt64 63)).toInt64 &&& 6148914691236517205)).toUInt64 >>> ((2 : Int32).toInt64.toUInt64 &&& Int64.toUInt64 63)).toInt64 &&& 3689348814741910323)) + ((((x - ((x.toUInt64 >>> ((1 : Int32).toInt64.toUInt64 &&& Int64.toUInt64 63)).toInt64 &&& 6148914691236517205)) &&& 3689348814741910323) + (((x - ((x.toUInt64 >>> ((1 : Int32).toInt64.toUInt64 &&& Int64.toUInt64 63)).toInt64 &&& 6148914691236517205)).toUInt64 >>> ((2 : Int32).toInt64.toUInt64 &&& Int64.toUInt64 63)).toInt64 &&& 3689348814741910323)).toUInt64 >>> ((4 : Int32).toInt64.toUInt64 &&& Int64.toUInt64 63)).toInt64) &&& 1085102592571150095).toUInt64 >>> ((8 : Int32).toInt64.toUInt64 &&& Int64.toUInt64 63)).toInt64).toUInt64 >>> ((16 : Int32).toInt64.toUInt64 &&& Int64.toUInt64 63)).toInt64) + ((((((((x - ((x.toUInt64 >>> ((1 : Int32).toInt64.toUInt64 &&& Int64.toUInt64 63)).toInt64 &&& 6148914691236517205)) &&& 3689348814741910323) + (((x - ((x.toUInt64 >>> ((1 : Int32).toInt64.toUInt64 &&& Int64.toUInt64 63)).toInt64 &&& 6148914691236517205)).toUInt64 >>> ((2 : Int32).toInt64.toUInt64 &&& Int64.toUInt64 63)).toInt64 &&& 3689348814741910323)) + ((((x - ((x.toUInt64 >>> ((1 : Int32).toInt64.toUInt64 &&& Int64.toUInt64 63)).toInt64 &&& 6148914691236517205)) &&& 3689348814741910323) + (((x - ((x.toUInt64 >>> ((1 : Int32).toInt64.toUInt64 &&& Int64.toUInt64 63)).toInt64 &&& 6148914691236517205)).toUInt64 >>> ((2 : Int32).toInt64.toUInt64 &&& Int64.toUInt64 63)).toInt64 &&& 3689348814741910323)).toUInt64 >>> ((4 : Int32).toInt64.toUInt64 &&& Int64.toUInt64 63)).toInt64) &&& 1085102592571150095) + ((((((x - ((x.toUInt64 >>> ((1 : Int32).toInt64.toUInt64 &&& Int64.toUInt64 63)).toInt64 &&& 6148914691236517205)) &&& 3689348814741910323) + (((x - ((x.toUInt64 >>> ((1 : Int32).toInt64.toUInt64 &&& Int64.toUInt64 63)).toInt64 &&& 6148914691236517205)).toUInt64 >>> ((2 : Int32).toInt64.toUInt64 &&& Int64.toUInt64 63)).toInt64 &&& 3689348814741910323)) + ((((x - ((x.toUInt64 >>> ((1 : Int32).toInt64.toUInt64 &&& Int64.toUInt64 63)).toInt64 &&& 6148914691236517205)) &&& 3689348814741910323) + (((x - ((x.toUInt64 >>> ((1 : Int32).toInt64.toUInt64 &&& Int64.toUInt64 63)).toInt64 &&& 6148914691236517205)).toUInt64 >>> ((2 : Int32).toInt64.toUInt64 &&& Int64.toUInt64 63)).toInt64 &&& 3689348814741910323)).toUInt64 >>> ((4 : Int32).toInt64.toUInt64 &&& Int64.toUInt64 63)).toInt64) &&& 1085102592571150095).toUInt64 >>> ((8 : Int32).toInt64.toUInt64 &&& Int64.toUInt64 63)).toInt64) + (((((((x - ((x.toUInt64 >>> ((1 : Int32).toInt64.toUInt64 &&& Int64.toUInt64 63)).toInt64 &&& 6148914691236517205)) &&& 3689348814741910323) + (((x - ((x.toUInt64 >>> ((1 : Int32).toInt64.toUInt64 &&& Int64.toUInt64 63)).toInt64 &&& 6148914691236517205)).toUInt64 >>> ((2 : Int32).toInt64.toUInt64 &&& Int64.toUInt64 63)).toInt64 &&& 3689348814741910323)) + ((((x - ((x.toUInt64 >>> ((1 : Int32).toInt64.toUInt64 &&& Int64.toUInt64 63)).toInt64 &&& 6148914691236517205)) &&& 3689348814741910323) + (((x - ((x.toUInt64 >>> ((1 : Int32).toInt64.toUInt64 &&& Int64.toUInt64 63)).toInt64 &&& 6148914691236517205)).toUInt64 >>> ((2 : Int32).toInt64.toUInt64 &&& Int64.toUInt64 63)).toInt64 &&& 3689348814741910323)).toUInt64 >>> ((4 : Int32).toInt64.toUInt64 &&& Int64.toUInt64 63)).toInt64) &&& 1085102592571150095) + ((((((x - ((x.toUInt64 >>> ((1 : Int32).toInt64.toUInt64 &&& Int64.toUInt64 63)).toInt64 &&& 6148914691236517205)) &&& 3689348814741910323) + (((x - ((x.toUInt64 >>> ((1 : Int32).toInt64.toUInt64 &&& Int64.toUInt64 63)).toInt64 &&& 6148914691236517205)).toUInt64 >>> ((2 : Int32).toInt64.toUInt64 &&& Int64.toUInt64 63)).toInt64 &&& 3689348814741910323)) + ((((x - ((x.toUInt64 >>> ((1 : Int32).toInt64.toUInt64 &&& Int64.toUInt64 63)).toInt64 &&& 6148914691236517205)) &&& 3689348814741910323) + (((x - ((x.toUInt64 >>> ((1 : Int32).toInt64.toUInt64 &&& Int64.toUInt64 63)).toInt64 &&& 6148914691236517205)).toUInt64 >>> ((2 : Int32).toInt64.toUInt64 &&& Int64.toUInt64 63)).toInt64 &&& 3689348814741910323)).toUInt64 >>> ((4 : Int32).toInt64.toUInt64 &&& Int64.toUInt64 63)).toInt64) &&& 1085102592571150095).toUInt64 >>> ((8 : Int32).toInt64.toUInt64 &&& Int64.toUInt64 63)).toInt64).toUInt64 >>> ((16 : Int32).toInt64.toUInt64 &&& Int64.toUInt64 63)).toInt64).toUInt64 >>> ((32 : Int32).toInt64.toUInt64 &&& Int64.toUInt64 63)).toInt64).toInt32 &&& 127)
set_option maxHeartbeats 4000000 in
set_option maxRecDepth 100000 in
theorem c_Long_bitCount (l : Launch) (dC : Nat → ClassId) (dI : Nat → Nat → Nat) (cI cC cG cZ : ClassId) (x : Int64) (res : Int32) (hres : res = F_Long_bitCount x) : Met l yJ13_bitCount_95d88 wsJ13_bitCount_95d88 ({ frames := 0, cells := 0, slots := 0, locals := 0 }) (va_Pc [.long x] (ro_P (dC, dI) vwCl (tyL cI cC cG cZ) [])) (va_Qi (fun r (_ : Unit) => r = res) (fun _ _ => True) ro_F) 0 0 ro_F := by
  refine Met.ofW (cc := cJ13_bitCount_95d88) (maxL := 2) (ret := (some .int)) (by decide) rfl ?_
  intro p e s m args below meth c s₁ B hml hv
  obtain ⟨rfl, hP, hK⟩ := hv
  have hx := B.exec
  have hb := B.bytes
  have hr := B.returns
  have hts := atoms_spec (ws := wsJ13_bitCount_95d88) B.pre
  have hown : s.vm.findClass RJ13 = some m.cls := findClass_of_methodNamed B.named
  have hlocks := B.notSynchronized
  have hS : va_S ro_F s.heap s.heap [] := va_S.rf
  have hl := lv_entry ([.long x]) (n := 2) (Nat.le_of_ble_eq_true rfl)
  rw [lg_entry_eq]
  generalize (lg_sl ([.long x]) ++ List.replicate (2 - (lg_sl ([.long x])).length) Slot.unset).toArray = ls at hl ⊢
  have hl : lv_has ls 2 [(0, .long x)] := hl
  rw [F_Long_bitCount] at hres
  refine lv_lload_n hx hb dJ13_bitCount_95d88_0 rfl (lv_at hl 0 rfl) ?_
  refine lv_lload_n hx hb dJ13_bitCount_95d88_1 rfl (lv_at hl 0 rfl) ?_
  refine lv_iconst (v := 1) hx hb dJ13_bitCount_95d88_2 (by decide) ?_
  refine lv_lushr (v := (x.toUInt64 >>> ((1 : Int32).toInt64.toUInt64 &&& Int64.toUInt64 63)).toInt64) hx hb dJ13_bitCount_95d88_3 rfl ?_
  refine lv_ldc2 (v := 6148914691236517205) hx hb hown (hts (.constantLong RJ13 314 (6148914691236517205)) (by decide +kernel)) dJ13_bitCount_95d88_4 ?_
  refine lv_land hx hb dJ13_bitCount_95d88_7 ?_
  refine lv_lsub hx hb dJ13_bitCount_95d88_8 ?_
  refine lv_lstore_n (lv' := [(0, .long (x - ((x.toUInt64 >>> ((1 : Int32).toInt64.toUInt64 &&& Int64.toUInt64 63)).toInt64 &&& 6148914691236517205)))]) hx hb dJ13_bitCount_95d88_9 rfl hl (by decide) rfl (fun ls hl => ?_)
  refine lv_lload_n hx hb dJ13_bitCount_95d88_10 rfl (lv_at hl 0 rfl) ?_
  refine lv_ldc2 (v := 3689348814741910323) hx hb hown (hts (.constantLong RJ13 316 (3689348814741910323)) (by decide +kernel)) dJ13_bitCount_95d88_11 ?_
  refine lv_land hx hb dJ13_bitCount_95d88_14 ?_
  refine lv_lload_n hx hb dJ13_bitCount_95d88_15 rfl (lv_at hl 0 rfl) ?_
  refine lv_iconst (v := 2) hx hb dJ13_bitCount_95d88_16 (by decide) ?_
  refine lv_lushr (v := ((x - ((x.toUInt64 >>> ((1 : Int32).toInt64.toUInt64 &&& Int64.toUInt64 63)).toInt64 &&& 6148914691236517205)).toUInt64 >>> ((2 : Int32).toInt64.toUInt64 &&& Int64.toUInt64 63)).toInt64) hx hb dJ13_bitCount_95d88_17 rfl ?_
  refine lv_ldc2 (v := 3689348814741910323) hx hb hown (hts (.constantLong RJ13 316 (3689348814741910323)) (by decide +kernel)) dJ13_bitCount_95d88_18 ?_
  refine lv_land hx hb dJ13_bitCount_95d88_21 ?_
  refine lv_ladd hx hb dJ13_bitCount_95d88_22 ?_
  refine lv_lstore_n (lv' := [(0, .long (((x - ((x.toUInt64 >>> ((1 : Int32).toInt64.toUInt64 &&& Int64.toUInt64 63)).toInt64 &&& 6148914691236517205)) &&& 3689348814741910323) + (((x - ((x.toUInt64 >>> ((1 : Int32).toInt64.toUInt64 &&& Int64.toUInt64 63)).toInt64 &&& 6148914691236517205)).toUInt64 >>> ((2 : Int32).toInt64.toUInt64 &&& Int64.toUInt64 63)).toInt64 &&& 3689348814741910323)))]) hx hb dJ13_bitCount_95d88_23 rfl hl (by decide) rfl (fun ls hl => ?_)
  refine lv_lload_n hx hb dJ13_bitCount_95d88_24 rfl (lv_at hl 0 rfl) ?_
  refine lv_lload_n hx hb dJ13_bitCount_95d88_25 rfl (lv_at hl 0 rfl) ?_
  refine lv_iconst (v := 4) hx hb dJ13_bitCount_95d88_26 (by decide) ?_
  refine lv_lushr (v := ((((x - ((x.toUInt64 >>> ((1 : Int32).toInt64.toUInt64 &&& Int64.toUInt64 63)).toInt64 &&& 6148914691236517205)) &&& 3689348814741910323) + (((x - ((x.toUInt64 >>> ((1 : Int32).toInt64.toUInt64 &&& Int64.toUInt64 63)).toInt64 &&& 6148914691236517205)).toUInt64 >>> ((2 : Int32).toInt64.toUInt64 &&& Int64.toUInt64 63)).toInt64 &&& 3689348814741910323)).toUInt64 >>> ((4 : Int32).toInt64.toUInt64 &&& Int64.toUInt64 63)).toInt64) hx hb dJ13_bitCount_95d88_27 rfl ?_
  refine lv_ladd hx hb dJ13_bitCount_95d88_28 ?_
  refine lv_ldc2 (v := 1085102592571150095) hx hb hown (hts (.constantLong RJ13 318 (1085102592571150095)) (by decide +kernel)) dJ13_bitCount_95d88_29 ?_
  refine lv_land hx hb dJ13_bitCount_95d88_32 ?_
  refine lv_lstore_n (lv' := [(0, .long (((((x - ((x.toUInt64 >>> ((1 : Int32).toInt64.toUInt64 &&& Int64.toUInt64 63)).toInt64 &&& 6148914691236517205)) &&& 3689348814741910323) + (((x - ((x.toUInt64 >>> ((1 : Int32).toInt64.toUInt64 &&& Int64.toUInt64 63)).toInt64 &&& 6148914691236517205)).toUInt64 >>> ((2 : Int32).toInt64.toUInt64 &&& Int64.toUInt64 63)).toInt64 &&& 3689348814741910323)) + ((((x - ((x.toUInt64 >>> ((1 : Int32).toInt64.toUInt64 &&& Int64.toUInt64 63)).toInt64 &&& 6148914691236517205)) &&& 3689348814741910323) + (((x - ((x.toUInt64 >>> ((1 : Int32).toInt64.toUInt64 &&& Int64.toUInt64 63)).toInt64 &&& 6148914691236517205)).toUInt64 >>> ((2 : Int32).toInt64.toUInt64 &&& Int64.toUInt64 63)).toInt64 &&& 3689348814741910323)).toUInt64 >>> ((4 : Int32).toInt64.toUInt64 &&& Int64.toUInt64 63)).toInt64) &&& 1085102592571150095))]) hx hb dJ13_bitCount_95d88_33 rfl hl (by decide) rfl (fun ls hl => ?_)
  refine lv_lload_n hx hb dJ13_bitCount_95d88_34 rfl (lv_at hl 0 rfl) ?_
  refine lv_lload_n hx hb dJ13_bitCount_95d88_35 rfl (lv_at hl 0 rfl) ?_
  refine lv_bipush (v := 8) hx hb dJ13_bitCount_95d88_36 (by decide) ?_
  refine lv_lushr (v := ((((((x - ((x.toUInt64 >>> ((1 : Int32).toInt64.toUInt64 &&& Int64.toUInt64 63)).toInt64 &&& 6148914691236517205)) &&& 3689348814741910323) + (((x - ((x.toUInt64 >>> ((1 : Int32).toInt64.toUInt64 &&& Int64.toUInt64 63)).toInt64 &&& 6148914691236517205)).toUInt64 >>> ((2 : Int32).toInt64.toUInt64 &&& Int64.toUInt64 63)).toInt64 &&& 3689348814741910323)) + ((((x - ((x.toUInt64 >>> ((1 : Int32).toInt64.toUInt64 &&& Int64.toUInt64 63)).toInt64 &&& 6148914691236517205)) &&& 3689348814741910323) + (((x - ((x.toUInt64 >>> ((1 : Int32).toInt64.toUInt64 &&& Int64.toUInt64 63)).toInt64 &&& 6148914691236517205)).toUInt64 >>> ((2 : Int32).toInt64.toUInt64 &&& Int64.toUInt64 63)).toInt64 &&& 3689348814741910323)).toUInt64 >>> ((4 : Int32).toInt64.toUInt64 &&& Int64.toUInt64 63)).toInt64) &&& 1085102592571150095).toUInt64 >>> ((8 : Int32).toInt64.toUInt64 &&& Int64.toUInt64 63)).toInt64) hx hb dJ13_bitCount_95d88_38 rfl ?_
  refine lv_ladd hx hb dJ13_bitCount_95d88_39 ?_
  refine lv_lstore_n (lv' := [(0, .long ((((((x - ((x.toUInt64 >>> ((1 : Int32).toInt64.toUInt64 &&& Int64.toUInt64 63)).toInt64 &&& 6148914691236517205)) &&& 3689348814741910323) + (((x - ((x.toUInt64 >>> ((1 : Int32).toInt64.toUInt64 &&& Int64.toUInt64 63)).toInt64 &&& 6148914691236517205)).toUInt64 >>> ((2 : Int32).toInt64.toUInt64 &&& Int64.toUInt64 63)).toInt64 &&& 3689348814741910323)) + ((((x - ((x.toUInt64 >>> ((1 : Int32).toInt64.toUInt64 &&& Int64.toUInt64 63)).toInt64 &&& 6148914691236517205)) &&& 3689348814741910323) + (((x - ((x.toUInt64 >>> ((1 : Int32).toInt64.toUInt64 &&& Int64.toUInt64 63)).toInt64 &&& 6148914691236517205)).toUInt64 >>> ((2 : Int32).toInt64.toUInt64 &&& Int64.toUInt64 63)).toInt64 &&& 3689348814741910323)).toUInt64 >>> ((4 : Int32).toInt64.toUInt64 &&& Int64.toUInt64 63)).toInt64) &&& 1085102592571150095) + ((((((x - ((x.toUInt64 >>> ((1 : Int32).toInt64.toUInt64 &&& Int64.toUInt64 63)).toInt64 &&& 6148914691236517205)) &&& 3689348814741910323) + (((x - ((x.toUInt64 >>> ((1 : Int32).toInt64.toUInt64 &&& Int64.toUInt64 63)).toInt64 &&& 6148914691236517205)).toUInt64 >>> ((2 : Int32).toInt64.toUInt64 &&& Int64.toUInt64 63)).toInt64 &&& 3689348814741910323)) + ((((x - ((x.toUInt64 >>> ((1 : Int32).toInt64.toUInt64 &&& Int64.toUInt64 63)).toInt64 &&& 6148914691236517205)) &&& 3689348814741910323) + (((x - ((x.toUInt64 >>> ((1 : Int32).toInt64.toUInt64 &&& Int64.toUInt64 63)).toInt64 &&& 6148914691236517205)).toUInt64 >>> ((2 : Int32).toInt64.toUInt64 &&& Int64.toUInt64 63)).toInt64 &&& 3689348814741910323)).toUInt64 >>> ((4 : Int32).toInt64.toUInt64 &&& Int64.toUInt64 63)).toInt64) &&& 1085102592571150095).toUInt64 >>> ((8 : Int32).toInt64.toUInt64 &&& Int64.toUInt64 63)).toInt64))]) hx hb dJ13_bitCount_95d88_40 rfl hl (by decide) rfl (fun ls hl => ?_)
  refine lv_lload_n hx hb dJ13_bitCount_95d88_41 rfl (lv_at hl 0 rfl) ?_
  refine lv_lload_n hx hb dJ13_bitCount_95d88_42 rfl (lv_at hl 0 rfl) ?_
  refine lv_bipush (v := 16) hx hb dJ13_bitCount_95d88_43 (by decide) ?_
  refine lv_lushr (v := (((((((x - ((x.toUInt64 >>> ((1 : Int32).toInt64.toUInt64 &&& Int64.toUInt64 63)).toInt64 &&& 6148914691236517205)) &&& 3689348814741910323) + (((x - ((x.toUInt64 >>> ((1 : Int32).toInt64.toUInt64 &&& Int64.toUInt64 63)).toInt64 &&& 6148914691236517205)).toUInt64 >>> ((2 : Int32).toInt64.toUInt64 &&& Int64.toUInt64 63)).toInt64 &&& 3689348814741910323)) + ((((x - ((x.toUInt64 >>> ((1 : Int32).toInt64.toUInt64 &&& Int64.toUInt64 63)).toInt64 &&& 6148914691236517205)) &&& 3689348814741910323) + (((x - ((x.toUInt64 >>> ((1 : Int32).toInt64.toUInt64 &&& Int64.toUInt64 63)).toInt64 &&& 6148914691236517205)).toUInt64 >>> ((2 : Int32).toInt64.toUInt64 &&& Int64.toUInt64 63)).toInt64 &&& 3689348814741910323)).toUInt64 >>> ((4 : Int32).toInt64.toUInt64 &&& Int64.toUInt64 63)).toInt64) &&& 1085102592571150095) + ((((((x - ((x.toUInt64 >>> ((1 : Int32).toInt64.toUInt64 &&& Int64.toUInt64 63)).toInt64 &&& 6148914691236517205)) &&& 3689348814741910323) + (((x - ((x.toUInt64 >>> ((1 : Int32).toInt64.toUInt64 &&& Int64.toUInt64 63)).toInt64 &&& 6148914691236517205)).toUInt64 >>> ((2 : Int32).toInt64.toUInt64 &&& Int64.toUInt64 63)).toInt64 &&& 3689348814741910323)) + ((((x - ((x.toUInt64 >>> ((1 : Int32).toInt64.toUInt64 &&& Int64.toUInt64 63)).toInt64 &&& 6148914691236517205)) &&& 3689348814741910323) + (((x - ((x.toUInt64 >>> ((1 : Int32).toInt64.toUInt64 &&& Int64.toUInt64 63)).toInt64 &&& 6148914691236517205)).toUInt64 >>> ((2 : Int32).toInt64.toUInt64 &&& Int64.toUInt64 63)).toInt64 &&& 3689348814741910323)).toUInt64 >>> ((4 : Int32).toInt64.toUInt64 &&& Int64.toUInt64 63)).toInt64) &&& 1085102592571150095).toUInt64 >>> ((8 : Int32).toInt64.toUInt64 &&& Int64.toUInt64 63)).toInt64).toUInt64 >>> ((16 : Int32).toInt64.toUInt64 &&& Int64.toUInt64 63)).toInt64) hx hb dJ13_bitCount_95d88_45 rfl ?_
  refine lv_ladd hx hb dJ13_bitCount_95d88_46 ?_
  refine lv_lstore_n (lv' := [(0, .long (((((((x - ((x.toUInt64 >>> ((1 : Int32).toInt64.toUInt64 &&& Int64.toUInt64 63)).toInt64 &&& 6148914691236517205)) &&& 3689348814741910323) + (((x - ((x.toUInt64 >>> ((1 : Int32).toInt64.toUInt64 &&& Int64.toUInt64 63)).toInt64 &&& 6148914691236517205)).toUInt64 >>> ((2 : Int32).toInt64.toUInt64 &&& Int64.toUInt64 63)).toInt64 &&& 3689348814741910323)) + ((((x - ((x.toUInt64 >>> ((1 : Int32).toInt64.toUInt64 &&& Int64.toUInt64 63)).toInt64 &&& 6148914691236517205)) &&& 3689348814741910323) + (((x - ((x.toUInt64 >>> ((1 : Int32).toInt64.toUInt64 &&& Int64.toUInt64 63)).toInt64 &&& 6148914691236517205)).toUInt64 >>> ((2 : Int32).toInt64.toUInt64 &&& Int64.toUInt64 63)).toInt64 &&& 3689348814741910323)).toUInt64 >>> ((4 : Int32).toInt64.toUInt64 &&& Int64.toUInt64 63)).toInt64) &&& 1085102592571150095) + ((((((x - ((x.toUInt64 >>> ((1 : Int32).toInt64.toUInt64 &&& Int64.toUInt64 63)).toInt64 &&& 6148914691236517205)) &&& 3689348814741910323) + (((x - ((x.toUInt64 >>> ((1 : Int32).toInt64.toUInt64 &&& Int64.toUInt64 63)).toInt64 &&& 6148914691236517205)).toUInt64 >>> ((2 : Int32).toInt64.toUInt64 &&& Int64.toUInt64 63)).toInt64 &&& 3689348814741910323)) + ((((x - ((x.toUInt64 >>> ((1 : Int32).toInt64.toUInt64 &&& Int64.toUInt64 63)).toInt64 &&& 6148914691236517205)) &&& 3689348814741910323) + (((x - ((x.toUInt64 >>> ((1 : Int32).toInt64.toUInt64 &&& Int64.toUInt64 63)).toInt64 &&& 6148914691236517205)).toUInt64 >>> ((2 : Int32).toInt64.toUInt64 &&& Int64.toUInt64 63)).toInt64 &&& 3689348814741910323)).toUInt64 >>> ((4 : Int32).toInt64.toUInt64 &&& Int64.toUInt64 63)).toInt64) &&& 1085102592571150095).toUInt64 >>> ((8 : Int32).toInt64.toUInt64 &&& Int64.toUInt64 63)).toInt64) + (((((((x - ((x.toUInt64 >>> ((1 : Int32).toInt64.toUInt64 &&& Int64.toUInt64 63)).toInt64 &&& 6148914691236517205)) &&& 3689348814741910323) + (((x - ((x.toUInt64 >>> ((1 : Int32).toInt64.toUInt64 &&& Int64.toUInt64 63)).toInt64 &&& 6148914691236517205)).toUInt64 >>> ((2 : Int32).toInt64.toUInt64 &&& Int64.toUInt64 63)).toInt64 &&& 3689348814741910323)) + ((((x - ((x.toUInt64 >>> ((1 : Int32).toInt64.toUInt64 &&& Int64.toUInt64 63)).toInt64 &&& 6148914691236517205)) &&& 3689348814741910323) + (((x - ((x.toUInt64 >>> ((1 : Int32).toInt64.toUInt64 &&& Int64.toUInt64 63)).toInt64 &&& 6148914691236517205)).toUInt64 >>> ((2 : Int32).toInt64.toUInt64 &&& Int64.toUInt64 63)).toInt64 &&& 3689348814741910323)).toUInt64 >>> ((4 : Int32).toInt64.toUInt64 &&& Int64.toUInt64 63)).toInt64) &&& 1085102592571150095) + ((((((x - ((x.toUInt64 >>> ((1 : Int32).toInt64.toUInt64 &&& Int64.toUInt64 63)).toInt64 &&& 6148914691236517205)) &&& 3689348814741910323) + (((x - ((x.toUInt64 >>> ((1 : Int32).toInt64.toUInt64 &&& Int64.toUInt64 63)).toInt64 &&& 6148914691236517205)).toUInt64 >>> ((2 : Int32).toInt64.toUInt64 &&& Int64.toUInt64 63)).toInt64 &&& 3689348814741910323)) + ((((x - ((x.toUInt64 >>> ((1 : Int32).toInt64.toUInt64 &&& Int64.toUInt64 63)).toInt64 &&& 6148914691236517205)) &&& 3689348814741910323) + (((x - ((x.toUInt64 >>> ((1 : Int32).toInt64.toUInt64 &&& Int64.toUInt64 63)).toInt64 &&& 6148914691236517205)).toUInt64 >>> ((2 : Int32).toInt64.toUInt64 &&& Int64.toUInt64 63)).toInt64 &&& 3689348814741910323)).toUInt64 >>> ((4 : Int32).toInt64.toUInt64 &&& Int64.toUInt64 63)).toInt64) &&& 1085102592571150095).toUInt64 >>> ((8 : Int32).toInt64.toUInt64 &&& Int64.toUInt64 63)).toInt64).toUInt64 >>> ((16 : Int32).toInt64.toUInt64 &&& Int64.toUInt64 63)).toInt64))]) hx hb dJ13_bitCount_95d88_47 rfl hl (by decide) rfl (fun ls hl => ?_)
  refine lv_lload_n hx hb dJ13_bitCount_95d88_48 rfl (lv_at hl 0 rfl) ?_
  refine lv_lload_n hx hb dJ13_bitCount_95d88_49 rfl (lv_at hl 0 rfl) ?_
  refine lv_bipush (v := 32) hx hb dJ13_bitCount_95d88_50 (by decide) ?_
  refine lv_lushr (v := ((((((((x - ((x.toUInt64 >>> ((1 : Int32).toInt64.toUInt64 &&& Int64.toUInt64 63)).toInt64 &&& 6148914691236517205)) &&& 3689348814741910323) + (((x - ((x.toUInt64 >>> ((1 : Int32).toInt64.toUInt64 &&& Int64.toUInt64 63)).toInt64 &&& 6148914691236517205)).toUInt64 >>> ((2 : Int32).toInt64.toUInt64 &&& Int64.toUInt64 63)).toInt64 &&& 3689348814741910323)) + ((((x - ((x.toUInt64 >>> ((1 : Int32).toInt64.toUInt64 &&& Int64.toUInt64 63)).toInt64 &&& 6148914691236517205)) &&& 3689348814741910323) + (((x - ((x.toUInt64 >>> ((1 : Int32).toInt64.toUInt64 &&& Int64.toUInt64 63)).toInt64 &&& 6148914691236517205)).toUInt64 >>> ((2 : Int32).toInt64.toUInt64 &&& Int64.toUInt64 63)).toInt64 &&& 3689348814741910323)).toUInt64 >>> ((4 : Int32).toInt64.toUInt64 &&& Int64.toUInt64 63)).toInt64) &&& 1085102592571150095) + ((((((x - ((x.toUInt64 >>> ((1 : Int32).toInt64.toUInt64 &&& Int64.toUInt64 63)).toInt64 &&& 6148914691236517205)) &&& 3689348814741910323) + (((x - ((x.toUInt64 >>> ((1 : Int32).toInt64.toUInt64 &&& Int64.toUInt64 63)).toInt64 &&& 6148914691236517205)).toUInt64 >>> ((2 : Int32).toInt64.toUInt64 &&& Int64.toUInt64 63)).toInt64 &&& 3689348814741910323)) + ((((x - ((x.toUInt64 >>> ((1 : Int32).toInt64.toUInt64 &&& Int64.toUInt64 63)).toInt64 &&& 6148914691236517205)) &&& 3689348814741910323) + (((x - ((x.toUInt64 >>> ((1 : Int32).toInt64.toUInt64 &&& Int64.toUInt64 63)).toInt64 &&& 6148914691236517205)).toUInt64 >>> ((2 : Int32).toInt64.toUInt64 &&& Int64.toUInt64 63)).toInt64 &&& 3689348814741910323)).toUInt64 >>> ((4 : Int32).toInt64.toUInt64 &&& Int64.toUInt64 63)).toInt64) &&& 1085102592571150095).toUInt64 >>> ((8 : Int32).toInt64.toUInt64 &&& Int64.toUInt64 63)).toInt64) + (((((((x - ((x.toUInt64 >>> ((1 : Int32).toInt64.toUInt64 &&& Int64.toUInt64 63)).toInt64 &&& 6148914691236517205)) &&& 3689348814741910323) + (((x - ((x.toUInt64 >>> ((1 : Int32).toInt64.toUInt64 &&& Int64.toUInt64 63)).toInt64 &&& 6148914691236517205)).toUInt64 >>> ((2 : Int32).toInt64.toUInt64 &&& Int64.toUInt64 63)).toInt64 &&& 3689348814741910323)) + ((((x - ((x.toUInt64 >>> ((1 : Int32).toInt64.toUInt64 &&& Int64.toUInt64 63)).toInt64 &&& 6148914691236517205)) &&& 3689348814741910323) + (((x - ((x.toUInt64 >>> ((1 : Int32).toInt64.toUInt64 &&& Int64.toUInt64 63)).toInt64 &&& 6148914691236517205)).toUInt64 >>> ((2 : Int32).toInt64.toUInt64 &&& Int64.toUInt64 63)).toInt64 &&& 3689348814741910323)).toUInt64 >>> ((4 : Int32).toInt64.toUInt64 &&& Int64.toUInt64 63)).toInt64) &&& 1085102592571150095) + ((((((x - ((x.toUInt64 >>> ((1 : Int32).toInt64.toUInt64 &&& Int64.toUInt64 63)).toInt64 &&& 6148914691236517205)) &&& 3689348814741910323) + (((x - ((x.toUInt64 >>> ((1 : Int32).toInt64.toUInt64 &&& Int64.toUInt64 63)).toInt64 &&& 6148914691236517205)).toUInt64 >>> ((2 : Int32).toInt64.toUInt64 &&& Int64.toUInt64 63)).toInt64 &&& 3689348814741910323)) + ((((x - ((x.toUInt64 >>> ((1 : Int32).toInt64.toUInt64 &&& Int64.toUInt64 63)).toInt64 &&& 6148914691236517205)) &&& 3689348814741910323) + (((x - ((x.toUInt64 >>> ((1 : Int32).toInt64.toUInt64 &&& Int64.toUInt64 63)).toInt64 &&& 6148914691236517205)).toUInt64 >>> ((2 : Int32).toInt64.toUInt64 &&& Int64.toUInt64 63)).toInt64 &&& 3689348814741910323)).toUInt64 >>> ((4 : Int32).toInt64.toUInt64 &&& Int64.toUInt64 63)).toInt64) &&& 1085102592571150095).toUInt64 >>> ((8 : Int32).toInt64.toUInt64 &&& Int64.toUInt64 63)).toInt64).toUInt64 >>> ((16 : Int32).toInt64.toUInt64 &&& Int64.toUInt64 63)).toInt64).toUInt64 >>> ((32 : Int32).toInt64.toUInt64 &&& Int64.toUInt64 63)).toInt64) hx hb dJ13_bitCount_95d88_52 rfl ?_
  refine lv_ladd hx hb dJ13_bitCount_95d88_53 ?_
  refine lv_lstore_n (lv' := [(0, .long ((((((((x - ((x.toUInt64 >>> ((1 : Int32).toInt64.toUInt64 &&& Int64.toUInt64 63)).toInt64 &&& 6148914691236517205)) &&& 3689348814741910323) + (((x - ((x.toUInt64 >>> ((1 : Int32).toInt64.toUInt64 &&& Int64.toUInt64 63)).toInt64 &&& 6148914691236517205)).toUInt64 >>> ((2 : Int32).toInt64.toUInt64 &&& Int64.toUInt64 63)).toInt64 &&& 3689348814741910323)) + ((((x - ((x.toUInt64 >>> ((1 : Int32).toInt64.toUInt64 &&& Int64.toUInt64 63)).toInt64 &&& 6148914691236517205)) &&& 3689348814741910323) + (((x - ((x.toUInt64 >>> ((1 : Int32).toInt64.toUInt64 &&& Int64.toUInt64 63)).toInt64 &&& 6148914691236517205)).toUInt64 >>> ((2 : Int32).toInt64.toUInt64 &&& Int64.toUInt64 63)).toInt64 &&& 3689348814741910323)).toUInt64 >>> ((4 : Int32).toInt64.toUInt64 &&& Int64.toUInt64 63)).toInt64) &&& 1085102592571150095) + ((((((x - ((x.toUInt64 >>> ((1 : Int32).toInt64.toUInt64 &&& Int64.toUInt64 63)).toInt64 &&& 6148914691236517205)) &&& 3689348814741910323) + (((x - ((x.toUInt64 >>> ((1 : Int32).toInt64.toUInt64 &&& Int64.toUInt64 63)).toInt64 &&& 6148914691236517205)).toUInt64 >>> ((2 : Int32).toInt64.toUInt64 &&& Int64.toUInt64 63)).toInt64 &&& 3689348814741910323)) + ((((x - ((x.toUInt64 >>> ((1 : Int32).toInt64.toUInt64 &&& Int64.toUInt64 63)).toInt64 &&& 6148914691236517205)) &&& 3689348814741910323) + (((x - ((x.toUInt64 >>> ((1 : Int32).toInt64.toUInt64 &&& Int64.toUInt64 63)).toInt64 &&& 6148914691236517205)).toUInt64 >>> ((2 : Int32).toInt64.toUInt64 &&& Int64.toUInt64 63)).toInt64 &&& 3689348814741910323)).toUInt64 >>> ((4 : Int32).toInt64.toUInt64 &&& Int64.toUInt64 63)).toInt64) &&& 1085102592571150095).toUInt64 >>> ((8 : Int32).toInt64.toUInt64 &&& Int64.toUInt64 63)).toInt64) + (((((((x - ((x.toUInt64 >>> ((1 : Int32).toInt64.toUInt64 &&& Int64.toUInt64 63)).toInt64 &&& 6148914691236517205)) &&& 3689348814741910323) + (((x - ((x.toUInt64 >>> ((1 : Int32).toInt64.toUInt64 &&& Int64.toUInt64 63)).toInt64 &&& 6148914691236517205)).toUInt64 >>> ((2 : Int32).toInt64.toUInt64 &&& Int64.toUInt64 63)).toInt64 &&& 3689348814741910323)) + ((((x - ((x.toUInt64 >>> ((1 : Int32).toInt64.toUInt64 &&& Int64.toUInt64 63)).toInt64 &&& 6148914691236517205)) &&& 3689348814741910323) + (((x - ((x.toUInt64 >>> ((1 : Int32).toInt64.toUInt64 &&& Int64.toUInt64 63)).toInt64 &&& 6148914691236517205)).toUInt64 >>> ((2 : Int32).toInt64.toUInt64 &&& Int64.toUInt64 63)).toInt64 &&& 3689348814741910323)).toUInt64 >>> ((4 : Int32).toInt64.toUInt64 &&& Int64.toUInt64 63)).toInt64) &&& 1085102592571150095) + ((((((x - ((x.toUInt64 >>> ((1 : Int32).toInt64.toUInt64 &&& Int64.toUInt64 63)).toInt64 &&& 6148914691236517205)) &&& 3689348814741910323) + (((x - ((x.toUInt64 >>> ((1 : Int32).toInt64.toUInt64 &&& Int64.toUInt64 63)).toInt64 &&& 6148914691236517205)).toUInt64 >>> ((2 : Int32).toInt64.toUInt64 &&& Int64.toUInt64 63)).toInt64 &&& 3689348814741910323)) + ((((x - ((x.toUInt64 >>> ((1 : Int32).toInt64.toUInt64 &&& Int64.toUInt64 63)).toInt64 &&& 6148914691236517205)) &&& 3689348814741910323) + (((x - ((x.toUInt64 >>> ((1 : Int32).toInt64.toUInt64 &&& Int64.toUInt64 63)).toInt64 &&& 6148914691236517205)).toUInt64 >>> ((2 : Int32).toInt64.toUInt64 &&& Int64.toUInt64 63)).toInt64 &&& 3689348814741910323)).toUInt64 >>> ((4 : Int32).toInt64.toUInt64 &&& Int64.toUInt64 63)).toInt64) &&& 1085102592571150095).toUInt64 >>> ((8 : Int32).toInt64.toUInt64 &&& Int64.toUInt64 63)).toInt64).toUInt64 >>> ((16 : Int32).toInt64.toUInt64 &&& Int64.toUInt64 63)).toInt64) + ((((((((x - ((x.toUInt64 >>> ((1 : Int32).toInt64.toUInt64 &&& Int64.toUInt64 63)).toInt64 &&& 6148914691236517205)) &&& 3689348814741910323) + (((x - ((x.toUInt64 >>> ((1 : Int32).toInt64.toUInt64 &&& Int64.toUInt64 63)).toInt64 &&& 6148914691236517205)).toUInt64 >>> ((2 : Int32).toInt64.toUInt64 &&& Int64.toUInt64 63)).toInt64 &&& 3689348814741910323)) + ((((x - ((x.toUInt64 >>> ((1 : Int32).toInt64.toUInt64 &&& Int64.toUInt64 63)).toInt64 &&& 6148914691236517205)) &&& 3689348814741910323) + (((x - ((x.toUInt64 >>> ((1 : Int32).toInt64.toUInt64 &&& Int64.toUInt64 63)).toInt64 &&& 6148914691236517205)).toUInt64 >>> ((2 : Int32).toInt64.toUInt64 &&& Int64.toUInt64 63)).toInt64 &&& 3689348814741910323)).toUInt64 >>> ((4 : Int32).toInt64.toUInt64 &&& Int64.toUInt64 63)).toInt64) &&& 1085102592571150095) + ((((((x - ((x.toUInt64 >>> ((1 : Int32).toInt64.toUInt64 &&& Int64.toUInt64 63)).toInt64 &&& 6148914691236517205)) &&& 3689348814741910323) + (((x - ((x.toUInt64 >>> ((1 : Int32).toInt64.toUInt64 &&& Int64.toUInt64 63)).toInt64 &&& 6148914691236517205)).toUInt64 >>> ((2 : Int32).toInt64.toUInt64 &&& Int64.toUInt64 63)).toInt64 &&& 3689348814741910323)) + ((((x - ((x.toUInt64 >>> ((1 : Int32).toInt64.toUInt64 &&& Int64.toUInt64 63)).toInt64 &&& 6148914691236517205)) &&& 3689348814741910323) + (((x - ((x.toUInt64 >>> ((1 : Int32).toInt64.toUInt64 &&& Int64.toUInt64 63)).toInt64 &&& 6148914691236517205)).toUInt64 >>> ((2 : Int32).toInt64.toUInt64 &&& Int64.toUInt64 63)).toInt64 &&& 3689348814741910323)).toUInt64 >>> ((4 : Int32).toInt64.toUInt64 &&& Int64.toUInt64 63)).toInt64) &&& 1085102592571150095).toUInt64 >>> ((8 : Int32).toInt64.toUInt64 &&& Int64.toUInt64 63)).toInt64) + (((((((x - ((x.toUInt64 >>> ((1 : Int32).toInt64.toUInt64 &&& Int64.toUInt64 63)).toInt64 &&& 6148914691236517205)) &&& 3689348814741910323) + (((x - ((x.toUInt64 >>> ((1 : Int32).toInt64.toUInt64 &&& Int64.toUInt64 63)).toInt64 &&& 6148914691236517205)).toUInt64 >>> ((2 : Int32).toInt64.toUInt64 &&& Int64.toUInt64 63)).toInt64 &&& 3689348814741910323)) + ((((x - ((x.toUInt64 >>> ((1 : Int32).toInt64.toUInt64 &&& Int64.toUInt64 63)).toInt64 &&& 6148914691236517205)) &&& 3689348814741910323) + (((x - ((x.toUInt64 >>> ((1 : Int32).toInt64.toUInt64 &&& Int64.toUInt64 63)).toInt64 &&& 6148914691236517205)).toUInt64 >>> ((2 : Int32).toInt64.toUInt64 &&& Int64.toUInt64 63)).toInt64 &&& 3689348814741910323)).toUInt64 >>> ((4 : Int32).toInt64.toUInt64 &&& Int64.toUInt64 63)).toInt64) &&& 1085102592571150095) + ((((((x - ((x.toUInt64 >>> ((1 : Int32).toInt64.toUInt64 &&& Int64.toUInt64 63)).toInt64 &&& 6148914691236517205)) &&& 3689348814741910323) + (((x - ((x.toUInt64 >>> ((1 : Int32).toInt64.toUInt64 &&& Int64.toUInt64 63)).toInt64 &&& 6148914691236517205)).toUInt64 >>> ((2 : Int32).toInt64.toUInt64 &&& Int64.toUInt64 63)).toInt64 &&& 3689348814741910323)) + ((((x - ((x.toUInt64 >>> ((1 : Int32).toInt64.toUInt64 &&& Int64.toUInt64 63)).toInt64 &&& 6148914691236517205)) &&& 3689348814741910323) + (((x - ((x.toUInt64 >>> ((1 : Int32).toInt64.toUInt64 &&& Int64.toUInt64 63)).toInt64 &&& 6148914691236517205)).toUInt64 >>> ((2 : Int32).toInt64.toUInt64 &&& Int64.toUInt64 63)).toInt64 &&& 3689348814741910323)).toUInt64 >>> ((4 : Int32).toInt64.toUInt64 &&& Int64.toUInt64 63)).toInt64) &&& 1085102592571150095).toUInt64 >>> ((8 : Int32).toInt64.toUInt64 &&& Int64.toUInt64 63)).toInt64).toUInt64 >>> ((16 : Int32).toInt64.toUInt64 &&& Int64.toUInt64 63)).toInt64).toUInt64 >>> ((32 : Int32).toInt64.toUInt64 &&& Int64.toUInt64 63)).toInt64))]) hx hb dJ13_bitCount_95d88_54 rfl hl (by decide) rfl (fun ls hl => ?_)
  refine lv_lload_n hx hb dJ13_bitCount_95d88_55 rfl (lv_at hl 0 rfl) ?_
  refine lv_l2i (v := ((((((((x - ((x.toUInt64 >>> ((1 : Int32).toInt64.toUInt64 &&& Int64.toUInt64 63)).toInt64 &&& 6148914691236517205)) &&& 3689348814741910323) + (((x - ((x.toUInt64 >>> ((1 : Int32).toInt64.toUInt64 &&& Int64.toUInt64 63)).toInt64 &&& 6148914691236517205)).toUInt64 >>> ((2 : Int32).toInt64.toUInt64 &&& Int64.toUInt64 63)).toInt64 &&& 3689348814741910323)) + ((((x - ((x.toUInt64 >>> ((1 : Int32).toInt64.toUInt64 &&& Int64.toUInt64 63)).toInt64 &&& 6148914691236517205)) &&& 3689348814741910323) + (((x - ((x.toUInt64 >>> ((1 : Int32).toInt64.toUInt64 &&& Int64.toUInt64 63)).toInt64 &&& 6148914691236517205)).toUInt64 >>> ((2 : Int32).toInt64.toUInt64 &&& Int64.toUInt64 63)).toInt64 &&& 3689348814741910323)).toUInt64 >>> ((4 : Int32).toInt64.toUInt64 &&& Int64.toUInt64 63)).toInt64) &&& 1085102592571150095) + ((((((x - ((x.toUInt64 >>> ((1 : Int32).toInt64.toUInt64 &&& Int64.toUInt64 63)).toInt64 &&& 6148914691236517205)) &&& 3689348814741910323) + (((x - ((x.toUInt64 >>> ((1 : Int32).toInt64.toUInt64 &&& Int64.toUInt64 63)).toInt64 &&& 6148914691236517205)).toUInt64 >>> ((2 : Int32).toInt64.toUInt64 &&& Int64.toUInt64 63)).toInt64 &&& 3689348814741910323)) + ((((x - ((x.toUInt64 >>> ((1 : Int32).toInt64.toUInt64 &&& Int64.toUInt64 63)).toInt64 &&& 6148914691236517205)) &&& 3689348814741910323) + (((x - ((x.toUInt64 >>> ((1 : Int32).toInt64.toUInt64 &&& Int64.toUInt64 63)).toInt64 &&& 6148914691236517205)).toUInt64 >>> ((2 : Int32).toInt64.toUInt64 &&& Int64.toUInt64 63)).toInt64 &&& 3689348814741910323)).toUInt64 >>> ((4 : Int32).toInt64.toUInt64 &&& Int64.toUInt64 63)).toInt64) &&& 1085102592571150095).toUInt64 >>> ((8 : Int32).toInt64.toUInt64 &&& Int64.toUInt64 63)).toInt64) + (((((((x - ((x.toUInt64 >>> ((1 : Int32).toInt64.toUInt64 &&& Int64.toUInt64 63)).toInt64 &&& 6148914691236517205)) &&& 3689348814741910323) + (((x - ((x.toUInt64 >>> ((1 : Int32).toInt64.toUInt64 &&& Int64.toUInt64 63)).toInt64 &&& 6148914691236517205)).toUInt64 >>> ((2 : Int32).toInt64.toUInt64 &&& Int64.toUInt64 63)).toInt64 &&& 3689348814741910323)) + ((((x - ((x.toUInt64 >>> ((1 : Int32).toInt64.toUInt64 &&& Int64.toUInt64 63)).toInt64 &&& 6148914691236517205)) &&& 3689348814741910323) + (((x - ((x.toUInt64 >>> ((1 : Int32).toInt64.toUInt64 &&& Int64.toUInt64 63)).toInt64 &&& 6148914691236517205)).toUInt64 >>> ((2 : Int32).toInt64.toUInt64 &&& Int64.toUInt64 63)).toInt64 &&& 3689348814741910323)).toUInt64 >>> ((4 : Int32).toInt64.toUInt64 &&& Int64.toUInt64 63)).toInt64) &&& 1085102592571150095) + ((((((x - ((x.toUInt64 >>> ((1 : Int32).toInt64.toUInt64 &&& Int64.toUInt64 63)).toInt64 &&& 6148914691236517205)) &&& 3689348814741910323) + (((x - ((x.toUInt64 >>> ((1 : Int32).toInt64.toUInt64 &&& Int64.toUInt64 63)).toInt64 &&& 6148914691236517205)).toUInt64 >>> ((2 : Int32).toInt64.toUInt64 &&& Int64.toUInt64 63)).toInt64 &&& 3689348814741910323)) + ((((x - ((x.toUInt64 >>> ((1 : Int32).toInt64.toUInt64 &&& Int64.toUInt64 63)).toInt64 &&& 6148914691236517205)) &&& 3689348814741910323) + (((x - ((x.toUInt64 >>> ((1 : Int32).toInt64.toUInt64 &&& Int64.toUInt64 63)).toInt64 &&& 6148914691236517205)).toUInt64 >>> ((2 : Int32).toInt64.toUInt64 &&& Int64.toUInt64 63)).toInt64 &&& 3689348814741910323)).toUInt64 >>> ((4 : Int32).toInt64.toUInt64 &&& Int64.toUInt64 63)).toInt64) &&& 1085102592571150095).toUInt64 >>> ((8 : Int32).toInt64.toUInt64 &&& Int64.toUInt64 63)).toInt64).toUInt64 >>> ((16 : Int32).toInt64.toUInt64 &&& Int64.toUInt64 63)).toInt64) + ((((((((x - ((x.toUInt64 >>> ((1 : Int32).toInt64.toUInt64 &&& Int64.toUInt64 63)).toInt64 &&& 6148914691236517205)) &&& 3689348814741910323) + (((x - ((x.toUInt64 >>> ((1 : Int32).toInt64.toUInt64 &&& Int64.toUInt64 63)).toInt64 &&& 6148914691236517205)).toUInt64 >>> ((2 : Int32).toInt64.toUInt64 &&& Int64.toUInt64 63)).toInt64 &&& 3689348814741910323)) + ((((x - ((x.toUInt64 >>> ((1 : Int32).toInt64.toUInt64 &&& Int64.toUInt64 63)).toInt64 &&& 6148914691236517205)) &&& 3689348814741910323) + (((x - ((x.toUInt64 >>> ((1 : Int32).toInt64.toUInt64 &&& Int64.toUInt64 63)).toInt64 &&& 6148914691236517205)).toUInt64 >>> ((2 : Int32).toInt64.toUInt64 &&& Int64.toUInt64 63)).toInt64 &&& 3689348814741910323)).toUInt64 >>> ((4 : Int32).toInt64.toUInt64 &&& Int64.toUInt64 63)).toInt64) &&& 1085102592571150095) + ((((((x - ((x.toUInt64 >>> ((1 : Int32).toInt64.toUInt64 &&& Int64.toUInt64 63)).toInt64 &&& 6148914691236517205)) &&& 3689348814741910323) + (((x - ((x.toUInt64 >>> ((1 : Int32).toInt64.toUInt64 &&& Int64.toUInt64 63)).toInt64 &&& 6148914691236517205)).toUInt64 >>> ((2 : Int32).toInt64.toUInt64 &&& Int64.toUInt64 63)).toInt64 &&& 3689348814741910323)) + ((((x - ((x.toUInt64 >>> ((1 : Int32).toInt64.toUInt64 &&& Int64.toUInt64 63)).toInt64 &&& 6148914691236517205)) &&& 3689348814741910323) + (((x - ((x.toUInt64 >>> ((1 : Int32).toInt64.toUInt64 &&& Int64.toUInt64 63)).toInt64 &&& 6148914691236517205)).toUInt64 >>> ((2 : Int32).toInt64.toUInt64 &&& Int64.toUInt64 63)).toInt64 &&& 3689348814741910323)).toUInt64 >>> ((4 : Int32).toInt64.toUInt64 &&& Int64.toUInt64 63)).toInt64) &&& 1085102592571150095).toUInt64 >>> ((8 : Int32).toInt64.toUInt64 &&& Int64.toUInt64 63)).toInt64) + (((((((x - ((x.toUInt64 >>> ((1 : Int32).toInt64.toUInt64 &&& Int64.toUInt64 63)).toInt64 &&& 6148914691236517205)) &&& 3689348814741910323) + (((x - ((x.toUInt64 >>> ((1 : Int32).toInt64.toUInt64 &&& Int64.toUInt64 63)).toInt64 &&& 6148914691236517205)).toUInt64 >>> ((2 : Int32).toInt64.toUInt64 &&& Int64.toUInt64 63)).toInt64 &&& 3689348814741910323)) + ((((x - ((x.toUInt64 >>> ((1 : Int32).toInt64.toUInt64 &&& Int64.toUInt64 63)).toInt64 &&& 6148914691236517205)) &&& 3689348814741910323) + (((x - ((x.toUInt64 >>> ((1 : Int32).toInt64.toUInt64 &&& Int64.toUInt64 63)).toInt64 &&& 6148914691236517205)).toUInt64 >>> ((2 : Int32).toInt64.toUInt64 &&& Int64.toUInt64 63)).toInt64 &&& 3689348814741910323)).toUInt64 >>> ((4 : Int32).toInt64.toUInt64 &&& Int64.toUInt64 63)).toInt64) &&& 1085102592571150095) + ((((((x - ((x.toUInt64 >>> ((1 : Int32).toInt64.toUInt64 &&& Int64.toUInt64 63)).toInt64 &&& 6148914691236517205)) &&& 3689348814741910323) + (((x - ((x.toUInt64 >>> ((1 : Int32).toInt64.toUInt64 &&& Int64.toUInt64 63)).toInt64 &&& 6148914691236517205)).toUInt64 >>> ((2 : Int32).toInt64.toUInt64 &&& Int64.toUInt64 63)).toInt64 &&& 3689348814741910323)) + ((((x - ((x.toUInt64 >>> ((1 : Int32).toInt64.toUInt64 &&& Int64.toUInt64 63)).toInt64 &&& 6148914691236517205)) &&& 3689348814741910323) + (((x - ((x.toUInt64 >>> ((1 : Int32).toInt64.toUInt64 &&& Int64.toUInt64 63)).toInt64 &&& 6148914691236517205)).toUInt64 >>> ((2 : Int32).toInt64.toUInt64 &&& Int64.toUInt64 63)).toInt64 &&& 3689348814741910323)).toUInt64 >>> ((4 : Int32).toInt64.toUInt64 &&& Int64.toUInt64 63)).toInt64) &&& 1085102592571150095).toUInt64 >>> ((8 : Int32).toInt64.toUInt64 &&& Int64.toUInt64 63)).toInt64).toUInt64 >>> ((16 : Int32).toInt64.toUInt64 &&& Int64.toUInt64 63)).toInt64).toUInt64 >>> ((32 : Int32).toInt64.toUInt64 &&& Int64.toUInt64 63)).toInt64).toInt32) hx hb dJ13_bitCount_95d88_56 rfl ?_
  refine lv_bipush (v := 127) hx hb dJ13_bitCount_95d88_57 (by decide) ?_
  refine lv_iand hx hb dJ13_bitCount_95d88_59 ?_
  exact W.iret (v := (((((((((x - ((x.toUInt64 >>> ((1 : Int32).toInt64.toUInt64 &&& Int64.toUInt64 63)).toInt64 &&& 6148914691236517205)) &&& 3689348814741910323) + (((x - ((x.toUInt64 >>> ((1 : Int32).toInt64.toUInt64 &&& Int64.toUInt64 63)).toInt64 &&& 6148914691236517205)).toUInt64 >>> ((2 : Int32).toInt64.toUInt64 &&& Int64.toUInt64 63)).toInt64 &&& 3689348814741910323)) + ((((x - ((x.toUInt64 >>> ((1 : Int32).toInt64.toUInt64 &&& Int64.toUInt64 63)).toInt64 &&& 6148914691236517205)) &&& 3689348814741910323) + (((x - ((x.toUInt64 >>> ((1 : Int32).toInt64.toUInt64 &&& Int64.toUInt64 63)).toInt64 &&& 6148914691236517205)).toUInt64 >>> ((2 : Int32).toInt64.toUInt64 &&& Int64.toUInt64 63)).toInt64 &&& 3689348814741910323)).toUInt64 >>> ((4 : Int32).toInt64.toUInt64 &&& Int64.toUInt64 63)).toInt64) &&& 1085102592571150095) + ((((((x - ((x.toUInt64 >>> ((1 : Int32).toInt64.toUInt64 &&& Int64.toUInt64 63)).toInt64 &&& 6148914691236517205)) &&& 3689348814741910323) + (((x - ((x.toUInt64 >>> ((1 : Int32).toInt64.toUInt64 &&& Int64.toUInt64 63)).toInt64 &&& 6148914691236517205)).toUInt64 >>> ((2 : Int32).toInt64.toUInt64 &&& Int64.toUInt64 63)).toInt64 &&& 3689348814741910323)) + ((((x - ((x.toUInt64 >>> ((1 : Int32).toInt64.toUInt64 &&& Int64.toUInt64 63)).toInt64 &&& 6148914691236517205)) &&& 3689348814741910323) + (((x - ((x.toUInt64 >>> ((1 : Int32).toInt64.toUInt64 &&& Int64.toUInt64 63)).toInt64 &&& 6148914691236517205)).toUInt64 >>> ((2 : Int32).toInt64.toUInt64 &&& Int64.toUInt64 63)).toInt64 &&& 3689348814741910323)).toUInt64 >>> ((4 : Int32).toInt64.toUInt64 &&& Int64.toUInt64 63)).toInt64) &&& 1085102592571150095).toUInt64 >>> ((8 : Int32).toInt64.toUInt64 &&& Int64.toUInt64 63)).toInt64) + (((((((x - ((x.toUInt64 >>> ((1 : Int32).toInt64.toUInt64 &&& Int64.toUInt64 63)).toInt64 &&& 6148914691236517205)) &&& 3689348814741910323) + (((x - ((x.toUInt64 >>> ((1 : Int32).toInt64.toUInt64 &&& Int64.toUInt64 63)).toInt64 &&& 6148914691236517205)).toUInt64 >>> ((2 : Int32).toInt64.toUInt64 &&& Int64.toUInt64 63)).toInt64 &&& 3689348814741910323)) + ((((x - ((x.toUInt64 >>> ((1 : Int32).toInt64.toUInt64 &&& Int64.toUInt64 63)).toInt64 &&& 6148914691236517205)) &&& 3689348814741910323) + (((x - ((x.toUInt64 >>> ((1 : Int32).toInt64.toUInt64 &&& Int64.toUInt64 63)).toInt64 &&& 6148914691236517205)).toUInt64 >>> ((2 : Int32).toInt64.toUInt64 &&& Int64.toUInt64 63)).toInt64 &&& 3689348814741910323)).toUInt64 >>> ((4 : Int32).toInt64.toUInt64 &&& Int64.toUInt64 63)).toInt64) &&& 1085102592571150095) + ((((((x - ((x.toUInt64 >>> ((1 : Int32).toInt64.toUInt64 &&& Int64.toUInt64 63)).toInt64 &&& 6148914691236517205)) &&& 3689348814741910323) + (((x - ((x.toUInt64 >>> ((1 : Int32).toInt64.toUInt64 &&& Int64.toUInt64 63)).toInt64 &&& 6148914691236517205)).toUInt64 >>> ((2 : Int32).toInt64.toUInt64 &&& Int64.toUInt64 63)).toInt64 &&& 3689348814741910323)) + ((((x - ((x.toUInt64 >>> ((1 : Int32).toInt64.toUInt64 &&& Int64.toUInt64 63)).toInt64 &&& 6148914691236517205)) &&& 3689348814741910323) + (((x - ((x.toUInt64 >>> ((1 : Int32).toInt64.toUInt64 &&& Int64.toUInt64 63)).toInt64 &&& 6148914691236517205)).toUInt64 >>> ((2 : Int32).toInt64.toUInt64 &&& Int64.toUInt64 63)).toInt64 &&& 3689348814741910323)).toUInt64 >>> ((4 : Int32).toInt64.toUInt64 &&& Int64.toUInt64 63)).toInt64) &&& 1085102592571150095).toUInt64 >>> ((8 : Int32).toInt64.toUInt64 &&& Int64.toUInt64 63)).toInt64).toUInt64 >>> ((16 : Int32).toInt64.toUInt64 &&& Int64.toUInt64 63)).toInt64) + ((((((((x - ((x.toUInt64 >>> ((1 : Int32).toInt64.toUInt64 &&& Int64.toUInt64 63)).toInt64 &&& 6148914691236517205)) &&& 3689348814741910323) + (((x - ((x.toUInt64 >>> ((1 : Int32).toInt64.toUInt64 &&& Int64.toUInt64 63)).toInt64 &&& 6148914691236517205)).toUInt64 >>> ((2 : Int32).toInt64.toUInt64 &&& Int64.toUInt64 63)).toInt64 &&& 3689348814741910323)) + ((((x - ((x.toUInt64 >>> ((1 : Int32).toInt64.toUInt64 &&& Int64.toUInt64 63)).toInt64 &&& 6148914691236517205)) &&& 3689348814741910323) + (((x - ((x.toUInt64 >>> ((1 : Int32).toInt64.toUInt64 &&& Int64.toUInt64 63)).toInt64 &&& 6148914691236517205)).toUInt64 >>> ((2 : Int32).toInt64.toUInt64 &&& Int64.toUInt64 63)).toInt64 &&& 3689348814741910323)).toUInt64 >>> ((4 : Int32).toInt64.toUInt64 &&& Int64.toUInt64 63)).toInt64) &&& 1085102592571150095) + ((((((x - ((x.toUInt64 >>> ((1 : Int32).toInt64.toUInt64 &&& Int64.toUInt64 63)).toInt64 &&& 6148914691236517205)) &&& 3689348814741910323) + (((x - ((x.toUInt64 >>> ((1 : Int32).toInt64.toUInt64 &&& Int64.toUInt64 63)).toInt64 &&& 6148914691236517205)).toUInt64 >>> ((2 : Int32).toInt64.toUInt64 &&& Int64.toUInt64 63)).toInt64 &&& 3689348814741910323)) + ((((x - ((x.toUInt64 >>> ((1 : Int32).toInt64.toUInt64 &&& Int64.toUInt64 63)).toInt64 &&& 6148914691236517205)) &&& 3689348814741910323) + (((x - ((x.toUInt64 >>> ((1 : Int32).toInt64.toUInt64 &&& Int64.toUInt64 63)).toInt64 &&& 6148914691236517205)).toUInt64 >>> ((2 : Int32).toInt64.toUInt64 &&& Int64.toUInt64 63)).toInt64 &&& 3689348814741910323)).toUInt64 >>> ((4 : Int32).toInt64.toUInt64 &&& Int64.toUInt64 63)).toInt64) &&& 1085102592571150095).toUInt64 >>> ((8 : Int32).toInt64.toUInt64 &&& Int64.toUInt64 63)).toInt64) + (((((((x - ((x.toUInt64 >>> ((1 : Int32).toInt64.toUInt64 &&& Int64.toUInt64 63)).toInt64 &&& 6148914691236517205)) &&& 3689348814741910323) + (((x - ((x.toUInt64 >>> ((1 : Int32).toInt64.toUInt64 &&& Int64.toUInt64 63)).toInt64 &&& 6148914691236517205)).toUInt64 >>> ((2 : Int32).toInt64.toUInt64 &&& Int64.toUInt64 63)).toInt64 &&& 3689348814741910323)) + ((((x - ((x.toUInt64 >>> ((1 : Int32).toInt64.toUInt64 &&& Int64.toUInt64 63)).toInt64 &&& 6148914691236517205)) &&& 3689348814741910323) + (((x - ((x.toUInt64 >>> ((1 : Int32).toInt64.toUInt64 &&& Int64.toUInt64 63)).toInt64 &&& 6148914691236517205)).toUInt64 >>> ((2 : Int32).toInt64.toUInt64 &&& Int64.toUInt64 63)).toInt64 &&& 3689348814741910323)).toUInt64 >>> ((4 : Int32).toInt64.toUInt64 &&& Int64.toUInt64 63)).toInt64) &&& 1085102592571150095) + ((((((x - ((x.toUInt64 >>> ((1 : Int32).toInt64.toUInt64 &&& Int64.toUInt64 63)).toInt64 &&& 6148914691236517205)) &&& 3689348814741910323) + (((x - ((x.toUInt64 >>> ((1 : Int32).toInt64.toUInt64 &&& Int64.toUInt64 63)).toInt64 &&& 6148914691236517205)).toUInt64 >>> ((2 : Int32).toInt64.toUInt64 &&& Int64.toUInt64 63)).toInt64 &&& 3689348814741910323)) + ((((x - ((x.toUInt64 >>> ((1 : Int32).toInt64.toUInt64 &&& Int64.toUInt64 63)).toInt64 &&& 6148914691236517205)) &&& 3689348814741910323) + (((x - ((x.toUInt64 >>> ((1 : Int32).toInt64.toUInt64 &&& Int64.toUInt64 63)).toInt64 &&& 6148914691236517205)).toUInt64 >>> ((2 : Int32).toInt64.toUInt64 &&& Int64.toUInt64 63)).toInt64 &&& 3689348814741910323)).toUInt64 >>> ((4 : Int32).toInt64.toUInt64 &&& Int64.toUInt64 63)).toInt64) &&& 1085102592571150095).toUInt64 >>> ((8 : Int32).toInt64.toUInt64 &&& Int64.toUInt64 63)).toInt64).toUInt64 >>> ((16 : Int32).toInt64.toUInt64 &&& Int64.toUInt64 63)).toInt64).toUInt64 >>> ((32 : Int32).toInt64.toUInt64 &&& Int64.toUInt64 63)).toInt64).toInt32 &&& 127)) hx hb hr (fun t ht hW => ⟨⟨(((((((((x - ((x.toUInt64 >>> ((1 : Int32).toInt64.toUInt64 &&& Int64.toUInt64 63)).toInt64 &&& 6148914691236517205)) &&& 3689348814741910323) + (((x - ((x.toUInt64 >>> ((1 : Int32).toInt64.toUInt64 &&& Int64.toUInt64 63)).toInt64 &&& 6148914691236517205)).toUInt64 >>> ((2 : Int32).toInt64.toUInt64 &&& Int64.toUInt64 63)).toInt64 &&& 3689348814741910323)) + ((((x - ((x.toUInt64 >>> ((1 : Int32).toInt64.toUInt64 &&& Int64.toUInt64 63)).toInt64 &&& 6148914691236517205)) &&& 3689348814741910323) + (((x - ((x.toUInt64 >>> ((1 : Int32).toInt64.toUInt64 &&& Int64.toUInt64 63)).toInt64 &&& 6148914691236517205)).toUInt64 >>> ((2 : Int32).toInt64.toUInt64 &&& Int64.toUInt64 63)).toInt64 &&& 3689348814741910323)).toUInt64 >>> ((4 : Int32).toInt64.toUInt64 &&& Int64.toUInt64 63)).toInt64) &&& 1085102592571150095) + ((((((x - ((x.toUInt64 >>> ((1 : Int32).toInt64.toUInt64 &&& Int64.toUInt64 63)).toInt64 &&& 6148914691236517205)) &&& 3689348814741910323) + (((x - ((x.toUInt64 >>> ((1 : Int32).toInt64.toUInt64 &&& Int64.toUInt64 63)).toInt64 &&& 6148914691236517205)).toUInt64 >>> ((2 : Int32).toInt64.toUInt64 &&& Int64.toUInt64 63)).toInt64 &&& 3689348814741910323)) + ((((x - ((x.toUInt64 >>> ((1 : Int32).toInt64.toUInt64 &&& Int64.toUInt64 63)).toInt64 &&& 6148914691236517205)) &&& 3689348814741910323) + (((x - ((x.toUInt64 >>> ((1 : Int32).toInt64.toUInt64 &&& Int64.toUInt64 63)).toInt64 &&& 6148914691236517205)).toUInt64 >>> ((2 : Int32).toInt64.toUInt64 &&& Int64.toUInt64 63)).toInt64 &&& 3689348814741910323)).toUInt64 >>> ((4 : Int32).toInt64.toUInt64 &&& Int64.toUInt64 63)).toInt64) &&& 1085102592571150095).toUInt64 >>> ((8 : Int32).toInt64.toUInt64 &&& Int64.toUInt64 63)).toInt64) + (((((((x - ((x.toUInt64 >>> ((1 : Int32).toInt64.toUInt64 &&& Int64.toUInt64 63)).toInt64 &&& 6148914691236517205)) &&& 3689348814741910323) + (((x - ((x.toUInt64 >>> ((1 : Int32).toInt64.toUInt64 &&& Int64.toUInt64 63)).toInt64 &&& 6148914691236517205)).toUInt64 >>> ((2 : Int32).toInt64.toUInt64 &&& Int64.toUInt64 63)).toInt64 &&& 3689348814741910323)) + ((((x - ((x.toUInt64 >>> ((1 : Int32).toInt64.toUInt64 &&& Int64.toUInt64 63)).toInt64 &&& 6148914691236517205)) &&& 3689348814741910323) + (((x - ((x.toUInt64 >>> ((1 : Int32).toInt64.toUInt64 &&& Int64.toUInt64 63)).toInt64 &&& 6148914691236517205)).toUInt64 >>> ((2 : Int32).toInt64.toUInt64 &&& Int64.toUInt64 63)).toInt64 &&& 3689348814741910323)).toUInt64 >>> ((4 : Int32).toInt64.toUInt64 &&& Int64.toUInt64 63)).toInt64) &&& 1085102592571150095) + ((((((x - ((x.toUInt64 >>> ((1 : Int32).toInt64.toUInt64 &&& Int64.toUInt64 63)).toInt64 &&& 6148914691236517205)) &&& 3689348814741910323) + (((x - ((x.toUInt64 >>> ((1 : Int32).toInt64.toUInt64 &&& Int64.toUInt64 63)).toInt64 &&& 6148914691236517205)).toUInt64 >>> ((2 : Int32).toInt64.toUInt64 &&& Int64.toUInt64 63)).toInt64 &&& 3689348814741910323)) + ((((x - ((x.toUInt64 >>> ((1 : Int32).toInt64.toUInt64 &&& Int64.toUInt64 63)).toInt64 &&& 6148914691236517205)) &&& 3689348814741910323) + (((x - ((x.toUInt64 >>> ((1 : Int32).toInt64.toUInt64 &&& Int64.toUInt64 63)).toInt64 &&& 6148914691236517205)).toUInt64 >>> ((2 : Int32).toInt64.toUInt64 &&& Int64.toUInt64 63)).toInt64 &&& 3689348814741910323)).toUInt64 >>> ((4 : Int32).toInt64.toUInt64 &&& Int64.toUInt64 63)).toInt64) &&& 1085102592571150095).toUInt64 >>> ((8 : Int32).toInt64.toUInt64 &&& Int64.toUInt64 63)).toInt64).toUInt64 >>> ((16 : Int32).toInt64.toUInt64 &&& Int64.toUInt64 63)).toInt64) + ((((((((x - ((x.toUInt64 >>> ((1 : Int32).toInt64.toUInt64 &&& Int64.toUInt64 63)).toInt64 &&& 6148914691236517205)) &&& 3689348814741910323) + (((x - ((x.toUInt64 >>> ((1 : Int32).toInt64.toUInt64 &&& Int64.toUInt64 63)).toInt64 &&& 6148914691236517205)).toUInt64 >>> ((2 : Int32).toInt64.toUInt64 &&& Int64.toUInt64 63)).toInt64 &&& 3689348814741910323)) + ((((x - ((x.toUInt64 >>> ((1 : Int32).toInt64.toUInt64 &&& Int64.toUInt64 63)).toInt64 &&& 6148914691236517205)) &&& 3689348814741910323) + (((x - ((x.toUInt64 >>> ((1 : Int32).toInt64.toUInt64 &&& Int64.toUInt64 63)).toInt64 &&& 6148914691236517205)).toUInt64 >>> ((2 : Int32).toInt64.toUInt64 &&& Int64.toUInt64 63)).toInt64 &&& 3689348814741910323)).toUInt64 >>> ((4 : Int32).toInt64.toUInt64 &&& Int64.toUInt64 63)).toInt64) &&& 1085102592571150095) + ((((((x - ((x.toUInt64 >>> ((1 : Int32).toInt64.toUInt64 &&& Int64.toUInt64 63)).toInt64 &&& 6148914691236517205)) &&& 3689348814741910323) + (((x - ((x.toUInt64 >>> ((1 : Int32).toInt64.toUInt64 &&& Int64.toUInt64 63)).toInt64 &&& 6148914691236517205)).toUInt64 >>> ((2 : Int32).toInt64.toUInt64 &&& Int64.toUInt64 63)).toInt64 &&& 3689348814741910323)) + ((((x - ((x.toUInt64 >>> ((1 : Int32).toInt64.toUInt64 &&& Int64.toUInt64 63)).toInt64 &&& 6148914691236517205)) &&& 3689348814741910323) + (((x - ((x.toUInt64 >>> ((1 : Int32).toInt64.toUInt64 &&& Int64.toUInt64 63)).toInt64 &&& 6148914691236517205)).toUInt64 >>> ((2 : Int32).toInt64.toUInt64 &&& Int64.toUInt64 63)).toInt64 &&& 3689348814741910323)).toUInt64 >>> ((4 : Int32).toInt64.toUInt64 &&& Int64.toUInt64 63)).toInt64) &&& 1085102592571150095).toUInt64 >>> ((8 : Int32).toInt64.toUInt64 &&& Int64.toUInt64 63)).toInt64) + (((((((x - ((x.toUInt64 >>> ((1 : Int32).toInt64.toUInt64 &&& Int64.toUInt64 63)).toInt64 &&& 6148914691236517205)) &&& 3689348814741910323) + (((x - ((x.toUInt64 >>> ((1 : Int32).toInt64.toUInt64 &&& Int64.toUInt64 63)).toInt64 &&& 6148914691236517205)).toUInt64 >>> ((2 : Int32).toInt64.toUInt64 &&& Int64.toUInt64 63)).toInt64 &&& 3689348814741910323)) + ((((x - ((x.toUInt64 >>> ((1 : Int32).toInt64.toUInt64 &&& Int64.toUInt64 63)).toInt64 &&& 6148914691236517205)) &&& 3689348814741910323) + (((x - ((x.toUInt64 >>> ((1 : Int32).toInt64.toUInt64 &&& Int64.toUInt64 63)).toInt64 &&& 6148914691236517205)).toUInt64 >>> ((2 : Int32).toInt64.toUInt64 &&& Int64.toUInt64 63)).toInt64 &&& 3689348814741910323)).toUInt64 >>> ((4 : Int32).toInt64.toUInt64 &&& Int64.toUInt64 63)).toInt64) &&& 1085102592571150095) + ((((((x - ((x.toUInt64 >>> ((1 : Int32).toInt64.toUInt64 &&& Int64.toUInt64 63)).toInt64 &&& 6148914691236517205)) &&& 3689348814741910323) + (((x - ((x.toUInt64 >>> ((1 : Int32).toInt64.toUInt64 &&& Int64.toUInt64 63)).toInt64 &&& 6148914691236517205)).toUInt64 >>> ((2 : Int32).toInt64.toUInt64 &&& Int64.toUInt64 63)).toInt64 &&& 3689348814741910323)) + ((((x - ((x.toUInt64 >>> ((1 : Int32).toInt64.toUInt64 &&& Int64.toUInt64 63)).toInt64 &&& 6148914691236517205)) &&& 3689348814741910323) + (((x - ((x.toUInt64 >>> ((1 : Int32).toInt64.toUInt64 &&& Int64.toUInt64 63)).toInt64 &&& 6148914691236517205)).toUInt64 >>> ((2 : Int32).toInt64.toUInt64 &&& Int64.toUInt64 63)).toInt64 &&& 3689348814741910323)).toUInt64 >>> ((4 : Int32).toInt64.toUInt64 &&& Int64.toUInt64 63)).toInt64) &&& 1085102592571150095).toUInt64 >>> ((8 : Int32).toInt64.toUInt64 &&& Int64.toUInt64 63)).toInt64).toUInt64 >>> ((16 : Int32).toInt64.toUInt64 &&& Int64.toUInt64 63)).toInt64).toUInt64 >>> ((32 : Int32).toInt64.toUInt64 &&& Int64.toUInt64 63)).toInt64).toInt32 &&& 127), (), rfl, hres.symm, trivial⟩, hS.F ht⟩) hS.2.2 dJ13_bitCount_95d88_60
def F_Cloth_isJoint (joint : Int32) : Int32 := (if joint < 0 then 0 else (if (82 : Int32) ≤ joint then 0 else 1))
set_option maxHeartbeats 4000000 in
set_option maxRecDepth 100000 in
theorem c_Cloth_isJoint (l : Launch) (dC : Nat → ClassId) (dI : Nat → Nat → Nat) (cI cC cG cZ : ClassId) (joint : Int32) (res : Int32) (hres : res = F_Cloth_isJoint joint) : Met l yX0_isJoint wsX0_isJoint ({ frames := 0, cells := 0, slots := 0, locals := 0 }) (va_Pc [.int joint] (ro_P (dC, dI) vwCl (tyL cI cC cG cZ) [])) (va_Qi (fun r (_ : Unit) => r = res) (fun _ _ => True) ro_F) 0 0 ro_F := by
  refine Met.ofW (cc := cX0_isJoint) (maxL := 1) (ret := (some .boolean)) (by decide) rfl ?_
  intro p e s m args below meth c s₁ B hml hv
  obtain ⟨rfl, hP, hK⟩ := hv
  have hx := B.exec
  have hb := B.bytes
  have hr := B.returns
  have hts := atoms_spec (ws := wsX0_isJoint) B.pre
  have hown : s.vm.findClass RX0 = some m.cls := findClass_of_methodNamed B.named
  have hlocks := B.notSynchronized
  have hS : va_S ro_F s.heap s.heap [] := va_S.rf
  have hl := lv_entry ([.int joint]) (n := 1) (Nat.le_of_ble_eq_true rfl)
  rw [lg_entry_eq]
  generalize (lg_sl ([.int joint]) ++ List.replicate (1 - (lg_sl ([.int joint])).length) Slot.unset).toArray = ls at hl ⊢
  have hl : lv_has ls 1 [(0, .int joint)] := hl
  rw [F_Cloth_isJoint] at hres
  refine lv_iload_n hx hb dX0_isJoint_0 rfl (lv_at hl 0 rfl) ?_
  refine lv_if_lt (tgt := 14) hx hb dX0_isJoint_1 (by decide) (fun c_1 => ?_) (fun c_1 => ?_)
  · rw [if_pos c_1] at hres
    refine lv_iconst (v := 0) hx hb dX0_isJoint_14 (by decide) ?_
    exact W.zret (v := 0) hx hb hr rfl (fun t ht hW => ⟨⟨0, (), rfl, hres.symm, trivial⟩, hS.F ht⟩) hS.2.2 dX0_isJoint_15
  · rw [if_neg c_1] at hres
    refine lv_iload_n hx hb dX0_isJoint_4 rfl (lv_at hl 0 rfl) ?_
    refine lv_bipush (v := 82) hx hb dX0_isJoint_5 (by decide) ?_
    refine lv_icmp_ge (tgt := 14) hx hb dX0_isJoint_7 (by decide) (fun c_2 => ?_) (fun c_2 => ?_)
    · rw [if_pos c_2] at hres
      refine lv_iconst (v := 0) hx hb dX0_isJoint_14 (by decide) ?_
      exact W.zret (v := 0) hx hb hr rfl (fun t ht hW => ⟨⟨0, (), rfl, hres.symm, trivial⟩, hS.F ht⟩) hS.2.2 dX0_isJoint_15
    · rw [if_neg c_2] at hres
      refine lv_iconst (v := 1) hx hb dX0_isJoint_10 (by decide) ?_
      refine lv_goto (tgt := 15) hx hb dX0_isJoint_11 (by decide) ?_
      exact W.zret (v := 1) hx hb hr rfl (fun t ht hW => ⟨⟨1, (), rfl, hres.symm, trivial⟩, hS.F ht⟩) hS.2.2 dX0_isJoint_15
theorem jt_in {x : Int32} (h : ¬ F_Cloth_isJoint x = 0) : vp_in x 82 := by
  unfold F_Cloth_isJoint at h
  by_cases h0 : x < 0
  · rw [if_pos h0] at h; exact absurd rfl h
  · rw [if_neg h0] at h
    by_cases h1 : (82 : Int32) ≤ x
    · rw [if_pos h1] at h; exact absurd rfl h
    · exact vp_rng rfl h0 h1
theorem F_Cloth_isJoint_b (joint : Int32) : F_Cloth_isJoint joint = 0 ∨ F_Cloth_isJoint joint = 1 := by
  unfold F_Cloth_isJoint
  try simp only [bnd]
  (repeat' split) <;> first | exact Or.inl rfl | exact Or.inr rfl
def F_Cloth_isCell (cell : Int32) : Int32 := (if cell < 0 then 0 else (if (48 : Int32) ≤ cell then 0 else 1))
set_option maxHeartbeats 4000000 in
set_option maxRecDepth 100000 in
theorem c_Cloth_isCell (l : Launch) (dC : Nat → ClassId) (dI : Nat → Nat → Nat) (cI cC cG cZ : ClassId) (cell : Int32) (res : Int32) (hres : res = F_Cloth_isCell cell) : Met l yX0_isCell wsX0_isCell ({ frames := 0, cells := 0, slots := 0, locals := 0 }) (va_Pc [.int cell] (ro_P (dC, dI) vwCl (tyL cI cC cG cZ) [])) (va_Qi (fun r (_ : Unit) => r = res) (fun _ _ => True) ro_F) 0 0 ro_F := by
  refine Met.ofW (cc := cX0_isCell) (maxL := 1) (ret := (some .boolean)) (by decide) rfl ?_
  intro p e s m args below meth c s₁ B hml hv
  obtain ⟨rfl, hP, hK⟩ := hv
  have hx := B.exec
  have hb := B.bytes
  have hr := B.returns
  have hts := atoms_spec (ws := wsX0_isCell) B.pre
  have hown : s.vm.findClass RX0 = some m.cls := findClass_of_methodNamed B.named
  have hlocks := B.notSynchronized
  have hS : va_S ro_F s.heap s.heap [] := va_S.rf
  have hl := lv_entry ([.int cell]) (n := 1) (Nat.le_of_ble_eq_true rfl)
  rw [lg_entry_eq]
  generalize (lg_sl ([.int cell]) ++ List.replicate (1 - (lg_sl ([.int cell])).length) Slot.unset).toArray = ls at hl ⊢
  have hl : lv_has ls 1 [(0, .int cell)] := hl
  rw [F_Cloth_isCell] at hres
  refine lv_iload_n hx hb dX0_isCell_0 rfl (lv_at hl 0 rfl) ?_
  refine lv_if_lt (tgt := 14) hx hb dX0_isCell_1 (by decide) (fun c_1 => ?_) (fun c_1 => ?_)
  · rw [if_pos c_1] at hres
    refine lv_iconst (v := 0) hx hb dX0_isCell_14 (by decide) ?_
    exact W.zret (v := 0) hx hb hr rfl (fun t ht hW => ⟨⟨0, (), rfl, hres.symm, trivial⟩, hS.F ht⟩) hS.2.2 dX0_isCell_15
  · rw [if_neg c_1] at hres
    refine lv_iload_n hx hb dX0_isCell_4 rfl (lv_at hl 0 rfl) ?_
    refine lv_bipush (v := 48) hx hb dX0_isCell_5 (by decide) ?_
    refine lv_icmp_ge (tgt := 14) hx hb dX0_isCell_7 (by decide) (fun c_2 => ?_) (fun c_2 => ?_)
    · rw [if_pos c_2] at hres
      refine lv_iconst (v := 0) hx hb dX0_isCell_14 (by decide) ?_
      exact W.zret (v := 0) hx hb hr rfl (fun t ht hW => ⟨⟨0, (), rfl, hres.symm, trivial⟩, hS.F ht⟩) hS.2.2 dX0_isCell_15
    · rw [if_neg c_2] at hres
      refine lv_iconst (v := 1) hx hb dX0_isCell_10 (by decide) ?_
      refine lv_goto (tgt := 15) hx hb dX0_isCell_11 (by decide) ?_
      exact W.zret (v := 1) hx hb hr rfl (fun t ht hW => ⟨⟨1, (), rfl, hres.symm, trivial⟩, hS.F ht⟩) hS.2.2 dX0_isCell_15
theorem F_Cloth_isCell_b (cell : Int32) : F_Cloth_isCell cell = 0 ∨ F_Cloth_isCell cell = 1 := by
  unfold F_Cloth_isCell
  try simp only [bnd]
  (repeat' split) <;> first | exact Or.inl rfl | exact Or.inr rfl
def F_Cloth_isDown (joint : Int32) : Int32 := (if joint < 42 then 0 else 1)
set_option maxHeartbeats 4000000 in
set_option maxRecDepth 100000 in
theorem c_Cloth_isDown (l : Launch) (dC : Nat → ClassId) (dI : Nat → Nat → Nat) (cI cC cG cZ : ClassId) (joint : Int32) (res : Int32) (hres : res = F_Cloth_isDown joint) : Met l yX0_isDown wsX0_isDown ({ frames := 0, cells := 0, slots := 0, locals := 0 }) (va_Pc [.int joint] (ro_P (dC, dI) vwCl (tyL cI cC cG cZ) [])) (va_Qi (fun r (_ : Unit) => r = res) (fun _ _ => True) ro_F) 0 0 ro_F := by
  refine Met.ofW (cc := cX0_isDown) (maxL := 1) (ret := (some .boolean)) (by decide) rfl ?_
  intro p e s m args below meth c s₁ B hml hv
  obtain ⟨rfl, hP, hK⟩ := hv
  have hx := B.exec
  have hb := B.bytes
  have hr := B.returns
  have hts := atoms_spec (ws := wsX0_isDown) B.pre
  have hown : s.vm.findClass RX0 = some m.cls := findClass_of_methodNamed B.named
  have hlocks := B.notSynchronized
  have hS : va_S ro_F s.heap s.heap [] := va_S.rf
  have hl := lv_entry ([.int joint]) (n := 1) (Nat.le_of_ble_eq_true rfl)
  rw [lg_entry_eq]
  generalize (lg_sl ([.int joint]) ++ List.replicate (1 - (lg_sl ([.int joint])).length) Slot.unset).toArray = ls at hl ⊢
  have hl : lv_has ls 1 [(0, .int joint)] := hl
  rw [F_Cloth_isDown] at hres
  refine lv_iload_n hx hb dX0_isDown_0 rfl (lv_at hl 0 rfl) ?_
  refine lv_bipush (v := 42) hx hb dX0_isDown_1 (by decide) ?_
  refine lv_icmp_lt (tgt := 10) hx hb dX0_isDown_3 (by decide) (fun c_1 => ?_) (fun c_1 => ?_)
  · rw [if_pos c_1] at hres
    refine lv_iconst (v := 0) hx hb dX0_isDown_10 (by decide) ?_
    exact W.zret (v := 0) hx hb hr rfl (fun t ht hW => ⟨⟨0, (), rfl, hres.symm, trivial⟩, hS.F ht⟩) hS.2.2 dX0_isDown_11
  · rw [if_neg c_1] at hres
    refine lv_iconst (v := 1) hx hb dX0_isDown_6 (by decide) ?_
    refine lv_goto (tgt := 11) hx hb dX0_isDown_7 (by decide) ?_
    exact W.zret (v := 1) hx hb hr rfl (fun t ht hW => ⟨⟨1, (), rfl, hres.symm, trivial⟩, hS.F ht⟩) hS.2.2 dX0_isDown_11
theorem F_Cloth_isDown_b (joint : Int32) : F_Cloth_isDown joint = 0 ∨ F_Cloth_isDown joint = 1 := by
  unfold F_Cloth_isDown
  try simp only [bnd]
  (repeat' split) <;> first | exact Or.inl rfl | exact Or.inr rfl
def F_Cloth_firstCell (joint : Int32) : Int32 := (if joint < 42 then (((8 : Int32) * (joint / 7)) + (joint - joint / 7 * 7)) else (joint - 42))
set_option maxHeartbeats 4000000 in
set_option maxRecDepth 100000 in
theorem c_Cloth_firstCell (l : Launch) (dC : Nat → ClassId) (dI : Nat → Nat → Nat) (cI cC cG cZ : ClassId) (joint : Int32) (res : Int32) (hres : res = F_Cloth_firstCell joint) : Met l yX0_firstCell wsX0_firstCell ({ frames := 0, cells := 0, slots := 0, locals := 0 }) (va_Pc [.int joint] (ro_P (dC, dI) vwCl (tyL cI cC cG cZ) [])) (va_Qi (fun r (_ : Unit) => r = res) (fun _ _ => True) ro_F) 0 0 ro_F := by
  refine Met.ofW (cc := cX0_firstCell) (maxL := 1) (ret := (some .int)) (by decide) rfl ?_
  intro p e s m args below meth c s₁ B hml hv
  obtain ⟨rfl, hP, hK⟩ := hv
  have hx := B.exec
  have hb := B.bytes
  have hr := B.returns
  have hts := atoms_spec (ws := wsX0_firstCell) B.pre
  have hown : s.vm.findClass RX0 = some m.cls := findClass_of_methodNamed B.named
  have hlocks := B.notSynchronized
  have hS : va_S ro_F s.heap s.heap [] := va_S.rf
  have hl := lv_entry ([.int joint]) (n := 1) (Nat.le_of_ble_eq_true rfl)
  rw [lg_entry_eq]
  generalize (lg_sl ([.int joint]) ++ List.replicate (1 - (lg_sl ([.int joint])).length) Slot.unset).toArray = ls at hl ⊢
  have hl : lv_has ls 1 [(0, .int joint)] := hl
  rw [F_Cloth_firstCell] at hres
  refine lv_iload_n hx hb dX0_firstCell_0 rfl (lv_at hl 0 rfl) ?_
  refine lv_bipush (v := 42) hx hb dX0_firstCell_1 (by decide) ?_
  refine lv_icmp_lt (tgt := 11) hx hb dX0_firstCell_3 (by decide) (fun c_1 => ?_) (fun c_1 => ?_)
  · rw [if_pos c_1] at hres
    refine lv_bipush (v := 8) hx hb dX0_firstCell_11 (by decide) ?_
    refine lv_iload_n hx hb dX0_firstCell_13 rfl (lv_at hl 0 rfl) ?_
    refine lv_bipush (v := 7) hx hb dX0_firstCell_14 (by decide) ?_
    refine lv_idiv hx hb dX0_firstCell_16 (by decide) ?_
    refine lv_imul hx hb dX0_firstCell_17 ?_
    refine lv_iload_n hx hb dX0_firstCell_18 rfl (lv_at hl 0 rfl) ?_
    refine lv_bipush (v := 7) hx hb dX0_firstCell_19 (by decide) ?_
    refine lv_irem hx hb dX0_firstCell_21 (by decide) ?_
    refine lv_iadd hx hb dX0_firstCell_22 ?_
    exact W.iret (v := (((8 : Int32) * (joint / 7)) + (joint - joint / 7 * 7))) hx hb hr (fun t ht hW => ⟨⟨(((8 : Int32) * (joint / 7)) + (joint - joint / 7 * 7)), (), rfl, hres.symm, trivial⟩, hS.F ht⟩) hS.2.2 dX0_firstCell_23
  · rw [if_neg c_1] at hres
    refine lv_iload_n hx hb dX0_firstCell_6 rfl (lv_at hl 0 rfl) ?_
    refine lv_bipush (v := 42) hx hb dX0_firstCell_7 (by decide) ?_
    refine lv_isub hx hb dX0_firstCell_9 ?_
    exact W.iret (v := (joint - 42)) hx hb hr (fun t ht hW => ⟨⟨(joint - 42), (), rfl, hres.symm, trivial⟩, hS.F ht⟩) hS.2.2 dX0_firstCell_10
def F_Cloth_secondCell (joint : Int32) : Int32 := (bnd (F_Cloth_firstCell joint) (fun r_1 => (bnd (F_Cloth_isDown joint) (fun r_2 => (if r_2 = 0 then (r_1 + 1) else (r_1 + 8))))))
set_option maxHeartbeats 4000000 in
set_option maxRecDepth 100000 in
theorem c_Cloth_secondCell (l : Launch) (dC : Nat → ClassId) (dI : Nat → Nat → Nat) (cI cC cG cZ : ClassId) (joint : Int32) (res : Int32) (hres : res = F_Cloth_secondCell joint) : Met l yX0_secondCell wsX0_secondCell ({ frames := 1, cells := 0, slots := 0, locals := 20 }) (va_Pc [.int joint] (ro_P (dC, dI) vwCl (tyL cI cC cG cZ) [])) (va_Qi (fun r (_ : Unit) => r = res) (fun _ _ => True) ro_F) 0 0 ro_F := by
  refine Met.ofW (cc := cX0_secondCell) (maxL := 1) (ret := (some .int)) (by decide) rfl ?_
  intro p e s m args below meth c s₁ B hml hv
  obtain ⟨rfl, hP, hK⟩ := hv
  have hx := B.exec
  have hb := B.bytes
  have hr := B.returns
  have hts := atoms_spec (ws := wsX0_secondCell) B.pre
  have hown : s.vm.findClass RX0 = some m.cls := findClass_of_methodNamed B.named
  have hlocks := B.notSynchronized
  have hS : va_S ro_F s.heap s.heap [] := va_S.rf
  have hl := lv_entry ([.int joint]) (n := 1) (Nat.le_of_ble_eq_true rfl)
  rw [lg_entry_eq]
  generalize (lg_sl ([.int joint]) ++ List.replicate (1 - (lg_sl ([.int joint])).length) Slot.unset).toArray = ls at hl ⊢
  have hl : lv_has ls 1 [(0, .int joint)] := hl
  rw [F_Cloth_secondCell] at hres
  refine lv_iload_n hx hb dX0_secondCell_0 rfl (lv_at hl 0 rfl) ?_
  obtain ⟨r_1, hr_1⟩ : ∃ z, z = F_Cloth_firstCell joint := ⟨_, rfl⟩
  rw [bnd_e hr_1] at hres
  refine ro_calli (va_runS (As := [.int joint]) (rest := []) ⟨hx, hb, hml, hown, hts⟩ (c_Cloth_firstCell l dC dI cI cC cG cZ  joint  r_1 hr_1) (va_cwS 1 hts gX0_secondCell_X0_firstCell rfl rfl rfl (by decide +kernel) ⟨Nat.le_of_ble_eq_true rfl, Nat.le_of_ble_eq_true rfl⟩) (ro_preS (hP.sub (ws' := []) [] rfl) hK) rfl rfl hl.1 rfl (lv_room (Nat.le_of_ble_eq_true rfl)) dX0_secondCell_1 ⟨Nat.zero_le _, Nat.zero_le _⟩) hP hS (fun H locs hP hS => ?_)
  refine lv_iload_n hx hb dX0_secondCell_4 rfl (lv_at hl 0 rfl) ?_
  obtain ⟨r_2, hr_2⟩ : ∃ z, z = F_Cloth_isDown joint := ⟨_, rfl⟩
  rw [bnd_e hr_2] at hres
  refine ro_calli (va_runS (As := [.int joint]) (rest := [.int r_1]) ⟨hx, hb, hml, hown, hts⟩ (c_Cloth_isDown l dC dI cI cC cG cZ  joint  r_2 hr_2) (va_cwS 1 hts gX0_secondCell_X0_isDown rfl rfl rfl (by decide +kernel) ⟨Nat.le_of_ble_eq_true rfl, Nat.le_of_ble_eq_true rfl⟩) (ro_preS (hP.sub (ws' := []) [] rfl) hK) rfl rfl hl.1 rfl (lv_room (Nat.le_of_ble_eq_true rfl)) dX0_secondCell_5 ⟨Nat.zero_le _, Nat.zero_le _⟩) hP hS (fun H locs hP hS => ?_)
  refine lv_if_eq (tgt := 16) hx hb dX0_secondCell_8 (by decide) (fun c_3 => ?_) (fun c_3 => ?_)
  · rw [if_pos c_3] at hres
    refine lv_iconst (v := 1) hx hb dX0_secondCell_16 (by decide) ?_
    refine lv_iadd hx hb dX0_secondCell_17 ?_
    exact W.iret (v := (r_1 + 1)) hx hb hr (fun t ht hW => ⟨⟨(r_1 + 1), (), rfl, hres.symm, trivial⟩, hS.F ht⟩) hS.2.2 dX0_secondCell_18
  · rw [if_neg c_3] at hres
    refine lv_bipush (v := 8) hx hb dX0_secondCell_11 (by decide) ?_
    refine lv_goto (tgt := 17) hx hb dX0_secondCell_13 (by decide) ?_
    refine lv_iadd hx hb dX0_secondCell_17 ?_
    exact W.iret (v := (r_1 + 8)) hx hb hr (fun t ht hW => ⟨⟨(r_1 + 8), (), rfl, hres.symm, trivial⟩, hS.F ht⟩) hS.2.2 dX0_secondCell_18
def F_Cloth_has (cells : Int64) (cell : Int32) : Int32 := (if (lg_cmp ((cells.toUInt64 >>> (cell.toInt64.toUInt64 &&& Int64.toUInt64 63)).toInt64 &&& 1) 0) = 0 then 0 else 1)
set_option maxHeartbeats 4000000 in
set_option maxRecDepth 100000 in
theorem c_Cloth_has (l : Launch) (dC : Nat → ClassId) (dI : Nat → Nat → Nat) (cI cC cG cZ : ClassId) (cells : Int64) (cell : Int32) (res : Int32) (hres : res = F_Cloth_has cells cell) : Met l yX0_has wsX0_has ({ frames := 0, cells := 0, slots := 0, locals := 0 }) (va_Pc [.long cells, .int cell] (ro_P (dC, dI) vwCl (tyL cI cC cG cZ) [])) (va_Qi (fun r (_ : Unit) => r = res) (fun _ _ => True) ro_F) 0 0 ro_F := by
  refine Met.ofW (cc := cX0_has) (maxL := 3) (ret := (some .boolean)) (by decide) rfl ?_
  intro p e s m args below meth c s₁ B hml hv
  obtain ⟨rfl, hP, hK⟩ := hv
  have hx := B.exec
  have hb := B.bytes
  have hr := B.returns
  have hts := atoms_spec (ws := wsX0_has) B.pre
  have hown : s.vm.findClass RX0 = some m.cls := findClass_of_methodNamed B.named
  have hlocks := B.notSynchronized
  have hS : va_S ro_F s.heap s.heap [] := va_S.rf
  have hl := lv_entry ([.long cells, .int cell]) (n := 3) (Nat.le_of_ble_eq_true rfl)
  rw [lg_entry_eq]
  generalize (lg_sl ([.long cells, .int cell]) ++ List.replicate (3 - (lg_sl ([.long cells, .int cell])).length) Slot.unset).toArray = ls at hl ⊢
  have hl : lv_has ls 3 [(0, .long cells), (2, .int cell)] := hl
  rw [F_Cloth_has] at hres
  refine lv_lload_n hx hb dX0_has_0 rfl (lv_at hl 0 rfl) ?_
  refine lv_iload_n hx hb dX0_has_1 rfl (lv_at hl 1 rfl) ?_
  refine lv_lushr (v := (cells.toUInt64 >>> (cell.toInt64.toUInt64 &&& Int64.toUInt64 63)).toInt64) hx hb dX0_has_2 rfl ?_
  refine lv_lconst (v := 1) hx hb dX0_has_3 (by decide) ?_
  refine lv_land hx hb dX0_has_4 ?_
  refine lv_lconst (v := 0) hx hb dX0_has_5 (by decide) ?_
  refine W.lcmp hx hb dX0_has_6 ?_
  refine lv_if_eq (tgt := 14) hx hb dX0_has_7 (by decide) (fun c_1 => ?_) (fun c_1 => ?_)
  · rw [if_pos c_1] at hres
    refine lv_iconst (v := 0) hx hb dX0_has_14 (by decide) ?_
    exact W.zret (v := 0) hx hb hr rfl (fun t ht hW => ⟨⟨0, (), rfl, hres.symm, trivial⟩, hS.F ht⟩) hS.2.2 dX0_has_15
  · rw [if_neg c_1] at hres
    refine lv_iconst (v := 1) hx hb dX0_has_10 (by decide) ?_
    refine lv_goto (tgt := 15) hx hb dX0_has_11 (by decide) ?_
    exact W.zret (v := 1) hx hb hr rfl (fun t ht hW => ⟨⟨1, (), rfl, hres.symm, trivial⟩, hS.F ht⟩) hS.2.2 dX0_has_15
theorem F_Cloth_has_b (cells : Int64) (cell : Int32) : F_Cloth_has cells cell = 0 ∨ F_Cloth_has cells cell = 1 := by
  unfold F_Cloth_has
  try simp only [bnd]
  (repeat' split) <;> first | exact Or.inl rfl | exact Or.inr rfl
theorem iX0_stateOf_X0 : ∀ w ∈ u_ws RX0 TX0 5, w ∈ wsX0_stateOf := by decide +kernel
theorem kX0_stateOf_11 : Cond.fieldLink RX0 11 "TailorChalks$Cloth" "states" "[I" ∈ wsX0_stateOf := by decide +kernel
def F_Cloth_stateOf (joint : Int32) (fs : Nat → Int32) : Int32 := (bnd (F_Cloth_isJoint joint) (fun r_1 => (if r_1 = 0 then 1 else (fs joint.toNatClampNeg))))
set_option maxHeartbeats 4000000 in
set_option maxRecDepth 100000 in
theorem c_Cloth_stateOf (l : Launch) (dC : Nat → ClassId) (dI : Nat → Nat → Nat) (cI cC cG cZ : ClassId) (cl st mk : Nat) (joint : Int32) (gn : Int64) (ac : Int64) (dn : Int64) (fs : Nat → Int32) (res : Int32) (hres : res = F_Cloth_stateOf joint fs) : Met l yX0_stateOf wsX0_stateOf ({ frames := 1, cells := 0, slots := 0, locals := 20 }) (va_Pc [.ref cl, .int joint] (ro_P (dC, dI) vwCl (tyL cI cC cG cZ) [(cl, .inr (0, [.ref st, .ref mk, .long gn, .long ac, .long dn])), (st, .inl (cI, 82, .inl fs))])) (va_Qi (fun r (_ : Unit) => r = res) (fun _ _ => True) ro_F) 0 0 ro_F := by
  refine Met.ofW (cc := cX0_stateOf) (maxL := 2) (ret := (some .int)) (by decide) rfl ?_
  intro p e s m args below meth c s₁ B hml hv
  obtain ⟨rfl, hP, hK⟩ := hv
  have hx := B.exec
  have hb := B.bytes
  have hr := B.returns
  have hts := atoms_spec (ws := wsX0_stateOf) B.pre
  have hown : s.vm.findClass RX0 = some m.cls := findClass_of_methodNamed B.named
  have hlocks := B.notSynchronized
  have hS : va_S ro_F s.heap s.heap [] := va_S.rf
  have hl := lv_entry ([.ref cl, .int joint]) (n := 2) (Nat.le_of_ble_eq_true rfl)
  rw [lg_entry_eq]
  generalize (lg_sl ([.ref cl, .int joint]) ++ List.replicate (2 - (lg_sl ([.ref cl, .int joint])).length) Slot.unset).toArray = ls at hl ⊢
  have hl : lv_has ls 2 [(0, .ref cl), (1, .int joint)] := hl
  rw [F_Cloth_stateOf] at hres
  refine lv_iload_n hx hb dX0_stateOf_0 rfl (lv_at hl 1 rfl) ?_
  obtain ⟨r_1, hr_1⟩ : ∃ z, z = F_Cloth_isJoint joint := ⟨_, rfl⟩
  rw [bnd_e hr_1] at hres
  refine ro_calli (va_runS (As := [.int joint]) (rest := []) ⟨hx, hb, hml, hown, hts⟩ (c_Cloth_isJoint l dC dI cI cC cG cZ  joint  r_1 hr_1) (va_cwS 1 hts gX0_stateOf_X0_isJoint rfl rfl rfl (by decide +kernel) ⟨Nat.le_of_ble_eq_true rfl, Nat.le_of_ble_eq_true rfl⟩) (ro_preS (hP.sub (ws' := []) [] rfl) hK) rfl rfl hl.1 rfl (lv_room (Nat.le_of_ble_eq_true rfl)) dX0_stateOf_1 ⟨Nat.zero_le _, Nat.zero_le _⟩) hP hS (fun H locs hP hS => ?_)
  refine lv_if_eq (tgt := 16) hx hb dX0_stateOf_4 (by decide) (fun c_2 => ?_) (fun c_2 => ?_)
  · rw [if_pos c_2] at hres
    refine lv_iconst (v := 1) hx hb dX0_stateOf_16 (by decide) ?_
    exact W.iret (v := 1) hx hb hr (fun t ht hW => ⟨⟨1, (), rfl, hres.symm, trivial⟩, hS.F ht⟩) hS.2.2 dX0_stateOf_17
  · rw [if_neg c_2] at hres
    refine lv_aload_n hx hb dX0_stateOf_7 rfl (lv_at hl 0 rfl) ?_
    refine va_get (D := (dC, dI)) (ci := 0) (v := .ref st) (C := RX0) (T := TX0) (N := 5) hx hb hts iX0_stateOf_X0 hown hK hP 0 rfl rfl 0 (by decide) (hts (.fieldLink RX0 11 "TailorChalks$Cloth" "states" "[I") kX0_stateOf_11) (fun _ h9 => h9) rfl dX0_stateOf_8 ?_
    refine lv_iload_n hx hb dX0_stateOf_11 rfl (lv_at hl 1 rfl) ?_
    refine va_iald hx hb hK hP 1 0 rfl rfl (jt_in (by rw [← hr_1]; exact c_2)) dX0_stateOf_12 ?_
    refine lv_goto (tgt := 17) hx hb dX0_stateOf_13 (by decide) ?_
    exact W.iret (v := (fs joint.toNatClampNeg)) hx hb hr (fun t ht hW => ⟨⟨(fs joint.toNatClampNeg), (), rfl, hres.symm, trivial⟩, hS.F ht⟩) hS.2.2 dX0_stateOf_17
theorem iX0_makerOf_X0 : ∀ w ∈ u_ws RX0 TX0 5, w ∈ wsX0_makerOf := by decide +kernel
theorem kX0_makerOf_15 : Cond.fieldLink RX0 15 "TailorChalks$Cloth" "makers" "[I" ∈ wsX0_makerOf := by decide +kernel
def F_Cloth_makerOf (joint : Int32) (fm : Nat → Int32) : Int32 := (bnd (F_Cloth_isJoint joint) (fun r_1 => (if r_1 = 0 then (-6) else (fm joint.toNatClampNeg))))
set_option maxHeartbeats 4000000 in
set_option maxRecDepth 100000 in
theorem c_Cloth_makerOf (l : Launch) (dC : Nat → ClassId) (dI : Nat → Nat → Nat) (cI cC cG cZ : ClassId) (cl st mk : Nat) (joint : Int32) (gn : Int64) (ac : Int64) (dn : Int64) (fm : Nat → Int32) (res : Int32) (hres : res = F_Cloth_makerOf joint fm) : Met l yX0_makerOf wsX0_makerOf ({ frames := 1, cells := 0, slots := 0, locals := 20 }) (va_Pc [.ref cl, .int joint] (ro_P (dC, dI) vwCl (tyL cI cC cG cZ) [(cl, .inr (0, [.ref st, .ref mk, .long gn, .long ac, .long dn])), (mk, .inl (cI, 82, .inl fm))])) (va_Qi (fun r (_ : Unit) => r = res) (fun _ _ => True) ro_F) 0 0 ro_F := by
  refine Met.ofW (cc := cX0_makerOf) (maxL := 2) (ret := (some .int)) (by decide) rfl ?_
  intro p e s m args below meth c s₁ B hml hv
  obtain ⟨rfl, hP, hK⟩ := hv
  have hx := B.exec
  have hb := B.bytes
  have hr := B.returns
  have hts := atoms_spec (ws := wsX0_makerOf) B.pre
  have hown : s.vm.findClass RX0 = some m.cls := findClass_of_methodNamed B.named
  have hlocks := B.notSynchronized
  have hS : va_S ro_F s.heap s.heap [] := va_S.rf
  have hl := lv_entry ([.ref cl, .int joint]) (n := 2) (Nat.le_of_ble_eq_true rfl)
  rw [lg_entry_eq]
  generalize (lg_sl ([.ref cl, .int joint]) ++ List.replicate (2 - (lg_sl ([.ref cl, .int joint])).length) Slot.unset).toArray = ls at hl ⊢
  have hl : lv_has ls 2 [(0, .ref cl), (1, .int joint)] := hl
  rw [F_Cloth_makerOf] at hres
  refine lv_iload_n hx hb dX0_makerOf_0 rfl (lv_at hl 1 rfl) ?_
  obtain ⟨r_1, hr_1⟩ : ∃ z, z = F_Cloth_isJoint joint := ⟨_, rfl⟩
  rw [bnd_e hr_1] at hres
  refine ro_calli (va_runS (As := [.int joint]) (rest := []) ⟨hx, hb, hml, hown, hts⟩ (c_Cloth_isJoint l dC dI cI cC cG cZ  joint  r_1 hr_1) (va_cwS 1 hts gX0_makerOf_X0_isJoint rfl rfl rfl (by decide +kernel) ⟨Nat.le_of_ble_eq_true rfl, Nat.le_of_ble_eq_true rfl⟩) (ro_preS (hP.sub (ws' := []) [] rfl) hK) rfl rfl hl.1 rfl (lv_room (Nat.le_of_ble_eq_true rfl)) dX0_makerOf_1 ⟨Nat.zero_le _, Nat.zero_le _⟩) hP hS (fun H locs hP hS => ?_)
  refine lv_if_eq (tgt := 16) hx hb dX0_makerOf_4 (by decide) (fun c_2 => ?_) (fun c_2 => ?_)
  · rw [if_pos c_2] at hres
    refine lv_bipush (v := (-6)) hx hb dX0_makerOf_16 (by decide) ?_
    exact W.iret (v := (-6)) hx hb hr (fun t ht hW => ⟨⟨(-6), (), rfl, hres.symm, trivial⟩, hS.F ht⟩) hS.2.2 dX0_makerOf_18
  · rw [if_neg c_2] at hres
    refine lv_aload_n hx hb dX0_makerOf_7 rfl (lv_at hl 0 rfl) ?_
    refine va_get (D := (dC, dI)) (ci := 0) (v := .ref mk) (C := RX0) (T := TX0) (N := 5) hx hb hts iX0_makerOf_X0 hown hK hP 0 rfl rfl 1 (by decide) (hts (.fieldLink RX0 15 "TailorChalks$Cloth" "makers" "[I") kX0_makerOf_15) (fun _ h9 => h9) rfl dX0_makerOf_8 ?_
    refine lv_iload_n hx hb dX0_makerOf_11 rfl (lv_at hl 1 rfl) ?_
    refine va_iald hx hb hK hP 1 0 rfl rfl (jt_in (by rw [← hr_1]; exact c_2)) dX0_makerOf_12 ?_
    refine lv_goto (tgt := 18) hx hb dX0_makerOf_13 (by decide) ?_
    exact W.iret (v := (fm joint.toNatClampNeg)) hx hb hr (fun t ht hW => ⟨⟨(fm joint.toNatClampNeg), (), rfl, hres.symm, trivial⟩, hS.F ht⟩) hS.2.2 dX0_makerOf_18
theorem iX0_isVoid_X0 : ∀ w ∈ u_ws RX0 TX0 5, w ∈ wsX0_isVoid := by decide +kernel
theorem kX0_isVoid_22 : Cond.fieldLink RX0 22 "TailorChalks$Cloth" "gone" "J" ∈ wsX0_isVoid := by decide +kernel
def F_Cloth_isVoid (joint : Int32) (gn : Int64) : Int32 := (bnd (F_Cloth_isDown joint) (fun r_1 => (if r_1 = 0 then (bnd (F_Cloth_firstCell joint) (fun r_3 => (bnd (F_Cloth_has (gn ||| (gn.toUInt64 >>> ((1 : Int32).toInt64.toUInt64 &&& Int64.toUInt64 63)).toInt64) r_3) (fun r_4 => r_4)))) else (bnd (F_Cloth_firstCell joint) (fun r_5 => (bnd (F_Cloth_has (gn ||| (gn.toUInt64 >>> ((8 : Int32).toInt64.toUInt64 &&& Int64.toUInt64 63)).toInt64) r_5) (fun r_6 => r_6)))))))
set_option maxHeartbeats 4000000 in
set_option maxRecDepth 100000 in
theorem c_Cloth_isVoid (l : Launch) (dC : Nat → ClassId) (dI : Nat → Nat → Nat) (cI cC cG cZ : ClassId) (cl st mk : Nat) (joint : Int32) (gn : Int64) (ac : Int64) (dn : Int64) (res : Int32) (hres : res = F_Cloth_isVoid joint gn) : Met l yX0_isVoid wsX0_isVoid ({ frames := 1, cells := 0, slots := 0, locals := 22 }) (va_Pc [.ref cl, .int joint] (ro_P (dC, dI) vwCl (tyL cI cC cG cZ) [(cl, .inr (0, [.ref st, .ref mk, .long gn, .long ac, .long dn]))])) (va_Qi (fun r (_ : Unit) => r = res) (fun _ _ => True) ro_F) 0 0 ro_F := by
  refine Met.ofW (cc := cX0_isVoid) (maxL := 4) (ret := (some .boolean)) (by decide) rfl ?_
  intro p e s m args below meth c s₁ B hml hv
  obtain ⟨rfl, hP, hK⟩ := hv
  have hx := B.exec
  have hb := B.bytes
  have hr := B.returns
  have hts := atoms_spec (ws := wsX0_isVoid) B.pre
  have hown : s.vm.findClass RX0 = some m.cls := findClass_of_methodNamed B.named
  have hlocks := B.notSynchronized
  have hS : va_S ro_F s.heap s.heap [] := va_S.rf
  have hl := lv_entry ([.ref cl, .int joint]) (n := 4) (Nat.le_of_ble_eq_true rfl)
  rw [lg_entry_eq]
  generalize (lg_sl ([.ref cl, .int joint]) ++ List.replicate (4 - (lg_sl ([.ref cl, .int joint])).length) Slot.unset).toArray = ls at hl ⊢
  have hl : lv_has ls 4 [(0, .ref cl), (1, .int joint)] := hl
  rw [F_Cloth_isVoid] at hres
  refine lv_aload_n hx hb dX0_isVoid_0 rfl (lv_at hl 0 rfl) ?_
  refine va_get (D := (dC, dI)) (ci := 0) (v := .long gn) (C := RX0) (T := TX0) (N := 5) hx hb hts iX0_isVoid_X0 hown hK hP 0 rfl rfl 2 (by decide) (hts (.fieldLink RX0 22 "TailorChalks$Cloth" "gone" "J") kX0_isVoid_22) (fun _ h9 => h9) rfl dX0_isVoid_1 ?_
  refine lv_iload_n hx hb dX0_isVoid_4 rfl (lv_at hl 1 rfl) ?_
  obtain ⟨r_1, hr_1⟩ : ∃ z, z = F_Cloth_isDown joint := ⟨_, rfl⟩
  rw [bnd_e hr_1] at hres
  refine ro_calli (va_runS (As := [.int joint]) (rest := [.long gn]) ⟨hx, hb, hml, hown, hts⟩ (c_Cloth_isDown l dC dI cI cC cG cZ  joint  r_1 hr_1) (va_cwS 1 hts gX0_isVoid_X0_isDown rfl rfl rfl (by decide +kernel) ⟨Nat.le_of_ble_eq_true rfl, Nat.le_of_ble_eq_true rfl⟩) (ro_preS (hP.sub (ws' := []) [] rfl) hK) rfl rfl hl.1 rfl (lv_room (Nat.le_of_ble_eq_true rfl)) dX0_isVoid_5 ⟨Nat.zero_le _, Nat.zero_le _⟩) hP hS (fun H locs hP hS => ?_)
  refine lv_if_eq (tgt := 16) hx hb dX0_isVoid_8 (by decide) (fun c_2 => ?_) (fun c_2 => ?_)
  · rw [if_pos c_2] at hres
    refine lv_iconst (v := 1) hx hb dX0_isVoid_16 (by decide) ?_
    refine lv_lushr (v := (gn.toUInt64 >>> ((1 : Int32).toInt64.toUInt64 &&& Int64.toUInt64 63)).toInt64) hx hb dX0_isVoid_17 rfl ?_
    refine lv_lstore_n (lv' := [(2, .long ((gn.toUInt64 >>> ((1 : Int32).toInt64.toUInt64 &&& Int64.toUInt64 63)).toInt64)), (0, .ref cl), (1, .int joint)]) hx hb dX0_isVoid_18 rfl hl (by decide) rfl (fun ls hl => ?_)
    refine lv_aload_n hx hb dX0_isVoid_19 rfl (lv_at hl 1 rfl) ?_
    refine va_get (D := (dC, dI)) (ci := 0) (v := .long gn) (C := RX0) (T := TX0) (N := 5) hx hb hts iX0_isVoid_X0 hown hK hP 0 rfl rfl 2 (by decide) (hts (.fieldLink RX0 22 "TailorChalks$Cloth" "gone" "J") kX0_isVoid_22) (fun _ h9 => h9) rfl dX0_isVoid_20 ?_
    refine lv_lload_n hx hb dX0_isVoid_23 rfl (lv_at hl 0 rfl) ?_
    refine lv_lor hx hb dX0_isVoid_24 ?_
    refine lv_iload_n hx hb dX0_isVoid_25 rfl (lv_at hl 2 rfl) ?_
    obtain ⟨r_3, hr_3⟩ : ∃ z, z = F_Cloth_firstCell joint := ⟨_, rfl⟩
    rw [bnd_e hr_3] at hres
    refine ro_calli (va_runS (As := [.int joint]) (rest := [.long (gn ||| (gn.toUInt64 >>> ((1 : Int32).toInt64.toUInt64 &&& Int64.toUInt64 63)).toInt64)]) ⟨hx, hb, hml, hown, hts⟩ (c_Cloth_firstCell l dC dI cI cC cG cZ  joint  r_3 hr_3) (va_cwS 1 hts gX0_isVoid_X0_firstCell rfl rfl rfl (by decide +kernel) ⟨Nat.le_of_ble_eq_true rfl, Nat.le_of_ble_eq_true rfl⟩) (ro_preS (hP.sub (ws' := []) [] rfl) hK) rfl rfl hl.1 rfl (lv_room (Nat.le_of_ble_eq_true rfl)) dX0_isVoid_26 ⟨Nat.zero_le _, Nat.zero_le _⟩) hP hS (fun H locs hP hS => ?_)
    obtain ⟨r_4, hr_4⟩ : ∃ z, z = F_Cloth_has (gn ||| (gn.toUInt64 >>> ((1 : Int32).toInt64.toUInt64 &&& Int64.toUInt64 63)).toInt64) r_3 := ⟨_, rfl⟩
    rw [bnd_e hr_4] at hres
    refine ro_calli (va_runS (As := [.long (gn ||| (gn.toUInt64 >>> ((1 : Int32).toInt64.toUInt64 &&& Int64.toUInt64 63)).toInt64), .int r_3]) (rest := []) ⟨hx, hb, hml, hown, hts⟩ (c_Cloth_has l dC dI cI cC cG cZ  (gn ||| (gn.toUInt64 >>> ((1 : Int32).toInt64.toUInt64 &&& Int64.toUInt64 63)).toInt64) r_3  r_4 hr_4) (va_cwS 2 hts gX0_isVoid_X0_has rfl rfl rfl (by decide +kernel) ⟨Nat.le_of_ble_eq_true rfl, Nat.le_of_ble_eq_true rfl⟩) (ro_preS (hP.sub (ws' := []) [] rfl) hK) rfl rfl hl.1 rfl (lv_room (Nat.le_of_ble_eq_true rfl)) dX0_isVoid_29 ⟨Nat.zero_le _, Nat.zero_le _⟩) hP hS (fun H locs hP hS => ?_)
    exact W.zret (v := r_4) hx hb hr (zb_nar (by rw [hr_4]; exact F_Cloth_has_b ..)) (fun t ht hW => ⟨⟨r_4, (), rfl, hres.symm, trivial⟩, hS.F ht⟩) hS.2.2 dX0_isVoid_32
  · rw [if_neg c_2] at hres
    refine lv_bipush (v := 8) hx hb dX0_isVoid_11 (by decide) ?_
    refine lv_goto (tgt := 17) hx hb dX0_isVoid_13 (by decide) ?_
    refine lv_lushr (v := (gn.toUInt64 >>> ((8 : Int32).toInt64.toUInt64 &&& Int64.toUInt64 63)).toInt64) hx hb dX0_isVoid_17 rfl ?_
    refine lv_lstore_n (lv' := [(2, .long ((gn.toUInt64 >>> ((8 : Int32).toInt64.toUInt64 &&& Int64.toUInt64 63)).toInt64)), (0, .ref cl), (1, .int joint)]) hx hb dX0_isVoid_18 rfl hl (by decide) rfl (fun ls hl => ?_)
    refine lv_aload_n hx hb dX0_isVoid_19 rfl (lv_at hl 1 rfl) ?_
    refine va_get (D := (dC, dI)) (ci := 0) (v := .long gn) (C := RX0) (T := TX0) (N := 5) hx hb hts iX0_isVoid_X0 hown hK hP 0 rfl rfl 2 (by decide) (hts (.fieldLink RX0 22 "TailorChalks$Cloth" "gone" "J") kX0_isVoid_22) (fun _ h9 => h9) rfl dX0_isVoid_20 ?_
    refine lv_lload_n hx hb dX0_isVoid_23 rfl (lv_at hl 0 rfl) ?_
    refine lv_lor hx hb dX0_isVoid_24 ?_
    refine lv_iload_n hx hb dX0_isVoid_25 rfl (lv_at hl 2 rfl) ?_
    obtain ⟨r_5, hr_5⟩ : ∃ z, z = F_Cloth_firstCell joint := ⟨_, rfl⟩
    rw [bnd_e hr_5] at hres
    refine ro_calli (va_runS (As := [.int joint]) (rest := [.long (gn ||| (gn.toUInt64 >>> ((8 : Int32).toInt64.toUInt64 &&& Int64.toUInt64 63)).toInt64)]) ⟨hx, hb, hml, hown, hts⟩ (c_Cloth_firstCell l dC dI cI cC cG cZ  joint  r_5 hr_5) (va_cwS 1 hts gX0_isVoid_X0_firstCell rfl rfl rfl (by decide +kernel) ⟨Nat.le_of_ble_eq_true rfl, Nat.le_of_ble_eq_true rfl⟩) (ro_preS (hP.sub (ws' := []) [] rfl) hK) rfl rfl hl.1 rfl (lv_room (Nat.le_of_ble_eq_true rfl)) dX0_isVoid_26 ⟨Nat.zero_le _, Nat.zero_le _⟩) hP hS (fun H locs hP hS => ?_)
    obtain ⟨r_6, hr_6⟩ : ∃ z, z = F_Cloth_has (gn ||| (gn.toUInt64 >>> ((8 : Int32).toInt64.toUInt64 &&& Int64.toUInt64 63)).toInt64) r_5 := ⟨_, rfl⟩
    rw [bnd_e hr_6] at hres
    refine ro_calli (va_runS (As := [.long (gn ||| (gn.toUInt64 >>> ((8 : Int32).toInt64.toUInt64 &&& Int64.toUInt64 63)).toInt64), .int r_5]) (rest := []) ⟨hx, hb, hml, hown, hts⟩ (c_Cloth_has l dC dI cI cC cG cZ  (gn ||| (gn.toUInt64 >>> ((8 : Int32).toInt64.toUInt64 &&& Int64.toUInt64 63)).toInt64) r_5  r_6 hr_6) (va_cwS 2 hts gX0_isVoid_X0_has rfl rfl rfl (by decide +kernel) ⟨Nat.le_of_ble_eq_true rfl, Nat.le_of_ble_eq_true rfl⟩) (ro_preS (hP.sub (ws' := []) [] rfl) hK) rfl rfl hl.1 rfl (lv_room (Nat.le_of_ble_eq_true rfl)) dX0_isVoid_29 ⟨Nat.zero_le _, Nat.zero_le _⟩) hP hS (fun H locs hP hS => ?_)
    exact W.zret (v := r_6) hx hb hr (zb_nar (by rw [hr_6]; exact F_Cloth_has_b ..)) (fun t ht hW => ⟨⟨r_6, (), rfl, hres.symm, trivial⟩, hS.F ht⟩) hS.2.2 dX0_isVoid_32
theorem F_Cloth_isVoid_b (joint : Int32) (gn : Int64) : F_Cloth_isVoid joint gn = 0 ∨ F_Cloth_isVoid joint gn = 1 := by
  unfold F_Cloth_isVoid
  try simp only [bnd]
  (repeat' split) <;> first | exact Or.inl rfl | exact Or.inr rfl | exact F_Cloth_isDown_b .. | exact F_Cloth_has_b ..
theorem iX0_holds_X0 : ∀ w ∈ u_ws RX0 TX0 5, w ∈ wsX0_holds := by decide +kernel
theorem kX0_holds_26 : Cond.fieldLink RX0 26 "TailorChalks$Cloth" "heldAcross" "J" ∈ wsX0_holds := by decide +kernel
theorem kX0_holds_29 : Cond.fieldLink RX0 29 "TailorChalks$Cloth" "heldDown" "J" ∈ wsX0_holds := by decide +kernel
def F_Cloth_holds (joint : Int32) (ac : Int64) (dn : Int64) : Int32 := (bnd (F_Cloth_isDown joint) (fun r_1 => (if r_1 = 0 then (bnd (F_Cloth_firstCell joint) (fun r_3 => (bnd (F_Cloth_has ac r_3) (fun r_4 => r_4)))) else (bnd (F_Cloth_firstCell joint) (fun r_5 => (bnd (F_Cloth_has dn r_5) (fun r_6 => r_6)))))))
set_option maxHeartbeats 4000000 in
set_option maxRecDepth 100000 in
theorem c_Cloth_holds (l : Launch) (dC : Nat → ClassId) (dI : Nat → Nat → Nat) (cI cC cG cZ : ClassId) (cl st mk : Nat) (joint : Int32) (gn : Int64) (ac : Int64) (dn : Int64) (res : Int32) (hres : res = F_Cloth_holds joint ac dn) : Met l yX0_holds wsX0_holds ({ frames := 1, cells := 0, slots := 0, locals := 22 }) (va_Pc [.ref cl, .int joint] (ro_P (dC, dI) vwCl (tyL cI cC cG cZ) [(cl, .inr (0, [.ref st, .ref mk, .long gn, .long ac, .long dn]))])) (va_Qi (fun r (_ : Unit) => r = res) (fun _ _ => True) ro_F) 0 0 ro_F := by
  refine Met.ofW (cc := cX0_holds) (maxL := 2) (ret := (some .boolean)) (by decide) rfl ?_
  intro p e s m args below meth c s₁ B hml hv
  obtain ⟨rfl, hP, hK⟩ := hv
  have hx := B.exec
  have hb := B.bytes
  have hr := B.returns
  have hts := atoms_spec (ws := wsX0_holds) B.pre
  have hown : s.vm.findClass RX0 = some m.cls := findClass_of_methodNamed B.named
  have hlocks := B.notSynchronized
  have hS : va_S ro_F s.heap s.heap [] := va_S.rf
  have hl := lv_entry ([.ref cl, .int joint]) (n := 2) (Nat.le_of_ble_eq_true rfl)
  rw [lg_entry_eq]
  generalize (lg_sl ([.ref cl, .int joint]) ++ List.replicate (2 - (lg_sl ([.ref cl, .int joint])).length) Slot.unset).toArray = ls at hl ⊢
  have hl : lv_has ls 2 [(0, .ref cl), (1, .int joint)] := hl
  rw [F_Cloth_holds] at hres
  refine lv_iload_n hx hb dX0_holds_0 rfl (lv_at hl 1 rfl) ?_
  obtain ⟨r_1, hr_1⟩ : ∃ z, z = F_Cloth_isDown joint := ⟨_, rfl⟩
  rw [bnd_e hr_1] at hres
  refine ro_calli (va_runS (As := [.int joint]) (rest := []) ⟨hx, hb, hml, hown, hts⟩ (c_Cloth_isDown l dC dI cI cC cG cZ  joint  r_1 hr_1) (va_cwS 1 hts gX0_holds_X0_isDown rfl rfl rfl (by decide +kernel) ⟨Nat.le_of_ble_eq_true rfl, Nat.le_of_ble_eq_true rfl⟩) (ro_preS (hP.sub (ws' := []) [] rfl) hK) rfl rfl hl.1 rfl (lv_room (Nat.le_of_ble_eq_true rfl)) dX0_holds_1 ⟨Nat.zero_le _, Nat.zero_le _⟩) hP hS (fun H locs hP hS => ?_)
  refine lv_if_eq (tgt := 14) hx hb dX0_holds_4 (by decide) (fun c_2 => ?_) (fun c_2 => ?_)
  · rw [if_pos c_2] at hres
    refine lv_aload_n hx hb dX0_holds_14 rfl (lv_at hl 0 rfl) ?_
    refine va_get (D := (dC, dI)) (ci := 0) (v := .long ac) (C := RX0) (T := TX0) (N := 5) hx hb hts iX0_holds_X0 hown hK hP 0 rfl rfl 3 (by decide) (hts (.fieldLink RX0 26 "TailorChalks$Cloth" "heldAcross" "J") kX0_holds_26) (fun _ h9 => h9) rfl dX0_holds_15 ?_
    refine lv_iload_n hx hb dX0_holds_18 rfl (lv_at hl 1 rfl) ?_
    obtain ⟨r_3, hr_3⟩ : ∃ z, z = F_Cloth_firstCell joint := ⟨_, rfl⟩
    rw [bnd_e hr_3] at hres
    refine ro_calli (va_runS (As := [.int joint]) (rest := [.long ac]) ⟨hx, hb, hml, hown, hts⟩ (c_Cloth_firstCell l dC dI cI cC cG cZ  joint  r_3 hr_3) (va_cwS 1 hts gX0_holds_X0_firstCell rfl rfl rfl (by decide +kernel) ⟨Nat.le_of_ble_eq_true rfl, Nat.le_of_ble_eq_true rfl⟩) (ro_preS (hP.sub (ws' := []) [] rfl) hK) rfl rfl hl.1 rfl (lv_room (Nat.le_of_ble_eq_true rfl)) dX0_holds_19 ⟨Nat.zero_le _, Nat.zero_le _⟩) hP hS (fun H locs hP hS => ?_)
    obtain ⟨r_4, hr_4⟩ : ∃ z, z = F_Cloth_has ac r_3 := ⟨_, rfl⟩
    rw [bnd_e hr_4] at hres
    refine ro_calli (va_runS (As := [.long ac, .int r_3]) (rest := []) ⟨hx, hb, hml, hown, hts⟩ (c_Cloth_has l dC dI cI cC cG cZ  ac r_3  r_4 hr_4) (va_cwS 2 hts gX0_holds_X0_has rfl rfl rfl (by decide +kernel) ⟨Nat.le_of_ble_eq_true rfl, Nat.le_of_ble_eq_true rfl⟩) (ro_preS (hP.sub (ws' := []) [] rfl) hK) rfl rfl hl.1 rfl (lv_room (Nat.le_of_ble_eq_true rfl)) dX0_holds_22 ⟨Nat.zero_le _, Nat.zero_le _⟩) hP hS (fun H locs hP hS => ?_)
    exact W.zret (v := r_4) hx hb hr (zb_nar (by rw [hr_4]; exact F_Cloth_has_b ..)) (fun t ht hW => ⟨⟨r_4, (), rfl, hres.symm, trivial⟩, hS.F ht⟩) hS.2.2 dX0_holds_25
  · rw [if_neg c_2] at hres
    refine lv_aload_n hx hb dX0_holds_7 rfl (lv_at hl 0 rfl) ?_
    refine va_get (D := (dC, dI)) (ci := 0) (v := .long dn) (C := RX0) (T := TX0) (N := 5) hx hb hts iX0_holds_X0 hown hK hP 0 rfl rfl 4 (by decide) (hts (.fieldLink RX0 29 "TailorChalks$Cloth" "heldDown" "J") kX0_holds_29) (fun _ h9 => h9) rfl dX0_holds_8 ?_
    refine lv_goto (tgt := 18) hx hb dX0_holds_11 (by decide) ?_
    refine lv_iload_n hx hb dX0_holds_18 rfl (lv_at hl 1 rfl) ?_
    obtain ⟨r_5, hr_5⟩ : ∃ z, z = F_Cloth_firstCell joint := ⟨_, rfl⟩
    rw [bnd_e hr_5] at hres
    refine ro_calli (va_runS (As := [.int joint]) (rest := [.long dn]) ⟨hx, hb, hml, hown, hts⟩ (c_Cloth_firstCell l dC dI cI cC cG cZ  joint  r_5 hr_5) (va_cwS 1 hts gX0_holds_X0_firstCell rfl rfl rfl (by decide +kernel) ⟨Nat.le_of_ble_eq_true rfl, Nat.le_of_ble_eq_true rfl⟩) (ro_preS (hP.sub (ws' := []) [] rfl) hK) rfl rfl hl.1 rfl (lv_room (Nat.le_of_ble_eq_true rfl)) dX0_holds_19 ⟨Nat.zero_le _, Nat.zero_le _⟩) hP hS (fun H locs hP hS => ?_)
    obtain ⟨r_6, hr_6⟩ : ∃ z, z = F_Cloth_has dn r_5 := ⟨_, rfl⟩
    rw [bnd_e hr_6] at hres
    refine ro_calli (va_runS (As := [.long dn, .int r_5]) (rest := []) ⟨hx, hb, hml, hown, hts⟩ (c_Cloth_has l dC dI cI cC cG cZ  dn r_5  r_6 hr_6) (va_cwS 2 hts gX0_holds_X0_has rfl rfl rfl (by decide +kernel) ⟨Nat.le_of_ble_eq_true rfl, Nat.le_of_ble_eq_true rfl⟩) (ro_preS (hP.sub (ws' := []) [] rfl) hK) rfl rfl hl.1 rfl (lv_room (Nat.le_of_ble_eq_true rfl)) dX0_holds_22 ⟨Nat.zero_le _, Nat.zero_le _⟩) hP hS (fun H locs hP hS => ?_)
    exact W.zret (v := r_6) hx hb hr (zb_nar (by rw [hr_6]; exact F_Cloth_has_b ..)) (fun t ht hW => ⟨⟨r_6, (), rfl, hres.symm, trivial⟩, hS.F ht⟩) hS.2.2 dX0_holds_25
theorem F_Cloth_holds_b (joint : Int32) (ac : Int64) (dn : Int64) : F_Cloth_holds joint ac dn = 0 ∨ F_Cloth_holds joint ac dn = 1 := by
  unfold F_Cloth_holds
  try simp only [bnd]
  (repeat' split) <;> first | exact Or.inl rfl | exact Or.inr rfl | exact F_Cloth_isDown_b .. | exact F_Cloth_has_b ..
theorem iX0_isGone_X0 : ∀ w ∈ u_ws RX0 TX0 5, w ∈ wsX0_isGone := by decide +kernel
theorem kX0_isGone_22 : Cond.fieldLink RX0 22 "TailorChalks$Cloth" "gone" "J" ∈ wsX0_isGone := by decide +kernel
def F_Cloth_isGone (cell : Int32) (gn : Int64) : Int32 := (bnd (F_Cloth_has gn cell) (fun r_1 => r_1))
set_option maxHeartbeats 4000000 in
set_option maxRecDepth 100000 in
theorem c_Cloth_isGone (l : Launch) (dC : Nat → ClassId) (dI : Nat → Nat → Nat) (cI cC cG cZ : ClassId) (cl st mk : Nat) (cell : Int32) (gn : Int64) (ac : Int64) (dn : Int64) (res : Int32) (hres : res = F_Cloth_isGone cell gn) : Met l yX0_isGone wsX0_isGone ({ frames := 1, cells := 0, slots := 0, locals := 22 }) (va_Pc [.ref cl, .int cell] (ro_P (dC, dI) vwCl (tyL cI cC cG cZ) [(cl, .inr (0, [.ref st, .ref mk, .long gn, .long ac, .long dn]))])) (va_Qi (fun r (_ : Unit) => r = res) (fun _ _ => True) ro_F) 0 0 ro_F := by
  refine Met.ofW (cc := cX0_isGone) (maxL := 2) (ret := (some .boolean)) (by decide) rfl ?_
  intro p e s m args below meth c s₁ B hml hv
  obtain ⟨rfl, hP, hK⟩ := hv
  have hx := B.exec
  have hb := B.bytes
  have hr := B.returns
  have hts := atoms_spec (ws := wsX0_isGone) B.pre
  have hown : s.vm.findClass RX0 = some m.cls := findClass_of_methodNamed B.named
  have hlocks := B.notSynchronized
  have hS : va_S ro_F s.heap s.heap [] := va_S.rf
  have hl := lv_entry ([.ref cl, .int cell]) (n := 2) (Nat.le_of_ble_eq_true rfl)
  rw [lg_entry_eq]
  generalize (lg_sl ([.ref cl, .int cell]) ++ List.replicate (2 - (lg_sl ([.ref cl, .int cell])).length) Slot.unset).toArray = ls at hl ⊢
  have hl : lv_has ls 2 [(0, .ref cl), (1, .int cell)] := hl
  rw [F_Cloth_isGone] at hres
  refine lv_aload_n hx hb dX0_isGone_0 rfl (lv_at hl 0 rfl) ?_
  refine va_get (D := (dC, dI)) (ci := 0) (v := .long gn) (C := RX0) (T := TX0) (N := 5) hx hb hts iX0_isGone_X0 hown hK hP 0 rfl rfl 2 (by decide) (hts (.fieldLink RX0 22 "TailorChalks$Cloth" "gone" "J") kX0_isGone_22) (fun _ h9 => h9) rfl dX0_isGone_1 ?_
  refine lv_iload_n hx hb dX0_isGone_4 rfl (lv_at hl 1 rfl) ?_
  obtain ⟨r_1, hr_1⟩ : ∃ z, z = F_Cloth_has gn cell := ⟨_, rfl⟩
  rw [bnd_e hr_1] at hres
  refine ro_calli (va_runS (As := [.long gn, .int cell]) (rest := []) ⟨hx, hb, hml, hown, hts⟩ (c_Cloth_has l dC dI cI cC cG cZ  gn cell  r_1 hr_1) (va_cwS 2 hts gX0_isGone_X0_has rfl rfl rfl (by decide +kernel) ⟨Nat.le_of_ble_eq_true rfl, Nat.le_of_ble_eq_true rfl⟩) (ro_preS (hP.sub (ws' := []) [] rfl) hK) rfl rfl hl.1 rfl (lv_room (Nat.le_of_ble_eq_true rfl)) dX0_isGone_5 ⟨Nat.zero_le _, Nat.zero_le _⟩) hP hS (fun H locs hP hS => ?_)
  exact W.zret (v := r_1) hx hb hr (zb_nar (by rw [hr_1]; exact F_Cloth_has_b ..)) (fun t ht hW => ⟨⟨r_1, (), rfl, hres.symm, trivial⟩, hS.F ht⟩) hS.2.2 dX0_isGone_8
theorem F_Cloth_isGone_b (cell : Int32) (gn : Int64) : F_Cloth_isGone cell gn = 0 ∨ F_Cloth_isGone cell gn = 1 := by
  unfold F_Cloth_isGone
  try simp only [bnd]
  (repeat' split) <;> first | exact Or.inl rfl | exact Or.inr rfl | exact F_Cloth_has_b ..
theorem iX0_cellsLeft_X0 : ∀ w ∈ u_ws RX0 TX0 5, w ∈ wsX0_cellsLeft := by decide +kernel
theorem kX0_cellsLeft_22 : Cond.fieldLink RX0 22 "TailorChalks$Cloth" "gone" "J" ∈ wsX0_cellsLeft := by decide +kernel
def F_Cloth_cellsLeft (gn : Int64) : Int32 := (bnd (F_Long_bitCount gn) (fun r_1 => ((48 : Int32) - r_1)))
set_option maxHeartbeats 4000000 in
set_option maxRecDepth 100000 in
theorem c_Cloth_cellsLeft (l : Launch) (dC : Nat → ClassId) (dI : Nat → Nat → Nat) (cI cC cG cZ : ClassId) (cl st mk : Nat) (gn : Int64) (ac : Int64) (dn : Int64) (res : Int32) (hres : res = F_Cloth_cellsLeft gn) : Met l yX0_cellsLeft wsX0_cellsLeft ({ frames := 1, cells := 0, slots := 0, locals := 21 }) (va_Pc [.ref cl] (ro_P (dC, dI) vwCl (tyL cI cC cG cZ) [(cl, .inr (0, [.ref st, .ref mk, .long gn, .long ac, .long dn]))])) (va_Qi (fun r (_ : Unit) => r = res) (fun _ _ => True) ro_F) 0 0 ro_F := by
  refine Met.ofW (cc := cX0_cellsLeft) (maxL := 1) (ret := (some .int)) (by decide) rfl ?_
  intro p e s m args below meth c s₁ B hml hv
  obtain ⟨rfl, hP, hK⟩ := hv
  have hx := B.exec
  have hb := B.bytes
  have hr := B.returns
  have hts := atoms_spec (ws := wsX0_cellsLeft) B.pre
  have hown : s.vm.findClass RX0 = some m.cls := findClass_of_methodNamed B.named
  have hlocks := B.notSynchronized
  have hS : va_S ro_F s.heap s.heap [] := va_S.rf
  have hl := lv_entry ([.ref cl]) (n := 1) (Nat.le_of_ble_eq_true rfl)
  rw [lg_entry_eq]
  generalize (lg_sl ([.ref cl]) ++ List.replicate (1 - (lg_sl ([.ref cl])).length) Slot.unset).toArray = ls at hl ⊢
  have hl : lv_has ls 1 [(0, .ref cl)] := hl
  rw [F_Cloth_cellsLeft] at hres
  refine lv_bipush (v := 48) hx hb dX0_cellsLeft_0 (by decide) ?_
  refine lv_aload_n hx hb dX0_cellsLeft_2 rfl (lv_at hl 0 rfl) ?_
  refine va_get (D := (dC, dI)) (ci := 0) (v := .long gn) (C := RX0) (T := TX0) (N := 5) hx hb hts iX0_cellsLeft_X0 hown hK hP 0 rfl rfl 2 (by decide) (hts (.fieldLink RX0 22 "TailorChalks$Cloth" "gone" "J") kX0_cellsLeft_22) (fun _ h9 => h9) rfl dX0_cellsLeft_3 ?_
  obtain ⟨r_1, hr_1⟩ : ∃ z, z = F_Long_bitCount gn := ⟨_, rfl⟩
  rw [bnd_e hr_1] at hres
  refine ro_calli (va_runS (As := [.long gn]) (rest := [.int 48]) ⟨hx, hb, hml, hown, hts⟩ (c_Long_bitCount l dC dI cI cC cG cZ  gn  r_1 hr_1) (va_cwS 1 hts gX0_cellsLeft_J13_bitCount_95d88 rfl rfl rfl (by decide +kernel) ⟨Nat.le_of_ble_eq_true rfl, Nat.le_of_ble_eq_true rfl⟩) (ro_preS (hP.sub (ws' := []) [] rfl) hK) rfl rfl hl.1 rfl (lv_room (Nat.le_of_ble_eq_true rfl)) dX0_cellsLeft_6 ⟨Nat.zero_le _, Nat.zero_le _⟩) hP hS (fun H locs hP hS => ?_)
  refine lv_isub hx hb dX0_cellsLeft_9 ?_
  exact W.iret (v := ((48 : Int32) - r_1)) hx hb hr (fun t ht hW => ⟨⟨((48 : Int32) - r_1), (), rfl, hres.symm, trivial⟩, hS.F ht⟩) hS.2.2 dX0_cellsLeft_10
theorem iX0_make_X0 : ∀ w ∈ u_ws RX0 TX0 5, w ∈ wsX0_make := by decide +kernel
theorem kX0_make_11 : Cond.fieldLink RX0 11 "TailorChalks$Cloth" "states" "[I" ∈ wsX0_make := by decide +kernel
theorem kX0_make_15 : Cond.fieldLink RX0 15 "TailorChalks$Cloth" "makers" "[I" ∈ wsX0_make := by decide +kernel
theorem kX0_make_26 : Cond.fieldLink RX0 26 "TailorChalks$Cloth" "heldAcross" "J" ∈ wsX0_make := by decide +kernel
theorem kX0_make_29 : Cond.fieldLink RX0 29 "TailorChalks$Cloth" "heldDown" "J" ∈ wsX0_make := by decide +kernel
def F_Cloth_make (joint : Int32) (state : Int32) (maker : Int32) (ac : Int64) (dn : Int64) (fs : Nat → Int32) (fm : Nat → Int32) : (Nat → Int32) × (Nat → Int32) × Int64 × Int64 := (bnd (F_Cloth_isJoint joint) (fun r_1 => (if r_1 = 0 then (fs, fm, ac, dn) else (bnd (F_Cloth_firstCell joint) (fun r_3 => (if state = 0 then (bnd (F_Cloth_isDown joint) (fun r_5 => (if r_5 = 0 then ((upd fs joint.toNatClampNeg state), (upd fm joint.toNatClampNeg maker), ((ac &&& (((1 : Int64) <<< (r_3.toInt64 &&& 63)) ^^^ (-1))) ||| ((1 : Int64) <<< (r_3.toInt64 &&& 63))), dn) else ((upd fs joint.toNatClampNeg state), (upd fm joint.toNatClampNeg maker), ac, ((dn &&& (((1 : Int64) <<< (r_3.toInt64 &&& 63)) ^^^ (-1))) ||| ((1 : Int64) <<< (r_3.toInt64 &&& 63))))))) else (if state = 2 then (bnd (F_Cloth_isDown joint) (fun r_10 => (if r_10 = 0 then ((upd fs joint.toNatClampNeg state), (upd fm joint.toNatClampNeg maker), ((ac &&& (((1 : Int64) <<< (r_3.toInt64 &&& 63)) ^^^ (-1))) ||| ((1 : Int64) <<< (r_3.toInt64 &&& 63))), dn) else ((upd fs joint.toNatClampNeg state), (upd fm joint.toNatClampNeg maker), ac, ((dn &&& (((1 : Int64) <<< (r_3.toInt64 &&& 63)) ^^^ (-1))) ||| ((1 : Int64) <<< (r_3.toInt64 &&& 63))))))) else (bnd (F_Cloth_isDown joint) (fun r_8 => (if r_8 = 0 then ((upd fs joint.toNatClampNeg state), (upd fm joint.toNatClampNeg maker), ((ac &&& (((1 : Int64) <<< (r_3.toInt64 &&& 63)) ^^^ (-1))) ||| 0), dn) else ((upd fs joint.toNatClampNeg state), (upd fm joint.toNatClampNeg maker), ac, ((dn &&& (((1 : Int64) <<< (r_3.toInt64 &&& 63)) ^^^ (-1))) ||| 0))))))))))))
set_option maxHeartbeats 4000000 in
set_option maxRecDepth 100000 in
theorem c_Cloth_make (l : Launch) (dC : Nat → ClassId) (dI : Nat → Nat → Nat) (cI cC cG cZ : ClassId) (cl st mk : Nat) (joint : Int32) (state : Int32) (maker : Int32) (gn : Int64) (ac : Int64) (dn : Int64) (fs : Nat → Int32) (fm : Nat → Int32) (res : (Nat → Int32) × (Nat → Int32) × Int64 × Int64) (hres : res = F_Cloth_make joint state maker ac dn fs fm) : Met l yX0_make wsX0_make ({ frames := 1, cells := 0, slots := 0, locals := 20 }) (va_Pc [.ref cl, .int joint, .int state, .int maker] (wr_P (dC, dI) vwCl (tyL cI cC cG cZ) [(cl, .inr (0, [.ref st, .ref mk, .long gn, .long ac, .long dn])), (st, .inl (cI, 82, .inl fs)), (mk, .inl (cI, 82, .inl fm))])) (va_Qv (fun (_ : Unit) => True) (fun _ zt => va_P (dC, dI) vwCl [(cl, .inr (0, [.ref st, .ref mk, .long gn, .long res.2.2.1, .long res.2.2.2])), (st, .inl (cI, 82, .inl res.1)), (mk, .inl (cI, 82, .inl res.2.1))] zt.heap) (wr_A [(cl, .inr (0, [.ref st, .ref mk, .long gn, .long ac, .long dn])), (st, .inl (cI, 82, .inl fs)), (mk, .inl (cI, 82, .inl fm))])) 0 0 (wr_A [(cl, .inr (0, [.ref st, .ref mk, .long gn, .long ac, .long dn])), (st, .inl (cI, 82, .inl fs)), (mk, .inl (cI, 82, .inl fm))]) := by
  refine Met.ofW (cc := cX0_make) (maxL := 8) (ret := none) (by decide) rfl ?_
  intro p e s m args below meth c s₁ B hml hv
  obtain ⟨rfl, hP, hK, hD0⟩ := hv
  have hx := B.exec
  have hb := B.bytes
  have hr := B.returns
  have hts := atoms_spec (ws := wsX0_make) B.pre
  have hown : s.vm.findClass RX0 = some m.cls := findClass_of_methodNamed B.named
  have hlocks := B.notSynchronized
  have hD := wr_self hD0
  generalize hAe : wr_A [(cl, .inr (0, [.ref st, .ref mk, .long gn, .long ac, .long dn])), (st, .inl (cI, 82, .inl fs)), (mk, .inl (cI, 82, .inl fm))] = A at hD ⊢
  have hS : va_S A s.heap s.heap [] := va_S.rf
  have hP : va_P (dC, dI) vwCl [(cl, .inr (0, [.ref st, .ref mk, .long gn, .long ac, .long dn])), (st, .inl (cI, 82, .inl fs)), (mk, .inl (cI, 82, .inl fm))] s.heap := hP
  have hl := lv_entry ([.ref cl, .int joint, .int state, .int maker]) (n := 8) (Nat.le_of_ble_eq_true rfl)
  rw [lg_entry_eq]
  generalize (lg_sl ([.ref cl, .int joint, .int state, .int maker]) ++ List.replicate (8 - (lg_sl ([.ref cl, .int joint, .int state, .int maker])).length) Slot.unset).toArray = ls at hl ⊢
  have hl : lv_has ls 8 [(0, .ref cl), (1, .int joint), (2, .int state), (3, .int maker)] := hl
  rw [F_Cloth_make] at hres
  refine lv_iload_n hx hb dX0_make_0 rfl (lv_at hl 1 rfl) ?_
  obtain ⟨r_1, hr_1⟩ : ∃ z, z = F_Cloth_isJoint joint := ⟨_, rfl⟩
  rw [bnd_e hr_1] at hres
  refine ro_calli (va_runS (As := [.int joint]) (rest := []) ⟨hx, hb, hml, hown, hts⟩ (c_Cloth_isJoint l dC dI cI cC cG cZ  joint  r_1 hr_1) (va_cwS 1 hts gX0_make_X0_isJoint rfl rfl rfl (by decide +kernel) ⟨Nat.le_of_ble_eq_true rfl, Nat.le_of_ble_eq_true rfl⟩) (ro_preS (hP.sub (ws' := []) [] rfl) hK) rfl rfl hl.1 rfl (lv_room (Nat.le_of_ble_eq_true rfl)) dX0_make_1 ⟨Nat.zero_le _, Nat.zero_le _⟩) hP hS (fun H locs hP hS => ?_)
  refine lv_if_ne (tgt := 8) hx hb dX0_make_4 (by decide) (fun c_2 => ?_) (fun c_2 => ?_)
  · rw [if_neg c_2] at hres
    refine lv_aload_n hx hb dX0_make_8 rfl (lv_at hl 0 rfl) ?_
    refine va_get (D := (dC, dI)) (ci := 0) (v := .ref st) (C := RX0) (T := TX0) (N := 5) hx hb hts iX0_make_X0 hown hK hP 0 rfl rfl 0 (by decide) (hts (.fieldLink RX0 11 "TailorChalks$Cloth" "states" "[I") kX0_make_11) (fun _ h9 => h9) rfl dX0_make_9 ?_
    refine lv_iload_n hx hb dX0_make_12 rfl (lv_at hl 1 rfl) ?_
    refine lv_iload_n hx hb dX0_make_13 rfl (lv_at hl 2 rfl) ?_
    refine va_iast hx hb hK hP hD hS 1 0 rfl rfl (jt_in (by rw [← hr_1]; exact c_2)) dX0_make_14 (fun H locs hP hD hS => ?_)
    have hP : va_P (dC, dI) vwCl [(cl, .inr (0, [.ref st, .ref mk, .long gn, .long ac, .long dn])), (st, .inl (cI, 82, .inl (upd fs joint.toNatClampNeg state))), (mk, .inl (cI, 82, .inl fm))] H := hP
    have hD : va_D A [(cl, .inr (0, [.ref st, .ref mk, .long gn, .long ac, .long dn])), (st, .inl (cI, 82, .inl (upd fs joint.toNatClampNeg state))), (mk, .inl (cI, 82, .inl fm))] := hD
    refine lv_aload_n hx hb dX0_make_15 rfl (lv_at hl 0 rfl) ?_
    refine va_get (D := (dC, dI)) (ci := 0) (v := .ref mk) (C := RX0) (T := TX0) (N := 5) hx hb hts iX0_make_X0 hown hK hP 0 rfl rfl 1 (by decide) (hts (.fieldLink RX0 15 "TailorChalks$Cloth" "makers" "[I") kX0_make_15) (fun _ h9 => h9) rfl dX0_make_16 ?_
    refine lv_iload_n hx hb dX0_make_19 rfl (lv_at hl 1 rfl) ?_
    refine lv_iload_n hx hb dX0_make_20 rfl (lv_at hl 3 rfl) ?_
    refine va_iast hx hb hK hP hD hS 2 0 rfl rfl (jt_in (by rw [← hr_1]; exact c_2)) dX0_make_21 (fun H locs hP hD hS => ?_)
    have hP : va_P (dC, dI) vwCl [(cl, .inr (0, [.ref st, .ref mk, .long gn, .long ac, .long dn])), (st, .inl (cI, 82, .inl (upd fs joint.toNatClampNeg state))), (mk, .inl (cI, 82, .inl (upd fm joint.toNatClampNeg maker)))] H := hP
    have hD : va_D A [(cl, .inr (0, [.ref st, .ref mk, .long gn, .long ac, .long dn])), (st, .inl (cI, 82, .inl (upd fs joint.toNatClampNeg state))), (mk, .inl (cI, 82, .inl (upd fm joint.toNatClampNeg maker)))] := hD
    refine lv_lconst (v := 1) hx hb dX0_make_22 (by decide) ?_
    refine lv_iload_n hx hb dX0_make_23 rfl (lv_at hl 1 rfl) ?_
    obtain ⟨r_3, hr_3⟩ : ∃ z, z = F_Cloth_firstCell joint := ⟨_, rfl⟩
    rw [bnd_e hr_3] at hres
    refine ro_calli (va_runS (As := [.int joint]) (rest := [.long 1]) ⟨hx, hb, hml, hown, hts⟩ (c_Cloth_firstCell l dC dI cI cC cG cZ  joint  r_3 hr_3) (va_cwS 1 hts gX0_make_X0_firstCell rfl rfl rfl (by decide +kernel) ⟨Nat.le_of_ble_eq_true rfl, Nat.le_of_ble_eq_true rfl⟩) (ro_preS (hP.sub (ws' := []) [] rfl) hK) rfl rfl hl.1 rfl (lv_room (Nat.le_of_ble_eq_true rfl)) dX0_make_24 ⟨Nat.zero_le _, Nat.zero_le _⟩) hP hS (fun H locs hP hS => ?_)
    refine lv_lshl (v := ((1 : Int64) <<< (r_3.toInt64 &&& 63))) hx hb dX0_make_27 rfl ?_
    refine lv_lstore (lv' := [(4, .long ((1 : Int64) <<< (r_3.toInt64 &&& 63))), (0, .ref cl), (1, .int joint), (2, .int state), (3, .int maker)]) hx hb dX0_make_28 hl (by decide) rfl (fun ls hl => ?_)
    refine lv_iload_n hx hb dX0_make_30 rfl (lv_at hl 3 rfl) ?_
    refine lv_if_eq (tgt := 39) hx hb dX0_make_31 (by decide) (fun c_4 => ?_) (fun c_4 => ?_)
    · rw [if_pos c_4] at hres
      refine lv_lload hx hb dX0_make_39 (lv_at hl 0 rfl) ?_
      refine lv_goto (tgt := 45) hx hb dX0_make_41 (by decide) ?_
      refine lv_lstore (lv' := [(6, .long ((1 : Int64) <<< (r_3.toInt64 &&& 63))), (4, .long ((1 : Int64) <<< (r_3.toInt64 &&& 63))), (0, .ref cl), (1, .int joint), (2, .int state), (3, .int maker)]) hx hb dX0_make_45 hl (by decide) rfl (fun ls hl => ?_)
      refine lv_iload_n hx hb dX0_make_47 rfl (lv_at hl 3 rfl) ?_
      obtain ⟨r_5, hr_5⟩ : ∃ z, z = F_Cloth_isDown joint := ⟨_, rfl⟩
      rw [bnd_e hr_5] at hres
      refine ro_calli (va_runS (As := [.int joint]) (rest := []) ⟨hx, hb, hml, hown, hts⟩ (c_Cloth_isDown l dC dI cI cC cG cZ  joint  r_5 hr_5) (va_cwS 1 hts gX0_make_X0_isDown rfl rfl rfl (by decide +kernel) ⟨Nat.le_of_ble_eq_true rfl, Nat.le_of_ble_eq_true rfl⟩) (ro_preS (hP.sub (ws' := []) [] rfl) hK) rfl rfl hl.1 rfl (lv_room (Nat.le_of_ble_eq_true rfl)) dX0_make_48 ⟨Nat.zero_le _, Nat.zero_le _⟩) hP hS (fun H locs hP hS => ?_)
      refine lv_if_eq (tgt := 75) hx hb dX0_make_51 (by decide) (fun c_6 => ?_) (fun c_6 => ?_)
      · rw [if_pos c_6] at hres
        refine lv_aload_n hx hb dX0_make_75 rfl (lv_at hl 2 rfl) ?_
        refine lv_aload_n hx hb dX0_make_76 rfl (lv_at hl 2 rfl) ?_
        refine va_get (D := (dC, dI)) (ci := 0) (v := .long ac) (C := RX0) (T := TX0) (N := 5) hx hb hts iX0_make_X0 hown hK hP 0 rfl rfl 3 (by decide) (hts (.fieldLink RX0 26 "TailorChalks$Cloth" "heldAcross" "J") kX0_make_26) (fun _ h9 => h9) rfl dX0_make_77 ?_
        refine lv_lload hx hb dX0_make_80 (lv_at hl 1 rfl) ?_
        refine lv_ldc2 (v := (-1)) hx hb hown (hts (.constantLong RX0 53 (-1)) (by decide +kernel)) dX0_make_82 ?_
        refine lv_lxor hx hb dX0_make_85 ?_
        refine lv_land hx hb dX0_make_86 ?_
        refine lv_lload hx hb dX0_make_87 (lv_at hl 0 rfl) ?_
        refine lv_lor hx hb dX0_make_89 ?_
        refine va_put (D := (dC, dI)) (ci := 0) (v := .long ((ac &&& (((1 : Int64) <<< (r_3.toInt64 &&& 63)) ^^^ (-1))) ||| ((1 : Int64) <<< (r_3.toInt64 &&& 63)))) (ty := (.long)) (C := RX0) (T := TX0) (N := 5) hx hb hts iX0_make_X0 tyX0 tyX0_ok nmX0 hown hK hP hD hS 0 rfl rfl 3 (by decide) (hts (.fieldLink RX0 26 "TailorChalks$Cloth" "heldAcross" "J") kX0_make_26) (fun _ h9 => h9) rfl (by decide +kernel) rfl rfl (Nat.le_of_ble_eq_true rfl) dX0_make_90 (fun H locs hP hD hS => ?_)
        have hP : va_P (dC, dI) vwCl [(cl, .inr (0, [.ref st, .ref mk, .long gn, .long ((ac &&& (((1 : Int64) <<< (r_3.toInt64 &&& 63)) ^^^ (-1))) ||| ((1 : Int64) <<< (r_3.toInt64 &&& 63))), .long dn])), (st, .inl (cI, 82, .inl (upd fs joint.toNatClampNeg state))), (mk, .inl (cI, 82, .inl (upd fm joint.toNatClampNeg maker)))] H := hP
        have hD : va_D A [(cl, .inr (0, [.ref st, .ref mk, .long gn, .long ((ac &&& (((1 : Int64) <<< (r_3.toInt64 &&& 63)) ^^^ (-1))) ||| ((1 : Int64) <<< (r_3.toInt64 &&& 63))), .long dn])), (st, .inl (cI, 82, .inl (upd fs joint.toNatClampNeg state))), (mk, .inl (cI, 82, .inl (upd fm joint.toNatClampNeg maker)))] := hD
        subst hres
        exact W.vret hx hb hr (fun t ht hW => ⟨⟨(), rfl, trivial, (by show va_P _ _ _ t.heap; rw [ht]; exact hP)⟩, hS.F ht⟩) hS.2.2 dX0_make_93
      · rw [if_neg c_6] at hres
        refine lv_aload_n hx hb dX0_make_54 rfl (lv_at hl 2 rfl) ?_
        refine lv_aload_n hx hb dX0_make_55 rfl (lv_at hl 2 rfl) ?_
        refine va_get (D := (dC, dI)) (ci := 0) (v := .long dn) (C := RX0) (T := TX0) (N := 5) hx hb hts iX0_make_X0 hown hK hP 0 rfl rfl 4 (by decide) (hts (.fieldLink RX0 29 "TailorChalks$Cloth" "heldDown" "J") kX0_make_29) (fun _ h9 => h9) rfl dX0_make_56 ?_
        refine lv_lload hx hb dX0_make_59 (lv_at hl 1 rfl) ?_
        refine lv_ldc2 (v := (-1)) hx hb hown (hts (.constantLong RX0 53 (-1)) (by decide +kernel)) dX0_make_61 ?_
        refine lv_lxor hx hb dX0_make_64 ?_
        refine lv_land hx hb dX0_make_65 ?_
        refine lv_lload hx hb dX0_make_66 (lv_at hl 0 rfl) ?_
        refine lv_lor hx hb dX0_make_68 ?_
        refine va_put (D := (dC, dI)) (ci := 0) (v := .long ((dn &&& (((1 : Int64) <<< (r_3.toInt64 &&& 63)) ^^^ (-1))) ||| ((1 : Int64) <<< (r_3.toInt64 &&& 63)))) (ty := (.long)) (C := RX0) (T := TX0) (N := 5) hx hb hts iX0_make_X0 tyX0 tyX0_ok nmX0 hown hK hP hD hS 0 rfl rfl 4 (by decide) (hts (.fieldLink RX0 29 "TailorChalks$Cloth" "heldDown" "J") kX0_make_29) (fun _ h9 => h9) rfl (by decide +kernel) rfl rfl (Nat.le_of_ble_eq_true rfl) dX0_make_69 (fun H locs hP hD hS => ?_)
        have hP : va_P (dC, dI) vwCl [(cl, .inr (0, [.ref st, .ref mk, .long gn, .long ac, .long ((dn &&& (((1 : Int64) <<< (r_3.toInt64 &&& 63)) ^^^ (-1))) ||| ((1 : Int64) <<< (r_3.toInt64 &&& 63)))])), (st, .inl (cI, 82, .inl (upd fs joint.toNatClampNeg state))), (mk, .inl (cI, 82, .inl (upd fm joint.toNatClampNeg maker)))] H := hP
        have hD : va_D A [(cl, .inr (0, [.ref st, .ref mk, .long gn, .long ac, .long ((dn &&& (((1 : Int64) <<< (r_3.toInt64 &&& 63)) ^^^ (-1))) ||| ((1 : Int64) <<< (r_3.toInt64 &&& 63)))])), (st, .inl (cI, 82, .inl (upd fs joint.toNatClampNeg state))), (mk, .inl (cI, 82, .inl (upd fm joint.toNatClampNeg maker)))] := hD
        refine lv_goto (tgt := 93) hx hb dX0_make_72 (by decide) ?_
        subst hres
        exact W.vret hx hb hr (fun t ht hW => ⟨⟨(), rfl, trivial, (by show va_P _ _ _ t.heap; rw [ht]; exact hP)⟩, hS.F ht⟩) hS.2.2 dX0_make_93
    · rw [if_neg c_4] at hres
      refine lv_iload_n hx hb dX0_make_34 rfl (lv_at hl 3 rfl) ?_
      refine lv_iconst (v := 2) hx hb dX0_make_35 (by decide) ?_
      refine lv_icmp_ne (tgt := 44) hx hb dX0_make_36 (by decide) (fun c_7 => ?_) (fun c_7 => ?_)
      · rw [if_neg c_7] at hres
        refine lv_lconst (v := 0) hx hb dX0_make_44 (by decide) ?_
        refine lv_lstore (lv' := [(6, .long 0), (4, .long ((1 : Int64) <<< (r_3.toInt64 &&& 63))), (0, .ref cl), (1, .int joint), (2, .int state), (3, .int maker)]) hx hb dX0_make_45 hl (by decide) rfl (fun ls hl => ?_)
        refine lv_iload_n hx hb dX0_make_47 rfl (lv_at hl 3 rfl) ?_
        obtain ⟨r_8, hr_8⟩ : ∃ z, z = F_Cloth_isDown joint := ⟨_, rfl⟩
        rw [bnd_e hr_8] at hres
        refine ro_calli (va_runS (As := [.int joint]) (rest := []) ⟨hx, hb, hml, hown, hts⟩ (c_Cloth_isDown l dC dI cI cC cG cZ  joint  r_8 hr_8) (va_cwS 1 hts gX0_make_X0_isDown rfl rfl rfl (by decide +kernel) ⟨Nat.le_of_ble_eq_true rfl, Nat.le_of_ble_eq_true rfl⟩) (ro_preS (hP.sub (ws' := []) [] rfl) hK) rfl rfl hl.1 rfl (lv_room (Nat.le_of_ble_eq_true rfl)) dX0_make_48 ⟨Nat.zero_le _, Nat.zero_le _⟩) hP hS (fun H locs hP hS => ?_)
        refine lv_if_eq (tgt := 75) hx hb dX0_make_51 (by decide) (fun c_9 => ?_) (fun c_9 => ?_)
        · rw [if_pos c_9] at hres
          refine lv_aload_n hx hb dX0_make_75 rfl (lv_at hl 2 rfl) ?_
          refine lv_aload_n hx hb dX0_make_76 rfl (lv_at hl 2 rfl) ?_
          refine va_get (D := (dC, dI)) (ci := 0) (v := .long ac) (C := RX0) (T := TX0) (N := 5) hx hb hts iX0_make_X0 hown hK hP 0 rfl rfl 3 (by decide) (hts (.fieldLink RX0 26 "TailorChalks$Cloth" "heldAcross" "J") kX0_make_26) (fun _ h9 => h9) rfl dX0_make_77 ?_
          refine lv_lload hx hb dX0_make_80 (lv_at hl 1 rfl) ?_
          refine lv_ldc2 (v := (-1)) hx hb hown (hts (.constantLong RX0 53 (-1)) (by decide +kernel)) dX0_make_82 ?_
          refine lv_lxor hx hb dX0_make_85 ?_
          refine lv_land hx hb dX0_make_86 ?_
          refine lv_lload hx hb dX0_make_87 (lv_at hl 0 rfl) ?_
          refine lv_lor hx hb dX0_make_89 ?_
          refine va_put (D := (dC, dI)) (ci := 0) (v := .long ((ac &&& (((1 : Int64) <<< (r_3.toInt64 &&& 63)) ^^^ (-1))) ||| 0)) (ty := (.long)) (C := RX0) (T := TX0) (N := 5) hx hb hts iX0_make_X0 tyX0 tyX0_ok nmX0 hown hK hP hD hS 0 rfl rfl 3 (by decide) (hts (.fieldLink RX0 26 "TailorChalks$Cloth" "heldAcross" "J") kX0_make_26) (fun _ h9 => h9) rfl (by decide +kernel) rfl rfl (Nat.le_of_ble_eq_true rfl) dX0_make_90 (fun H locs hP hD hS => ?_)
          have hP : va_P (dC, dI) vwCl [(cl, .inr (0, [.ref st, .ref mk, .long gn, .long ((ac &&& (((1 : Int64) <<< (r_3.toInt64 &&& 63)) ^^^ (-1))) ||| 0), .long dn])), (st, .inl (cI, 82, .inl (upd fs joint.toNatClampNeg state))), (mk, .inl (cI, 82, .inl (upd fm joint.toNatClampNeg maker)))] H := hP
          have hD : va_D A [(cl, .inr (0, [.ref st, .ref mk, .long gn, .long ((ac &&& (((1 : Int64) <<< (r_3.toInt64 &&& 63)) ^^^ (-1))) ||| 0), .long dn])), (st, .inl (cI, 82, .inl (upd fs joint.toNatClampNeg state))), (mk, .inl (cI, 82, .inl (upd fm joint.toNatClampNeg maker)))] := hD
          subst hres
          exact W.vret hx hb hr (fun t ht hW => ⟨⟨(), rfl, trivial, (by show va_P _ _ _ t.heap; rw [ht]; exact hP)⟩, hS.F ht⟩) hS.2.2 dX0_make_93
        · rw [if_neg c_9] at hres
          refine lv_aload_n hx hb dX0_make_54 rfl (lv_at hl 2 rfl) ?_
          refine lv_aload_n hx hb dX0_make_55 rfl (lv_at hl 2 rfl) ?_
          refine va_get (D := (dC, dI)) (ci := 0) (v := .long dn) (C := RX0) (T := TX0) (N := 5) hx hb hts iX0_make_X0 hown hK hP 0 rfl rfl 4 (by decide) (hts (.fieldLink RX0 29 "TailorChalks$Cloth" "heldDown" "J") kX0_make_29) (fun _ h9 => h9) rfl dX0_make_56 ?_
          refine lv_lload hx hb dX0_make_59 (lv_at hl 1 rfl) ?_
          refine lv_ldc2 (v := (-1)) hx hb hown (hts (.constantLong RX0 53 (-1)) (by decide +kernel)) dX0_make_61 ?_
          refine lv_lxor hx hb dX0_make_64 ?_
          refine lv_land hx hb dX0_make_65 ?_
          refine lv_lload hx hb dX0_make_66 (lv_at hl 0 rfl) ?_
          refine lv_lor hx hb dX0_make_68 ?_
          refine va_put (D := (dC, dI)) (ci := 0) (v := .long ((dn &&& (((1 : Int64) <<< (r_3.toInt64 &&& 63)) ^^^ (-1))) ||| 0)) (ty := (.long)) (C := RX0) (T := TX0) (N := 5) hx hb hts iX0_make_X0 tyX0 tyX0_ok nmX0 hown hK hP hD hS 0 rfl rfl 4 (by decide) (hts (.fieldLink RX0 29 "TailorChalks$Cloth" "heldDown" "J") kX0_make_29) (fun _ h9 => h9) rfl (by decide +kernel) rfl rfl (Nat.le_of_ble_eq_true rfl) dX0_make_69 (fun H locs hP hD hS => ?_)
          have hP : va_P (dC, dI) vwCl [(cl, .inr (0, [.ref st, .ref mk, .long gn, .long ac, .long ((dn &&& (((1 : Int64) <<< (r_3.toInt64 &&& 63)) ^^^ (-1))) ||| 0)])), (st, .inl (cI, 82, .inl (upd fs joint.toNatClampNeg state))), (mk, .inl (cI, 82, .inl (upd fm joint.toNatClampNeg maker)))] H := hP
          have hD : va_D A [(cl, .inr (0, [.ref st, .ref mk, .long gn, .long ac, .long ((dn &&& (((1 : Int64) <<< (r_3.toInt64 &&& 63)) ^^^ (-1))) ||| 0)])), (st, .inl (cI, 82, .inl (upd fs joint.toNatClampNeg state))), (mk, .inl (cI, 82, .inl (upd fm joint.toNatClampNeg maker)))] := hD
          refine lv_goto (tgt := 93) hx hb dX0_make_72 (by decide) ?_
          subst hres
          exact W.vret hx hb hr (fun t ht hW => ⟨⟨(), rfl, trivial, (by show va_P _ _ _ t.heap; rw [ht]; exact hP)⟩, hS.F ht⟩) hS.2.2 dX0_make_93
      · rw [if_pos c_7] at hres
        refine lv_lload hx hb dX0_make_39 (lv_at hl 0 rfl) ?_
        refine lv_goto (tgt := 45) hx hb dX0_make_41 (by decide) ?_
        refine lv_lstore (lv' := [(6, .long ((1 : Int64) <<< (r_3.toInt64 &&& 63))), (4, .long ((1 : Int64) <<< (r_3.toInt64 &&& 63))), (0, .ref cl), (1, .int joint), (2, .int state), (3, .int maker)]) hx hb dX0_make_45 hl (by decide) rfl (fun ls hl => ?_)
        refine lv_iload_n hx hb dX0_make_47 rfl (lv_at hl 3 rfl) ?_
        obtain ⟨r_10, hr_10⟩ : ∃ z, z = F_Cloth_isDown joint := ⟨_, rfl⟩
        rw [bnd_e hr_10] at hres
        refine ro_calli (va_runS (As := [.int joint]) (rest := []) ⟨hx, hb, hml, hown, hts⟩ (c_Cloth_isDown l dC dI cI cC cG cZ  joint  r_10 hr_10) (va_cwS 1 hts gX0_make_X0_isDown rfl rfl rfl (by decide +kernel) ⟨Nat.le_of_ble_eq_true rfl, Nat.le_of_ble_eq_true rfl⟩) (ro_preS (hP.sub (ws' := []) [] rfl) hK) rfl rfl hl.1 rfl (lv_room (Nat.le_of_ble_eq_true rfl)) dX0_make_48 ⟨Nat.zero_le _, Nat.zero_le _⟩) hP hS (fun H locs hP hS => ?_)
        refine lv_if_eq (tgt := 75) hx hb dX0_make_51 (by decide) (fun c_11 => ?_) (fun c_11 => ?_)
        · rw [if_pos c_11] at hres
          refine lv_aload_n hx hb dX0_make_75 rfl (lv_at hl 2 rfl) ?_
          refine lv_aload_n hx hb dX0_make_76 rfl (lv_at hl 2 rfl) ?_
          refine va_get (D := (dC, dI)) (ci := 0) (v := .long ac) (C := RX0) (T := TX0) (N := 5) hx hb hts iX0_make_X0 hown hK hP 0 rfl rfl 3 (by decide) (hts (.fieldLink RX0 26 "TailorChalks$Cloth" "heldAcross" "J") kX0_make_26) (fun _ h9 => h9) rfl dX0_make_77 ?_
          refine lv_lload hx hb dX0_make_80 (lv_at hl 1 rfl) ?_
          refine lv_ldc2 (v := (-1)) hx hb hown (hts (.constantLong RX0 53 (-1)) (by decide +kernel)) dX0_make_82 ?_
          refine lv_lxor hx hb dX0_make_85 ?_
          refine lv_land hx hb dX0_make_86 ?_
          refine lv_lload hx hb dX0_make_87 (lv_at hl 0 rfl) ?_
          refine lv_lor hx hb dX0_make_89 ?_
          refine va_put (D := (dC, dI)) (ci := 0) (v := .long ((ac &&& (((1 : Int64) <<< (r_3.toInt64 &&& 63)) ^^^ (-1))) ||| ((1 : Int64) <<< (r_3.toInt64 &&& 63)))) (ty := (.long)) (C := RX0) (T := TX0) (N := 5) hx hb hts iX0_make_X0 tyX0 tyX0_ok nmX0 hown hK hP hD hS 0 rfl rfl 3 (by decide) (hts (.fieldLink RX0 26 "TailorChalks$Cloth" "heldAcross" "J") kX0_make_26) (fun _ h9 => h9) rfl (by decide +kernel) rfl rfl (Nat.le_of_ble_eq_true rfl) dX0_make_90 (fun H locs hP hD hS => ?_)
          have hP : va_P (dC, dI) vwCl [(cl, .inr (0, [.ref st, .ref mk, .long gn, .long ((ac &&& (((1 : Int64) <<< (r_3.toInt64 &&& 63)) ^^^ (-1))) ||| ((1 : Int64) <<< (r_3.toInt64 &&& 63))), .long dn])), (st, .inl (cI, 82, .inl (upd fs joint.toNatClampNeg state))), (mk, .inl (cI, 82, .inl (upd fm joint.toNatClampNeg maker)))] H := hP
          have hD : va_D A [(cl, .inr (0, [.ref st, .ref mk, .long gn, .long ((ac &&& (((1 : Int64) <<< (r_3.toInt64 &&& 63)) ^^^ (-1))) ||| ((1 : Int64) <<< (r_3.toInt64 &&& 63))), .long dn])), (st, .inl (cI, 82, .inl (upd fs joint.toNatClampNeg state))), (mk, .inl (cI, 82, .inl (upd fm joint.toNatClampNeg maker)))] := hD
          subst hres
          exact W.vret hx hb hr (fun t ht hW => ⟨⟨(), rfl, trivial, (by show va_P _ _ _ t.heap; rw [ht]; exact hP)⟩, hS.F ht⟩) hS.2.2 dX0_make_93
        · rw [if_neg c_11] at hres
          refine lv_aload_n hx hb dX0_make_54 rfl (lv_at hl 2 rfl) ?_
          refine lv_aload_n hx hb dX0_make_55 rfl (lv_at hl 2 rfl) ?_
          refine va_get (D := (dC, dI)) (ci := 0) (v := .long dn) (C := RX0) (T := TX0) (N := 5) hx hb hts iX0_make_X0 hown hK hP 0 rfl rfl 4 (by decide) (hts (.fieldLink RX0 29 "TailorChalks$Cloth" "heldDown" "J") kX0_make_29) (fun _ h9 => h9) rfl dX0_make_56 ?_
          refine lv_lload hx hb dX0_make_59 (lv_at hl 1 rfl) ?_
          refine lv_ldc2 (v := (-1)) hx hb hown (hts (.constantLong RX0 53 (-1)) (by decide +kernel)) dX0_make_61 ?_
          refine lv_lxor hx hb dX0_make_64 ?_
          refine lv_land hx hb dX0_make_65 ?_
          refine lv_lload hx hb dX0_make_66 (lv_at hl 0 rfl) ?_
          refine lv_lor hx hb dX0_make_68 ?_
          refine va_put (D := (dC, dI)) (ci := 0) (v := .long ((dn &&& (((1 : Int64) <<< (r_3.toInt64 &&& 63)) ^^^ (-1))) ||| ((1 : Int64) <<< (r_3.toInt64 &&& 63)))) (ty := (.long)) (C := RX0) (T := TX0) (N := 5) hx hb hts iX0_make_X0 tyX0 tyX0_ok nmX0 hown hK hP hD hS 0 rfl rfl 4 (by decide) (hts (.fieldLink RX0 29 "TailorChalks$Cloth" "heldDown" "J") kX0_make_29) (fun _ h9 => h9) rfl (by decide +kernel) rfl rfl (Nat.le_of_ble_eq_true rfl) dX0_make_69 (fun H locs hP hD hS => ?_)
          have hP : va_P (dC, dI) vwCl [(cl, .inr (0, [.ref st, .ref mk, .long gn, .long ac, .long ((dn &&& (((1 : Int64) <<< (r_3.toInt64 &&& 63)) ^^^ (-1))) ||| ((1 : Int64) <<< (r_3.toInt64 &&& 63)))])), (st, .inl (cI, 82, .inl (upd fs joint.toNatClampNeg state))), (mk, .inl (cI, 82, .inl (upd fm joint.toNatClampNeg maker)))] H := hP
          have hD : va_D A [(cl, .inr (0, [.ref st, .ref mk, .long gn, .long ac, .long ((dn &&& (((1 : Int64) <<< (r_3.toInt64 &&& 63)) ^^^ (-1))) ||| ((1 : Int64) <<< (r_3.toInt64 &&& 63)))])), (st, .inl (cI, 82, .inl (upd fs joint.toNatClampNeg state))), (mk, .inl (cI, 82, .inl (upd fm joint.toNatClampNeg maker)))] := hD
          refine lv_goto (tgt := 93) hx hb dX0_make_72 (by decide) ?_
          subst hres
          exact W.vret hx hb hr (fun t ht hW => ⟨⟨(), rfl, trivial, (by show va_P _ _ _ t.heap; rw [ht]; exact hP)⟩, hS.F ht⟩) hS.2.2 dX0_make_93
  · rw [if_pos c_2] at hres
    subst hres
    exact W.vret hx hb hr (fun t ht hW => ⟨⟨(), rfl, trivial, (by show va_P _ _ _ t.heap; rw [ht]; exact hP)⟩, hS.F ht⟩) hS.2.2 dX0_make_7
theorem iX0_tearOff_X0 : ∀ w ∈ u_ws RX0 TX0 5, w ∈ wsX0_tearOff := by decide +kernel
theorem kX0_tearOff_22 : Cond.fieldLink RX0 22 "TailorChalks$Cloth" "gone" "J" ∈ wsX0_tearOff := by decide +kernel
theorem kX0_tearOff_26 : Cond.fieldLink RX0 26 "TailorChalks$Cloth" "heldAcross" "J" ∈ wsX0_tearOff := by decide +kernel
theorem kX0_tearOff_29 : Cond.fieldLink RX0 29 "TailorChalks$Cloth" "heldDown" "J" ∈ wsX0_tearOff := by decide +kernel
def F_Cloth_tearOff (rag : Int64) (gn : Int64) (ac : Int64) (dn : Int64) : Int64 × Int64 × Int64 := ((gn ||| rag), (ac &&& (((gn ||| rag) ||| ((gn ||| rag).toUInt64 >>> ((1 : Int32).toInt64.toUInt64 &&& Int64.toUInt64 63)).toInt64) ^^^ (-1))), (dn &&& (((gn ||| rag) ||| ((gn ||| rag).toUInt64 >>> ((8 : Int32).toInt64.toUInt64 &&& Int64.toUInt64 63)).toInt64) ^^^ (-1))))
set_option maxHeartbeats 4000000 in
set_option maxRecDepth 100000 in
theorem c_Cloth_tearOff (l : Launch) (dC : Nat → ClassId) (dI : Nat → Nat → Nat) (cI cC cG cZ : ClassId) (cl st mk : Nat) (rag : Int64) (gn : Int64) (ac : Int64) (dn : Int64) (res : Int64 × Int64 × Int64) (hres : res = F_Cloth_tearOff rag gn ac dn) : Met l yX0_tearOff wsX0_tearOff ({ frames := 0, cells := 0, slots := 0, locals := 0 }) (va_Pc [.ref cl, .long rag] (wr_P (dC, dI) vwCl (tyL cI cC cG cZ) [(cl, .inr (0, [.ref st, .ref mk, .long gn, .long ac, .long dn]))])) (va_Qv (fun (_ : Unit) => True) (fun _ zt => va_P (dC, dI) vwCl [(cl, .inr (0, [.ref st, .ref mk, .long res.1, .long res.2.1, .long res.2.2]))] zt.heap) (wr_A [(cl, .inr (0, [.ref st, .ref mk, .long gn, .long ac, .long dn]))])) 0 0 (wr_A [(cl, .inr (0, [.ref st, .ref mk, .long gn, .long ac, .long dn]))]) := by
  refine Met.ofW (cc := cX0_tearOff) (maxL := 3) (ret := none) (by decide) rfl ?_
  intro p e s m args below meth c s₁ B hml hv
  obtain ⟨rfl, hP, hK, hD0⟩ := hv
  have hx := B.exec
  have hb := B.bytes
  have hr := B.returns
  have hts := atoms_spec (ws := wsX0_tearOff) B.pre
  have hown : s.vm.findClass RX0 = some m.cls := findClass_of_methodNamed B.named
  have hlocks := B.notSynchronized
  have hD := wr_self hD0
  generalize hAe : wr_A [(cl, .inr (0, [.ref st, .ref mk, .long gn, .long ac, .long dn]))] = A at hD ⊢
  have hS : va_S A s.heap s.heap [] := va_S.rf
  have hP : va_P (dC, dI) vwCl [(cl, .inr (0, [.ref st, .ref mk, .long gn, .long ac, .long dn]))] s.heap := hP
  have hl := lv_entry ([.ref cl, .long rag]) (n := 3) (Nat.le_of_ble_eq_true rfl)
  rw [lg_entry_eq]
  generalize (lg_sl ([.ref cl, .long rag]) ++ List.replicate (3 - (lg_sl ([.ref cl, .long rag])).length) Slot.unset).toArray = ls at hl ⊢
  have hl : lv_has ls 3 [(0, .ref cl), (1, .long rag)] := hl
  rw [F_Cloth_tearOff] at hres
  refine lv_aload_n hx hb dX0_tearOff_0 rfl (lv_at hl 0 rfl) ?_
  refine lv_dup hx hb dX0_tearOff_1 rfl ?_
  refine va_get (D := (dC, dI)) (ci := 0) (v := .long gn) (C := RX0) (T := TX0) (N := 5) hx hb hts iX0_tearOff_X0 hown hK hP 0 rfl rfl 2 (by decide) (hts (.fieldLink RX0 22 "TailorChalks$Cloth" "gone" "J") kX0_tearOff_22) (fun _ h9 => h9) rfl dX0_tearOff_2 ?_
  refine lv_lload_n hx hb dX0_tearOff_5 rfl (lv_at hl 1 rfl) ?_
  refine lv_lor hx hb dX0_tearOff_6 ?_
  refine va_put (D := (dC, dI)) (ci := 0) (v := .long (gn ||| rag)) (ty := (.long)) (C := RX0) (T := TX0) (N := 5) hx hb hts iX0_tearOff_X0 tyX0 tyX0_ok nmX0 hown hK hP hD hS 0 rfl rfl 2 (by decide) (hts (.fieldLink RX0 22 "TailorChalks$Cloth" "gone" "J") kX0_tearOff_22) (fun _ h9 => h9) rfl (by decide +kernel) rfl rfl (Nat.le_of_ble_eq_true rfl) dX0_tearOff_7 (fun H locs hP hD hS => ?_)
  have hP : va_P (dC, dI) vwCl [(cl, .inr (0, [.ref st, .ref mk, .long (gn ||| rag), .long ac, .long dn]))] H := hP
  have hD : va_D A [(cl, .inr (0, [.ref st, .ref mk, .long (gn ||| rag), .long ac, .long dn]))] := hD
  refine lv_aload_n hx hb dX0_tearOff_10 rfl (lv_at hl 0 rfl) ?_
  refine lv_dup hx hb dX0_tearOff_11 rfl ?_
  refine va_get (D := (dC, dI)) (ci := 0) (v := .long ac) (C := RX0) (T := TX0) (N := 5) hx hb hts iX0_tearOff_X0 hown hK hP 0 rfl rfl 3 (by decide) (hts (.fieldLink RX0 26 "TailorChalks$Cloth" "heldAcross" "J") kX0_tearOff_26) (fun _ h9 => h9) rfl dX0_tearOff_12 ?_
  refine lv_aload_n hx hb dX0_tearOff_15 rfl (lv_at hl 0 rfl) ?_
  refine va_get (D := (dC, dI)) (ci := 0) (v := .long (gn ||| rag)) (C := RX0) (T := TX0) (N := 5) hx hb hts iX0_tearOff_X0 hown hK hP 0 rfl rfl 2 (by decide) (hts (.fieldLink RX0 22 "TailorChalks$Cloth" "gone" "J") kX0_tearOff_22) (fun _ h9 => h9) rfl dX0_tearOff_16 ?_
  refine lv_aload_n hx hb dX0_tearOff_19 rfl (lv_at hl 0 rfl) ?_
  refine va_get (D := (dC, dI)) (ci := 0) (v := .long (gn ||| rag)) (C := RX0) (T := TX0) (N := 5) hx hb hts iX0_tearOff_X0 hown hK hP 0 rfl rfl 2 (by decide) (hts (.fieldLink RX0 22 "TailorChalks$Cloth" "gone" "J") kX0_tearOff_22) (fun _ h9 => h9) rfl dX0_tearOff_20 ?_
  refine lv_iconst (v := 1) hx hb dX0_tearOff_23 (by decide) ?_
  refine lv_lushr (v := ((gn ||| rag).toUInt64 >>> ((1 : Int32).toInt64.toUInt64 &&& Int64.toUInt64 63)).toInt64) hx hb dX0_tearOff_24 rfl ?_
  refine lv_lor hx hb dX0_tearOff_25 ?_
  refine lv_ldc2 (v := (-1)) hx hb hown (hts (.constantLong RX0 53 (-1)) (by decide +kernel)) dX0_tearOff_26 ?_
  refine lv_lxor hx hb dX0_tearOff_29 ?_
  refine lv_land hx hb dX0_tearOff_30 ?_
  refine va_put (D := (dC, dI)) (ci := 0) (v := .long (ac &&& (((gn ||| rag) ||| ((gn ||| rag).toUInt64 >>> ((1 : Int32).toInt64.toUInt64 &&& Int64.toUInt64 63)).toInt64) ^^^ (-1)))) (ty := (.long)) (C := RX0) (T := TX0) (N := 5) hx hb hts iX0_tearOff_X0 tyX0 tyX0_ok nmX0 hown hK hP hD hS 0 rfl rfl 3 (by decide) (hts (.fieldLink RX0 26 "TailorChalks$Cloth" "heldAcross" "J") kX0_tearOff_26) (fun _ h9 => h9) rfl (by decide +kernel) rfl rfl (Nat.le_of_ble_eq_true rfl) dX0_tearOff_31 (fun H locs hP hD hS => ?_)
  have hP : va_P (dC, dI) vwCl [(cl, .inr (0, [.ref st, .ref mk, .long (gn ||| rag), .long (ac &&& (((gn ||| rag) ||| ((gn ||| rag).toUInt64 >>> ((1 : Int32).toInt64.toUInt64 &&& Int64.toUInt64 63)).toInt64) ^^^ (-1))), .long dn]))] H := hP
  have hD : va_D A [(cl, .inr (0, [.ref st, .ref mk, .long (gn ||| rag), .long (ac &&& (((gn ||| rag) ||| ((gn ||| rag).toUInt64 >>> ((1 : Int32).toInt64.toUInt64 &&& Int64.toUInt64 63)).toInt64) ^^^ (-1))), .long dn]))] := hD
  refine lv_aload_n hx hb dX0_tearOff_34 rfl (lv_at hl 0 rfl) ?_
  refine lv_dup hx hb dX0_tearOff_35 rfl ?_
  refine va_get (D := (dC, dI)) (ci := 0) (v := .long dn) (C := RX0) (T := TX0) (N := 5) hx hb hts iX0_tearOff_X0 hown hK hP 0 rfl rfl 4 (by decide) (hts (.fieldLink RX0 29 "TailorChalks$Cloth" "heldDown" "J") kX0_tearOff_29) (fun _ h9 => h9) rfl dX0_tearOff_36 ?_
  refine lv_aload_n hx hb dX0_tearOff_39 rfl (lv_at hl 0 rfl) ?_
  refine va_get (D := (dC, dI)) (ci := 0) (v := .long (gn ||| rag)) (C := RX0) (T := TX0) (N := 5) hx hb hts iX0_tearOff_X0 hown hK hP 0 rfl rfl 2 (by decide) (hts (.fieldLink RX0 22 "TailorChalks$Cloth" "gone" "J") kX0_tearOff_22) (fun _ h9 => h9) rfl dX0_tearOff_40 ?_
  refine lv_aload_n hx hb dX0_tearOff_43 rfl (lv_at hl 0 rfl) ?_
  refine va_get (D := (dC, dI)) (ci := 0) (v := .long (gn ||| rag)) (C := RX0) (T := TX0) (N := 5) hx hb hts iX0_tearOff_X0 hown hK hP 0 rfl rfl 2 (by decide) (hts (.fieldLink RX0 22 "TailorChalks$Cloth" "gone" "J") kX0_tearOff_22) (fun _ h9 => h9) rfl dX0_tearOff_44 ?_
  refine lv_bipush (v := 8) hx hb dX0_tearOff_47 (by decide) ?_
  refine lv_lushr (v := ((gn ||| rag).toUInt64 >>> ((8 : Int32).toInt64.toUInt64 &&& Int64.toUInt64 63)).toInt64) hx hb dX0_tearOff_49 rfl ?_
  refine lv_lor hx hb dX0_tearOff_50 ?_
  refine lv_ldc2 (v := (-1)) hx hb hown (hts (.constantLong RX0 53 (-1)) (by decide +kernel)) dX0_tearOff_51 ?_
  refine lv_lxor hx hb dX0_tearOff_54 ?_
  refine lv_land hx hb dX0_tearOff_55 ?_
  refine va_put (D := (dC, dI)) (ci := 0) (v := .long (dn &&& (((gn ||| rag) ||| ((gn ||| rag).toUInt64 >>> ((8 : Int32).toInt64.toUInt64 &&& Int64.toUInt64 63)).toInt64) ^^^ (-1)))) (ty := (.long)) (C := RX0) (T := TX0) (N := 5) hx hb hts iX0_tearOff_X0 tyX0 tyX0_ok nmX0 hown hK hP hD hS 0 rfl rfl 4 (by decide) (hts (.fieldLink RX0 29 "TailorChalks$Cloth" "heldDown" "J") kX0_tearOff_29) (fun _ h9 => h9) rfl (by decide +kernel) rfl rfl (Nat.le_of_ble_eq_true rfl) dX0_tearOff_56 (fun H locs hP hD hS => ?_)
  have hP : va_P (dC, dI) vwCl [(cl, .inr (0, [.ref st, .ref mk, .long (gn ||| rag), .long (ac &&& (((gn ||| rag) ||| ((gn ||| rag).toUInt64 >>> ((1 : Int32).toInt64.toUInt64 &&& Int64.toUInt64 63)).toInt64) ^^^ (-1))), .long (dn &&& (((gn ||| rag) ||| ((gn ||| rag).toUInt64 >>> ((8 : Int32).toInt64.toUInt64 &&& Int64.toUInt64 63)).toInt64) ^^^ (-1)))]))] H := hP
  have hD : va_D A [(cl, .inr (0, [.ref st, .ref mk, .long (gn ||| rag), .long (ac &&& (((gn ||| rag) ||| ((gn ||| rag).toUInt64 >>> ((1 : Int32).toInt64.toUInt64 &&& Int64.toUInt64 63)).toInt64) ^^^ (-1))), .long (dn &&& (((gn ||| rag) ||| ((gn ||| rag).toUInt64 >>> ((8 : Int32).toInt64.toUInt64 &&& Int64.toUInt64 63)).toInt64) ^^^ (-1)))]))] := hD
  subst hres
  exact W.vret hx hb hr (fun t ht hW => ⟨⟨(), rfl, trivial, (by show va_P _ _ _ t.heap; rw [ht]; exact hP)⟩, hS.F ht⟩) hS.2.2 dX0_tearOff_59
theorem iX0_jointsThatAre_X0 : ∀ w ∈ u_ws RX0 TX0 5, w ∈ wsX0_jointsThatAre := by decide +kernel
theorem kX0_jointsThatAre_11 : Cond.fieldLink RX0 11 "TailorChalks$Cloth" "states" "[I" ∈ wsX0_jointsThatAre := by decide +kernel
def F_Cloth_jointsThatAre_L4 (state : Int32) (gn : Int64) (fs : Nat → Int32) : Nat → Int32 → Int32 → Int32 × Int32
  | 0, x3, x2 => (x3, x2)
  | n + 1, x3, x2 => (if (82 : Int32) ≤ x3 then (x3, x2) else (if (fs x3.toNatClampNeg) = state then (bnd (F_Cloth_isVoid x3 gn) (fun r_4 => (if r_4 = 0 then (F_Cloth_jointsThatAre_L4 state gn fs n (x3 + 1) (x2 + 1)) else (F_Cloth_jointsThatAre_L4 state gn fs n (x3 + 1) x2)))) else (F_Cloth_jointsThatAre_L4 state gn fs n (x3 + 1) x2)))
def F_Cloth_jointsThatAre (state : Int32) (gn : Int64) (fs : Nat → Int32) : Int32 := (bnd (F_Cloth_jointsThatAre_L4 state gn fs 83 (0 : Int32) (0 : Int32)) (fun q_1 => q_1.2))
set_option maxHeartbeats 4000000 in
set_option maxRecDepth 100000 in
theorem c_Cloth_jointsThatAre (l : Launch) (dC : Nat → ClassId) (dI : Nat → Nat → Nat) (cI cC cG cZ : ClassId) (cl st mk : Nat) (state : Int32) (gn : Int64) (ac : Int64) (dn : Int64) (fs : Nat → Int32) (res : Int32) (hres : res = F_Cloth_jointsThatAre state gn fs) : Met l yX0_jointsThatAre wsX0_jointsThatAre ({ frames := 2, cells := 0, slots := 0, locals := 45 }) (va_Pc [.ref cl, .int state] (ro_P (dC, dI) vwCl (tyL cI cC cG cZ) [(cl, .inr (0, [.ref st, .ref mk, .long gn, .long ac, .long dn])), (st, .inl (cI, 82, .inl fs))])) (va_Qi (fun r (_ : Unit) => r = res) (fun _ _ => True) ro_F) 0 0 ro_F := by
  refine Met.ofW (cc := cX0_jointsThatAre) (maxL := 4) (ret := (some .int)) (by decide) rfl ?_
  intro p e s m args below meth c s₁ B hml hv
  obtain ⟨rfl, hP, hK⟩ := hv
  have hx := B.exec
  have hb := B.bytes
  have hr := B.returns
  have hts := atoms_spec (ws := wsX0_jointsThatAre) B.pre
  have hown : s.vm.findClass RX0 = some m.cls := findClass_of_methodNamed B.named
  have hlocks := B.notSynchronized
  have hS : va_S ro_F s.heap s.heap [] := va_S.rf
  have hl := lv_entry ([.ref cl, .int state]) (n := 4) (Nat.le_of_ble_eq_true rfl)
  rw [lg_entry_eq]
  generalize (lg_sl ([.ref cl, .int state]) ++ List.replicate (4 - (lg_sl ([.ref cl, .int state])).length) Slot.unset).toArray = ls at hl ⊢
  have hl : lv_has ls 4 [(0, .ref cl), (1, .int state)] := hl
  rw [F_Cloth_jointsThatAre] at hres
  refine lv_iconst (v := 0) hx hb dX0_jointsThatAre_0 (by decide) ?_
  refine lv_istore_n (lv' := [(2, .int 0), (0, .ref cl), (1, .int state)]) hx hb dX0_jointsThatAre_1 rfl hl (by decide) rfl (fun ls hl => ?_)
  refine lv_iconst (v := 0) hx hb dX0_jointsThatAre_2 (by decide) ?_
  refine lv_istore_n (lv' := [(3, .int 0), (2, .int 0), (0, .ref cl), (1, .int state)]) hx hb dX0_jointsThatAre_3 rfl hl (by decide) rfl (fun ls hl => ?_)
  obtain ⟨q_1, hq_1⟩ : ∃ z, z = F_Cloth_jointsThatAre_L4 state gn fs 83 (0 : Int32) (0 : Int32) := ⟨_, rfl⟩
  rw [bnd_e hq_1] at hres
  have hexit4 : ∀ (H : Heap) (locs : List Loc) (ls : Array Slot), va_P (dC, dI) vwCl [(cl, .inr (0, [.ref st, .ref mk, .long gn, .long ac, .long dn])), (st, .inl (cI, 82, .inl fs))] H → va_S ro_F s.heap H locs → lv_has ls 4 [(3, .int q_1.1), (2, .int q_1.2), (0, .ref cl), (1, .int state)] → W p l e (headSpec wsX0_jointsThatAre ({ frames := 2, cells := 0, slots := 0, locals := 45 })).room s m ([.ref cl, .int state] : List Value).toArray below meth c H locs 0 0 (MQ below (va_Qi (fun r (_ : Unit) => r = res) (fun _ _ => True) ro_F) ([.ref cl, .int state] : List Value).toArray s 0 0 ro_F) (F0 m 37 ls []) := by
    intro H locs ls  hP hS hl
    refine lv_iload_n hx hb dX0_jointsThatAre_37 rfl (lv_at hl 1 rfl) ?_
    exact W.iret (v := q_1.2) hx hb hr (fun t ht hW => ⟨⟨q_1.2, (), rfl, hres.symm, trivial⟩, hS.F ht⟩) hS.2.2 dX0_jointsThatAre_38
  have hloop4 : ∀ (n k4 : Nat) (x3 : Int32) (x2 : Int32) (H : Heap) (locs : List Loc) (ls : Array Slot), k4 ≤ 82 → 82 - k4 < n → x3 = nI k4 → q_1 = F_Cloth_jointsThatAre_L4 state gn fs n x3 x2 → va_P (dC, dI) vwCl [(cl, .inr (0, [.ref st, .ref mk, .long gn, .long ac, .long dn])), (st, .inl (cI, 82, .inl fs))] H → va_S ro_F s.heap H locs → lv_has ls 4 [(3, .int x3), (2, .int x2), (0, .ref cl), (1, .int state)] → W p l e (headSpec wsX0_jointsThatAre ({ frames := 2, cells := 0, slots := 0, locals := 45 })).room s m ([.ref cl, .int state] : List Value).toArray below meth c H locs 0 0 (MQ below (va_Qi (fun r (_ : Unit) => r = res) (fun _ _ => True) ro_F) ([.ref cl, .int state] : List Value).toArray s 0 0 ro_F) (F0 m 4 ls []) := by
    intro n
    induction n with
    | zero => intro k4 x3 x2 _ _ _ _ hm; exact absurd hm (Nat.not_lt_zero _)
    | succ n ih4 =>
      intro k4 x3 x2 H locs ls hk4 hm4 ex4  hq_1 hP hS hl
      rw [F_Cloth_jointsThatAre_L4] at hq_1
      refine lv_iload_n hx hb dX0_jointsThatAre_4 rfl (lv_at hl 0 rfl) ?_
      refine lv_bipush (v := 82) hx hb dX0_jointsThatAre_5 (by decide) ?_
      refine lv_icmp_ge (tgt := 37) hx hb dX0_jointsThatAre_7 (by decide) (fun c_2 => ?_) (fun c_2 => ?_)
      · rw [if_pos c_2] at hq_1
        subst hq_1
        exact hexit4 _ _ _  hP hS (lv_sub hl [0, 1, 2, 3] rfl)
      · rw [if_neg c_2] at hq_1
        have hlt_k4 : k4 < 82 := lp_lt rfl ex4 hk4 c_2
        refine lv_aload_n hx hb dX0_jointsThatAre_10 rfl (lv_at hl 2 rfl) ?_
        refine va_get (D := (dC, dI)) (ci := 0) (v := .ref st) (C := RX0) (T := TX0) (N := 5) hx hb hts iX0_jointsThatAre_X0 hown hK hP 0 rfl rfl 0 (by decide) (hts (.fieldLink RX0 11 "TailorChalks$Cloth" "states" "[I") kX0_jointsThatAre_11) (fun _ h9 => h9) rfl dX0_jointsThatAre_11 ?_
        refine lv_iload_n hx hb dX0_jointsThatAre_14 rfl (lv_at hl 0 rfl) ?_
        refine va_iald hx hb hK hP 1 0 rfl rfl (by rw [ex4]; exact vp_in_nI (by omega) (by decide)) dX0_jointsThatAre_15 ?_
        refine lv_iload_n hx hb dX0_jointsThatAre_16 rfl (lv_at hl 3 rfl) ?_
        refine lv_icmp_ne (tgt := 31) hx hb dX0_jointsThatAre_17 (by decide) (fun c_3 => ?_) (fun c_3 => ?_)
        · rw [if_neg c_3] at hq_1
          refine lv_iinc (v := (x3 + 1)) (lv' := [(3, .int (x3 + 1)), (2, .int x2), (0, .ref cl), (1, .int state)]) hx hb dX0_jointsThatAre_31 hl (k := 0) rfl rfl (by decide) rfl (fun ls hl => ?_)
          refine lv_goto (tgt := 4) hx hb dX0_jointsThatAre_34 (by decide) ?_
          exact ih4 (k4 + 1) (x3 + 1) x2 _ _ _ (by omega) (by omega) (by rw [ex4]; exact nI_1 _)  hq_1 hP hS (lv_sub hl [0, 1, 2, 3] rfl)
        · rw [if_pos c_3] at hq_1
          refine lv_aload_n hx hb dX0_jointsThatAre_20 rfl (lv_at hl 2 rfl) ?_
          refine lv_iload_n hx hb dX0_jointsThatAre_21 rfl (lv_at hl 0 rfl) ?_
          obtain ⟨r_4, hr_4⟩ : ∃ z, z = F_Cloth_isVoid x3 gn := ⟨_, rfl⟩
          rw [bnd_e hr_4] at hq_1
          refine ro_calli (va_runV (As := [.int x3]) (rest := []) ⟨hx, hb, hml, hown, hts⟩ (c_Cloth_isVoid l dC dI cI cC cG cZ cl st mk x3 gn ac dn  r_4 hr_4) (cwV 1 hts gX0_jointsThatAre_X0_isVoid rfl rfl rfl (by decide +kernel) ⟨Nat.le_of_ble_eq_true rfl, Nat.le_of_ble_eq_true rfl⟩) (ro_preV (hP.sub (ws' := [(cl, .inr (0, [.ref st, .ref mk, .long gn, .long ac, .long dn]))]) [0] rfl) hK (ci := 0) (q0 := 0) rfl rfl) rfl rfl hl.1 rfl (lv_room (Nat.le_of_ble_eq_true rfl)) dX0_jointsThatAre_22 ⟨Nat.zero_le _, Nat.zero_le _⟩) hP hS (fun H locs hP hS => ?_)
          refine lv_if_ne (tgt := 31) hx hb dX0_jointsThatAre_25 (by decide) (fun c_5 => ?_) (fun c_5 => ?_)
          · rw [if_neg c_5] at hq_1
            refine lv_iinc (v := (x3 + 1)) (lv' := [(3, .int (x3 + 1)), (2, .int x2), (0, .ref cl), (1, .int state)]) hx hb dX0_jointsThatAre_31 hl (k := 0) rfl rfl (by decide) rfl (fun ls hl => ?_)
            refine lv_goto (tgt := 4) hx hb dX0_jointsThatAre_34 (by decide) ?_
            exact ih4 (k4 + 1) (x3 + 1) x2 _ _ _ (by omega) (by omega) (by rw [ex4]; exact nI_1 _)  hq_1 hP hS (lv_sub hl [0, 1, 2, 3] rfl)
          · rw [if_pos c_5] at hq_1
            refine lv_iinc (v := (x2 + 1)) (lv' := [(2, .int (x2 + 1)), (3, .int x3), (0, .ref cl), (1, .int state)]) hx hb dX0_jointsThatAre_28 hl (k := 1) rfl rfl (by decide) rfl (fun ls hl => ?_)
            refine lv_iinc (v := (x3 + 1)) (lv' := [(3, .int (x3 + 1)), (2, .int (x2 + 1)), (0, .ref cl), (1, .int state)]) hx hb dX0_jointsThatAre_31 hl (k := 1) rfl rfl (by decide) rfl (fun ls hl => ?_)
            refine lv_goto (tgt := 4) hx hb dX0_jointsThatAre_34 (by decide) ?_
            exact ih4 (k4 + 1) (x3 + 1) (x2 + 1) _ _ _ (by omega) (by omega) (by rw [ex4]; exact nI_1 _)  hq_1 hP hS (lv_sub hl [0, 1, 2, 3] rfl)
  exact hloop4 83 0 (0 : Int32) (0 : Int32) _ _ _ (by omega) (by omega) nI_0.symm  hq_1 hP hS (lv_sub hl [0, 1, 2, 3] rfl)
def F_Cloth_holdsOn_L4 (cell : Int32) (ac : Int64) (dn : Int64) : Nat → Int32 → Int32 → Int32 × Int32
  | 0, x3, x2 => (x3, x2)
  | n + 1, x3, x2 => (if (82 : Int32) ≤ x3 then (x3, x2) else (bnd (F_Cloth_holds x3 ac dn) (fun r_3 => (if r_3 = 0 then (F_Cloth_holdsOn_L4 cell ac dn n (x3 + 1) x2) else (bnd (F_Cloth_firstCell x3) (fun r_5 => (if r_5 = cell then (F_Cloth_holdsOn_L4 cell ac dn n (x3 + 1) (x2 + 1)) else (bnd (F_Cloth_secondCell x3) (fun r_7 => (if r_7 = cell then (F_Cloth_holdsOn_L4 cell ac dn n (x3 + 1) (x2 + 1)) else (F_Cloth_holdsOn_L4 cell ac dn n (x3 + 1) x2)))))))))))
def F_Cloth_holdsOn (cell : Int32) (ac : Int64) (dn : Int64) : Int32 := (bnd (F_Cloth_holdsOn_L4 cell ac dn 83 (0 : Int32) (0 : Int32)) (fun q_1 => q_1.2))
set_option maxHeartbeats 4000000 in
set_option maxRecDepth 100000 in
theorem c_Cloth_holdsOn (l : Launch) (dC : Nat → ClassId) (dI : Nat → Nat → Nat) (cI cC cG cZ : ClassId) (cl st mk : Nat) (cell : Int32) (gn : Int64) (ac : Int64) (dn : Int64) (res : Int32) (hres : res = F_Cloth_holdsOn cell ac dn) : Met l yX0_holdsOn wsX0_holdsOn ({ frames := 2, cells := 0, slots := 0, locals := 43 }) (va_Pc [.ref cl, .int cell] (ro_P (dC, dI) vwCl (tyL cI cC cG cZ) [(cl, .inr (0, [.ref st, .ref mk, .long gn, .long ac, .long dn]))])) (va_Qi (fun r (_ : Unit) => r = res) (fun _ _ => True) ro_F) 0 0 ro_F := by
  refine Met.ofW (cc := cX0_holdsOn) (maxL := 4) (ret := (some .int)) (by decide) rfl ?_
  intro p e s m args below meth c s₁ B hml hv
  obtain ⟨rfl, hP, hK⟩ := hv
  have hx := B.exec
  have hb := B.bytes
  have hr := B.returns
  have hts := atoms_spec (ws := wsX0_holdsOn) B.pre
  have hown : s.vm.findClass RX0 = some m.cls := findClass_of_methodNamed B.named
  have hlocks := B.notSynchronized
  have hS : va_S ro_F s.heap s.heap [] := va_S.rf
  have hl := lv_entry ([.ref cl, .int cell]) (n := 4) (Nat.le_of_ble_eq_true rfl)
  rw [lg_entry_eq]
  generalize (lg_sl ([.ref cl, .int cell]) ++ List.replicate (4 - (lg_sl ([.ref cl, .int cell])).length) Slot.unset).toArray = ls at hl ⊢
  have hl : lv_has ls 4 [(0, .ref cl), (1, .int cell)] := hl
  rw [F_Cloth_holdsOn] at hres
  refine lv_iconst (v := 0) hx hb dX0_holdsOn_0 (by decide) ?_
  refine lv_istore_n (lv' := [(2, .int 0), (0, .ref cl), (1, .int cell)]) hx hb dX0_holdsOn_1 rfl hl (by decide) rfl (fun ls hl => ?_)
  refine lv_iconst (v := 0) hx hb dX0_holdsOn_2 (by decide) ?_
  refine lv_istore_n (lv' := [(3, .int 0), (2, .int 0), (0, .ref cl), (1, .int cell)]) hx hb dX0_holdsOn_3 rfl hl (by decide) rfl (fun ls hl => ?_)
  obtain ⟨q_1, hq_1⟩ : ∃ z, z = F_Cloth_holdsOn_L4 cell ac dn 83 (0 : Int32) (0 : Int32) := ⟨_, rfl⟩
  rw [bnd_e hq_1] at hres
  have hexit4 : ∀ (H : Heap) (locs : List Loc) (ls : Array Slot), va_P (dC, dI) vwCl [(cl, .inr (0, [.ref st, .ref mk, .long gn, .long ac, .long dn]))] H → va_S ro_F s.heap H locs → lv_has ls 4 [(3, .int q_1.1), (2, .int q_1.2), (0, .ref cl), (1, .int cell)] → W p l e (headSpec wsX0_holdsOn ({ frames := 2, cells := 0, slots := 0, locals := 43 })).room s m ([.ref cl, .int cell] : List Value).toArray below meth c H locs 0 0 (MQ below (va_Qi (fun r (_ : Unit) => r = res) (fun _ _ => True) ro_F) ([.ref cl, .int cell] : List Value).toArray s 0 0 ro_F) (F0 m 43 ls []) := by
    intro H locs ls  hP hS hl
    refine lv_iload_n hx hb dX0_holdsOn_43 rfl (lv_at hl 1 rfl) ?_
    exact W.iret (v := q_1.2) hx hb hr (fun t ht hW => ⟨⟨q_1.2, (), rfl, hres.symm, trivial⟩, hS.F ht⟩) hS.2.2 dX0_holdsOn_44
  have hloop4 : ∀ (n k4 : Nat) (x3 : Int32) (x2 : Int32) (H : Heap) (locs : List Loc) (ls : Array Slot), k4 ≤ 82 → 82 - k4 < n → x3 = nI k4 → q_1 = F_Cloth_holdsOn_L4 cell ac dn n x3 x2 → va_P (dC, dI) vwCl [(cl, .inr (0, [.ref st, .ref mk, .long gn, .long ac, .long dn]))] H → va_S ro_F s.heap H locs → lv_has ls 4 [(3, .int x3), (2, .int x2), (0, .ref cl), (1, .int cell)] → W p l e (headSpec wsX0_holdsOn ({ frames := 2, cells := 0, slots := 0, locals := 43 })).room s m ([.ref cl, .int cell] : List Value).toArray below meth c H locs 0 0 (MQ below (va_Qi (fun r (_ : Unit) => r = res) (fun _ _ => True) ro_F) ([.ref cl, .int cell] : List Value).toArray s 0 0 ro_F) (F0 m 4 ls []) := by
    intro n
    induction n with
    | zero => intro k4 x3 x2 _ _ _ _ hm; exact absurd hm (Nat.not_lt_zero _)
    | succ n ih4 =>
      intro k4 x3 x2 H locs ls hk4 hm4 ex4  hq_1 hP hS hl
      rw [F_Cloth_holdsOn_L4] at hq_1
      refine lv_iload_n hx hb dX0_holdsOn_4 rfl (lv_at hl 0 rfl) ?_
      refine lv_bipush (v := 82) hx hb dX0_holdsOn_5 (by decide) ?_
      refine lv_icmp_ge (tgt := 43) hx hb dX0_holdsOn_7 (by decide) (fun c_2 => ?_) (fun c_2 => ?_)
      · rw [if_pos c_2] at hq_1
        subst hq_1
        exact hexit4 _ _ _  hP hS (lv_sub hl [0, 1, 2, 3] rfl)
      · rw [if_neg c_2] at hq_1
        have hlt_k4 : k4 < 82 := lp_lt rfl ex4 hk4 c_2
        refine lv_aload_n hx hb dX0_holdsOn_10 rfl (lv_at hl 2 rfl) ?_
        refine lv_iload_n hx hb dX0_holdsOn_11 rfl (lv_at hl 0 rfl) ?_
        obtain ⟨r_3, hr_3⟩ : ∃ z, z = F_Cloth_holds x3 ac dn := ⟨_, rfl⟩
        rw [bnd_e hr_3] at hq_1
        refine ro_calli (va_runV (As := [.int x3]) (rest := []) ⟨hx, hb, hml, hown, hts⟩ (c_Cloth_holds l dC dI cI cC cG cZ cl st mk x3 gn ac dn  r_3 hr_3) (cwV 1 hts gX0_holdsOn_X0_holds rfl rfl rfl (by decide +kernel) ⟨Nat.le_of_ble_eq_true rfl, Nat.le_of_ble_eq_true rfl⟩) (ro_preV (hP.sub (ws' := [(cl, .inr (0, [.ref st, .ref mk, .long gn, .long ac, .long dn]))]) [0] rfl) hK (ci := 0) (q0 := 0) rfl rfl) rfl rfl hl.1 rfl (lv_room (Nat.le_of_ble_eq_true rfl)) dX0_holdsOn_12 ⟨Nat.zero_le _, Nat.zero_le _⟩) hP hS (fun H locs hP hS => ?_)
        refine lv_if_eq (tgt := 37) hx hb dX0_holdsOn_15 (by decide) (fun c_4 => ?_) (fun c_4 => ?_)
        · rw [if_pos c_4] at hq_1
          refine lv_iinc (v := (x3 + 1)) (lv' := [(3, .int (x3 + 1)), (2, .int x2), (0, .ref cl), (1, .int cell)]) hx hb dX0_holdsOn_37 hl (k := 0) rfl rfl (by decide) rfl (fun ls hl => ?_)
          refine lv_goto (tgt := 4) hx hb dX0_holdsOn_40 (by decide) ?_
          exact ih4 (k4 + 1) (x3 + 1) x2 _ _ _ (by omega) (by omega) (by rw [ex4]; exact nI_1 _)  hq_1 hP hS (lv_sub hl [0, 1, 2, 3] rfl)
        · rw [if_neg c_4] at hq_1
          refine lv_iload_n hx hb dX0_holdsOn_18 rfl (lv_at hl 0 rfl) ?_
          obtain ⟨r_5, hr_5⟩ : ∃ z, z = F_Cloth_firstCell x3 := ⟨_, rfl⟩
          rw [bnd_e hr_5] at hq_1
          refine ro_calli (va_runS (As := [.int x3]) (rest := []) ⟨hx, hb, hml, hown, hts⟩ (c_Cloth_firstCell l dC dI cI cC cG cZ  x3  r_5 hr_5) (va_cwS 1 hts gX0_holdsOn_X0_firstCell rfl rfl rfl (by decide +kernel) ⟨Nat.le_of_ble_eq_true rfl, Nat.le_of_ble_eq_true rfl⟩) (ro_preS (hP.sub (ws' := []) [] rfl) hK) rfl rfl hl.1 rfl (lv_room (Nat.le_of_ble_eq_true rfl)) dX0_holdsOn_19 ⟨Nat.zero_le _, Nat.zero_le _⟩) hP hS (fun H locs hP hS => ?_)
          refine lv_iload_n hx hb dX0_holdsOn_22 rfl (lv_at hl 3 rfl) ?_
          refine lv_icmp_eq (tgt := 34) hx hb dX0_holdsOn_23 (by decide) (fun c_6 => ?_) (fun c_6 => ?_)
          · rw [if_pos c_6] at hq_1
            refine lv_iinc (v := (x2 + 1)) (lv' := [(2, .int (x2 + 1)), (3, .int x3), (0, .ref cl), (1, .int cell)]) hx hb dX0_holdsOn_34 hl (k := 1) rfl rfl (by decide) rfl (fun ls hl => ?_)
            refine lv_iinc (v := (x3 + 1)) (lv' := [(3, .int (x3 + 1)), (2, .int (x2 + 1)), (0, .ref cl), (1, .int cell)]) hx hb dX0_holdsOn_37 hl (k := 1) rfl rfl (by decide) rfl (fun ls hl => ?_)
            refine lv_goto (tgt := 4) hx hb dX0_holdsOn_40 (by decide) ?_
            exact ih4 (k4 + 1) (x3 + 1) (x2 + 1) _ _ _ (by omega) (by omega) (by rw [ex4]; exact nI_1 _)  hq_1 hP hS (lv_sub hl [0, 1, 2, 3] rfl)
          · rw [if_neg c_6] at hq_1
            refine lv_iload_n hx hb dX0_holdsOn_26 rfl (lv_at hl 0 rfl) ?_
            obtain ⟨r_7, hr_7⟩ : ∃ z, z = F_Cloth_secondCell x3 := ⟨_, rfl⟩
            rw [bnd_e hr_7] at hq_1
            refine ro_calli (va_runS (As := [.int x3]) (rest := []) ⟨hx, hb, hml, hown, hts⟩ (c_Cloth_secondCell l dC dI cI cC cG cZ  x3  r_7 hr_7) (va_cwS 1 hts gX0_holdsOn_X0_secondCell rfl rfl rfl (by decide +kernel) ⟨Nat.le_of_ble_eq_true rfl, Nat.le_of_ble_eq_true rfl⟩) (ro_preS (hP.sub (ws' := []) [] rfl) hK) rfl rfl hl.1 rfl (lv_room (Nat.le_of_ble_eq_true rfl)) dX0_holdsOn_27 ⟨Nat.zero_le _, Nat.zero_le _⟩) hP hS (fun H locs hP hS => ?_)
            refine lv_iload_n hx hb dX0_holdsOn_30 rfl (lv_at hl 3 rfl) ?_
            refine lv_icmp_ne (tgt := 37) hx hb dX0_holdsOn_31 (by decide) (fun c_8 => ?_) (fun c_8 => ?_)
            · rw [if_neg c_8] at hq_1
              refine lv_iinc (v := (x3 + 1)) (lv' := [(3, .int (x3 + 1)), (2, .int x2), (0, .ref cl), (1, .int cell)]) hx hb dX0_holdsOn_37 hl (k := 0) rfl rfl (by decide) rfl (fun ls hl => ?_)
              refine lv_goto (tgt := 4) hx hb dX0_holdsOn_40 (by decide) ?_
              exact ih4 (k4 + 1) (x3 + 1) x2 _ _ _ (by omega) (by omega) (by rw [ex4]; exact nI_1 _)  hq_1 hP hS (lv_sub hl [0, 1, 2, 3] rfl)
            · rw [if_pos c_8] at hq_1
              refine lv_iinc (v := (x2 + 1)) (lv' := [(2, .int (x2 + 1)), (3, .int x3), (0, .ref cl), (1, .int cell)]) hx hb dX0_holdsOn_34 hl (k := 1) rfl rfl (by decide) rfl (fun ls hl => ?_)
              refine lv_iinc (v := (x3 + 1)) (lv' := [(3, .int (x3 + 1)), (2, .int (x2 + 1)), (0, .ref cl), (1, .int cell)]) hx hb dX0_holdsOn_37 hl (k := 1) rfl rfl (by decide) rfl (fun ls hl => ?_)
              refine lv_goto (tgt := 4) hx hb dX0_holdsOn_40 (by decide) ?_
              exact ih4 (k4 + 1) (x3 + 1) (x2 + 1) _ _ _ (by omega) (by omega) (by rw [ex4]; exact nI_1 _)  hq_1 hP hS (lv_sub hl [0, 1, 2, 3] rfl)
  exact hloop4 83 0 (0 : Int32) (0 : Int32) _ _ _ (by omega) (by omega) nI_0.symm  hq_1 hP hS (lv_sub hl [0, 1, 2, 3] rfl)
def F_Cloth_spread_L8 (cell : Int32) (across : Int64) (down : Int64) : Nat → Int32 → Int64 → Int64
  | 0, x7, x5 => 0
  | n + 1, x7, x5 => (if (48 : Int32) ≤ x7 then x5 else (if (lg_cmp ((x5 ||| (((x5 &&& across) <<< ((1 : Int32).toInt64 &&& 63)) ||| ((x5.toUInt64 >>> ((1 : Int32).toInt64.toUInt64 &&& Int64.toUInt64 63)).toInt64 &&& across))) ||| (((x5 &&& down) <<< ((8 : Int32).toInt64 &&& 63)) ||| ((x5.toUInt64 >>> ((8 : Int32).toInt64.toUInt64 &&& Int64.toUInt64 63)).toInt64 &&& down))) x5) = 0 then x5 else (F_Cloth_spread_L8 cell across down n (x7 + 1) ((x5 ||| (((x5 &&& across) <<< ((1 : Int32).toInt64 &&& 63)) ||| ((x5.toUInt64 >>> ((1 : Int32).toInt64.toUInt64 &&& Int64.toUInt64 63)).toInt64 &&& across))) ||| (((x5 &&& down) <<< ((8 : Int32).toInt64 &&& 63)) ||| ((x5.toUInt64 >>> ((8 : Int32).toInt64.toUInt64 &&& Int64.toUInt64 63)).toInt64 &&& down))))))
def F_Cloth_spread (cell : Int32) (across : Int64) (down : Int64) : Int64 := (F_Cloth_spread_L8 cell across down 49 (0 : Int32) ((1 : Int64) <<< (cell.toInt64 &&& 63)))
set_option maxHeartbeats 4000000 in
set_option maxRecDepth 100000 in
theorem c_Cloth_spread (l : Launch) (dC : Nat → ClassId) (dI : Nat → Nat → Nat) (cI cC cG cZ : ClassId) (cell : Int32) (across : Int64) (down : Int64) (res : Int64) (hres : res = F_Cloth_spread cell across down) : Met l yX0_spread wsX0_spread ({ frames := 0, cells := 0, slots := 0, locals := 0 }) (va_Pc [.int cell, .long across, .long down] (ro_P (dC, dI) vwCl (tyL cI cC cG cZ) [])) (va_Ql (fun r (_ : Unit) => r = res) (fun _ _ => True) ro_F) 0 0 ro_F := by
  refine Met.ofW (cc := cX0_spread) (maxL := 14) (ret := (some .long)) (by decide) rfl ?_
  intro p e s m args below meth c s₁ B hml hv
  obtain ⟨rfl, hP, hK⟩ := hv
  have hx := B.exec
  have hb := B.bytes
  have hr := B.returns
  have hts := atoms_spec (ws := wsX0_spread) B.pre
  have hown : s.vm.findClass RX0 = some m.cls := findClass_of_methodNamed B.named
  have hlocks := B.notSynchronized
  have hS : va_S ro_F s.heap s.heap [] := va_S.rf
  have hl := lv_entry ([.int cell, .long across, .long down]) (n := 14) (Nat.le_of_ble_eq_true rfl)
  rw [lg_entry_eq]
  generalize (lg_sl ([.int cell, .long across, .long down]) ++ List.replicate (14 - (lg_sl ([.int cell, .long across, .long down])).length) Slot.unset).toArray = ls at hl ⊢
  have hl : lv_has ls 14 [(0, .int cell), (1, .long across), (3, .long down)] := hl
  rw [F_Cloth_spread] at hres
  refine lv_lconst (v := 1) hx hb dX0_spread_0 (by decide) ?_
  refine lv_iload_n hx hb dX0_spread_1 rfl (lv_at hl 0 rfl) ?_
  refine lv_lshl (v := ((1 : Int64) <<< (cell.toInt64 &&& 63))) hx hb dX0_spread_2 rfl ?_
  refine lv_lstore (lv' := [(5, .long ((1 : Int64) <<< (cell.toInt64 &&& 63))), (0, .int cell), (1, .long across), (3, .long down)]) hx hb dX0_spread_3 hl (by decide) rfl (fun ls hl => ?_)
  refine lv_iconst (v := 0) hx hb dX0_spread_5 (by decide) ?_
  refine lv_istore (lv' := [(7, .int 0), (5, .long ((1 : Int64) <<< (cell.toInt64 &&& 63))), (0, .int cell), (1, .long across), (3, .long down)]) hx hb dX0_spread_6 hl (by decide) rfl (fun ls hl => ?_)
  have hloop8 : ∀ (n k8 : Nat) (x7 : Int32) (x5 : Int64) (H : Heap) (locs : List Loc) (ls : Array Slot), k8 ≤ 48 → 48 - k8 < n → x7 = nI k8 → res = F_Cloth_spread_L8 cell across down n x7 x5 → va_P (dC, dI) vwCl [] H → va_S ro_F s.heap H locs → lv_has ls 14 [(7, .int x7), (5, .long x5), (0, .int cell), (1, .long across), (3, .long down)] → W p l e (headSpec wsX0_spread ({ frames := 0, cells := 0, slots := 0, locals := 0 })).room s m ([.int cell, .long across, .long down] : List Value).toArray below meth c H locs 0 0 (MQ below (va_Ql (fun r (_ : Unit) => r = res) (fun _ _ => True) ro_F) ([.int cell, .long across, .long down] : List Value).toArray s 0 0 ro_F) (F0 m 8 ls []) := by
    intro n
    induction n with
    | zero => intro k8 x7 x5 _ _ _ _ hm; exact absurd hm (Nat.not_lt_zero _)
    | succ n ih8 =>
      intro k8 x7 x5 H locs ls hk8 hm8 ex8  hres hP hS hl
      rw [F_Cloth_spread_L8] at hres
      refine lv_iload hx hb dX0_spread_8 (lv_at hl 0 rfl) ?_
      refine lv_bipush (v := 48) hx hb dX0_spread_10 (by decide) ?_
      refine lv_icmp_ge (tgt := 78) hx hb dX0_spread_12 (by decide) (fun c_1 => ?_) (fun c_1 => ?_)
      · rw [if_pos c_1] at hres
        refine lv_lload hx hb dX0_spread_78 (lv_at hl 1 rfl) ?_
        exact W.lret (v := x5) hx hb hr (fun t ht hW => ⟨⟨x5, (), rfl, hres.symm, trivial⟩, hS.F ht⟩) hS.2.2 dX0_spread_80
      · rw [if_neg c_1] at hres
        have hlt_k8 : k8 < 48 := lp_lt rfl ex8 hk8 c_1
        refine lv_lload hx hb dX0_spread_15 (lv_at hl 1 rfl) ?_
        refine lv_lload_n hx hb dX0_spread_17 rfl (lv_at hl 3 rfl) ?_
        refine lv_land hx hb dX0_spread_18 ?_
        refine lv_iconst (v := 1) hx hb dX0_spread_19 (by decide) ?_
        refine lv_lshl (v := ((x5 &&& across) <<< ((1 : Int32).toInt64 &&& 63))) hx hb dX0_spread_20 rfl ?_
        refine lv_lload hx hb dX0_spread_21 (lv_at hl 1 rfl) ?_
        refine lv_iconst (v := 1) hx hb dX0_spread_23 (by decide) ?_
        refine lv_lushr (v := (x5.toUInt64 >>> ((1 : Int32).toInt64.toUInt64 &&& Int64.toUInt64 63)).toInt64) hx hb dX0_spread_24 rfl ?_
        refine lv_lload_n hx hb dX0_spread_25 rfl (lv_at hl 3 rfl) ?_
        refine lv_land hx hb dX0_spread_26 ?_
        refine lv_lor hx hb dX0_spread_27 ?_
        refine lv_lstore (lv' := [(8, .long (((x5 &&& across) <<< ((1 : Int32).toInt64 &&& 63)) ||| ((x5.toUInt64 >>> ((1 : Int32).toInt64.toUInt64 &&& Int64.toUInt64 63)).toInt64 &&& across))), (7, .int x7), (5, .long x5), (0, .int cell), (1, .long across), (3, .long down)]) hx hb dX0_spread_28 hl (by decide) rfl (fun ls hl => ?_)
        refine lv_lload hx hb dX0_spread_30 (lv_at hl 2 rfl) ?_
        refine lv_lload_n hx hb dX0_spread_32 rfl (lv_at hl 5 rfl) ?_
        refine lv_land hx hb dX0_spread_33 ?_
        refine lv_bipush (v := 8) hx hb dX0_spread_34 (by decide) ?_
        refine lv_lshl (v := ((x5 &&& down) <<< ((8 : Int32).toInt64 &&& 63))) hx hb dX0_spread_36 rfl ?_
        refine lv_lload hx hb dX0_spread_37 (lv_at hl 2 rfl) ?_
        refine lv_bipush (v := 8) hx hb dX0_spread_39 (by decide) ?_
        refine lv_lushr (v := (x5.toUInt64 >>> ((8 : Int32).toInt64.toUInt64 &&& Int64.toUInt64 63)).toInt64) hx hb dX0_spread_41 rfl ?_
        refine lv_lload_n hx hb dX0_spread_42 rfl (lv_at hl 5 rfl) ?_
        refine lv_land hx hb dX0_spread_43 ?_
        refine lv_lor hx hb dX0_spread_44 ?_
        refine lv_lstore (lv' := [(10, .long (((x5 &&& down) <<< ((8 : Int32).toInt64 &&& 63)) ||| ((x5.toUInt64 >>> ((8 : Int32).toInt64.toUInt64 &&& Int64.toUInt64 63)).toInt64 &&& down))), (8, .long (((x5 &&& across) <<< ((1 : Int32).toInt64 &&& 63)) ||| ((x5.toUInt64 >>> ((1 : Int32).toInt64.toUInt64 &&& Int64.toUInt64 63)).toInt64 &&& across))), (7, .int x7), (5, .long x5), (0, .int cell), (1, .long across), (3, .long down)]) hx hb dX0_spread_45 hl (by decide) rfl (fun ls hl => ?_)
        refine lv_lload hx hb dX0_spread_47 (lv_at hl 3 rfl) ?_
        refine lv_lload hx hb dX0_spread_49 (lv_at hl 1 rfl) ?_
        refine lv_lor hx hb dX0_spread_51 ?_
        refine lv_lload hx hb dX0_spread_52 (lv_at hl 0 rfl) ?_
        refine lv_lor hx hb dX0_spread_54 ?_
        refine lv_lstore (lv' := [(12, .long ((x5 ||| (((x5 &&& across) <<< ((1 : Int32).toInt64 &&& 63)) ||| ((x5.toUInt64 >>> ((1 : Int32).toInt64.toUInt64 &&& Int64.toUInt64 63)).toInt64 &&& across))) ||| (((x5 &&& down) <<< ((8 : Int32).toInt64 &&& 63)) ||| ((x5.toUInt64 >>> ((8 : Int32).toInt64.toUInt64 &&& Int64.toUInt64 63)).toInt64 &&& down)))), (10, .long (((x5 &&& down) <<< ((8 : Int32).toInt64 &&& 63)) ||| ((x5.toUInt64 >>> ((8 : Int32).toInt64.toUInt64 &&& Int64.toUInt64 63)).toInt64 &&& down))), (8, .long (((x5 &&& across) <<< ((1 : Int32).toInt64 &&& 63)) ||| ((x5.toUInt64 >>> ((1 : Int32).toInt64.toUInt64 &&& Int64.toUInt64 63)).toInt64 &&& across))), (7, .int x7), (5, .long x5), (0, .int cell), (1, .long across), (3, .long down)]) hx hb dX0_spread_55 hl (by decide) rfl (fun ls hl => ?_)
        refine lv_lload hx hb dX0_spread_57 (lv_at hl 0 rfl) ?_
        refine lv_lload hx hb dX0_spread_59 (lv_at hl 4 rfl) ?_
        refine W.lcmp hx hb dX0_spread_61 ?_
        refine lv_if_ne (tgt := 68) hx hb dX0_spread_62 (by decide) (fun c_2 => ?_) (fun c_2 => ?_)
        · rw [if_neg c_2] at hres
          refine lv_lload hx hb dX0_spread_68 (lv_at hl 0 rfl) ?_
          refine lv_lstore (lv' := [(5, .long ((x5 ||| (((x5 &&& across) <<< ((1 : Int32).toInt64 &&& 63)) ||| ((x5.toUInt64 >>> ((1 : Int32).toInt64.toUInt64 &&& Int64.toUInt64 63)).toInt64 &&& across))) ||| (((x5 &&& down) <<< ((8 : Int32).toInt64 &&& 63)) ||| ((x5.toUInt64 >>> ((8 : Int32).toInt64.toUInt64 &&& Int64.toUInt64 63)).toInt64 &&& down)))), (12, .long ((x5 ||| (((x5 &&& across) <<< ((1 : Int32).toInt64 &&& 63)) ||| ((x5.toUInt64 >>> ((1 : Int32).toInt64.toUInt64 &&& Int64.toUInt64 63)).toInt64 &&& across))) ||| (((x5 &&& down) <<< ((8 : Int32).toInt64 &&& 63)) ||| ((x5.toUInt64 >>> ((8 : Int32).toInt64.toUInt64 &&& Int64.toUInt64 63)).toInt64 &&& down)))), (10, .long (((x5 &&& down) <<< ((8 : Int32).toInt64 &&& 63)) ||| ((x5.toUInt64 >>> ((8 : Int32).toInt64.toUInt64 &&& Int64.toUInt64 63)).toInt64 &&& down))), (8, .long (((x5 &&& across) <<< ((1 : Int32).toInt64 &&& 63)) ||| ((x5.toUInt64 >>> ((1 : Int32).toInt64.toUInt64 &&& Int64.toUInt64 63)).toInt64 &&& across))), (7, .int x7), (0, .int cell), (1, .long across), (3, .long down)]) hx hb dX0_spread_70 hl (by decide) rfl (fun ls hl => ?_)
          refine lv_iinc (v := (x7 + 1)) (lv' := [(7, .int (x7 + 1)), (5, .long ((x5 ||| (((x5 &&& across) <<< ((1 : Int32).toInt64 &&& 63)) ||| ((x5.toUInt64 >>> ((1 : Int32).toInt64.toUInt64 &&& Int64.toUInt64 63)).toInt64 &&& across))) ||| (((x5 &&& down) <<< ((8 : Int32).toInt64 &&& 63)) ||| ((x5.toUInt64 >>> ((8 : Int32).toInt64.toUInt64 &&& Int64.toUInt64 63)).toInt64 &&& down)))), (12, .long ((x5 ||| (((x5 &&& across) <<< ((1 : Int32).toInt64 &&& 63)) ||| ((x5.toUInt64 >>> ((1 : Int32).toInt64.toUInt64 &&& Int64.toUInt64 63)).toInt64 &&& across))) ||| (((x5 &&& down) <<< ((8 : Int32).toInt64 &&& 63)) ||| ((x5.toUInt64 >>> ((8 : Int32).toInt64.toUInt64 &&& Int64.toUInt64 63)).toInt64 &&& down)))), (10, .long (((x5 &&& down) <<< ((8 : Int32).toInt64 &&& 63)) ||| ((x5.toUInt64 >>> ((8 : Int32).toInt64.toUInt64 &&& Int64.toUInt64 63)).toInt64 &&& down))), (8, .long (((x5 &&& across) <<< ((1 : Int32).toInt64 &&& 63)) ||| ((x5.toUInt64 >>> ((1 : Int32).toInt64.toUInt64 &&& Int64.toUInt64 63)).toInt64 &&& across))), (0, .int cell), (1, .long across), (3, .long down)]) hx hb dX0_spread_72 hl (k := 4) rfl rfl (by decide) rfl (fun ls hl => ?_)
          refine lv_goto (tgt := 8) hx hb dX0_spread_75 (by decide) ?_
          exact ih8 (k8 + 1) (x7 + 1) ((x5 ||| (((x5 &&& across) <<< ((1 : Int32).toInt64 &&& 63)) ||| ((x5.toUInt64 >>> ((1 : Int32).toInt64.toUInt64 &&& Int64.toUInt64 63)).toInt64 &&& across))) ||| (((x5 &&& down) <<< ((8 : Int32).toInt64 &&& 63)) ||| ((x5.toUInt64 >>> ((8 : Int32).toInt64.toUInt64 &&& Int64.toUInt64 63)).toInt64 &&& down))) _ _ _ (by omega) (by omega) (by rw [ex8]; exact nI_1 _)  hres hP hS (lv_sub hl [0, 1, 5, 6, 7] rfl)
        · rw [if_pos c_2] at hres
          refine lv_lload hx hb dX0_spread_65 (lv_at hl 4 rfl) ?_
          exact W.lret (v := x5) hx hb hr (fun t ht hW => ⟨⟨x5, (), rfl, hres.symm, trivial⟩, hS.F ht⟩) hS.2.2 dX0_spread_67
  exact hloop8 49 0 (0 : Int32) ((1 : Int64) <<< (cell.toInt64 &&& 63)) _ _ _ (by omega) (by omega) nI_0.symm  hres hP hS (lv_sub hl [0, 1, 2, 3, 4] rfl)
theorem iX0_pieceOf_X0 : ∀ w ∈ u_ws RX0 TX0 5, w ∈ wsX0_pieceOf := by decide +kernel
theorem kX0_pieceOf_26 : Cond.fieldLink RX0 26 "TailorChalks$Cloth" "heldAcross" "J" ∈ wsX0_pieceOf := by decide +kernel
theorem kX0_pieceOf_29 : Cond.fieldLink RX0 29 "TailorChalks$Cloth" "heldDown" "J" ∈ wsX0_pieceOf := by decide +kernel
def F_Cloth_pieceOf (cell : Int32) (gn : Int64) (ac : Int64) (dn : Int64) : Int64 := (bnd (F_Cloth_isGone cell gn) (fun r_1 => (if r_1 = 0 then (bnd (F_Cloth_spread cell ac dn) (fun r_3 => r_3)) else 0)))
set_option maxHeartbeats 4000000 in
set_option maxRecDepth 100000 in
theorem c_Cloth_pieceOf (l : Launch) (dC : Nat → ClassId) (dI : Nat → Nat → Nat) (cI cC cG cZ : ClassId) (cl st mk : Nat) (cell : Int32) (gn : Int64) (ac : Int64) (dn : Int64) (res : Int64) (hres : res = F_Cloth_pieceOf cell gn ac dn) : Met l yX0_pieceOf wsX0_pieceOf ({ frames := 2, cells := 0, slots := 0, locals := 43 }) (va_Pc [.ref cl, .int cell] (ro_P (dC, dI) vwCl (tyL cI cC cG cZ) [(cl, .inr (0, [.ref st, .ref mk, .long gn, .long ac, .long dn]))])) (va_Ql (fun r (_ : Unit) => r = res) (fun _ _ => True) ro_F) 0 0 ro_F := by
  refine Met.ofW (cc := cX0_pieceOf) (maxL := 2) (ret := (some .long)) (by decide) rfl ?_
  intro p e s m args below meth c s₁ B hml hv
  obtain ⟨rfl, hP, hK⟩ := hv
  have hx := B.exec
  have hb := B.bytes
  have hr := B.returns
  have hts := atoms_spec (ws := wsX0_pieceOf) B.pre
  have hown : s.vm.findClass RX0 = some m.cls := findClass_of_methodNamed B.named
  have hlocks := B.notSynchronized
  have hS : va_S ro_F s.heap s.heap [] := va_S.rf
  have hl := lv_entry ([.ref cl, .int cell]) (n := 2) (Nat.le_of_ble_eq_true rfl)
  rw [lg_entry_eq]
  generalize (lg_sl ([.ref cl, .int cell]) ++ List.replicate (2 - (lg_sl ([.ref cl, .int cell])).length) Slot.unset).toArray = ls at hl ⊢
  have hl : lv_has ls 2 [(0, .ref cl), (1, .int cell)] := hl
  rw [F_Cloth_pieceOf] at hres
  refine lv_aload_n hx hb dX0_pieceOf_0 rfl (lv_at hl 0 rfl) ?_
  refine lv_iload_n hx hb dX0_pieceOf_1 rfl (lv_at hl 1 rfl) ?_
  obtain ⟨r_1, hr_1⟩ : ∃ z, z = F_Cloth_isGone cell gn := ⟨_, rfl⟩
  rw [bnd_e hr_1] at hres
  refine ro_calli (va_runV (As := [.int cell]) (rest := []) ⟨hx, hb, hml, hown, hts⟩ (c_Cloth_isGone l dC dI cI cC cG cZ cl st mk cell gn ac dn  r_1 hr_1) (cwV 1 hts gX0_pieceOf_X0_isGone rfl rfl rfl (by decide +kernel) ⟨Nat.le_of_ble_eq_true rfl, Nat.le_of_ble_eq_true rfl⟩) (ro_preV (hP.sub (ws' := [(cl, .inr (0, [.ref st, .ref mk, .long gn, .long ac, .long dn]))]) [0] rfl) hK (ci := 0) (q0 := 0) rfl rfl) rfl rfl hl.1 rfl (lv_room (Nat.le_of_ble_eq_true rfl)) dX0_pieceOf_2 ⟨Nat.zero_le _, Nat.zero_le _⟩) hP hS (fun H locs hP hS => ?_)
  refine lv_if_eq (tgt := 12) hx hb dX0_pieceOf_5 (by decide) (fun c_2 => ?_) (fun c_2 => ?_)
  · rw [if_pos c_2] at hres
    refine lv_iload_n hx hb dX0_pieceOf_12 rfl (lv_at hl 1 rfl) ?_
    refine lv_aload_n hx hb dX0_pieceOf_13 rfl (lv_at hl 0 rfl) ?_
    refine va_get (D := (dC, dI)) (ci := 0) (v := .long ac) (C := RX0) (T := TX0) (N := 5) hx hb hts iX0_pieceOf_X0 hown hK hP 0 rfl rfl 3 (by decide) (hts (.fieldLink RX0 26 "TailorChalks$Cloth" "heldAcross" "J") kX0_pieceOf_26) (fun _ h9 => h9) rfl dX0_pieceOf_14 ?_
    refine lv_aload_n hx hb dX0_pieceOf_17 rfl (lv_at hl 0 rfl) ?_
    refine va_get (D := (dC, dI)) (ci := 0) (v := .long dn) (C := RX0) (T := TX0) (N := 5) hx hb hts iX0_pieceOf_X0 hown hK hP 0 rfl rfl 4 (by decide) (hts (.fieldLink RX0 29 "TailorChalks$Cloth" "heldDown" "J") kX0_pieceOf_29) (fun _ h9 => h9) rfl dX0_pieceOf_18 ?_
    obtain ⟨r_3, hr_3⟩ : ∃ z, z = F_Cloth_spread cell ac dn := ⟨_, rfl⟩
    rw [bnd_e hr_3] at hres
    refine ro_calll (va_runS (As := [.int cell, .long ac, .long dn]) (rest := []) ⟨hx, hb, hml, hown, hts⟩ (c_Cloth_spread l dC dI cI cC cG cZ  cell ac dn  r_3 hr_3) (va_cwS 3 hts gX0_pieceOf_X0_spread rfl rfl rfl (by decide +kernel) ⟨Nat.le_of_ble_eq_true rfl, Nat.le_of_ble_eq_true rfl⟩) (ro_preS (hP.sub (ws' := []) [] rfl) hK) rfl rfl hl.1 rfl (lv_room (Nat.le_of_ble_eq_true rfl)) dX0_pieceOf_21 ⟨Nat.zero_le _, Nat.zero_le _⟩) hP hS (fun H locs hP hS => ?_)
    exact W.lret (v := r_3) hx hb hr (fun t ht hW => ⟨⟨r_3, (), rfl, hres.symm, trivial⟩, hS.F ht⟩) hS.2.2 dX0_pieceOf_24
  · rw [if_neg c_2] at hres
    refine lv_lconst (v := 0) hx hb dX0_pieceOf_8 (by decide) ?_
    refine lv_goto (tgt := 24) hx hb dX0_pieceOf_9 (by decide) ?_
    exact W.lret (v := 0) hx hb hr (fun t ht hW => ⟨⟨0, (), rfl, hres.symm, trivial⟩, hS.F ht⟩) hS.2.2 dX0_pieceOf_24
theorem iX0_pieceIfBluffedHeld_X0 : ∀ w ∈ u_ws RX0 TX0 5, w ∈ wsX0_pieceIfBluffedHeld := by decide +kernel
theorem kX0_pieceIfBluffedHeld_11 : Cond.fieldLink RX0 11 "TailorChalks$Cloth" "states" "[I" ∈ wsX0_pieceIfBluffedHeld := by decide +kernel
theorem kX0_pieceIfBluffedHeld_26 : Cond.fieldLink RX0 26 "TailorChalks$Cloth" "heldAcross" "J" ∈ wsX0_pieceIfBluffedHeld := by decide +kernel
theorem kX0_pieceIfBluffedHeld_29 : Cond.fieldLink RX0 29 "TailorChalks$Cloth" "heldDown" "J" ∈ wsX0_pieceIfBluffedHeld := by decide +kernel
def F_Cloth_pieceIfBluffedHeld_L14 (cell : Int32) (gn : Int64) (ac : Int64) (dn : Int64) (fs : Nat → Int32) : Nat → Int32 → Int64 → Int64 → Int32 × Int64 × Int64
  | 0, x6, x4, x2 => (x6, x4, x2)
  | n + 1, x6, x4, x2 => (if (82 : Int32) ≤ x6 then (x6, x4, x2) else (if (fs x6.toNatClampNeg) = 3 then (bnd (F_Cloth_isVoid x6 gn) (fun r_5 => (if r_5 = 0 then (bnd (F_Cloth_firstCell x6) (fun r_7 => (bnd (F_Cloth_isDown x6) (fun r_8 => (if r_8 = 0 then (F_Cloth_pieceIfBluffedHeld_L14 cell gn ac dn fs n (x6 + 1) x4 (x2 ||| ((1 : Int64) <<< (r_7.toInt64 &&& 63)))) else (F_Cloth_pieceIfBluffedHeld_L14 cell gn ac dn fs n (x6 + 1) (x4 ||| ((1 : Int64) <<< (r_7.toInt64 &&& 63))) x2)))))) else (F_Cloth_pieceIfBluffedHeld_L14 cell gn ac dn fs n (x6 + 1) x4 x2)))) else (F_Cloth_pieceIfBluffedHeld_L14 cell gn ac dn fs n (x6 + 1) x4 x2)))
def F_Cloth_pieceIfBluffedHeld (cell : Int32) (gn : Int64) (ac : Int64) (dn : Int64) (fs : Nat → Int32) : Int64 := (bnd (F_Cloth_pieceIfBluffedHeld_L14 cell gn ac dn fs 83 (0 : Int32) dn ac) (fun q_1 => (bnd (F_Cloth_spread cell q_1.2.2 q_1.2.1) (fun r_2 => r_2))))
set_option maxHeartbeats 4000000 in
set_option maxRecDepth 100000 in
theorem c_Cloth_pieceIfBluffedHeld (l : Launch) (dC : Nat → ClassId) (dI : Nat → Nat → Nat) (cI cC cG cZ : ClassId) (cl st mk : Nat) (cell : Int32) (gn : Int64) (ac : Int64) (dn : Int64) (fs : Nat → Int32) (res : Int64) (hres : res = F_Cloth_pieceIfBluffedHeld cell gn ac dn fs) : Met l yX0_pieceIfBluffedHeld wsX0_pieceIfBluffedHeld ({ frames := 2, cells := 0, slots := 0, locals := 45 }) (va_Pc [.ref cl, .int cell] (ro_P (dC, dI) vwCl (tyL cI cC cG cZ) [(cl, .inr (0, [.ref st, .ref mk, .long gn, .long ac, .long dn])), (st, .inl (cI, 82, .inl fs))])) (va_Ql (fun r (_ : Unit) => r = res) (fun _ _ => True) ro_F) 0 0 ro_F := by
  refine Met.ofW (cc := cX0_pieceIfBluffedHeld) (maxL := 9) (ret := (some .long)) (by decide) rfl ?_
  intro p e s m args below meth c s₁ B hml hv
  obtain ⟨rfl, hP, hK⟩ := hv
  have hx := B.exec
  have hb := B.bytes
  have hr := B.returns
  have hts := atoms_spec (ws := wsX0_pieceIfBluffedHeld) B.pre
  have hown : s.vm.findClass RX0 = some m.cls := findClass_of_methodNamed B.named
  have hlocks := B.notSynchronized
  have hS : va_S ro_F s.heap s.heap [] := va_S.rf
  have hl := lv_entry ([.ref cl, .int cell]) (n := 9) (Nat.le_of_ble_eq_true rfl)
  rw [lg_entry_eq]
  generalize (lg_sl ([.ref cl, .int cell]) ++ List.replicate (9 - (lg_sl ([.ref cl, .int cell])).length) Slot.unset).toArray = ls at hl ⊢
  have hl : lv_has ls 9 [(0, .ref cl), (1, .int cell)] := hl
  rw [F_Cloth_pieceIfBluffedHeld] at hres
  refine lv_aload_n hx hb dX0_pieceIfBluffedHeld_0 rfl (lv_at hl 0 rfl) ?_
  refine va_get (D := (dC, dI)) (ci := 0) (v := .long ac) (C := RX0) (T := TX0) (N := 5) hx hb hts iX0_pieceIfBluffedHeld_X0 hown hK hP 0 rfl rfl 3 (by decide) (hts (.fieldLink RX0 26 "TailorChalks$Cloth" "heldAcross" "J") kX0_pieceIfBluffedHeld_26) (fun _ h9 => h9) rfl dX0_pieceIfBluffedHeld_1 ?_
  refine lv_lstore_n (lv' := [(2, .long ac), (0, .ref cl), (1, .int cell)]) hx hb dX0_pieceIfBluffedHeld_4 rfl hl (by decide) rfl (fun ls hl => ?_)
  refine lv_aload_n hx hb dX0_pieceIfBluffedHeld_5 rfl (lv_at hl 1 rfl) ?_
  refine va_get (D := (dC, dI)) (ci := 0) (v := .long dn) (C := RX0) (T := TX0) (N := 5) hx hb hts iX0_pieceIfBluffedHeld_X0 hown hK hP 0 rfl rfl 4 (by decide) (hts (.fieldLink RX0 29 "TailorChalks$Cloth" "heldDown" "J") kX0_pieceIfBluffedHeld_29) (fun _ h9 => h9) rfl dX0_pieceIfBluffedHeld_6 ?_
  refine lv_lstore (lv' := [(4, .long dn), (2, .long ac), (0, .ref cl), (1, .int cell)]) hx hb dX0_pieceIfBluffedHeld_9 hl (by decide) rfl (fun ls hl => ?_)
  refine lv_iconst (v := 0) hx hb dX0_pieceIfBluffedHeld_11 (by decide) ?_
  refine lv_istore (lv' := [(6, .int 0), (4, .long dn), (2, .long ac), (0, .ref cl), (1, .int cell)]) hx hb dX0_pieceIfBluffedHeld_12 hl (by decide) rfl (fun ls hl => ?_)
  obtain ⟨q_1, hq_1⟩ : ∃ z, z = F_Cloth_pieceIfBluffedHeld_L14 cell gn ac dn fs 83 (0 : Int32) dn ac := ⟨_, rfl⟩
  rw [bnd_e hq_1] at hres
  have hexit14 : ∀ (H : Heap) (locs : List Loc) (ls : Array Slot), va_P (dC, dI) vwCl [(cl, .inr (0, [.ref st, .ref mk, .long gn, .long ac, .long dn])), (st, .inl (cI, 82, .inl fs))] H → va_S ro_F s.heap H locs → lv_has ls 9 [(6, .int q_1.1), (4, .long q_1.2.1), (2, .long q_1.2.2), (0, .ref cl), (1, .int cell)] → W p l e (headSpec wsX0_pieceIfBluffedHeld ({ frames := 2, cells := 0, slots := 0, locals := 45 })).room s m ([.ref cl, .int cell] : List Value).toArray below meth c H locs 0 0 (MQ below (va_Ql (fun r (_ : Unit) => r = res) (fun _ _ => True) ro_F) ([.ref cl, .int cell] : List Value).toArray s 0 0 ro_F) (F0 m 79 ls []) := by
    intro H locs ls  hP hS hl
    refine lv_iload_n hx hb dX0_pieceIfBluffedHeld_79 rfl (lv_at hl 4 rfl) ?_
    refine lv_lload_n hx hb dX0_pieceIfBluffedHeld_80 rfl (lv_at hl 2 rfl) ?_
    refine lv_lload hx hb dX0_pieceIfBluffedHeld_81 (lv_at hl 1 rfl) ?_
    obtain ⟨r_2, hr_2⟩ : ∃ z, z = F_Cloth_spread cell q_1.2.2 q_1.2.1 := ⟨_, rfl⟩
    rw [bnd_e hr_2] at hres
    refine ro_calll (va_runS (As := [.int cell, .long q_1.2.2, .long q_1.2.1]) (rest := []) ⟨hx, hb, hml, hown, hts⟩ (c_Cloth_spread l dC dI cI cC cG cZ  cell q_1.2.2 q_1.2.1  r_2 hr_2) (va_cwS 3 hts gX0_pieceIfBluffedHeld_X0_spread rfl rfl rfl (by decide +kernel) ⟨Nat.le_of_ble_eq_true rfl, Nat.le_of_ble_eq_true rfl⟩) (ro_preS (hP.sub (ws' := []) [] rfl) hK) rfl rfl hl.1 rfl (lv_room (Nat.le_of_ble_eq_true rfl)) dX0_pieceIfBluffedHeld_83 ⟨Nat.zero_le _, Nat.zero_le _⟩) hP hS (fun H locs hP hS => ?_)
    exact W.lret (v := r_2) hx hb hr (fun t ht hW => ⟨⟨r_2, (), rfl, hres.symm, trivial⟩, hS.F ht⟩) hS.2.2 dX0_pieceIfBluffedHeld_86
  have hloop14 : ∀ (n k14 : Nat) (x6 : Int32) (x4 : Int64) (x2 : Int64) (H : Heap) (locs : List Loc) (ls : Array Slot), k14 ≤ 82 → 82 - k14 < n → x6 = nI k14 → q_1 = F_Cloth_pieceIfBluffedHeld_L14 cell gn ac dn fs n x6 x4 x2 → va_P (dC, dI) vwCl [(cl, .inr (0, [.ref st, .ref mk, .long gn, .long ac, .long dn])), (st, .inl (cI, 82, .inl fs))] H → va_S ro_F s.heap H locs → lv_has ls 9 [(6, .int x6), (4, .long x4), (2, .long x2), (0, .ref cl), (1, .int cell)] → W p l e (headSpec wsX0_pieceIfBluffedHeld ({ frames := 2, cells := 0, slots := 0, locals := 45 })).room s m ([.ref cl, .int cell] : List Value).toArray below meth c H locs 0 0 (MQ below (va_Ql (fun r (_ : Unit) => r = res) (fun _ _ => True) ro_F) ([.ref cl, .int cell] : List Value).toArray s 0 0 ro_F) (F0 m 14 ls []) := by
    intro n
    induction n with
    | zero => intro k14 x6 x4 x2 _ _ _ _ hm; exact absurd hm (Nat.not_lt_zero _)
    | succ n ih14 =>
      intro k14 x6 x4 x2 H locs ls hk14 hm14 ex14  hq_1 hP hS hl
      rw [F_Cloth_pieceIfBluffedHeld_L14] at hq_1
      refine lv_iload hx hb dX0_pieceIfBluffedHeld_14 (lv_at hl 0 rfl) ?_
      refine lv_bipush (v := 82) hx hb dX0_pieceIfBluffedHeld_16 (by decide) ?_
      refine lv_icmp_ge (tgt := 79) hx hb dX0_pieceIfBluffedHeld_18 (by decide) (fun c_3 => ?_) (fun c_3 => ?_)
      · rw [if_pos c_3] at hq_1
        subst hq_1
        exact hexit14 _ _ _  hP hS (lv_sub hl [0, 1, 2, 3, 4] rfl)
      · rw [if_neg c_3] at hq_1
        have hlt_k14 : k14 < 82 := lp_lt rfl ex14 hk14 c_3
        refine lv_aload_n hx hb dX0_pieceIfBluffedHeld_21 rfl (lv_at hl 3 rfl) ?_
        refine va_get (D := (dC, dI)) (ci := 0) (v := .ref st) (C := RX0) (T := TX0) (N := 5) hx hb hts iX0_pieceIfBluffedHeld_X0 hown hK hP 0 rfl rfl 0 (by decide) (hts (.fieldLink RX0 11 "TailorChalks$Cloth" "states" "[I") kX0_pieceIfBluffedHeld_11) (fun _ h9 => h9) rfl dX0_pieceIfBluffedHeld_22 ?_
        refine lv_iload hx hb dX0_pieceIfBluffedHeld_25 (lv_at hl 0 rfl) ?_
        refine va_iald hx hb hK hP 1 0 rfl rfl (by rw [ex14]; exact vp_in_nI (by omega) (by decide)) dX0_pieceIfBluffedHeld_27 ?_
        refine lv_iconst (v := 3) hx hb dX0_pieceIfBluffedHeld_28 (by decide) ?_
        refine lv_icmp_ne (tgt := 73) hx hb dX0_pieceIfBluffedHeld_29 (by decide) (fun c_4 => ?_) (fun c_4 => ?_)
        · rw [if_neg c_4] at hq_1
          refine lv_iinc (v := (x6 + 1)) (lv' := [(6, .int (x6 + 1)), (4, .long x4), (2, .long x2), (0, .ref cl), (1, .int cell)]) hx hb dX0_pieceIfBluffedHeld_73 hl (k := 0) rfl rfl (by decide) rfl (fun ls hl => ?_)
          refine lv_goto (tgt := 14) hx hb dX0_pieceIfBluffedHeld_76 (by decide) ?_
          exact ih14 (k14 + 1) (x6 + 1) x4 x2 _ _ _ (by omega) (by omega) (by rw [ex14]; exact nI_1 _)  hq_1 hP hS (lv_sub hl [0, 1, 2, 3, 4] rfl)
        · rw [if_pos c_4] at hq_1
          refine lv_aload_n hx hb dX0_pieceIfBluffedHeld_32 rfl (lv_at hl 3 rfl) ?_
          refine lv_iload hx hb dX0_pieceIfBluffedHeld_33 (lv_at hl 0 rfl) ?_
          obtain ⟨r_5, hr_5⟩ : ∃ z, z = F_Cloth_isVoid x6 gn := ⟨_, rfl⟩
          rw [bnd_e hr_5] at hq_1
          refine ro_calli (va_runV (As := [.int x6]) (rest := []) ⟨hx, hb, hml, hown, hts⟩ (c_Cloth_isVoid l dC dI cI cC cG cZ cl st mk x6 gn ac dn  r_5 hr_5) (cwV 1 hts gX0_pieceIfBluffedHeld_X0_isVoid rfl rfl rfl (by decide +kernel) ⟨Nat.le_of_ble_eq_true rfl, Nat.le_of_ble_eq_true rfl⟩) (ro_preV (hP.sub (ws' := [(cl, .inr (0, [.ref st, .ref mk, .long gn, .long ac, .long dn]))]) [0] rfl) hK (ci := 0) (q0 := 0) rfl rfl) rfl rfl hl.1 rfl (lv_room (Nat.le_of_ble_eq_true rfl)) dX0_pieceIfBluffedHeld_35 ⟨Nat.zero_le _, Nat.zero_le _⟩) hP hS (fun H locs hP hS => ?_)
          refine lv_if_ne (tgt := 73) hx hb dX0_pieceIfBluffedHeld_38 (by decide) (fun c_6 => ?_) (fun c_6 => ?_)
          · rw [if_neg c_6] at hq_1
            refine lv_iinc (v := (x6 + 1)) (lv' := [(6, .int (x6 + 1)), (4, .long x4), (2, .long x2), (0, .ref cl), (1, .int cell)]) hx hb dX0_pieceIfBluffedHeld_73 hl (k := 0) rfl rfl (by decide) rfl (fun ls hl => ?_)
            refine lv_goto (tgt := 14) hx hb dX0_pieceIfBluffedHeld_76 (by decide) ?_
            exact ih14 (k14 + 1) (x6 + 1) x4 x2 _ _ _ (by omega) (by omega) (by rw [ex14]; exact nI_1 _)  hq_1 hP hS (lv_sub hl [0, 1, 2, 3, 4] rfl)
          · rw [if_pos c_6] at hq_1
            refine lv_lconst (v := 1) hx hb dX0_pieceIfBluffedHeld_41 (by decide) ?_
            refine lv_iload hx hb dX0_pieceIfBluffedHeld_42 (lv_at hl 0 rfl) ?_
            obtain ⟨r_7, hr_7⟩ : ∃ z, z = F_Cloth_firstCell x6 := ⟨_, rfl⟩
            rw [bnd_e hr_7] at hq_1
            refine ro_calli (va_runS (As := [.int x6]) (rest := [.long 1]) ⟨hx, hb, hml, hown, hts⟩ (c_Cloth_firstCell l dC dI cI cC cG cZ  x6  r_7 hr_7) (va_cwS 1 hts gX0_pieceIfBluffedHeld_X0_firstCell rfl rfl rfl (by decide +kernel) ⟨Nat.le_of_ble_eq_true rfl, Nat.le_of_ble_eq_true rfl⟩) (ro_preS (hP.sub (ws' := []) [] rfl) hK) rfl rfl hl.1 rfl (lv_room (Nat.le_of_ble_eq_true rfl)) dX0_pieceIfBluffedHeld_44 ⟨Nat.zero_le _, Nat.zero_le _⟩) hP hS (fun H locs hP hS => ?_)
            refine lv_lshl (v := ((1 : Int64) <<< (r_7.toInt64 &&& 63))) hx hb dX0_pieceIfBluffedHeld_47 rfl ?_
            refine lv_lstore (lv' := [(7, .long ((1 : Int64) <<< (r_7.toInt64 &&& 63))), (6, .int x6), (4, .long x4), (2, .long x2), (0, .ref cl), (1, .int cell)]) hx hb dX0_pieceIfBluffedHeld_48 hl (by decide) rfl (fun ls hl => ?_)
            refine lv_iload hx hb dX0_pieceIfBluffedHeld_50 (lv_at hl 1 rfl) ?_
            obtain ⟨r_8, hr_8⟩ : ∃ z, z = F_Cloth_isDown x6 := ⟨_, rfl⟩
            rw [bnd_e hr_8] at hq_1
            refine ro_calli (va_runS (As := [.int x6]) (rest := []) ⟨hx, hb, hml, hown, hts⟩ (c_Cloth_isDown l dC dI cI cC cG cZ  x6  r_8 hr_8) (va_cwS 1 hts gX0_pieceIfBluffedHeld_X0_isDown rfl rfl rfl (by decide +kernel) ⟨Nat.le_of_ble_eq_true rfl, Nat.le_of_ble_eq_true rfl⟩) (ro_preS (hP.sub (ws' := []) [] rfl) hK) rfl rfl hl.1 rfl (lv_room (Nat.le_of_ble_eq_true rfl)) dX0_pieceIfBluffedHeld_52 ⟨Nat.zero_le _, Nat.zero_le _⟩) hP hS (fun H locs hP hS => ?_)
            refine lv_if_eq (tgt := 68) hx hb dX0_pieceIfBluffedHeld_55 (by decide) (fun c_9 => ?_) (fun c_9 => ?_)
            · rw [if_pos c_9] at hq_1
              refine lv_lload_n hx hb dX0_pieceIfBluffedHeld_68 rfl (lv_at hl 3 rfl) ?_
              refine lv_lload hx hb dX0_pieceIfBluffedHeld_69 (lv_at hl 0 rfl) ?_
              refine lv_lor hx hb dX0_pieceIfBluffedHeld_71 ?_
              refine lv_lstore_n (lv' := [(2, .long (x2 ||| ((1 : Int64) <<< (r_7.toInt64 &&& 63)))), (7, .long ((1 : Int64) <<< (r_7.toInt64 &&& 63))), (6, .int x6), (4, .long x4), (0, .ref cl), (1, .int cell)]) hx hb dX0_pieceIfBluffedHeld_72 rfl hl (by decide) rfl (fun ls hl => ?_)
              refine lv_iinc (v := (x6 + 1)) (lv' := [(6, .int (x6 + 1)), (2, .long (x2 ||| ((1 : Int64) <<< (r_7.toInt64 &&& 63)))), (7, .long ((1 : Int64) <<< (r_7.toInt64 &&& 63))), (4, .long x4), (0, .ref cl), (1, .int cell)]) hx hb dX0_pieceIfBluffedHeld_73 hl (k := 2) rfl rfl (by decide) rfl (fun ls hl => ?_)
              refine lv_goto (tgt := 14) hx hb dX0_pieceIfBluffedHeld_76 (by decide) ?_
              exact ih14 (k14 + 1) (x6 + 1) x4 (x2 ||| ((1 : Int64) <<< (r_7.toInt64 &&& 63))) _ _ _ (by omega) (by omega) (by rw [ex14]; exact nI_1 _)  hq_1 hP hS (lv_sub hl [0, 3, 1, 4, 5] rfl)
            · rw [if_neg c_9] at hq_1
              refine lv_lload hx hb dX0_pieceIfBluffedHeld_58 (lv_at hl 2 rfl) ?_
              refine lv_lload hx hb dX0_pieceIfBluffedHeld_60 (lv_at hl 0 rfl) ?_
              refine lv_lor hx hb dX0_pieceIfBluffedHeld_62 ?_
              refine lv_lstore (lv' := [(4, .long (x4 ||| ((1 : Int64) <<< (r_7.toInt64 &&& 63)))), (7, .long ((1 : Int64) <<< (r_7.toInt64 &&& 63))), (6, .int x6), (2, .long x2), (0, .ref cl), (1, .int cell)]) hx hb dX0_pieceIfBluffedHeld_63 hl (by decide) rfl (fun ls hl => ?_)
              refine lv_goto (tgt := 73) hx hb dX0_pieceIfBluffedHeld_65 (by decide) ?_
              refine lv_iinc (v := (x6 + 1)) (lv' := [(6, .int (x6 + 1)), (4, .long (x4 ||| ((1 : Int64) <<< (r_7.toInt64 &&& 63)))), (7, .long ((1 : Int64) <<< (r_7.toInt64 &&& 63))), (2, .long x2), (0, .ref cl), (1, .int cell)]) hx hb dX0_pieceIfBluffedHeld_73 hl (k := 2) rfl rfl (by decide) rfl (fun ls hl => ?_)
              refine lv_goto (tgt := 14) hx hb dX0_pieceIfBluffedHeld_76 (by decide) ?_
              exact ih14 (k14 + 1) (x6 + 1) (x4 ||| ((1 : Int64) <<< (r_7.toInt64 &&& 63))) x2 _ _ _ (by omega) (by omega) (by rw [ex14]; exact nI_1 _)  hq_1 hP hS (lv_sub hl [0, 1, 3, 4, 5] rfl)
  exact hloop14 83 0 (0 : Int32) dn ac _ _ _ (by omega) (by omega) nI_0.symm  hq_1 hP hS (lv_sub hl [0, 1, 2, 3, 4] rfl)
def F_Cloth_lowestOfPiece_L9 (cell : Int32) (gn : Int64) (ac : Int64) (dn : Int64) : Nat → Int32 → Int64 → Int32
  | 0, x4, x2 => 0
  | n + 1, x4, x2 => (if (48 : Int32) ≤ x4 then (-6) else (bnd (F_Cloth_has x2 x4) (fun r_3 => (if r_3 = 0 then (F_Cloth_lowestOfPiece_L9 cell gn ac dn n (x4 + 1) x2) else x4))))
def F_Cloth_lowestOfPiece (cell : Int32) (gn : Int64) (ac : Int64) (dn : Int64) : Int32 := (bnd (F_Cloth_pieceOf cell gn ac dn) (fun r_1 => (F_Cloth_lowestOfPiece_L9 cell gn ac dn 49 (0 : Int32) r_1)))
set_option maxHeartbeats 4000000 in
set_option maxRecDepth 100000 in
theorem c_Cloth_lowestOfPiece (l : Launch) (dC : Nat → ClassId) (dI : Nat → Nat → Nat) (cI cC cG cZ : ClassId) (cl st mk : Nat) (cell : Int32) (gn : Int64) (ac : Int64) (dn : Int64) (res : Int32) (hres : res = F_Cloth_lowestOfPiece cell gn ac dn) : Met l yX0_lowestOfPiece wsX0_lowestOfPiece ({ frames := 3, cells := 0, slots := 0, locals := 64 }) (va_Pc [.ref cl, .int cell] (ro_P (dC, dI) vwCl (tyL cI cC cG cZ) [(cl, .inr (0, [.ref st, .ref mk, .long gn, .long ac, .long dn]))])) (va_Qi (fun r (_ : Unit) => r = res) (fun _ _ => True) ro_F) 0 0 ro_F := by
  refine Met.ofW (cc := cX0_lowestOfPiece) (maxL := 5) (ret := (some .int)) (by decide) rfl ?_
  intro p e s m args below meth c s₁ B hml hv
  obtain ⟨rfl, hP, hK⟩ := hv
  have hx := B.exec
  have hb := B.bytes
  have hr := B.returns
  have hts := atoms_spec (ws := wsX0_lowestOfPiece) B.pre
  have hown : s.vm.findClass RX0 = some m.cls := findClass_of_methodNamed B.named
  have hlocks := B.notSynchronized
  have hS : va_S ro_F s.heap s.heap [] := va_S.rf
  have hl := lv_entry ([.ref cl, .int cell]) (n := 5) (Nat.le_of_ble_eq_true rfl)
  rw [lg_entry_eq]
  generalize (lg_sl ([.ref cl, .int cell]) ++ List.replicate (5 - (lg_sl ([.ref cl, .int cell])).length) Slot.unset).toArray = ls at hl ⊢
  have hl : lv_has ls 5 [(0, .ref cl), (1, .int cell)] := hl
  rw [F_Cloth_lowestOfPiece] at hres
  refine lv_aload_n hx hb dX0_lowestOfPiece_0 rfl (lv_at hl 0 rfl) ?_
  refine lv_iload_n hx hb dX0_lowestOfPiece_1 rfl (lv_at hl 1 rfl) ?_
  obtain ⟨r_1, hr_1⟩ : ∃ z, z = F_Cloth_pieceOf cell gn ac dn := ⟨_, rfl⟩
  rw [bnd_e hr_1] at hres
  refine ro_calll (va_runV (As := [.int cell]) (rest := []) ⟨hx, hb, hml, hown, hts⟩ (c_Cloth_pieceOf l dC dI cI cC cG cZ cl st mk cell gn ac dn  r_1 hr_1) (cwV 1 hts gX0_lowestOfPiece_X0_pieceOf rfl rfl rfl (by decide +kernel) ⟨Nat.le_of_ble_eq_true rfl, Nat.le_of_ble_eq_true rfl⟩) (ro_preV (hP.sub (ws' := [(cl, .inr (0, [.ref st, .ref mk, .long gn, .long ac, .long dn]))]) [0] rfl) hK (ci := 0) (q0 := 0) rfl rfl) rfl rfl hl.1 rfl (lv_room (Nat.le_of_ble_eq_true rfl)) dX0_lowestOfPiece_2 ⟨Nat.zero_le _, Nat.zero_le _⟩) hP hS (fun H locs hP hS => ?_)
  refine lv_lstore_n (lv' := [(2, .long r_1), (0, .ref cl), (1, .int cell)]) hx hb dX0_lowestOfPiece_5 rfl hl (by decide) rfl (fun ls hl => ?_)
  refine lv_iconst (v := 0) hx hb dX0_lowestOfPiece_6 (by decide) ?_
  refine lv_istore (lv' := [(4, .int 0), (2, .long r_1), (0, .ref cl), (1, .int cell)]) hx hb dX0_lowestOfPiece_7 hl (by decide) rfl (fun ls hl => ?_)
  have hloop9 : ∀ (n k9 : Nat) (x4 : Int32) (x2 : Int64) (H : Heap) (locs : List Loc) (ls : Array Slot), k9 ≤ 48 → 48 - k9 < n → x4 = nI k9 → res = F_Cloth_lowestOfPiece_L9 cell gn ac dn n x4 x2 → va_P (dC, dI) vwCl [(cl, .inr (0, [.ref st, .ref mk, .long gn, .long ac, .long dn]))] H → va_S ro_F s.heap H locs → lv_has ls 5 [(4, .int x4), (2, .long x2), (0, .ref cl), (1, .int cell)] → W p l e (headSpec wsX0_lowestOfPiece ({ frames := 3, cells := 0, slots := 0, locals := 64 })).room s m ([.ref cl, .int cell] : List Value).toArray below meth c H locs 0 0 (MQ below (va_Qi (fun r (_ : Unit) => r = res) (fun _ _ => True) ro_F) ([.ref cl, .int cell] : List Value).toArray s 0 0 ro_F) (F0 m 9 ls []) := by
    intro n
    induction n with
    | zero => intro k9 x4 x2 _ _ _ _ hm; exact absurd hm (Nat.not_lt_zero _)
    | succ n ih9 =>
      intro k9 x4 x2 H locs ls hk9 hm9 ex9  hres hP hS hl
      rw [F_Cloth_lowestOfPiece_L9] at hres
      refine lv_iload hx hb dX0_lowestOfPiece_9 (lv_at hl 0 rfl) ?_
      refine lv_bipush (v := 48) hx hb dX0_lowestOfPiece_11 (by decide) ?_
      refine lv_icmp_ge (tgt := 34) hx hb dX0_lowestOfPiece_13 (by decide) (fun c_2 => ?_) (fun c_2 => ?_)
      · rw [if_pos c_2] at hres
        refine lv_bipush (v := (-6)) hx hb dX0_lowestOfPiece_34 (by decide) ?_
        exact W.iret (v := (-6)) hx hb hr (fun t ht hW => ⟨⟨(-6), (), rfl, hres.symm, trivial⟩, hS.F ht⟩) hS.2.2 dX0_lowestOfPiece_36
      · rw [if_neg c_2] at hres
        have hlt_k9 : k9 < 48 := lp_lt rfl ex9 hk9 c_2
        refine lv_lload_n hx hb dX0_lowestOfPiece_16 rfl (lv_at hl 1 rfl) ?_
        refine lv_iload hx hb dX0_lowestOfPiece_17 (lv_at hl 0 rfl) ?_
        obtain ⟨r_3, hr_3⟩ : ∃ z, z = F_Cloth_has x2 x4 := ⟨_, rfl⟩
        rw [bnd_e hr_3] at hres
        refine ro_calli (va_runS (As := [.long x2, .int x4]) (rest := []) ⟨hx, hb, hml, hown, hts⟩ (c_Cloth_has l dC dI cI cC cG cZ  x2 x4  r_3 hr_3) (va_cwS 2 hts gX0_lowestOfPiece_X0_has rfl rfl rfl (by decide +kernel) ⟨Nat.le_of_ble_eq_true rfl, Nat.le_of_ble_eq_true rfl⟩) (ro_preS (hP.sub (ws' := []) [] rfl) hK) rfl rfl hl.1 rfl (lv_room (Nat.le_of_ble_eq_true rfl)) dX0_lowestOfPiece_19 ⟨Nat.zero_le _, Nat.zero_le _⟩) hP hS (fun H locs hP hS => ?_)
        refine lv_if_eq (tgt := 28) hx hb dX0_lowestOfPiece_22 (by decide) (fun c_4 => ?_) (fun c_4 => ?_)
        · rw [if_pos c_4] at hres
          refine lv_iinc (v := (x4 + 1)) (lv' := [(4, .int (x4 + 1)), (2, .long x2), (0, .ref cl), (1, .int cell)]) hx hb dX0_lowestOfPiece_28 hl (k := 0) rfl rfl (by decide) rfl (fun ls hl => ?_)
          refine lv_goto (tgt := 9) hx hb dX0_lowestOfPiece_31 (by decide) ?_
          exact ih9 (k9 + 1) (x4 + 1) x2 _ _ _ (by omega) (by omega) (by rw [ex9]; exact nI_1 _)  hres hP hS (lv_sub hl [0, 1, 2, 3] rfl)
        · rw [if_neg c_4] at hres
          refine lv_iload hx hb dX0_lowestOfPiece_25 (lv_at hl 0 rfl) ?_
          exact W.iret (v := x4) hx hb hr (fun t ht hW => ⟨⟨x4, (), rfl, hres.symm, trivial⟩, hS.F ht⟩) hS.2.2 dX0_lowestOfPiece_27
  exact hloop9 49 0 (0 : Int32) r_1 _ _ _ (by omega) (by omega) nI_0.symm  hres hP hS (lv_sub hl [0, 1, 2, 3] rfl)
theorem iX0_pieces_X0 : ∀ w ∈ u_ws RX0 TX0 5, w ∈ wsX0_pieces := by decide +kernel
theorem kX0_pieces_22 : Cond.fieldLink RX0 22 "TailorChalks$Cloth" "gone" "J" ∈ wsX0_pieces := by decide +kernel
def F_Cloth_pieces_L10 (gn : Int64) (ac : Int64) (dn : Int64) : Nat → Int32 → Int32 → Int64 → Int32 × Int32 × Int64
  | 0, x4, x3, x1 => (x4, x3, x1)
  | n + 1, x4, x3, x1 => (if (48 : Int32) ≤ x4 then (x4, x3, x1) else (bnd (F_Cloth_has x1 x4) (fun r_3 => (if r_3 = 0 then (bnd (F_Cloth_pieceOf x4 gn ac dn) (fun r_5 => (F_Cloth_pieces_L10 gn ac dn n (x4 + 1) (x3 + 1) (x1 ||| r_5)))) else (F_Cloth_pieces_L10 gn ac dn n (x4 + 1) x3 x1)))))
def F_Cloth_pieces (gn : Int64) (ac : Int64) (dn : Int64) : Int32 := (bnd (F_Cloth_pieces_L10 gn ac dn 49 (0 : Int32) (0 : Int32) gn) (fun q_1 => q_1.2.1))
set_option maxHeartbeats 4000000 in
set_option maxRecDepth 100000 in
theorem c_Cloth_pieces (l : Launch) (dC : Nat → ClassId) (dI : Nat → Nat → Nat) (cI cC cG cZ : ClassId) (cl st mk : Nat) (gn : Int64) (ac : Int64) (dn : Int64) (res : Int32) (hres : res = F_Cloth_pieces gn ac dn) : Met l yX0_pieces wsX0_pieces ({ frames := 3, cells := 0, slots := 0, locals := 64 }) (va_Pc [.ref cl] (ro_P (dC, dI) vwCl (tyL cI cC cG cZ) [(cl, .inr (0, [.ref st, .ref mk, .long gn, .long ac, .long dn]))])) (va_Qi (fun r (_ : Unit) => r = res) (fun _ _ => True) ro_F) 0 0 ro_F := by
  refine Met.ofW (cc := cX0_pieces) (maxL := 5) (ret := (some .int)) (by decide) rfl ?_
  intro p e s m args below meth c s₁ B hml hv
  obtain ⟨rfl, hP, hK⟩ := hv
  have hx := B.exec
  have hb := B.bytes
  have hr := B.returns
  have hts := atoms_spec (ws := wsX0_pieces) B.pre
  have hown : s.vm.findClass RX0 = some m.cls := findClass_of_methodNamed B.named
  have hlocks := B.notSynchronized
  have hS : va_S ro_F s.heap s.heap [] := va_S.rf
  have hl := lv_entry ([.ref cl]) (n := 5) (Nat.le_of_ble_eq_true rfl)
  rw [lg_entry_eq]
  generalize (lg_sl ([.ref cl]) ++ List.replicate (5 - (lg_sl ([.ref cl])).length) Slot.unset).toArray = ls at hl ⊢
  have hl : lv_has ls 5 [(0, .ref cl)] := hl
  rw [F_Cloth_pieces] at hres
  refine lv_aload_n hx hb dX0_pieces_0 rfl (lv_at hl 0 rfl) ?_
  refine va_get (D := (dC, dI)) (ci := 0) (v := .long gn) (C := RX0) (T := TX0) (N := 5) hx hb hts iX0_pieces_X0 hown hK hP 0 rfl rfl 2 (by decide) (hts (.fieldLink RX0 22 "TailorChalks$Cloth" "gone" "J") kX0_pieces_22) (fun _ h9 => h9) rfl dX0_pieces_1 ?_
  refine lv_lstore_n (lv' := [(1, .long gn), (0, .ref cl)]) hx hb dX0_pieces_4 rfl hl (by decide) rfl (fun ls hl => ?_)
  refine lv_iconst (v := 0) hx hb dX0_pieces_5 (by decide) ?_
  refine lv_istore_n (lv' := [(3, .int 0), (1, .long gn), (0, .ref cl)]) hx hb dX0_pieces_6 rfl hl (by decide) rfl (fun ls hl => ?_)
  refine lv_iconst (v := 0) hx hb dX0_pieces_7 (by decide) ?_
  refine lv_istore (lv' := [(4, .int 0), (3, .int 0), (1, .long gn), (0, .ref cl)]) hx hb dX0_pieces_8 hl (by decide) rfl (fun ls hl => ?_)
  obtain ⟨q_1, hq_1⟩ : ∃ z, z = F_Cloth_pieces_L10 gn ac dn 49 (0 : Int32) (0 : Int32) gn := ⟨_, rfl⟩
  rw [bnd_e hq_1] at hres
  have hexit10 : ∀ (H : Heap) (locs : List Loc) (ls : Array Slot), va_P (dC, dI) vwCl [(cl, .inr (0, [.ref st, .ref mk, .long gn, .long ac, .long dn]))] H → va_S ro_F s.heap H locs → lv_has ls 5 [(4, .int q_1.1), (3, .int q_1.2.1), (1, .long q_1.2.2), (0, .ref cl)] → W p l e (headSpec wsX0_pieces ({ frames := 3, cells := 0, slots := 0, locals := 64 })).room s m ([.ref cl] : List Value).toArray below meth c H locs 0 0 (MQ below (va_Qi (fun r (_ : Unit) => r = res) (fun _ _ => True) ro_F) ([.ref cl] : List Value).toArray s 0 0 ro_F) (F0 m 44 ls []) := by
    intro H locs ls  hP hS hl
    refine lv_iload_n hx hb dX0_pieces_44 rfl (lv_at hl 1 rfl) ?_
    exact W.iret (v := q_1.2.1) hx hb hr (fun t ht hW => ⟨⟨q_1.2.1, (), rfl, hres.symm, trivial⟩, hS.F ht⟩) hS.2.2 dX0_pieces_45
  have hloop10 : ∀ (n k10 : Nat) (x4 : Int32) (x3 : Int32) (x1 : Int64) (H : Heap) (locs : List Loc) (ls : Array Slot), k10 ≤ 48 → 48 - k10 < n → x4 = nI k10 → q_1 = F_Cloth_pieces_L10 gn ac dn n x4 x3 x1 → va_P (dC, dI) vwCl [(cl, .inr (0, [.ref st, .ref mk, .long gn, .long ac, .long dn]))] H → va_S ro_F s.heap H locs → lv_has ls 5 [(4, .int x4), (3, .int x3), (1, .long x1), (0, .ref cl)] → W p l e (headSpec wsX0_pieces ({ frames := 3, cells := 0, slots := 0, locals := 64 })).room s m ([.ref cl] : List Value).toArray below meth c H locs 0 0 (MQ below (va_Qi (fun r (_ : Unit) => r = res) (fun _ _ => True) ro_F) ([.ref cl] : List Value).toArray s 0 0 ro_F) (F0 m 10 ls []) := by
    intro n
    induction n with
    | zero => intro k10 x4 x3 x1 _ _ _ _ hm; exact absurd hm (Nat.not_lt_zero _)
    | succ n ih10 =>
      intro k10 x4 x3 x1 H locs ls hk10 hm10 ex10  hq_1 hP hS hl
      rw [F_Cloth_pieces_L10] at hq_1
      refine lv_iload hx hb dX0_pieces_10 (lv_at hl 0 rfl) ?_
      refine lv_bipush (v := 48) hx hb dX0_pieces_12 (by decide) ?_
      refine lv_icmp_ge (tgt := 44) hx hb dX0_pieces_14 (by decide) (fun c_2 => ?_) (fun c_2 => ?_)
      · rw [if_pos c_2] at hq_1
        subst hq_1
        exact hexit10 _ _ _  hP hS (lv_sub hl [0, 1, 2, 3] rfl)
      · rw [if_neg c_2] at hq_1
        have hlt_k10 : k10 < 48 := lp_lt rfl ex10 hk10 c_2
        refine lv_lload_n hx hb dX0_pieces_17 rfl (lv_at hl 2 rfl) ?_
        refine lv_iload hx hb dX0_pieces_18 (lv_at hl 0 rfl) ?_
        obtain ⟨r_3, hr_3⟩ : ∃ z, z = F_Cloth_has x1 x4 := ⟨_, rfl⟩
        rw [bnd_e hr_3] at hq_1
        refine ro_calli (va_runS (As := [.long x1, .int x4]) (rest := []) ⟨hx, hb, hml, hown, hts⟩ (c_Cloth_has l dC dI cI cC cG cZ  x1 x4  r_3 hr_3) (va_cwS 2 hts gX0_pieces_X0_has rfl rfl rfl (by decide +kernel) ⟨Nat.le_of_ble_eq_true rfl, Nat.le_of_ble_eq_true rfl⟩) (ro_preS (hP.sub (ws' := []) [] rfl) hK) rfl rfl hl.1 rfl (lv_room (Nat.le_of_ble_eq_true rfl)) dX0_pieces_20 ⟨Nat.zero_le _, Nat.zero_le _⟩) hP hS (fun H locs hP hS => ?_)
        refine lv_if_ne (tgt := 38) hx hb dX0_pieces_23 (by decide) (fun c_4 => ?_) (fun c_4 => ?_)
        · rw [if_neg c_4] at hq_1
          refine lv_iinc (v := (x4 + 1)) (lv' := [(4, .int (x4 + 1)), (3, .int x3), (1, .long x1), (0, .ref cl)]) hx hb dX0_pieces_38 hl (k := 0) rfl rfl (by decide) rfl (fun ls hl => ?_)
          refine lv_goto (tgt := 10) hx hb dX0_pieces_41 (by decide) ?_
          exact ih10 (k10 + 1) (x4 + 1) x3 x1 _ _ _ (by omega) (by omega) (by rw [ex10]; exact nI_1 _)  hq_1 hP hS (lv_sub hl [0, 1, 2, 3] rfl)
        · rw [if_pos c_4] at hq_1
          refine lv_lload_n hx hb dX0_pieces_26 rfl (lv_at hl 2 rfl) ?_
          refine lv_aload_n hx hb dX0_pieces_27 rfl (lv_at hl 3 rfl) ?_
          refine lv_iload hx hb dX0_pieces_28 (lv_at hl 0 rfl) ?_
          obtain ⟨r_5, hr_5⟩ : ∃ z, z = F_Cloth_pieceOf x4 gn ac dn := ⟨_, rfl⟩
          rw [bnd_e hr_5] at hq_1
          refine ro_calll (va_runV (As := [.int x4]) (rest := [.long x1]) ⟨hx, hb, hml, hown, hts⟩ (c_Cloth_pieceOf l dC dI cI cC cG cZ cl st mk x4 gn ac dn  r_5 hr_5) (cwV 1 hts gX0_pieces_X0_pieceOf rfl rfl rfl (by decide +kernel) ⟨Nat.le_of_ble_eq_true rfl, Nat.le_of_ble_eq_true rfl⟩) (ro_preV (hP.sub (ws' := [(cl, .inr (0, [.ref st, .ref mk, .long gn, .long ac, .long dn]))]) [0] rfl) hK (ci := 0) (q0 := 0) rfl rfl) rfl rfl hl.1 rfl (lv_room (Nat.le_of_ble_eq_true rfl)) dX0_pieces_30 ⟨Nat.zero_le _, Nat.zero_le _⟩) hP hS (fun H locs hP hS => ?_)
          refine lv_lor hx hb dX0_pieces_33 ?_
          refine lv_lstore_n (lv' := [(1, .long (x1 ||| r_5)), (4, .int x4), (3, .int x3), (0, .ref cl)]) hx hb dX0_pieces_34 rfl hl (by decide) rfl (fun ls hl => ?_)
          refine lv_iinc (v := (x3 + 1)) (lv' := [(3, .int (x3 + 1)), (1, .long (x1 ||| r_5)), (4, .int x4), (0, .ref cl)]) hx hb dX0_pieces_35 hl (k := 2) rfl rfl (by decide) rfl (fun ls hl => ?_)
          refine lv_iinc (v := (x4 + 1)) (lv' := [(4, .int (x4 + 1)), (3, .int (x3 + 1)), (1, .long (x1 ||| r_5)), (0, .ref cl)]) hx hb dX0_pieces_38 hl (k := 2) rfl rfl (by decide) rfl (fun ls hl => ?_)
          refine lv_goto (tgt := 10) hx hb dX0_pieces_41 (by decide) ?_
          exact ih10 (k10 + 1) (x4 + 1) (x3 + 1) (x1 ||| r_5) _ _ _ (by omega) (by omega) (by rw [ex10]; exact nI_1 _)  hq_1 hP hS (lv_sub hl [0, 1, 2, 3] rfl)
  exact hloop10 49 0 (0 : Int32) (0 : Int32) gn _ _ _ (by omega) (by omega) nI_0.symm  hq_1 hP hS (lv_sub hl [0, 1, 2, 3] rfl)
theorem iX0_ragOf_X0 : ∀ w ∈ u_ws RX0 TX0 5, w ∈ wsX0_ragOf := by decide +kernel
theorem kX0_ragOf_26 : Cond.fieldLink RX0 26 "TailorChalks$Cloth" "heldAcross" "J" ∈ wsX0_ragOf := by decide +kernel
theorem kX0_ragOf_29 : Cond.fieldLink RX0 29 "TailorChalks$Cloth" "heldDown" "J" ∈ wsX0_ragOf := by decide +kernel
def F_Cloth_ragOf (joint : Int32) (ac : Int64) (dn : Int64) : Int64 := (bnd (F_Cloth_firstCell joint) (fun r_1 => (bnd (F_Cloth_isDown joint) (fun r_2 => (if r_2 = 0 then (bnd (F_Cloth_isDown joint) (fun r_4 => (if r_4 = 0 then (bnd (F_Cloth_firstCell joint) (fun r_6 => (bnd (F_Cloth_spread r_6 (ac &&& (((1 : Int64) <<< (r_1.toInt64 &&& 63)) ^^^ (-1))) dn) (fun r_7 => (bnd (F_Cloth_secondCell joint) (fun r_8 => (bnd (F_Cloth_has r_7 r_8) (fun r_9 => (if r_9 = 0 then (bnd (F_Cloth_secondCell joint) (fun r_11 => (bnd (F_Cloth_spread r_11 (ac &&& (((1 : Int64) <<< (r_1.toInt64 &&& 63)) ^^^ (-1))) dn) (fun r_12 => (bnd (F_Long_bitCount r_7) (fun r_13 => (bnd (F_Long_bitCount r_12) (fun r_14 => (if r_14 ≤ r_13 then (bnd (F_Long_bitCount r_12) (fun r_16 => (if (12 : Int32) < r_16 then 0 else r_12))) else (bnd (F_Long_bitCount r_7) (fun r_18 => (if (12 : Int32) < r_18 then 0 else r_7)))))))))))) else 0))))))))) else (bnd (F_Cloth_firstCell joint) (fun r_20 => (bnd (F_Cloth_spread r_20 (ac &&& (((1 : Int64) <<< (r_1.toInt64 &&& 63)) ^^^ (-1))) (dn &&& (((1 : Int64) <<< (r_1.toInt64 &&& 63)) ^^^ (-1)))) (fun r_21 => (bnd (F_Cloth_secondCell joint) (fun r_22 => (bnd (F_Cloth_has r_21 r_22) (fun r_23 => (if r_23 = 0 then (bnd (F_Cloth_secondCell joint) (fun r_25 => (bnd (F_Cloth_spread r_25 (ac &&& (((1 : Int64) <<< (r_1.toInt64 &&& 63)) ^^^ (-1))) (dn &&& (((1 : Int64) <<< (r_1.toInt64 &&& 63)) ^^^ (-1)))) (fun r_26 => (bnd (F_Long_bitCount r_21) (fun r_27 => (bnd (F_Long_bitCount r_26) (fun r_28 => (if r_28 ≤ r_27 then (bnd (F_Long_bitCount r_26) (fun r_30 => (if (12 : Int32) < r_30 then 0 else r_26))) else (bnd (F_Long_bitCount r_21) (fun r_32 => (if (12 : Int32) < r_32 then 0 else r_21)))))))))))) else 0)))))))))))) else (bnd (F_Cloth_isDown joint) (fun r_34 => (if r_34 = 0 then (bnd (F_Cloth_firstCell joint) (fun r_36 => (bnd (F_Cloth_spread r_36 ac dn) (fun r_37 => (bnd (F_Cloth_secondCell joint) (fun r_38 => (bnd (F_Cloth_has r_37 r_38) (fun r_39 => (if r_39 = 0 then (bnd (F_Cloth_secondCell joint) (fun r_41 => (bnd (F_Cloth_spread r_41 ac dn) (fun r_42 => (bnd (F_Long_bitCount r_37) (fun r_43 => (bnd (F_Long_bitCount r_42) (fun r_44 => (if r_44 ≤ r_43 then (bnd (F_Long_bitCount r_42) (fun r_46 => (if (12 : Int32) < r_46 then 0 else r_42))) else (bnd (F_Long_bitCount r_37) (fun r_48 => (if (12 : Int32) < r_48 then 0 else r_37)))))))))))) else 0))))))))) else (bnd (F_Cloth_firstCell joint) (fun r_50 => (bnd (F_Cloth_spread r_50 ac (dn &&& (((1 : Int64) <<< (r_1.toInt64 &&& 63)) ^^^ (-1)))) (fun r_51 => (bnd (F_Cloth_secondCell joint) (fun r_52 => (bnd (F_Cloth_has r_51 r_52) (fun r_53 => (if r_53 = 0 then (bnd (F_Cloth_secondCell joint) (fun r_55 => (bnd (F_Cloth_spread r_55 ac (dn &&& (((1 : Int64) <<< (r_1.toInt64 &&& 63)) ^^^ (-1)))) (fun r_56 => (bnd (F_Long_bitCount r_51) (fun r_57 => (bnd (F_Long_bitCount r_56) (fun r_58 => (if r_58 ≤ r_57 then (bnd (F_Long_bitCount r_56) (fun r_60 => (if (12 : Int32) < r_60 then 0 else r_56))) else (bnd (F_Long_bitCount r_51) (fun r_62 => (if (12 : Int32) < r_62 then 0 else r_51)))))))))))) else 0)))))))))))))))))
set_option maxHeartbeats 4000000 in
set_option maxRecDepth 100000 in
theorem c_Cloth_ragOf (l : Launch) (dC : Nat → ClassId) (dI : Nat → Nat → Nat) (cI cC cG cZ : ClassId) (cl st mk : Nat) (joint : Int32) (gn : Int64) (ac : Int64) (dn : Int64) (res : Int64) (hres : res = F_Cloth_ragOf joint ac dn) : Met l yX0_ragOf wsX0_ragOf ({ frames := 2, cells := 0, slots := 0, locals := 40 }) (va_Pc [.ref cl, .int joint] (ro_P (dC, dI) vwCl (tyL cI cC cG cZ) [(cl, .inr (0, [.ref st, .ref mk, .long gn, .long ac, .long dn]))])) (va_Ql (fun r (_ : Unit) => r = res) (fun _ _ => True) ro_F) 0 0 ro_F := by
  refine Met.ofW (cc := cX0_ragOf) (maxL := 14) (ret := (some .long)) (by decide) rfl ?_
  intro p e s m args below meth c s₁ B hml hv
  obtain ⟨rfl, hP, hK⟩ := hv
  have hx := B.exec
  have hb := B.bytes
  have hr := B.returns
  have hts := atoms_spec (ws := wsX0_ragOf) B.pre
  have hown : s.vm.findClass RX0 = some m.cls := findClass_of_methodNamed B.named
  have hlocks := B.notSynchronized
  have hS : va_S ro_F s.heap s.heap [] := va_S.rf
  have hl := lv_entry ([.ref cl, .int joint]) (n := 14) (Nat.le_of_ble_eq_true rfl)
  rw [lg_entry_eq]
  generalize (lg_sl ([.ref cl, .int joint]) ++ List.replicate (14 - (lg_sl ([.ref cl, .int joint])).length) Slot.unset).toArray = ls at hl ⊢
  have hl : lv_has ls 14 [(0, .ref cl), (1, .int joint)] := hl
  rw [F_Cloth_ragOf] at hres
  refine lv_lconst (v := 1) hx hb dX0_ragOf_0 (by decide) ?_
  refine lv_iload_n hx hb dX0_ragOf_1 rfl (lv_at hl 1 rfl) ?_
  obtain ⟨r_1, hr_1⟩ : ∃ z, z = F_Cloth_firstCell joint := ⟨_, rfl⟩
  rw [bnd_e hr_1] at hres
  refine ro_calli (va_runS (As := [.int joint]) (rest := [.long 1]) ⟨hx, hb, hml, hown, hts⟩ (c_Cloth_firstCell l dC dI cI cC cG cZ  joint  r_1 hr_1) (va_cwS 1 hts gX0_ragOf_X0_firstCell rfl rfl rfl (by decide +kernel) ⟨Nat.le_of_ble_eq_true rfl, Nat.le_of_ble_eq_true rfl⟩) (ro_preS (hP.sub (ws' := []) [] rfl) hK) rfl rfl hl.1 rfl (lv_room (Nat.le_of_ble_eq_true rfl)) dX0_ragOf_2 ⟨Nat.zero_le _, Nat.zero_le _⟩) hP hS (fun H locs hP hS => ?_)
  refine lv_lshl (v := ((1 : Int64) <<< (r_1.toInt64 &&& 63))) hx hb dX0_ragOf_5 rfl ?_
  refine lv_lstore_n (lv' := [(2, .long ((1 : Int64) <<< (r_1.toInt64 &&& 63))), (0, .ref cl), (1, .int joint)]) hx hb dX0_ragOf_6 rfl hl (by decide) rfl (fun ls hl => ?_)
  refine lv_iload_n hx hb dX0_ragOf_7 rfl (lv_at hl 2 rfl) ?_
  obtain ⟨r_2, hr_2⟩ : ∃ z, z = F_Cloth_isDown joint := ⟨_, rfl⟩
  rw [bnd_e hr_2] at hres
  refine ro_calli (va_runS (As := [.int joint]) (rest := []) ⟨hx, hb, hml, hown, hts⟩ (c_Cloth_isDown l dC dI cI cC cG cZ  joint  r_2 hr_2) (va_cwS 1 hts gX0_ragOf_X0_isDown rfl rfl rfl (by decide +kernel) ⟨Nat.le_of_ble_eq_true rfl, Nat.le_of_ble_eq_true rfl⟩) (ro_preS (hP.sub (ws' := []) [] rfl) hK) rfl rfl hl.1 rfl (lv_room (Nat.le_of_ble_eq_true rfl)) dX0_ragOf_8 ⟨Nat.zero_le _, Nat.zero_le _⟩) hP hS (fun H locs hP hS => ?_)
  refine lv_if_eq (tgt := 21) hx hb dX0_ragOf_11 (by decide) (fun c_3 => ?_) (fun c_3 => ?_)
  · rw [if_pos c_3] at hres
    refine lv_aload_n hx hb dX0_ragOf_21 rfl (lv_at hl 1 rfl) ?_
    refine va_get (D := (dC, dI)) (ci := 0) (v := .long ac) (C := RX0) (T := TX0) (N := 5) hx hb hts iX0_ragOf_X0 hown hK hP 0 rfl rfl 3 (by decide) (hts (.fieldLink RX0 26 "TailorChalks$Cloth" "heldAcross" "J") kX0_ragOf_26) (fun _ h9 => h9) rfl dX0_ragOf_22 ?_
    refine lv_lload_n hx hb dX0_ragOf_25 rfl (lv_at hl 0 rfl) ?_
    refine lv_ldc2 (v := (-1)) hx hb hown (hts (.constantLong RX0 53 (-1)) (by decide +kernel)) dX0_ragOf_26 ?_
    refine lv_lxor hx hb dX0_ragOf_29 ?_
    refine lv_land hx hb dX0_ragOf_30 ?_
    refine lv_lstore (lv' := [(4, .long (ac &&& (((1 : Int64) <<< (r_1.toInt64 &&& 63)) ^^^ (-1)))), (2, .long ((1 : Int64) <<< (r_1.toInt64 &&& 63))), (0, .ref cl), (1, .int joint)]) hx hb dX0_ragOf_31 hl (by decide) rfl (fun ls hl => ?_)
    refine lv_iload_n hx hb dX0_ragOf_33 rfl (lv_at hl 3 rfl) ?_
    obtain ⟨r_4, hr_4⟩ : ∃ z, z = F_Cloth_isDown joint := ⟨_, rfl⟩
    rw [bnd_e hr_4] at hres
    refine ro_calli (va_runS (As := [.int joint]) (rest := []) ⟨hx, hb, hml, hown, hts⟩ (c_Cloth_isDown l dC dI cI cC cG cZ  joint  r_4 hr_4) (va_cwS 1 hts gX0_ragOf_X0_isDown rfl rfl rfl (by decide +kernel) ⟨Nat.le_of_ble_eq_true rfl, Nat.le_of_ble_eq_true rfl⟩) (ro_preS (hP.sub (ws' := []) [] rfl) hK) rfl rfl hl.1 rfl (lv_room (Nat.le_of_ble_eq_true rfl)) dX0_ragOf_34 ⟨Nat.zero_le _, Nat.zero_le _⟩) hP hS (fun H locs hP hS => ?_)
    refine lv_if_eq (tgt := 53) hx hb dX0_ragOf_37 (by decide) (fun c_5 => ?_) (fun c_5 => ?_)
    · rw [if_pos c_5] at hres
      refine lv_aload_n hx hb dX0_ragOf_53 rfl (lv_at hl 2 rfl) ?_
      refine va_get (D := (dC, dI)) (ci := 0) (v := .long dn) (C := RX0) (T := TX0) (N := 5) hx hb hts iX0_ragOf_X0 hown hK hP 0 rfl rfl 4 (by decide) (hts (.fieldLink RX0 29 "TailorChalks$Cloth" "heldDown" "J") kX0_ragOf_29) (fun _ h9 => h9) rfl dX0_ragOf_54 ?_
      refine lv_lstore (lv' := [(6, .long dn), (4, .long (ac &&& (((1 : Int64) <<< (r_1.toInt64 &&& 63)) ^^^ (-1)))), (2, .long ((1 : Int64) <<< (r_1.toInt64 &&& 63))), (0, .ref cl), (1, .int joint)]) hx hb dX0_ragOf_57 hl (by decide) rfl (fun ls hl => ?_)
      refine lv_iload_n hx hb dX0_ragOf_59 rfl (lv_at hl 4 rfl) ?_
      obtain ⟨r_6, hr_6⟩ : ∃ z, z = F_Cloth_firstCell joint := ⟨_, rfl⟩
      rw [bnd_e hr_6] at hres
      refine ro_calli (va_runS (As := [.int joint]) (rest := []) ⟨hx, hb, hml, hown, hts⟩ (c_Cloth_firstCell l dC dI cI cC cG cZ  joint  r_6 hr_6) (va_cwS 1 hts gX0_ragOf_X0_firstCell rfl rfl rfl (by decide +kernel) ⟨Nat.le_of_ble_eq_true rfl, Nat.le_of_ble_eq_true rfl⟩) (ro_preS (hP.sub (ws' := []) [] rfl) hK) rfl rfl hl.1 rfl (lv_room (Nat.le_of_ble_eq_true rfl)) dX0_ragOf_60 ⟨Nat.zero_le _, Nat.zero_le _⟩) hP hS (fun H locs hP hS => ?_)
      refine lv_lload hx hb dX0_ragOf_63 (lv_at hl 1 rfl) ?_
      refine lv_lload hx hb dX0_ragOf_65 (lv_at hl 0 rfl) ?_
      obtain ⟨r_7, hr_7⟩ : ∃ z, z = F_Cloth_spread r_6 (ac &&& (((1 : Int64) <<< (r_1.toInt64 &&& 63)) ^^^ (-1))) dn := ⟨_, rfl⟩
      rw [bnd_e hr_7] at hres
      refine ro_calll (va_runS (As := [.int r_6, .long (ac &&& (((1 : Int64) <<< (r_1.toInt64 &&& 63)) ^^^ (-1))), .long dn]) (rest := []) ⟨hx, hb, hml, hown, hts⟩ (c_Cloth_spread l dC dI cI cC cG cZ  r_6 (ac &&& (((1 : Int64) <<< (r_1.toInt64 &&& 63)) ^^^ (-1))) dn  r_7 hr_7) (va_cwS 3 hts gX0_ragOf_X0_spread rfl rfl rfl (by decide +kernel) ⟨Nat.le_of_ble_eq_true rfl, Nat.le_of_ble_eq_true rfl⟩) (ro_preS (hP.sub (ws' := []) [] rfl) hK) rfl rfl hl.1 rfl (lv_room (Nat.le_of_ble_eq_true rfl)) dX0_ragOf_67 ⟨Nat.zero_le _, Nat.zero_le _⟩) hP hS (fun H locs hP hS => ?_)
      refine lv_lstore (lv' := [(8, .long r_7), (6, .long dn), (4, .long (ac &&& (((1 : Int64) <<< (r_1.toInt64 &&& 63)) ^^^ (-1)))), (2, .long ((1 : Int64) <<< (r_1.toInt64 &&& 63))), (0, .ref cl), (1, .int joint)]) hx hb dX0_ragOf_70 hl (by decide) rfl (fun ls hl => ?_)
      refine lv_lload hx hb dX0_ragOf_72 (lv_at hl 0 rfl) ?_
      refine lv_iload_n hx hb dX0_ragOf_74 rfl (lv_at hl 5 rfl) ?_
      obtain ⟨r_8, hr_8⟩ : ∃ z, z = F_Cloth_secondCell joint := ⟨_, rfl⟩
      rw [bnd_e hr_8] at hres
      refine ro_calli (va_runS (As := [.int joint]) (rest := [.long r_7]) ⟨hx, hb, hml, hown, hts⟩ (c_Cloth_secondCell l dC dI cI cC cG cZ  joint  r_8 hr_8) (va_cwS 1 hts gX0_ragOf_X0_secondCell rfl rfl rfl (by decide +kernel) ⟨Nat.le_of_ble_eq_true rfl, Nat.le_of_ble_eq_true rfl⟩) (ro_preS (hP.sub (ws' := []) [] rfl) hK) rfl rfl hl.1 rfl (lv_room (Nat.le_of_ble_eq_true rfl)) dX0_ragOf_75 ⟨Nat.zero_le _, Nat.zero_le _⟩) hP hS (fun H locs hP hS => ?_)
      obtain ⟨r_9, hr_9⟩ : ∃ z, z = F_Cloth_has r_7 r_8 := ⟨_, rfl⟩
      rw [bnd_e hr_9] at hres
      refine ro_calli (va_runS (As := [.long r_7, .int r_8]) (rest := []) ⟨hx, hb, hml, hown, hts⟩ (c_Cloth_has l dC dI cI cC cG cZ  r_7 r_8  r_9 hr_9) (va_cwS 2 hts gX0_ragOf_X0_has rfl rfl rfl (by decide +kernel) ⟨Nat.le_of_ble_eq_true rfl, Nat.le_of_ble_eq_true rfl⟩) (ro_preS (hP.sub (ws' := []) [] rfl) hK) rfl rfl hl.1 rfl (lv_room (Nat.le_of_ble_eq_true rfl)) dX0_ragOf_78 ⟨Nat.zero_le _, Nat.zero_le _⟩) hP hS (fun H locs hP hS => ?_)
      refine lv_if_eq (tgt := 86) hx hb dX0_ragOf_81 (by decide) (fun c_10 => ?_) (fun c_10 => ?_)
      · rw [if_pos c_10] at hres
        refine lv_iload_n hx hb dX0_ragOf_86 rfl (lv_at hl 5 rfl) ?_
        obtain ⟨r_11, hr_11⟩ : ∃ z, z = F_Cloth_secondCell joint := ⟨_, rfl⟩
        rw [bnd_e hr_11] at hres
        refine ro_calli (va_runS (As := [.int joint]) (rest := []) ⟨hx, hb, hml, hown, hts⟩ (c_Cloth_secondCell l dC dI cI cC cG cZ  joint  r_11 hr_11) (va_cwS 1 hts gX0_ragOf_X0_secondCell rfl rfl rfl (by decide +kernel) ⟨Nat.le_of_ble_eq_true rfl, Nat.le_of_ble_eq_true rfl⟩) (ro_preS (hP.sub (ws' := []) [] rfl) hK) rfl rfl hl.1 rfl (lv_room (Nat.le_of_ble_eq_true rfl)) dX0_ragOf_87 ⟨Nat.zero_le _, Nat.zero_le _⟩) hP hS (fun H locs hP hS => ?_)
        refine lv_lload hx hb dX0_ragOf_90 (lv_at hl 2 rfl) ?_
        refine lv_lload hx hb dX0_ragOf_92 (lv_at hl 1 rfl) ?_
        obtain ⟨r_12, hr_12⟩ : ∃ z, z = F_Cloth_spread r_11 (ac &&& (((1 : Int64) <<< (r_1.toInt64 &&& 63)) ^^^ (-1))) dn := ⟨_, rfl⟩
        rw [bnd_e hr_12] at hres
        refine ro_calll (va_runS (As := [.int r_11, .long (ac &&& (((1 : Int64) <<< (r_1.toInt64 &&& 63)) ^^^ (-1))), .long dn]) (rest := []) ⟨hx, hb, hml, hown, hts⟩ (c_Cloth_spread l dC dI cI cC cG cZ  r_11 (ac &&& (((1 : Int64) <<< (r_1.toInt64 &&& 63)) ^^^ (-1))) dn  r_12 hr_12) (va_cwS 3 hts gX0_ragOf_X0_spread rfl rfl rfl (by decide +kernel) ⟨Nat.le_of_ble_eq_true rfl, Nat.le_of_ble_eq_true rfl⟩) (ro_preS (hP.sub (ws' := []) [] rfl) hK) rfl rfl hl.1 rfl (lv_room (Nat.le_of_ble_eq_true rfl)) dX0_ragOf_94 ⟨Nat.zero_le _, Nat.zero_le _⟩) hP hS (fun H locs hP hS => ?_)
        refine lv_lstore (lv' := [(10, .long r_12), (8, .long r_7), (6, .long dn), (4, .long (ac &&& (((1 : Int64) <<< (r_1.toInt64 &&& 63)) ^^^ (-1)))), (2, .long ((1 : Int64) <<< (r_1.toInt64 &&& 63))), (0, .ref cl), (1, .int joint)]) hx hb dX0_ragOf_97 hl (by decide) rfl (fun ls hl => ?_)
        refine lv_lload hx hb dX0_ragOf_99 (lv_at hl 1 rfl) ?_
        obtain ⟨r_13, hr_13⟩ : ∃ z, z = F_Long_bitCount r_7 := ⟨_, rfl⟩
        rw [bnd_e hr_13] at hres
        refine ro_calli (va_runS (As := [.long r_7]) (rest := []) ⟨hx, hb, hml, hown, hts⟩ (c_Long_bitCount l dC dI cI cC cG cZ  r_7  r_13 hr_13) (va_cwS 1 hts gX0_ragOf_J13_bitCount_95d88 rfl rfl rfl (by decide +kernel) ⟨Nat.le_of_ble_eq_true rfl, Nat.le_of_ble_eq_true rfl⟩) (ro_preS (hP.sub (ws' := []) [] rfl) hK) rfl rfl hl.1 rfl (lv_room (Nat.le_of_ble_eq_true rfl)) dX0_ragOf_101 ⟨Nat.zero_le _, Nat.zero_le _⟩) hP hS (fun H locs hP hS => ?_)
        refine lv_lload hx hb dX0_ragOf_104 (lv_at hl 0 rfl) ?_
        obtain ⟨r_14, hr_14⟩ : ∃ z, z = F_Long_bitCount r_12 := ⟨_, rfl⟩
        rw [bnd_e hr_14] at hres
        refine ro_calli (va_runS (As := [.long r_12]) (rest := [.int r_13]) ⟨hx, hb, hml, hown, hts⟩ (c_Long_bitCount l dC dI cI cC cG cZ  r_12  r_14 hr_14) (va_cwS 1 hts gX0_ragOf_J13_bitCount_95d88 rfl rfl rfl (by decide +kernel) ⟨Nat.le_of_ble_eq_true rfl, Nat.le_of_ble_eq_true rfl⟩) (ro_preS (hP.sub (ws' := []) [] rfl) hK) rfl rfl hl.1 rfl (lv_room (Nat.le_of_ble_eq_true rfl)) dX0_ragOf_106 ⟨Nat.zero_le _, Nat.zero_le _⟩) hP hS (fun H locs hP hS => ?_)
        refine lv_icmp_ge (tgt := 117) hx hb dX0_ragOf_109 (by decide) (fun c_15 => ?_) (fun c_15 => ?_)
        · rw [if_pos c_15] at hres
          refine lv_lload hx hb dX0_ragOf_117 (lv_at hl 0 rfl) ?_
          refine lv_lstore (lv' := [(12, .long r_12), (10, .long r_12), (8, .long r_7), (6, .long dn), (4, .long (ac &&& (((1 : Int64) <<< (r_1.toInt64 &&& 63)) ^^^ (-1)))), (2, .long ((1 : Int64) <<< (r_1.toInt64 &&& 63))), (0, .ref cl), (1, .int joint)]) hx hb dX0_ragOf_119 hl (by decide) rfl (fun ls hl => ?_)
          refine lv_lload hx hb dX0_ragOf_121 (lv_at hl 0 rfl) ?_
          obtain ⟨r_16, hr_16⟩ : ∃ z, z = F_Long_bitCount r_12 := ⟨_, rfl⟩
          rw [bnd_e hr_16] at hres
          refine ro_calli (va_runS (As := [.long r_12]) (rest := []) ⟨hx, hb, hml, hown, hts⟩ (c_Long_bitCount l dC dI cI cC cG cZ  r_12  r_16 hr_16) (va_cwS 1 hts gX0_ragOf_J13_bitCount_95d88 rfl rfl rfl (by decide +kernel) ⟨Nat.le_of_ble_eq_true rfl, Nat.le_of_ble_eq_true rfl⟩) (ro_preS (hP.sub (ws' := []) [] rfl) hK) rfl rfl hl.1 rfl (lv_room (Nat.le_of_ble_eq_true rfl)) dX0_ragOf_123 ⟨Nat.zero_le _, Nat.zero_le _⟩) hP hS (fun H locs hP hS => ?_)
          refine lv_bipush (v := 12) hx hb dX0_ragOf_126 (by decide) ?_
          refine lv_icmp_gt (tgt := 136) hx hb dX0_ragOf_128 (by decide) (fun c_17 => ?_) (fun c_17 => ?_)
          · rw [if_pos c_17] at hres
            refine lv_lconst (v := 0) hx hb dX0_ragOf_136 (by decide) ?_
            exact W.lret (v := 0) hx hb hr (fun t ht hW => ⟨⟨0, (), rfl, hres.symm, trivial⟩, hS.F ht⟩) hS.2.2 dX0_ragOf_137
          · rw [if_neg c_17] at hres
            refine lv_lload hx hb dX0_ragOf_131 (lv_at hl 0 rfl) ?_
            refine lv_goto (tgt := 137) hx hb dX0_ragOf_133 (by decide) ?_
            exact W.lret (v := r_12) hx hb hr (fun t ht hW => ⟨⟨r_12, (), rfl, hres.symm, trivial⟩, hS.F ht⟩) hS.2.2 dX0_ragOf_137
        · rw [if_neg c_15] at hres
          refine lv_lload hx hb dX0_ragOf_112 (lv_at hl 1 rfl) ?_
          refine lv_goto (tgt := 119) hx hb dX0_ragOf_114 (by decide) ?_
          refine lv_lstore (lv' := [(12, .long r_7), (10, .long r_12), (8, .long r_7), (6, .long dn), (4, .long (ac &&& (((1 : Int64) <<< (r_1.toInt64 &&& 63)) ^^^ (-1)))), (2, .long ((1 : Int64) <<< (r_1.toInt64 &&& 63))), (0, .ref cl), (1, .int joint)]) hx hb dX0_ragOf_119 hl (by decide) rfl (fun ls hl => ?_)
          refine lv_lload hx hb dX0_ragOf_121 (lv_at hl 0 rfl) ?_
          obtain ⟨r_18, hr_18⟩ : ∃ z, z = F_Long_bitCount r_7 := ⟨_, rfl⟩
          rw [bnd_e hr_18] at hres
          refine ro_calli (va_runS (As := [.long r_7]) (rest := []) ⟨hx, hb, hml, hown, hts⟩ (c_Long_bitCount l dC dI cI cC cG cZ  r_7  r_18 hr_18) (va_cwS 1 hts gX0_ragOf_J13_bitCount_95d88 rfl rfl rfl (by decide +kernel) ⟨Nat.le_of_ble_eq_true rfl, Nat.le_of_ble_eq_true rfl⟩) (ro_preS (hP.sub (ws' := []) [] rfl) hK) rfl rfl hl.1 rfl (lv_room (Nat.le_of_ble_eq_true rfl)) dX0_ragOf_123 ⟨Nat.zero_le _, Nat.zero_le _⟩) hP hS (fun H locs hP hS => ?_)
          refine lv_bipush (v := 12) hx hb dX0_ragOf_126 (by decide) ?_
          refine lv_icmp_gt (tgt := 136) hx hb dX0_ragOf_128 (by decide) (fun c_19 => ?_) (fun c_19 => ?_)
          · rw [if_pos c_19] at hres
            refine lv_lconst (v := 0) hx hb dX0_ragOf_136 (by decide) ?_
            exact W.lret (v := 0) hx hb hr (fun t ht hW => ⟨⟨0, (), rfl, hres.symm, trivial⟩, hS.F ht⟩) hS.2.2 dX0_ragOf_137
          · rw [if_neg c_19] at hres
            refine lv_lload hx hb dX0_ragOf_131 (lv_at hl 0 rfl) ?_
            refine lv_goto (tgt := 137) hx hb dX0_ragOf_133 (by decide) ?_
            exact W.lret (v := r_7) hx hb hr (fun t ht hW => ⟨⟨r_7, (), rfl, hres.symm, trivial⟩, hS.F ht⟩) hS.2.2 dX0_ragOf_137
      · rw [if_neg c_10] at hres
        refine lv_lconst (v := 0) hx hb dX0_ragOf_84 (by decide) ?_
        exact W.lret (v := 0) hx hb hr (fun t ht hW => ⟨⟨0, (), rfl, hres.symm, trivial⟩, hS.F ht⟩) hS.2.2 dX0_ragOf_85
    · rw [if_neg c_5] at hres
      refine lv_aload_n hx hb dX0_ragOf_40 rfl (lv_at hl 2 rfl) ?_
      refine va_get (D := (dC, dI)) (ci := 0) (v := .long dn) (C := RX0) (T := TX0) (N := 5) hx hb hts iX0_ragOf_X0 hown hK hP 0 rfl rfl 4 (by decide) (hts (.fieldLink RX0 29 "TailorChalks$Cloth" "heldDown" "J") kX0_ragOf_29) (fun _ h9 => h9) rfl dX0_ragOf_41 ?_
      refine lv_lload_n hx hb dX0_ragOf_44 rfl (lv_at hl 1 rfl) ?_
      refine lv_ldc2 (v := (-1)) hx hb hown (hts (.constantLong RX0 53 (-1)) (by decide +kernel)) dX0_ragOf_45 ?_
      refine lv_lxor hx hb dX0_ragOf_48 ?_
      refine lv_land hx hb dX0_ragOf_49 ?_
      refine lv_goto (tgt := 57) hx hb dX0_ragOf_50 (by decide) ?_
      refine lv_lstore (lv' := [(6, .long (dn &&& (((1 : Int64) <<< (r_1.toInt64 &&& 63)) ^^^ (-1)))), (4, .long (ac &&& (((1 : Int64) <<< (r_1.toInt64 &&& 63)) ^^^ (-1)))), (2, .long ((1 : Int64) <<< (r_1.toInt64 &&& 63))), (0, .ref cl), (1, .int joint)]) hx hb dX0_ragOf_57 hl (by decide) rfl (fun ls hl => ?_)
      refine lv_iload_n hx hb dX0_ragOf_59 rfl (lv_at hl 4 rfl) ?_
      obtain ⟨r_20, hr_20⟩ : ∃ z, z = F_Cloth_firstCell joint := ⟨_, rfl⟩
      rw [bnd_e hr_20] at hres
      refine ro_calli (va_runS (As := [.int joint]) (rest := []) ⟨hx, hb, hml, hown, hts⟩ (c_Cloth_firstCell l dC dI cI cC cG cZ  joint  r_20 hr_20) (va_cwS 1 hts gX0_ragOf_X0_firstCell rfl rfl rfl (by decide +kernel) ⟨Nat.le_of_ble_eq_true rfl, Nat.le_of_ble_eq_true rfl⟩) (ro_preS (hP.sub (ws' := []) [] rfl) hK) rfl rfl hl.1 rfl (lv_room (Nat.le_of_ble_eq_true rfl)) dX0_ragOf_60 ⟨Nat.zero_le _, Nat.zero_le _⟩) hP hS (fun H locs hP hS => ?_)
      refine lv_lload hx hb dX0_ragOf_63 (lv_at hl 1 rfl) ?_
      refine lv_lload hx hb dX0_ragOf_65 (lv_at hl 0 rfl) ?_
      obtain ⟨r_21, hr_21⟩ : ∃ z, z = F_Cloth_spread r_20 (ac &&& (((1 : Int64) <<< (r_1.toInt64 &&& 63)) ^^^ (-1))) (dn &&& (((1 : Int64) <<< (r_1.toInt64 &&& 63)) ^^^ (-1))) := ⟨_, rfl⟩
      rw [bnd_e hr_21] at hres
      refine ro_calll (va_runS (As := [.int r_20, .long (ac &&& (((1 : Int64) <<< (r_1.toInt64 &&& 63)) ^^^ (-1))), .long (dn &&& (((1 : Int64) <<< (r_1.toInt64 &&& 63)) ^^^ (-1)))]) (rest := []) ⟨hx, hb, hml, hown, hts⟩ (c_Cloth_spread l dC dI cI cC cG cZ  r_20 (ac &&& (((1 : Int64) <<< (r_1.toInt64 &&& 63)) ^^^ (-1))) (dn &&& (((1 : Int64) <<< (r_1.toInt64 &&& 63)) ^^^ (-1)))  r_21 hr_21) (va_cwS 3 hts gX0_ragOf_X0_spread rfl rfl rfl (by decide +kernel) ⟨Nat.le_of_ble_eq_true rfl, Nat.le_of_ble_eq_true rfl⟩) (ro_preS (hP.sub (ws' := []) [] rfl) hK) rfl rfl hl.1 rfl (lv_room (Nat.le_of_ble_eq_true rfl)) dX0_ragOf_67 ⟨Nat.zero_le _, Nat.zero_le _⟩) hP hS (fun H locs hP hS => ?_)
      refine lv_lstore (lv' := [(8, .long r_21), (6, .long (dn &&& (((1 : Int64) <<< (r_1.toInt64 &&& 63)) ^^^ (-1)))), (4, .long (ac &&& (((1 : Int64) <<< (r_1.toInt64 &&& 63)) ^^^ (-1)))), (2, .long ((1 : Int64) <<< (r_1.toInt64 &&& 63))), (0, .ref cl), (1, .int joint)]) hx hb dX0_ragOf_70 hl (by decide) rfl (fun ls hl => ?_)
      refine lv_lload hx hb dX0_ragOf_72 (lv_at hl 0 rfl) ?_
      refine lv_iload_n hx hb dX0_ragOf_74 rfl (lv_at hl 5 rfl) ?_
      obtain ⟨r_22, hr_22⟩ : ∃ z, z = F_Cloth_secondCell joint := ⟨_, rfl⟩
      rw [bnd_e hr_22] at hres
      refine ro_calli (va_runS (As := [.int joint]) (rest := [.long r_21]) ⟨hx, hb, hml, hown, hts⟩ (c_Cloth_secondCell l dC dI cI cC cG cZ  joint  r_22 hr_22) (va_cwS 1 hts gX0_ragOf_X0_secondCell rfl rfl rfl (by decide +kernel) ⟨Nat.le_of_ble_eq_true rfl, Nat.le_of_ble_eq_true rfl⟩) (ro_preS (hP.sub (ws' := []) [] rfl) hK) rfl rfl hl.1 rfl (lv_room (Nat.le_of_ble_eq_true rfl)) dX0_ragOf_75 ⟨Nat.zero_le _, Nat.zero_le _⟩) hP hS (fun H locs hP hS => ?_)
      obtain ⟨r_23, hr_23⟩ : ∃ z, z = F_Cloth_has r_21 r_22 := ⟨_, rfl⟩
      rw [bnd_e hr_23] at hres
      refine ro_calli (va_runS (As := [.long r_21, .int r_22]) (rest := []) ⟨hx, hb, hml, hown, hts⟩ (c_Cloth_has l dC dI cI cC cG cZ  r_21 r_22  r_23 hr_23) (va_cwS 2 hts gX0_ragOf_X0_has rfl rfl rfl (by decide +kernel) ⟨Nat.le_of_ble_eq_true rfl, Nat.le_of_ble_eq_true rfl⟩) (ro_preS (hP.sub (ws' := []) [] rfl) hK) rfl rfl hl.1 rfl (lv_room (Nat.le_of_ble_eq_true rfl)) dX0_ragOf_78 ⟨Nat.zero_le _, Nat.zero_le _⟩) hP hS (fun H locs hP hS => ?_)
      refine lv_if_eq (tgt := 86) hx hb dX0_ragOf_81 (by decide) (fun c_24 => ?_) (fun c_24 => ?_)
      · rw [if_pos c_24] at hres
        refine lv_iload_n hx hb dX0_ragOf_86 rfl (lv_at hl 5 rfl) ?_
        obtain ⟨r_25, hr_25⟩ : ∃ z, z = F_Cloth_secondCell joint := ⟨_, rfl⟩
        rw [bnd_e hr_25] at hres
        refine ro_calli (va_runS (As := [.int joint]) (rest := []) ⟨hx, hb, hml, hown, hts⟩ (c_Cloth_secondCell l dC dI cI cC cG cZ  joint  r_25 hr_25) (va_cwS 1 hts gX0_ragOf_X0_secondCell rfl rfl rfl (by decide +kernel) ⟨Nat.le_of_ble_eq_true rfl, Nat.le_of_ble_eq_true rfl⟩) (ro_preS (hP.sub (ws' := []) [] rfl) hK) rfl rfl hl.1 rfl (lv_room (Nat.le_of_ble_eq_true rfl)) dX0_ragOf_87 ⟨Nat.zero_le _, Nat.zero_le _⟩) hP hS (fun H locs hP hS => ?_)
        refine lv_lload hx hb dX0_ragOf_90 (lv_at hl 2 rfl) ?_
        refine lv_lload hx hb dX0_ragOf_92 (lv_at hl 1 rfl) ?_
        obtain ⟨r_26, hr_26⟩ : ∃ z, z = F_Cloth_spread r_25 (ac &&& (((1 : Int64) <<< (r_1.toInt64 &&& 63)) ^^^ (-1))) (dn &&& (((1 : Int64) <<< (r_1.toInt64 &&& 63)) ^^^ (-1))) := ⟨_, rfl⟩
        rw [bnd_e hr_26] at hres
        refine ro_calll (va_runS (As := [.int r_25, .long (ac &&& (((1 : Int64) <<< (r_1.toInt64 &&& 63)) ^^^ (-1))), .long (dn &&& (((1 : Int64) <<< (r_1.toInt64 &&& 63)) ^^^ (-1)))]) (rest := []) ⟨hx, hb, hml, hown, hts⟩ (c_Cloth_spread l dC dI cI cC cG cZ  r_25 (ac &&& (((1 : Int64) <<< (r_1.toInt64 &&& 63)) ^^^ (-1))) (dn &&& (((1 : Int64) <<< (r_1.toInt64 &&& 63)) ^^^ (-1)))  r_26 hr_26) (va_cwS 3 hts gX0_ragOf_X0_spread rfl rfl rfl (by decide +kernel) ⟨Nat.le_of_ble_eq_true rfl, Nat.le_of_ble_eq_true rfl⟩) (ro_preS (hP.sub (ws' := []) [] rfl) hK) rfl rfl hl.1 rfl (lv_room (Nat.le_of_ble_eq_true rfl)) dX0_ragOf_94 ⟨Nat.zero_le _, Nat.zero_le _⟩) hP hS (fun H locs hP hS => ?_)
        refine lv_lstore (lv' := [(10, .long r_26), (8, .long r_21), (6, .long (dn &&& (((1 : Int64) <<< (r_1.toInt64 &&& 63)) ^^^ (-1)))), (4, .long (ac &&& (((1 : Int64) <<< (r_1.toInt64 &&& 63)) ^^^ (-1)))), (2, .long ((1 : Int64) <<< (r_1.toInt64 &&& 63))), (0, .ref cl), (1, .int joint)]) hx hb dX0_ragOf_97 hl (by decide) rfl (fun ls hl => ?_)
        refine lv_lload hx hb dX0_ragOf_99 (lv_at hl 1 rfl) ?_
        obtain ⟨r_27, hr_27⟩ : ∃ z, z = F_Long_bitCount r_21 := ⟨_, rfl⟩
        rw [bnd_e hr_27] at hres
        refine ro_calli (va_runS (As := [.long r_21]) (rest := []) ⟨hx, hb, hml, hown, hts⟩ (c_Long_bitCount l dC dI cI cC cG cZ  r_21  r_27 hr_27) (va_cwS 1 hts gX0_ragOf_J13_bitCount_95d88 rfl rfl rfl (by decide +kernel) ⟨Nat.le_of_ble_eq_true rfl, Nat.le_of_ble_eq_true rfl⟩) (ro_preS (hP.sub (ws' := []) [] rfl) hK) rfl rfl hl.1 rfl (lv_room (Nat.le_of_ble_eq_true rfl)) dX0_ragOf_101 ⟨Nat.zero_le _, Nat.zero_le _⟩) hP hS (fun H locs hP hS => ?_)
        refine lv_lload hx hb dX0_ragOf_104 (lv_at hl 0 rfl) ?_
        obtain ⟨r_28, hr_28⟩ : ∃ z, z = F_Long_bitCount r_26 := ⟨_, rfl⟩
        rw [bnd_e hr_28] at hres
        refine ro_calli (va_runS (As := [.long r_26]) (rest := [.int r_27]) ⟨hx, hb, hml, hown, hts⟩ (c_Long_bitCount l dC dI cI cC cG cZ  r_26  r_28 hr_28) (va_cwS 1 hts gX0_ragOf_J13_bitCount_95d88 rfl rfl rfl (by decide +kernel) ⟨Nat.le_of_ble_eq_true rfl, Nat.le_of_ble_eq_true rfl⟩) (ro_preS (hP.sub (ws' := []) [] rfl) hK) rfl rfl hl.1 rfl (lv_room (Nat.le_of_ble_eq_true rfl)) dX0_ragOf_106 ⟨Nat.zero_le _, Nat.zero_le _⟩) hP hS (fun H locs hP hS => ?_)
        refine lv_icmp_ge (tgt := 117) hx hb dX0_ragOf_109 (by decide) (fun c_29 => ?_) (fun c_29 => ?_)
        · rw [if_pos c_29] at hres
          refine lv_lload hx hb dX0_ragOf_117 (lv_at hl 0 rfl) ?_
          refine lv_lstore (lv' := [(12, .long r_26), (10, .long r_26), (8, .long r_21), (6, .long (dn &&& (((1 : Int64) <<< (r_1.toInt64 &&& 63)) ^^^ (-1)))), (4, .long (ac &&& (((1 : Int64) <<< (r_1.toInt64 &&& 63)) ^^^ (-1)))), (2, .long ((1 : Int64) <<< (r_1.toInt64 &&& 63))), (0, .ref cl), (1, .int joint)]) hx hb dX0_ragOf_119 hl (by decide) rfl (fun ls hl => ?_)
          refine lv_lload hx hb dX0_ragOf_121 (lv_at hl 0 rfl) ?_
          obtain ⟨r_30, hr_30⟩ : ∃ z, z = F_Long_bitCount r_26 := ⟨_, rfl⟩
          rw [bnd_e hr_30] at hres
          refine ro_calli (va_runS (As := [.long r_26]) (rest := []) ⟨hx, hb, hml, hown, hts⟩ (c_Long_bitCount l dC dI cI cC cG cZ  r_26  r_30 hr_30) (va_cwS 1 hts gX0_ragOf_J13_bitCount_95d88 rfl rfl rfl (by decide +kernel) ⟨Nat.le_of_ble_eq_true rfl, Nat.le_of_ble_eq_true rfl⟩) (ro_preS (hP.sub (ws' := []) [] rfl) hK) rfl rfl hl.1 rfl (lv_room (Nat.le_of_ble_eq_true rfl)) dX0_ragOf_123 ⟨Nat.zero_le _, Nat.zero_le _⟩) hP hS (fun H locs hP hS => ?_)
          refine lv_bipush (v := 12) hx hb dX0_ragOf_126 (by decide) ?_
          refine lv_icmp_gt (tgt := 136) hx hb dX0_ragOf_128 (by decide) (fun c_31 => ?_) (fun c_31 => ?_)
          · rw [if_pos c_31] at hres
            refine lv_lconst (v := 0) hx hb dX0_ragOf_136 (by decide) ?_
            exact W.lret (v := 0) hx hb hr (fun t ht hW => ⟨⟨0, (), rfl, hres.symm, trivial⟩, hS.F ht⟩) hS.2.2 dX0_ragOf_137
          · rw [if_neg c_31] at hres
            refine lv_lload hx hb dX0_ragOf_131 (lv_at hl 0 rfl) ?_
            refine lv_goto (tgt := 137) hx hb dX0_ragOf_133 (by decide) ?_
            exact W.lret (v := r_26) hx hb hr (fun t ht hW => ⟨⟨r_26, (), rfl, hres.symm, trivial⟩, hS.F ht⟩) hS.2.2 dX0_ragOf_137
        · rw [if_neg c_29] at hres
          refine lv_lload hx hb dX0_ragOf_112 (lv_at hl 1 rfl) ?_
          refine lv_goto (tgt := 119) hx hb dX0_ragOf_114 (by decide) ?_
          refine lv_lstore (lv' := [(12, .long r_21), (10, .long r_26), (8, .long r_21), (6, .long (dn &&& (((1 : Int64) <<< (r_1.toInt64 &&& 63)) ^^^ (-1)))), (4, .long (ac &&& (((1 : Int64) <<< (r_1.toInt64 &&& 63)) ^^^ (-1)))), (2, .long ((1 : Int64) <<< (r_1.toInt64 &&& 63))), (0, .ref cl), (1, .int joint)]) hx hb dX0_ragOf_119 hl (by decide) rfl (fun ls hl => ?_)
          refine lv_lload hx hb dX0_ragOf_121 (lv_at hl 0 rfl) ?_
          obtain ⟨r_32, hr_32⟩ : ∃ z, z = F_Long_bitCount r_21 := ⟨_, rfl⟩
          rw [bnd_e hr_32] at hres
          refine ro_calli (va_runS (As := [.long r_21]) (rest := []) ⟨hx, hb, hml, hown, hts⟩ (c_Long_bitCount l dC dI cI cC cG cZ  r_21  r_32 hr_32) (va_cwS 1 hts gX0_ragOf_J13_bitCount_95d88 rfl rfl rfl (by decide +kernel) ⟨Nat.le_of_ble_eq_true rfl, Nat.le_of_ble_eq_true rfl⟩) (ro_preS (hP.sub (ws' := []) [] rfl) hK) rfl rfl hl.1 rfl (lv_room (Nat.le_of_ble_eq_true rfl)) dX0_ragOf_123 ⟨Nat.zero_le _, Nat.zero_le _⟩) hP hS (fun H locs hP hS => ?_)
          refine lv_bipush (v := 12) hx hb dX0_ragOf_126 (by decide) ?_
          refine lv_icmp_gt (tgt := 136) hx hb dX0_ragOf_128 (by decide) (fun c_33 => ?_) (fun c_33 => ?_)
          · rw [if_pos c_33] at hres
            refine lv_lconst (v := 0) hx hb dX0_ragOf_136 (by decide) ?_
            exact W.lret (v := 0) hx hb hr (fun t ht hW => ⟨⟨0, (), rfl, hres.symm, trivial⟩, hS.F ht⟩) hS.2.2 dX0_ragOf_137
          · rw [if_neg c_33] at hres
            refine lv_lload hx hb dX0_ragOf_131 (lv_at hl 0 rfl) ?_
            refine lv_goto (tgt := 137) hx hb dX0_ragOf_133 (by decide) ?_
            exact W.lret (v := r_21) hx hb hr (fun t ht hW => ⟨⟨r_21, (), rfl, hres.symm, trivial⟩, hS.F ht⟩) hS.2.2 dX0_ragOf_137
      · rw [if_neg c_24] at hres
        refine lv_lconst (v := 0) hx hb dX0_ragOf_84 (by decide) ?_
        exact W.lret (v := 0) hx hb hr (fun t ht hW => ⟨⟨0, (), rfl, hres.symm, trivial⟩, hS.F ht⟩) hS.2.2 dX0_ragOf_85
  · rw [if_neg c_3] at hres
    refine lv_aload_n hx hb dX0_ragOf_14 rfl (lv_at hl 1 rfl) ?_
    refine va_get (D := (dC, dI)) (ci := 0) (v := .long ac) (C := RX0) (T := TX0) (N := 5) hx hb hts iX0_ragOf_X0 hown hK hP 0 rfl rfl 3 (by decide) (hts (.fieldLink RX0 26 "TailorChalks$Cloth" "heldAcross" "J") kX0_ragOf_26) (fun _ h9 => h9) rfl dX0_ragOf_15 ?_
    refine lv_goto (tgt := 31) hx hb dX0_ragOf_18 (by decide) ?_
    refine lv_lstore (lv' := [(4, .long ac), (2, .long ((1 : Int64) <<< (r_1.toInt64 &&& 63))), (0, .ref cl), (1, .int joint)]) hx hb dX0_ragOf_31 hl (by decide) rfl (fun ls hl => ?_)
    refine lv_iload_n hx hb dX0_ragOf_33 rfl (lv_at hl 3 rfl) ?_
    obtain ⟨r_34, hr_34⟩ : ∃ z, z = F_Cloth_isDown joint := ⟨_, rfl⟩
    rw [bnd_e hr_34] at hres
    refine ro_calli (va_runS (As := [.int joint]) (rest := []) ⟨hx, hb, hml, hown, hts⟩ (c_Cloth_isDown l dC dI cI cC cG cZ  joint  r_34 hr_34) (va_cwS 1 hts gX0_ragOf_X0_isDown rfl rfl rfl (by decide +kernel) ⟨Nat.le_of_ble_eq_true rfl, Nat.le_of_ble_eq_true rfl⟩) (ro_preS (hP.sub (ws' := []) [] rfl) hK) rfl rfl hl.1 rfl (lv_room (Nat.le_of_ble_eq_true rfl)) dX0_ragOf_34 ⟨Nat.zero_le _, Nat.zero_le _⟩) hP hS (fun H locs hP hS => ?_)
    refine lv_if_eq (tgt := 53) hx hb dX0_ragOf_37 (by decide) (fun c_35 => ?_) (fun c_35 => ?_)
    · rw [if_pos c_35] at hres
      refine lv_aload_n hx hb dX0_ragOf_53 rfl (lv_at hl 2 rfl) ?_
      refine va_get (D := (dC, dI)) (ci := 0) (v := .long dn) (C := RX0) (T := TX0) (N := 5) hx hb hts iX0_ragOf_X0 hown hK hP 0 rfl rfl 4 (by decide) (hts (.fieldLink RX0 29 "TailorChalks$Cloth" "heldDown" "J") kX0_ragOf_29) (fun _ h9 => h9) rfl dX0_ragOf_54 ?_
      refine lv_lstore (lv' := [(6, .long dn), (4, .long ac), (2, .long ((1 : Int64) <<< (r_1.toInt64 &&& 63))), (0, .ref cl), (1, .int joint)]) hx hb dX0_ragOf_57 hl (by decide) rfl (fun ls hl => ?_)
      refine lv_iload_n hx hb dX0_ragOf_59 rfl (lv_at hl 4 rfl) ?_
      obtain ⟨r_36, hr_36⟩ : ∃ z, z = F_Cloth_firstCell joint := ⟨_, rfl⟩
      rw [bnd_e hr_36] at hres
      refine ro_calli (va_runS (As := [.int joint]) (rest := []) ⟨hx, hb, hml, hown, hts⟩ (c_Cloth_firstCell l dC dI cI cC cG cZ  joint  r_36 hr_36) (va_cwS 1 hts gX0_ragOf_X0_firstCell rfl rfl rfl (by decide +kernel) ⟨Nat.le_of_ble_eq_true rfl, Nat.le_of_ble_eq_true rfl⟩) (ro_preS (hP.sub (ws' := []) [] rfl) hK) rfl rfl hl.1 rfl (lv_room (Nat.le_of_ble_eq_true rfl)) dX0_ragOf_60 ⟨Nat.zero_le _, Nat.zero_le _⟩) hP hS (fun H locs hP hS => ?_)
      refine lv_lload hx hb dX0_ragOf_63 (lv_at hl 1 rfl) ?_
      refine lv_lload hx hb dX0_ragOf_65 (lv_at hl 0 rfl) ?_
      obtain ⟨r_37, hr_37⟩ : ∃ z, z = F_Cloth_spread r_36 ac dn := ⟨_, rfl⟩
      rw [bnd_e hr_37] at hres
      refine ro_calll (va_runS (As := [.int r_36, .long ac, .long dn]) (rest := []) ⟨hx, hb, hml, hown, hts⟩ (c_Cloth_spread l dC dI cI cC cG cZ  r_36 ac dn  r_37 hr_37) (va_cwS 3 hts gX0_ragOf_X0_spread rfl rfl rfl (by decide +kernel) ⟨Nat.le_of_ble_eq_true rfl, Nat.le_of_ble_eq_true rfl⟩) (ro_preS (hP.sub (ws' := []) [] rfl) hK) rfl rfl hl.1 rfl (lv_room (Nat.le_of_ble_eq_true rfl)) dX0_ragOf_67 ⟨Nat.zero_le _, Nat.zero_le _⟩) hP hS (fun H locs hP hS => ?_)
      refine lv_lstore (lv' := [(8, .long r_37), (6, .long dn), (4, .long ac), (2, .long ((1 : Int64) <<< (r_1.toInt64 &&& 63))), (0, .ref cl), (1, .int joint)]) hx hb dX0_ragOf_70 hl (by decide) rfl (fun ls hl => ?_)
      refine lv_lload hx hb dX0_ragOf_72 (lv_at hl 0 rfl) ?_
      refine lv_iload_n hx hb dX0_ragOf_74 rfl (lv_at hl 5 rfl) ?_
      obtain ⟨r_38, hr_38⟩ : ∃ z, z = F_Cloth_secondCell joint := ⟨_, rfl⟩
      rw [bnd_e hr_38] at hres
      refine ro_calli (va_runS (As := [.int joint]) (rest := [.long r_37]) ⟨hx, hb, hml, hown, hts⟩ (c_Cloth_secondCell l dC dI cI cC cG cZ  joint  r_38 hr_38) (va_cwS 1 hts gX0_ragOf_X0_secondCell rfl rfl rfl (by decide +kernel) ⟨Nat.le_of_ble_eq_true rfl, Nat.le_of_ble_eq_true rfl⟩) (ro_preS (hP.sub (ws' := []) [] rfl) hK) rfl rfl hl.1 rfl (lv_room (Nat.le_of_ble_eq_true rfl)) dX0_ragOf_75 ⟨Nat.zero_le _, Nat.zero_le _⟩) hP hS (fun H locs hP hS => ?_)
      obtain ⟨r_39, hr_39⟩ : ∃ z, z = F_Cloth_has r_37 r_38 := ⟨_, rfl⟩
      rw [bnd_e hr_39] at hres
      refine ro_calli (va_runS (As := [.long r_37, .int r_38]) (rest := []) ⟨hx, hb, hml, hown, hts⟩ (c_Cloth_has l dC dI cI cC cG cZ  r_37 r_38  r_39 hr_39) (va_cwS 2 hts gX0_ragOf_X0_has rfl rfl rfl (by decide +kernel) ⟨Nat.le_of_ble_eq_true rfl, Nat.le_of_ble_eq_true rfl⟩) (ro_preS (hP.sub (ws' := []) [] rfl) hK) rfl rfl hl.1 rfl (lv_room (Nat.le_of_ble_eq_true rfl)) dX0_ragOf_78 ⟨Nat.zero_le _, Nat.zero_le _⟩) hP hS (fun H locs hP hS => ?_)
      refine lv_if_eq (tgt := 86) hx hb dX0_ragOf_81 (by decide) (fun c_40 => ?_) (fun c_40 => ?_)
      · rw [if_pos c_40] at hres
        refine lv_iload_n hx hb dX0_ragOf_86 rfl (lv_at hl 5 rfl) ?_
        obtain ⟨r_41, hr_41⟩ : ∃ z, z = F_Cloth_secondCell joint := ⟨_, rfl⟩
        rw [bnd_e hr_41] at hres
        refine ro_calli (va_runS (As := [.int joint]) (rest := []) ⟨hx, hb, hml, hown, hts⟩ (c_Cloth_secondCell l dC dI cI cC cG cZ  joint  r_41 hr_41) (va_cwS 1 hts gX0_ragOf_X0_secondCell rfl rfl rfl (by decide +kernel) ⟨Nat.le_of_ble_eq_true rfl, Nat.le_of_ble_eq_true rfl⟩) (ro_preS (hP.sub (ws' := []) [] rfl) hK) rfl rfl hl.1 rfl (lv_room (Nat.le_of_ble_eq_true rfl)) dX0_ragOf_87 ⟨Nat.zero_le _, Nat.zero_le _⟩) hP hS (fun H locs hP hS => ?_)
        refine lv_lload hx hb dX0_ragOf_90 (lv_at hl 2 rfl) ?_
        refine lv_lload hx hb dX0_ragOf_92 (lv_at hl 1 rfl) ?_
        obtain ⟨r_42, hr_42⟩ : ∃ z, z = F_Cloth_spread r_41 ac dn := ⟨_, rfl⟩
        rw [bnd_e hr_42] at hres
        refine ro_calll (va_runS (As := [.int r_41, .long ac, .long dn]) (rest := []) ⟨hx, hb, hml, hown, hts⟩ (c_Cloth_spread l dC dI cI cC cG cZ  r_41 ac dn  r_42 hr_42) (va_cwS 3 hts gX0_ragOf_X0_spread rfl rfl rfl (by decide +kernel) ⟨Nat.le_of_ble_eq_true rfl, Nat.le_of_ble_eq_true rfl⟩) (ro_preS (hP.sub (ws' := []) [] rfl) hK) rfl rfl hl.1 rfl (lv_room (Nat.le_of_ble_eq_true rfl)) dX0_ragOf_94 ⟨Nat.zero_le _, Nat.zero_le _⟩) hP hS (fun H locs hP hS => ?_)
        refine lv_lstore (lv' := [(10, .long r_42), (8, .long r_37), (6, .long dn), (4, .long ac), (2, .long ((1 : Int64) <<< (r_1.toInt64 &&& 63))), (0, .ref cl), (1, .int joint)]) hx hb dX0_ragOf_97 hl (by decide) rfl (fun ls hl => ?_)
        refine lv_lload hx hb dX0_ragOf_99 (lv_at hl 1 rfl) ?_
        obtain ⟨r_43, hr_43⟩ : ∃ z, z = F_Long_bitCount r_37 := ⟨_, rfl⟩
        rw [bnd_e hr_43] at hres
        refine ro_calli (va_runS (As := [.long r_37]) (rest := []) ⟨hx, hb, hml, hown, hts⟩ (c_Long_bitCount l dC dI cI cC cG cZ  r_37  r_43 hr_43) (va_cwS 1 hts gX0_ragOf_J13_bitCount_95d88 rfl rfl rfl (by decide +kernel) ⟨Nat.le_of_ble_eq_true rfl, Nat.le_of_ble_eq_true rfl⟩) (ro_preS (hP.sub (ws' := []) [] rfl) hK) rfl rfl hl.1 rfl (lv_room (Nat.le_of_ble_eq_true rfl)) dX0_ragOf_101 ⟨Nat.zero_le _, Nat.zero_le _⟩) hP hS (fun H locs hP hS => ?_)
        refine lv_lload hx hb dX0_ragOf_104 (lv_at hl 0 rfl) ?_
        obtain ⟨r_44, hr_44⟩ : ∃ z, z = F_Long_bitCount r_42 := ⟨_, rfl⟩
        rw [bnd_e hr_44] at hres
        refine ro_calli (va_runS (As := [.long r_42]) (rest := [.int r_43]) ⟨hx, hb, hml, hown, hts⟩ (c_Long_bitCount l dC dI cI cC cG cZ  r_42  r_44 hr_44) (va_cwS 1 hts gX0_ragOf_J13_bitCount_95d88 rfl rfl rfl (by decide +kernel) ⟨Nat.le_of_ble_eq_true rfl, Nat.le_of_ble_eq_true rfl⟩) (ro_preS (hP.sub (ws' := []) [] rfl) hK) rfl rfl hl.1 rfl (lv_room (Nat.le_of_ble_eq_true rfl)) dX0_ragOf_106 ⟨Nat.zero_le _, Nat.zero_le _⟩) hP hS (fun H locs hP hS => ?_)
        refine lv_icmp_ge (tgt := 117) hx hb dX0_ragOf_109 (by decide) (fun c_45 => ?_) (fun c_45 => ?_)
        · rw [if_pos c_45] at hres
          refine lv_lload hx hb dX0_ragOf_117 (lv_at hl 0 rfl) ?_
          refine lv_lstore (lv' := [(12, .long r_42), (10, .long r_42), (8, .long r_37), (6, .long dn), (4, .long ac), (2, .long ((1 : Int64) <<< (r_1.toInt64 &&& 63))), (0, .ref cl), (1, .int joint)]) hx hb dX0_ragOf_119 hl (by decide) rfl (fun ls hl => ?_)
          refine lv_lload hx hb dX0_ragOf_121 (lv_at hl 0 rfl) ?_
          obtain ⟨r_46, hr_46⟩ : ∃ z, z = F_Long_bitCount r_42 := ⟨_, rfl⟩
          rw [bnd_e hr_46] at hres
          refine ro_calli (va_runS (As := [.long r_42]) (rest := []) ⟨hx, hb, hml, hown, hts⟩ (c_Long_bitCount l dC dI cI cC cG cZ  r_42  r_46 hr_46) (va_cwS 1 hts gX0_ragOf_J13_bitCount_95d88 rfl rfl rfl (by decide +kernel) ⟨Nat.le_of_ble_eq_true rfl, Nat.le_of_ble_eq_true rfl⟩) (ro_preS (hP.sub (ws' := []) [] rfl) hK) rfl rfl hl.1 rfl (lv_room (Nat.le_of_ble_eq_true rfl)) dX0_ragOf_123 ⟨Nat.zero_le _, Nat.zero_le _⟩) hP hS (fun H locs hP hS => ?_)
          refine lv_bipush (v := 12) hx hb dX0_ragOf_126 (by decide) ?_
          refine lv_icmp_gt (tgt := 136) hx hb dX0_ragOf_128 (by decide) (fun c_47 => ?_) (fun c_47 => ?_)
          · rw [if_pos c_47] at hres
            refine lv_lconst (v := 0) hx hb dX0_ragOf_136 (by decide) ?_
            exact W.lret (v := 0) hx hb hr (fun t ht hW => ⟨⟨0, (), rfl, hres.symm, trivial⟩, hS.F ht⟩) hS.2.2 dX0_ragOf_137
          · rw [if_neg c_47] at hres
            refine lv_lload hx hb dX0_ragOf_131 (lv_at hl 0 rfl) ?_
            refine lv_goto (tgt := 137) hx hb dX0_ragOf_133 (by decide) ?_
            exact W.lret (v := r_42) hx hb hr (fun t ht hW => ⟨⟨r_42, (), rfl, hres.symm, trivial⟩, hS.F ht⟩) hS.2.2 dX0_ragOf_137
        · rw [if_neg c_45] at hres
          refine lv_lload hx hb dX0_ragOf_112 (lv_at hl 1 rfl) ?_
          refine lv_goto (tgt := 119) hx hb dX0_ragOf_114 (by decide) ?_
          refine lv_lstore (lv' := [(12, .long r_37), (10, .long r_42), (8, .long r_37), (6, .long dn), (4, .long ac), (2, .long ((1 : Int64) <<< (r_1.toInt64 &&& 63))), (0, .ref cl), (1, .int joint)]) hx hb dX0_ragOf_119 hl (by decide) rfl (fun ls hl => ?_)
          refine lv_lload hx hb dX0_ragOf_121 (lv_at hl 0 rfl) ?_
          obtain ⟨r_48, hr_48⟩ : ∃ z, z = F_Long_bitCount r_37 := ⟨_, rfl⟩
          rw [bnd_e hr_48] at hres
          refine ro_calli (va_runS (As := [.long r_37]) (rest := []) ⟨hx, hb, hml, hown, hts⟩ (c_Long_bitCount l dC dI cI cC cG cZ  r_37  r_48 hr_48) (va_cwS 1 hts gX0_ragOf_J13_bitCount_95d88 rfl rfl rfl (by decide +kernel) ⟨Nat.le_of_ble_eq_true rfl, Nat.le_of_ble_eq_true rfl⟩) (ro_preS (hP.sub (ws' := []) [] rfl) hK) rfl rfl hl.1 rfl (lv_room (Nat.le_of_ble_eq_true rfl)) dX0_ragOf_123 ⟨Nat.zero_le _, Nat.zero_le _⟩) hP hS (fun H locs hP hS => ?_)
          refine lv_bipush (v := 12) hx hb dX0_ragOf_126 (by decide) ?_
          refine lv_icmp_gt (tgt := 136) hx hb dX0_ragOf_128 (by decide) (fun c_49 => ?_) (fun c_49 => ?_)
          · rw [if_pos c_49] at hres
            refine lv_lconst (v := 0) hx hb dX0_ragOf_136 (by decide) ?_
            exact W.lret (v := 0) hx hb hr (fun t ht hW => ⟨⟨0, (), rfl, hres.symm, trivial⟩, hS.F ht⟩) hS.2.2 dX0_ragOf_137
          · rw [if_neg c_49] at hres
            refine lv_lload hx hb dX0_ragOf_131 (lv_at hl 0 rfl) ?_
            refine lv_goto (tgt := 137) hx hb dX0_ragOf_133 (by decide) ?_
            exact W.lret (v := r_37) hx hb hr (fun t ht hW => ⟨⟨r_37, (), rfl, hres.symm, trivial⟩, hS.F ht⟩) hS.2.2 dX0_ragOf_137
      · rw [if_neg c_40] at hres
        refine lv_lconst (v := 0) hx hb dX0_ragOf_84 (by decide) ?_
        exact W.lret (v := 0) hx hb hr (fun t ht hW => ⟨⟨0, (), rfl, hres.symm, trivial⟩, hS.F ht⟩) hS.2.2 dX0_ragOf_85
    · rw [if_neg c_35] at hres
      refine lv_aload_n hx hb dX0_ragOf_40 rfl (lv_at hl 2 rfl) ?_
      refine va_get (D := (dC, dI)) (ci := 0) (v := .long dn) (C := RX0) (T := TX0) (N := 5) hx hb hts iX0_ragOf_X0 hown hK hP 0 rfl rfl 4 (by decide) (hts (.fieldLink RX0 29 "TailorChalks$Cloth" "heldDown" "J") kX0_ragOf_29) (fun _ h9 => h9) rfl dX0_ragOf_41 ?_
      refine lv_lload_n hx hb dX0_ragOf_44 rfl (lv_at hl 1 rfl) ?_
      refine lv_ldc2 (v := (-1)) hx hb hown (hts (.constantLong RX0 53 (-1)) (by decide +kernel)) dX0_ragOf_45 ?_
      refine lv_lxor hx hb dX0_ragOf_48 ?_
      refine lv_land hx hb dX0_ragOf_49 ?_
      refine lv_goto (tgt := 57) hx hb dX0_ragOf_50 (by decide) ?_
      refine lv_lstore (lv' := [(6, .long (dn &&& (((1 : Int64) <<< (r_1.toInt64 &&& 63)) ^^^ (-1)))), (4, .long ac), (2, .long ((1 : Int64) <<< (r_1.toInt64 &&& 63))), (0, .ref cl), (1, .int joint)]) hx hb dX0_ragOf_57 hl (by decide) rfl (fun ls hl => ?_)
      refine lv_iload_n hx hb dX0_ragOf_59 rfl (lv_at hl 4 rfl) ?_
      obtain ⟨r_50, hr_50⟩ : ∃ z, z = F_Cloth_firstCell joint := ⟨_, rfl⟩
      rw [bnd_e hr_50] at hres
      refine ro_calli (va_runS (As := [.int joint]) (rest := []) ⟨hx, hb, hml, hown, hts⟩ (c_Cloth_firstCell l dC dI cI cC cG cZ  joint  r_50 hr_50) (va_cwS 1 hts gX0_ragOf_X0_firstCell rfl rfl rfl (by decide +kernel) ⟨Nat.le_of_ble_eq_true rfl, Nat.le_of_ble_eq_true rfl⟩) (ro_preS (hP.sub (ws' := []) [] rfl) hK) rfl rfl hl.1 rfl (lv_room (Nat.le_of_ble_eq_true rfl)) dX0_ragOf_60 ⟨Nat.zero_le _, Nat.zero_le _⟩) hP hS (fun H locs hP hS => ?_)
      refine lv_lload hx hb dX0_ragOf_63 (lv_at hl 1 rfl) ?_
      refine lv_lload hx hb dX0_ragOf_65 (lv_at hl 0 rfl) ?_
      obtain ⟨r_51, hr_51⟩ : ∃ z, z = F_Cloth_spread r_50 ac (dn &&& (((1 : Int64) <<< (r_1.toInt64 &&& 63)) ^^^ (-1))) := ⟨_, rfl⟩
      rw [bnd_e hr_51] at hres
      refine ro_calll (va_runS (As := [.int r_50, .long ac, .long (dn &&& (((1 : Int64) <<< (r_1.toInt64 &&& 63)) ^^^ (-1)))]) (rest := []) ⟨hx, hb, hml, hown, hts⟩ (c_Cloth_spread l dC dI cI cC cG cZ  r_50 ac (dn &&& (((1 : Int64) <<< (r_1.toInt64 &&& 63)) ^^^ (-1)))  r_51 hr_51) (va_cwS 3 hts gX0_ragOf_X0_spread rfl rfl rfl (by decide +kernel) ⟨Nat.le_of_ble_eq_true rfl, Nat.le_of_ble_eq_true rfl⟩) (ro_preS (hP.sub (ws' := []) [] rfl) hK) rfl rfl hl.1 rfl (lv_room (Nat.le_of_ble_eq_true rfl)) dX0_ragOf_67 ⟨Nat.zero_le _, Nat.zero_le _⟩) hP hS (fun H locs hP hS => ?_)
      refine lv_lstore (lv' := [(8, .long r_51), (6, .long (dn &&& (((1 : Int64) <<< (r_1.toInt64 &&& 63)) ^^^ (-1)))), (4, .long ac), (2, .long ((1 : Int64) <<< (r_1.toInt64 &&& 63))), (0, .ref cl), (1, .int joint)]) hx hb dX0_ragOf_70 hl (by decide) rfl (fun ls hl => ?_)
      refine lv_lload hx hb dX0_ragOf_72 (lv_at hl 0 rfl) ?_
      refine lv_iload_n hx hb dX0_ragOf_74 rfl (lv_at hl 5 rfl) ?_
      obtain ⟨r_52, hr_52⟩ : ∃ z, z = F_Cloth_secondCell joint := ⟨_, rfl⟩
      rw [bnd_e hr_52] at hres
      refine ro_calli (va_runS (As := [.int joint]) (rest := [.long r_51]) ⟨hx, hb, hml, hown, hts⟩ (c_Cloth_secondCell l dC dI cI cC cG cZ  joint  r_52 hr_52) (va_cwS 1 hts gX0_ragOf_X0_secondCell rfl rfl rfl (by decide +kernel) ⟨Nat.le_of_ble_eq_true rfl, Nat.le_of_ble_eq_true rfl⟩) (ro_preS (hP.sub (ws' := []) [] rfl) hK) rfl rfl hl.1 rfl (lv_room (Nat.le_of_ble_eq_true rfl)) dX0_ragOf_75 ⟨Nat.zero_le _, Nat.zero_le _⟩) hP hS (fun H locs hP hS => ?_)
      obtain ⟨r_53, hr_53⟩ : ∃ z, z = F_Cloth_has r_51 r_52 := ⟨_, rfl⟩
      rw [bnd_e hr_53] at hres
      refine ro_calli (va_runS (As := [.long r_51, .int r_52]) (rest := []) ⟨hx, hb, hml, hown, hts⟩ (c_Cloth_has l dC dI cI cC cG cZ  r_51 r_52  r_53 hr_53) (va_cwS 2 hts gX0_ragOf_X0_has rfl rfl rfl (by decide +kernel) ⟨Nat.le_of_ble_eq_true rfl, Nat.le_of_ble_eq_true rfl⟩) (ro_preS (hP.sub (ws' := []) [] rfl) hK) rfl rfl hl.1 rfl (lv_room (Nat.le_of_ble_eq_true rfl)) dX0_ragOf_78 ⟨Nat.zero_le _, Nat.zero_le _⟩) hP hS (fun H locs hP hS => ?_)
      refine lv_if_eq (tgt := 86) hx hb dX0_ragOf_81 (by decide) (fun c_54 => ?_) (fun c_54 => ?_)
      · rw [if_pos c_54] at hres
        refine lv_iload_n hx hb dX0_ragOf_86 rfl (lv_at hl 5 rfl) ?_
        obtain ⟨r_55, hr_55⟩ : ∃ z, z = F_Cloth_secondCell joint := ⟨_, rfl⟩
        rw [bnd_e hr_55] at hres
        refine ro_calli (va_runS (As := [.int joint]) (rest := []) ⟨hx, hb, hml, hown, hts⟩ (c_Cloth_secondCell l dC dI cI cC cG cZ  joint  r_55 hr_55) (va_cwS 1 hts gX0_ragOf_X0_secondCell rfl rfl rfl (by decide +kernel) ⟨Nat.le_of_ble_eq_true rfl, Nat.le_of_ble_eq_true rfl⟩) (ro_preS (hP.sub (ws' := []) [] rfl) hK) rfl rfl hl.1 rfl (lv_room (Nat.le_of_ble_eq_true rfl)) dX0_ragOf_87 ⟨Nat.zero_le _, Nat.zero_le _⟩) hP hS (fun H locs hP hS => ?_)
        refine lv_lload hx hb dX0_ragOf_90 (lv_at hl 2 rfl) ?_
        refine lv_lload hx hb dX0_ragOf_92 (lv_at hl 1 rfl) ?_
        obtain ⟨r_56, hr_56⟩ : ∃ z, z = F_Cloth_spread r_55 ac (dn &&& (((1 : Int64) <<< (r_1.toInt64 &&& 63)) ^^^ (-1))) := ⟨_, rfl⟩
        rw [bnd_e hr_56] at hres
        refine ro_calll (va_runS (As := [.int r_55, .long ac, .long (dn &&& (((1 : Int64) <<< (r_1.toInt64 &&& 63)) ^^^ (-1)))]) (rest := []) ⟨hx, hb, hml, hown, hts⟩ (c_Cloth_spread l dC dI cI cC cG cZ  r_55 ac (dn &&& (((1 : Int64) <<< (r_1.toInt64 &&& 63)) ^^^ (-1)))  r_56 hr_56) (va_cwS 3 hts gX0_ragOf_X0_spread rfl rfl rfl (by decide +kernel) ⟨Nat.le_of_ble_eq_true rfl, Nat.le_of_ble_eq_true rfl⟩) (ro_preS (hP.sub (ws' := []) [] rfl) hK) rfl rfl hl.1 rfl (lv_room (Nat.le_of_ble_eq_true rfl)) dX0_ragOf_94 ⟨Nat.zero_le _, Nat.zero_le _⟩) hP hS (fun H locs hP hS => ?_)
        refine lv_lstore (lv' := [(10, .long r_56), (8, .long r_51), (6, .long (dn &&& (((1 : Int64) <<< (r_1.toInt64 &&& 63)) ^^^ (-1)))), (4, .long ac), (2, .long ((1 : Int64) <<< (r_1.toInt64 &&& 63))), (0, .ref cl), (1, .int joint)]) hx hb dX0_ragOf_97 hl (by decide) rfl (fun ls hl => ?_)
        refine lv_lload hx hb dX0_ragOf_99 (lv_at hl 1 rfl) ?_
        obtain ⟨r_57, hr_57⟩ : ∃ z, z = F_Long_bitCount r_51 := ⟨_, rfl⟩
        rw [bnd_e hr_57] at hres
        refine ro_calli (va_runS (As := [.long r_51]) (rest := []) ⟨hx, hb, hml, hown, hts⟩ (c_Long_bitCount l dC dI cI cC cG cZ  r_51  r_57 hr_57) (va_cwS 1 hts gX0_ragOf_J13_bitCount_95d88 rfl rfl rfl (by decide +kernel) ⟨Nat.le_of_ble_eq_true rfl, Nat.le_of_ble_eq_true rfl⟩) (ro_preS (hP.sub (ws' := []) [] rfl) hK) rfl rfl hl.1 rfl (lv_room (Nat.le_of_ble_eq_true rfl)) dX0_ragOf_101 ⟨Nat.zero_le _, Nat.zero_le _⟩) hP hS (fun H locs hP hS => ?_)
        refine lv_lload hx hb dX0_ragOf_104 (lv_at hl 0 rfl) ?_
        obtain ⟨r_58, hr_58⟩ : ∃ z, z = F_Long_bitCount r_56 := ⟨_, rfl⟩
        rw [bnd_e hr_58] at hres
        refine ro_calli (va_runS (As := [.long r_56]) (rest := [.int r_57]) ⟨hx, hb, hml, hown, hts⟩ (c_Long_bitCount l dC dI cI cC cG cZ  r_56  r_58 hr_58) (va_cwS 1 hts gX0_ragOf_J13_bitCount_95d88 rfl rfl rfl (by decide +kernel) ⟨Nat.le_of_ble_eq_true rfl, Nat.le_of_ble_eq_true rfl⟩) (ro_preS (hP.sub (ws' := []) [] rfl) hK) rfl rfl hl.1 rfl (lv_room (Nat.le_of_ble_eq_true rfl)) dX0_ragOf_106 ⟨Nat.zero_le _, Nat.zero_le _⟩) hP hS (fun H locs hP hS => ?_)
        refine lv_icmp_ge (tgt := 117) hx hb dX0_ragOf_109 (by decide) (fun c_59 => ?_) (fun c_59 => ?_)
        · rw [if_pos c_59] at hres
          refine lv_lload hx hb dX0_ragOf_117 (lv_at hl 0 rfl) ?_
          refine lv_lstore (lv' := [(12, .long r_56), (10, .long r_56), (8, .long r_51), (6, .long (dn &&& (((1 : Int64) <<< (r_1.toInt64 &&& 63)) ^^^ (-1)))), (4, .long ac), (2, .long ((1 : Int64) <<< (r_1.toInt64 &&& 63))), (0, .ref cl), (1, .int joint)]) hx hb dX0_ragOf_119 hl (by decide) rfl (fun ls hl => ?_)
          refine lv_lload hx hb dX0_ragOf_121 (lv_at hl 0 rfl) ?_
          obtain ⟨r_60, hr_60⟩ : ∃ z, z = F_Long_bitCount r_56 := ⟨_, rfl⟩
          rw [bnd_e hr_60] at hres
          refine ro_calli (va_runS (As := [.long r_56]) (rest := []) ⟨hx, hb, hml, hown, hts⟩ (c_Long_bitCount l dC dI cI cC cG cZ  r_56  r_60 hr_60) (va_cwS 1 hts gX0_ragOf_J13_bitCount_95d88 rfl rfl rfl (by decide +kernel) ⟨Nat.le_of_ble_eq_true rfl, Nat.le_of_ble_eq_true rfl⟩) (ro_preS (hP.sub (ws' := []) [] rfl) hK) rfl rfl hl.1 rfl (lv_room (Nat.le_of_ble_eq_true rfl)) dX0_ragOf_123 ⟨Nat.zero_le _, Nat.zero_le _⟩) hP hS (fun H locs hP hS => ?_)
          refine lv_bipush (v := 12) hx hb dX0_ragOf_126 (by decide) ?_
          refine lv_icmp_gt (tgt := 136) hx hb dX0_ragOf_128 (by decide) (fun c_61 => ?_) (fun c_61 => ?_)
          · rw [if_pos c_61] at hres
            refine lv_lconst (v := 0) hx hb dX0_ragOf_136 (by decide) ?_
            exact W.lret (v := 0) hx hb hr (fun t ht hW => ⟨⟨0, (), rfl, hres.symm, trivial⟩, hS.F ht⟩) hS.2.2 dX0_ragOf_137
          · rw [if_neg c_61] at hres
            refine lv_lload hx hb dX0_ragOf_131 (lv_at hl 0 rfl) ?_
            refine lv_goto (tgt := 137) hx hb dX0_ragOf_133 (by decide) ?_
            exact W.lret (v := r_56) hx hb hr (fun t ht hW => ⟨⟨r_56, (), rfl, hres.symm, trivial⟩, hS.F ht⟩) hS.2.2 dX0_ragOf_137
        · rw [if_neg c_59] at hres
          refine lv_lload hx hb dX0_ragOf_112 (lv_at hl 1 rfl) ?_
          refine lv_goto (tgt := 119) hx hb dX0_ragOf_114 (by decide) ?_
          refine lv_lstore (lv' := [(12, .long r_51), (10, .long r_56), (8, .long r_51), (6, .long (dn &&& (((1 : Int64) <<< (r_1.toInt64 &&& 63)) ^^^ (-1)))), (4, .long ac), (2, .long ((1 : Int64) <<< (r_1.toInt64 &&& 63))), (0, .ref cl), (1, .int joint)]) hx hb dX0_ragOf_119 hl (by decide) rfl (fun ls hl => ?_)
          refine lv_lload hx hb dX0_ragOf_121 (lv_at hl 0 rfl) ?_
          obtain ⟨r_62, hr_62⟩ : ∃ z, z = F_Long_bitCount r_51 := ⟨_, rfl⟩
          rw [bnd_e hr_62] at hres
          refine ro_calli (va_runS (As := [.long r_51]) (rest := []) ⟨hx, hb, hml, hown, hts⟩ (c_Long_bitCount l dC dI cI cC cG cZ  r_51  r_62 hr_62) (va_cwS 1 hts gX0_ragOf_J13_bitCount_95d88 rfl rfl rfl (by decide +kernel) ⟨Nat.le_of_ble_eq_true rfl, Nat.le_of_ble_eq_true rfl⟩) (ro_preS (hP.sub (ws' := []) [] rfl) hK) rfl rfl hl.1 rfl (lv_room (Nat.le_of_ble_eq_true rfl)) dX0_ragOf_123 ⟨Nat.zero_le _, Nat.zero_le _⟩) hP hS (fun H locs hP hS => ?_)
          refine lv_bipush (v := 12) hx hb dX0_ragOf_126 (by decide) ?_
          refine lv_icmp_gt (tgt := 136) hx hb dX0_ragOf_128 (by decide) (fun c_63 => ?_) (fun c_63 => ?_)
          · rw [if_pos c_63] at hres
            refine lv_lconst (v := 0) hx hb dX0_ragOf_136 (by decide) ?_
            exact W.lret (v := 0) hx hb hr (fun t ht hW => ⟨⟨0, (), rfl, hres.symm, trivial⟩, hS.F ht⟩) hS.2.2 dX0_ragOf_137
          · rw [if_neg c_63] at hres
            refine lv_lload hx hb dX0_ragOf_131 (lv_at hl 0 rfl) ?_
            refine lv_goto (tgt := 137) hx hb dX0_ragOf_133 (by decide) ?_
            exact W.lret (v := r_51) hx hb hr (fun t ht hW => ⟨⟨r_51, (), rfl, hres.symm, trivial⟩, hS.F ht⟩) hS.2.2 dX0_ragOf_137
      · rw [if_neg c_54] at hres
        refine lv_lconst (v := 0) hx hb dX0_ragOf_84 (by decide) ?_
        exact W.lret (v := 0) hx hb hr (fun t ht hW => ⟨⟨0, (), rfl, hres.symm, trivial⟩, hS.F ht⟩) hS.2.2 dX0_ragOf_85
def F_Cloth_weakJoints_L4 (ac : Int64) (dn : Int64) : Nat → Int32 → Int32 → Int32 × Int32
  | 0, x2, x1 => (x2, x1)
  | n + 1, x2, x1 => (if (82 : Int32) ≤ x2 then (x2, x1) else (bnd (F_Cloth_holds x2 ac dn) (fun r_3 => (if r_3 = 0 then (F_Cloth_weakJoints_L4 ac dn n (x2 + 1) x1) else (bnd (F_Cloth_ragOf x2 ac dn) (fun r_5 => (if (lg_cmp r_5 0) = 0 then (F_Cloth_weakJoints_L4 ac dn n (x2 + 1) x1) else (F_Cloth_weakJoints_L4 ac dn n (x2 + 1) (x1 + 1)))))))))
def F_Cloth_weakJoints (ac : Int64) (dn : Int64) : Int32 := (bnd (F_Cloth_weakJoints_L4 ac dn 83 (0 : Int32) (0 : Int32)) (fun q_1 => q_1.2))
set_option maxHeartbeats 4000000 in
set_option maxRecDepth 100000 in
theorem c_Cloth_weakJoints (l : Launch) (dC : Nat → ClassId) (dI : Nat → Nat → Nat) (cI cC cG cZ : ClassId) (cl st mk : Nat) (gn : Int64) (ac : Int64) (dn : Int64) (res : Int32) (hres : res = F_Cloth_weakJoints ac dn) : Met l yX0_weakJoints wsX0_weakJoints ({ frames := 3, cells := 0, slots := 0, locals := 73 }) (va_Pc [.ref cl] (ro_P (dC, dI) vwCl (tyL cI cC cG cZ) [(cl, .inr (0, [.ref st, .ref mk, .long gn, .long ac, .long dn]))])) (va_Qi (fun r (_ : Unit) => r = res) (fun _ _ => True) ro_F) 0 0 ro_F := by
  refine Met.ofW (cc := cX0_weakJoints) (maxL := 3) (ret := (some .int)) (by decide) rfl ?_
  intro p e s m args below meth c s₁ B hml hv
  obtain ⟨rfl, hP, hK⟩ := hv
  have hx := B.exec
  have hb := B.bytes
  have hr := B.returns
  have hts := atoms_spec (ws := wsX0_weakJoints) B.pre
  have hown : s.vm.findClass RX0 = some m.cls := findClass_of_methodNamed B.named
  have hlocks := B.notSynchronized
  have hS : va_S ro_F s.heap s.heap [] := va_S.rf
  have hl := lv_entry ([.ref cl]) (n := 3) (Nat.le_of_ble_eq_true rfl)
  rw [lg_entry_eq]
  generalize (lg_sl ([.ref cl]) ++ List.replicate (3 - (lg_sl ([.ref cl])).length) Slot.unset).toArray = ls at hl ⊢
  have hl : lv_has ls 3 [(0, .ref cl)] := hl
  rw [F_Cloth_weakJoints] at hres
  refine lv_iconst (v := 0) hx hb dX0_weakJoints_0 (by decide) ?_
  refine lv_istore_n (lv' := [(1, .int 0), (0, .ref cl)]) hx hb dX0_weakJoints_1 rfl hl (by decide) rfl (fun ls hl => ?_)
  refine lv_iconst (v := 0) hx hb dX0_weakJoints_2 (by decide) ?_
  refine lv_istore_n (lv' := [(2, .int 0), (1, .int 0), (0, .ref cl)]) hx hb dX0_weakJoints_3 rfl hl (by decide) rfl (fun ls hl => ?_)
  obtain ⟨q_1, hq_1⟩ : ∃ z, z = F_Cloth_weakJoints_L4 ac dn 83 (0 : Int32) (0 : Int32) := ⟨_, rfl⟩
  rw [bnd_e hq_1] at hres
  have hexit4 : ∀ (H : Heap) (locs : List Loc) (ls : Array Slot), va_P (dC, dI) vwCl [(cl, .inr (0, [.ref st, .ref mk, .long gn, .long ac, .long dn]))] H → va_S ro_F s.heap H locs → lv_has ls 3 [(2, .int q_1.1), (1, .int q_1.2), (0, .ref cl)] → W p l e (headSpec wsX0_weakJoints ({ frames := 3, cells := 0, slots := 0, locals := 73 })).room s m ([.ref cl] : List Value).toArray below meth c H locs 0 0 (MQ below (va_Qi (fun r (_ : Unit) => r = res) (fun _ _ => True) ro_F) ([.ref cl] : List Value).toArray s 0 0 ro_F) (F0 m 37 ls []) := by
    intro H locs ls  hP hS hl
    refine lv_iload_n hx hb dX0_weakJoints_37 rfl (lv_at hl 1 rfl) ?_
    exact W.iret (v := q_1.2) hx hb hr (fun t ht hW => ⟨⟨q_1.2, (), rfl, hres.symm, trivial⟩, hS.F ht⟩) hS.2.2 dX0_weakJoints_38
  have hloop4 : ∀ (n k4 : Nat) (x2 : Int32) (x1 : Int32) (H : Heap) (locs : List Loc) (ls : Array Slot), k4 ≤ 82 → 82 - k4 < n → x2 = nI k4 → q_1 = F_Cloth_weakJoints_L4 ac dn n x2 x1 → va_P (dC, dI) vwCl [(cl, .inr (0, [.ref st, .ref mk, .long gn, .long ac, .long dn]))] H → va_S ro_F s.heap H locs → lv_has ls 3 [(2, .int x2), (1, .int x1), (0, .ref cl)] → W p l e (headSpec wsX0_weakJoints ({ frames := 3, cells := 0, slots := 0, locals := 73 })).room s m ([.ref cl] : List Value).toArray below meth c H locs 0 0 (MQ below (va_Qi (fun r (_ : Unit) => r = res) (fun _ _ => True) ro_F) ([.ref cl] : List Value).toArray s 0 0 ro_F) (F0 m 4 ls []) := by
    intro n
    induction n with
    | zero => intro k4 x2 x1 _ _ _ _ hm; exact absurd hm (Nat.not_lt_zero _)
    | succ n ih4 =>
      intro k4 x2 x1 H locs ls hk4 hm4 ex4  hq_1 hP hS hl
      rw [F_Cloth_weakJoints_L4] at hq_1
      refine lv_iload_n hx hb dX0_weakJoints_4 rfl (lv_at hl 0 rfl) ?_
      refine lv_bipush (v := 82) hx hb dX0_weakJoints_5 (by decide) ?_
      refine lv_icmp_ge (tgt := 37) hx hb dX0_weakJoints_7 (by decide) (fun c_2 => ?_) (fun c_2 => ?_)
      · rw [if_pos c_2] at hq_1
        subst hq_1
        exact hexit4 _ _ _  hP hS (lv_sub hl [0, 1, 2] rfl)
      · rw [if_neg c_2] at hq_1
        have hlt_k4 : k4 < 82 := lp_lt rfl ex4 hk4 c_2
        refine lv_aload_n hx hb dX0_weakJoints_10 rfl (lv_at hl 2 rfl) ?_
        refine lv_iload_n hx hb dX0_weakJoints_11 rfl (lv_at hl 0 rfl) ?_
        obtain ⟨r_3, hr_3⟩ : ∃ z, z = F_Cloth_holds x2 ac dn := ⟨_, rfl⟩
        rw [bnd_e hr_3] at hq_1
        refine ro_calli (va_runV (As := [.int x2]) (rest := []) ⟨hx, hb, hml, hown, hts⟩ (c_Cloth_holds l dC dI cI cC cG cZ cl st mk x2 gn ac dn  r_3 hr_3) (cwV 1 hts gX0_weakJoints_X0_holds rfl rfl rfl (by decide +kernel) ⟨Nat.le_of_ble_eq_true rfl, Nat.le_of_ble_eq_true rfl⟩) (ro_preV (hP.sub (ws' := [(cl, .inr (0, [.ref st, .ref mk, .long gn, .long ac, .long dn]))]) [0] rfl) hK (ci := 0) (q0 := 0) rfl rfl) rfl rfl hl.1 rfl (lv_room (Nat.le_of_ble_eq_true rfl)) dX0_weakJoints_12 ⟨Nat.zero_le _, Nat.zero_le _⟩) hP hS (fun H locs hP hS => ?_)
        refine lv_if_eq (tgt := 31) hx hb dX0_weakJoints_15 (by decide) (fun c_4 => ?_) (fun c_4 => ?_)
        · rw [if_pos c_4] at hq_1
          refine lv_iinc (v := (x2 + 1)) (lv' := [(2, .int (x2 + 1)), (1, .int x1), (0, .ref cl)]) hx hb dX0_weakJoints_31 hl (k := 0) rfl rfl (by decide) rfl (fun ls hl => ?_)
          refine lv_goto (tgt := 4) hx hb dX0_weakJoints_34 (by decide) ?_
          exact ih4 (k4 + 1) (x2 + 1) x1 _ _ _ (by omega) (by omega) (by rw [ex4]; exact nI_1 _)  hq_1 hP hS (lv_sub hl [0, 1, 2] rfl)
        · rw [if_neg c_4] at hq_1
          refine lv_aload_n hx hb dX0_weakJoints_18 rfl (lv_at hl 2 rfl) ?_
          refine lv_iload_n hx hb dX0_weakJoints_19 rfl (lv_at hl 0 rfl) ?_
          obtain ⟨r_5, hr_5⟩ : ∃ z, z = F_Cloth_ragOf x2 ac dn := ⟨_, rfl⟩
          rw [bnd_e hr_5] at hq_1
          refine ro_calll (va_runV (As := [.int x2]) (rest := []) ⟨hx, hb, hml, hown, hts⟩ (c_Cloth_ragOf l dC dI cI cC cG cZ cl st mk x2 gn ac dn  r_5 hr_5) (cwV 1 hts gX0_weakJoints_X0_ragOf rfl rfl rfl (by decide +kernel) ⟨Nat.le_of_ble_eq_true rfl, Nat.le_of_ble_eq_true rfl⟩) (ro_preV (hP.sub (ws' := [(cl, .inr (0, [.ref st, .ref mk, .long gn, .long ac, .long dn]))]) [0] rfl) hK (ci := 0) (q0 := 0) rfl rfl) rfl rfl hl.1 rfl (lv_room (Nat.le_of_ble_eq_true rfl)) dX0_weakJoints_20 ⟨Nat.zero_le _, Nat.zero_le _⟩) hP hS (fun H locs hP hS => ?_)
          refine lv_lconst (v := 0) hx hb dX0_weakJoints_23 (by decide) ?_
          refine W.lcmp hx hb dX0_weakJoints_24 ?_
          refine lv_if_eq (tgt := 31) hx hb dX0_weakJoints_25 (by decide) (fun c_6 => ?_) (fun c_6 => ?_)
          · rw [if_pos c_6] at hq_1
            refine lv_iinc (v := (x2 + 1)) (lv' := [(2, .int (x2 + 1)), (1, .int x1), (0, .ref cl)]) hx hb dX0_weakJoints_31 hl (k := 0) rfl rfl (by decide) rfl (fun ls hl => ?_)
            refine lv_goto (tgt := 4) hx hb dX0_weakJoints_34 (by decide) ?_
            exact ih4 (k4 + 1) (x2 + 1) x1 _ _ _ (by omega) (by omega) (by rw [ex4]; exact nI_1 _)  hq_1 hP hS (lv_sub hl [0, 1, 2] rfl)
          · rw [if_neg c_6] at hq_1
            refine lv_iinc (v := (x1 + 1)) (lv' := [(1, .int (x1 + 1)), (2, .int x2), (0, .ref cl)]) hx hb dX0_weakJoints_28 hl (k := 1) rfl rfl (by decide) rfl (fun ls hl => ?_)
            refine lv_iinc (v := (x2 + 1)) (lv' := [(2, .int (x2 + 1)), (1, .int (x1 + 1)), (0, .ref cl)]) hx hb dX0_weakJoints_31 hl (k := 1) rfl rfl (by decide) rfl (fun ls hl => ?_)
            refine lv_goto (tgt := 4) hx hb dX0_weakJoints_34 (by decide) ?_
            exact ih4 (k4 + 1) (x2 + 1) (x1 + 1) _ _ _ (by omega) (by omega) (by rw [ex4]; exact nI_1 _)  hq_1 hP hS (lv_sub hl [0, 1, 2] rfl)
  exact hloop4 83 0 (0 : Int32) (0 : Int32) _ _ _ (by omega) (by omega) nI_0.symm  hq_1 hP hS (lv_sub hl [0, 1, 2] rfl)
