-- calls out of the law: of the object, of the reference
section LWC
variable {p : Program} {l : Launch} {e : Env} {R : Room} {s : State} {m : MethodId} {args : Array Value} {below : List Frame} {meth : Method} {c : Code} {H : Heap} {locs : List Loc} {cells slots : Nat} {Q : State → Prop}
variable {pc : Nat} {ls : Array Slot} {rest st0 : List Value} {a : Array Value} {A0 : Nat → Prop} {H0 : Heap} {dC : Nat → ClassId} {dI : Nat → Nat → Nat} {cI cC cG cZ : ClassId} {ad pa : Nat → Nat → Nat} {mo : Nat → Nat} {x x1 : XS} {y y1 : MST}
theorem lw_x {res : Int32} (hr : va_Run p l e R s m args below meth c H locs cells slots 0 0 (F0 m pc ls st0) rest (bQi (dC, dI) vwCl res (fun pa => xW cI cC cG ad pa x1) (bA (xW cI cC cG ad pa x)) a) (bA (xW cI cC cG ad pa x))) (hP : bP (dC, dI) vwCl (xW cI cC cG ad pa x ++ mW cI cZ mo y) H) (hD : bD A0 (xW cI cC cG ad pa x ++ mW cI cZ mo y)) (hS : va_S A0 H0 H locs)
    (kk : ∀ (H1 : Heap) (locs1 : List Loc) (pa : Nat → Nat → Nat), bP (dC, dI) vwCl (xW cI cC cG ad pa x1 ++ mW cI cZ mo y) H1 → bD A0 (xW cI cC cG ad pa x1 ++ mW cI cZ mo y) → va_S A0 H0 H1 locs1 → W p l e R s m args below meth c H1 locs1 cells slots Q (F0 m (pc + 3) ls (.int res :: rest))) : W p l e R s m args below meth c H locs cells slots Q (F0 m pc ls st0) :=
  b_parti (is := [0, 1, 2, 3, 4, 5, 6, 7, 8, 9, 10, 11, 12, 13, 14, 15, 16, 17, 18, 19, 20, 21, 22, 23, 24, 25, 26]) (isR := [27, 28, 29, 30, 31, 32, 33, 34]) (Rs := mW cI cZ mo y) hr hP hD hS rfl rfl (by decide) (by decide) kk
theorem lw_m {res : Int32} (hr : va_Run p l e R s m args below meth c H locs cells slots 0 0 (F0 m pc ls st0) rest (bQi (dC, dI) vwCl res (fun _ => mW cI cZ mo y1) (bA (mW cI cZ mo y)) a) (bA (mW cI cZ mo y))) (hP : bP (dC, dI) vwCl (xW cI cC cG ad pa x ++ mW cI cZ mo y) H) (hD : bD A0 (xW cI cC cG ad pa x ++ mW cI cZ mo y)) (hS : va_S A0 H0 H locs)
    (kk : ∀ (H1 : Heap) (locs1 : List Loc), bP (dC, dI) vwCl (xW cI cC cG ad pa x ++ mW cI cZ mo y1) H1 → bD A0 (xW cI cC cG ad pa x ++ mW cI cZ mo y1) → va_S A0 H0 H1 locs1 → W p l e R s m args below meth c H1 locs1 cells slots Q (F0 m (pc + 3) ls (.int res :: rest))) : W p l e R s m args below meth c H locs cells slots Q (F0 m pc ls st0) :=
  b_parti (is := [27, 28, 29, 30, 31, 32, 33, 34]) (isR := [0, 1, 2, 3, 4, 5, 6, 7, 8, 9, 10, 11, 12, 13, 14, 15, 16, 17, 18, 19, 20, 21, 22, 23, 24, 25, 26]) (Rs := xW cI cC cG ad pa x) hr hP hD hS rfl rfl (by decide) (by decide) (fun H1 locs1 _ hP1 hD1 hS1 => kk H1 locs1 (hP1.sub [8, 9, 10, 11, 12, 13, 14, 15, 16, 17, 18, 19, 20, 21, 22, 23, 24, 25, 26, 27, 28, 29, 30, 31, 32, 33, 34, 0, 1, 2, 3, 4, 5, 6, 7] rfl) (hD1.sub [8, 9, 10, 11, 12, 13, 14, 15, 16, 17, 18, 19, 20, 21, 22, 23, 24, 25, 26, 27, 28, 29, 30, 31, 32, 33, 34, 0, 1, 2, 3, 4, 5, 6, 7] (by decide) rfl) hS1)
theorem lw_preX {As : List Value} (hP : bP (dC, dI) vwCl (xW cI cC cG ad pa x ++ mW cI cZ mo y) H) (hK : va_K (dC, dI) vwCl (tyL cI cC cG cZ) s) (hD : bD A0 (xW cI cC cG ad pa x ++ mW cI cZ mo y)) : PreV s H RX6 (ad 0 0) (va_Pc (.ref (ad 0 0) :: As) (b_Pre (dC, dI) vwCl (tyL cI cC cG cZ) (xW cI cC cG ad pa x))) As :=
  b_preV (hP.sub (Cs := xW cI cC cG ad pa x) [0, 1, 2, 3, 4, 5, 6, 7, 8, 9, 10, 11, 12, 13, 14, 15, 16, 17, 18, 19, 20, 21, 22, 23, 24, 25, 26] rfl) hK (hD.sub (Cs := xW cI cC cG ad pa x) [0, 1, 2, 3, 4, 5, 6, 7, 8, 9, 10, 11, 12, 13, 14, 15, 16, 17, 18, 19, 20, 21, 22, 23, 24, 25, 26] (by decide) rfl) (ci := 6) (i0 := 0) (q0 := 0) rfl rfl rfl
theorem lw_preM {As : List Value} (hP : bP (dC, dI) vwCl (xW cI cC cG ad pa x ++ mW cI cZ mo y) H) (hK : va_K (dC, dI) vwCl (tyL cI cC cG cZ) s) (hD : bD A0 (xW cI cC cG ad pa x ++ mW cI cZ mo y)) : PreV s H RX7 (mo 0) (va_Pc (.ref (mo 0) :: As) (b_Pre (dC, dI) vwCl (tyL cI cC cG cZ) (mW cI cZ mo y))) As :=
  b_preV (hP.sub (Cs := mW cI cZ mo y) [27, 28, 29, 30, 31, 32, 33, 34] rfl) hK (hD.sub (Cs := mW cI cZ mo y) [27, 28, 29, 30, 31, 32, 33, 34] (by decide) rfl) (ci := 7) (i0 := 0) (q0 := 0) rfl rfl rfl
end LWC
theorem sc_in {n L : Nat} {k : Int32} {q : Nat} (hk : k = nI q) (hq : q ≤ 3) (hn : n + 4 ≤ L) (hL : L ≤ 2048) : vp_in (nI n + k) L := by
  rw [hk, nI_add]
  exact vp_in_nI (by omega) (by omega)
theorem sc_in0 {n L : Nat} (hn : n + 4 ≤ L) (hL : L ≤ 2048) : vp_in (nI n) L := vp_in_nI (by omega) (by omega)
theorem lL_go {n L : Nat} (hL : L ≤ 2048) (hn : n ≤ 4000) (c : ¬ (Int32.ofNat L - 4 < nI n)) : n + 4 ≤ L := by
  rcases Nat.lt_or_ge L 4 with h1 | h1
  · exact absurd (Int32.lt_of_lt_of_le (pk_sneg (a := L) (b := 4) (by decide) h1) (nI_pos' (by omega))) c
  · have e : Int32.ofNat L - 4 = nI (L - 4) := pk_sub (a := L) (b := 4) h1
    rw [e] at c
    refine Nat.le_of_not_lt fun h => c ((nI_ltI (by omega) (by omega)).mpr (by omega))
set_option maxHeartbeats 4000000 in
set_option maxRecDepth 100000 in
theorem case_0 {p : Program} {e : Env} {s : State} {m : MethodId} {below : List Frame} {meth : Method} {c : Code} (l : Launch) {b L : Nat} {xs : Nat → Int32} {A : Nat → Prop} (hx : p.tables.exec = Jvm.exec) (hb : c.code = code) (hr : meth.sig.returnType = ret) (hml : c.maxLocals = 4) (hown : s.vm.findClass RL = some m.cls) (hts : ∀ w ∈ wsL_law, w.before #[Value.ref b] s = true) (hX : va_X b L xs s s.heap) (hbl : b < s.heap.size) (hbA : ¬ A b) (dC : Nat → ClassId) (dI : Nat → Nat → Nat) (cI cC cG cZ : ClassId) (ad : Nat → Nat → Nat) (mo : Nat → Nat) (hK : va_K (dC, dI) vwCl (tyL cI cC cG cZ) s) (hL : L ≤ 2048) (n : Nat) (hn : n + 4 ≤ L) (pa : Nat → Nat → Nat) (x : XS) (y : MST) (hR : RS x y) (H : Heap) (locs : List Loc) (ls : Array Slot) (hP : bP (dC, dI) vwCl (xW cI cC cG ad pa x ++ mW cI cZ mo y) H) (hD : bD A (xW cI cC cG ad pa x ++ mW cI cZ mo y)) (hS : va_S A s.heap H locs) (hl : lv_has ls 4 [(3, .int (nI n)), (2, .ref (mo 0)), (1, .ref (ad 0 0)), (0, .ref b)]) (hend : ∀ (H : Heap) (locs : List Loc) (ls : Array Slot) (pa : Nat → Nat → Nat) (x : XS) (y : MST), RS x y → bP (dC, dI) vwCl (xW cI cC cG ad pa x ++ mW cI cZ mo y) H → bD A (xW cI cC cG ad pa x ++ mW cI cZ mo y) → va_S A s.heap H locs → lv_has ls 4 [(3, .int (nI n)), (2, .ref (mo 0)), (1, .ref (ad 0 0)), (0, .ref b)] → W p l e room_1 s m #[Value.ref b] below meth c H locs 600000 7302250 (lw_Z below #[Value.ref b] s) (F0 m 699 ls [])) : W p l e room_1 s m #[Value.ref b] below meth c H locs 600000 7302250 (lw_Z below #[Value.ref b] s) (F0 m 140 ls []) := by
  refine lv_aload_n hx hb dL_law_140 rfl (lv_at hl 2 rfl) ?_
  refine lv_aload_n hx hb dL_law_141 rfl (lv_at hl 3 rfl) ?_
  refine lv_iload_n hx hb dL_law_142 rfl (lv_at hl 0 rfl) ?_
  refine lv_iconst (v := 1) hx hb dL_law_143 (by decide) ?_
  refine lv_iadd hx hb dL_law_144 ?_
  refine va_sld hx hb hX hbl hbA hS (sc_in (q := 1) rfl (by decide) hn hL) dL_law_145 ?_
  refine lw_x (va_runV (As := [.int (xs (nI n + 1).toNatClampNeg)]) (rest := []) ⟨hx, hb, hml, hown, hts⟩ (cu_TC_chalk l dC dI cI cC cG cZ ad pa x (xs (nI n + 1).toNatClampNeg) (rs_m0 hR) (rs_m1 hR) (rs_k hR) _ rfl) (cwV 1 hts gL_law_X6_chalk rfl rfl rfl (by decide +kernel) ⟨Nat.le_of_ble_eq_true rfl, Nat.le_of_ble_eq_true rfl⟩) (lw_preX hP hK hD) rfl rfl hl.1 rfl (lv_room (Nat.le_of_ble_eq_true rfl)) dL_law_146 ⟨Nat.le_of_ble_eq_true rfl, Nat.le_of_ble_eq_true rfl⟩) hP hD hS (fun H locs pa hP hD hS => ?_)
  refine lv_pop hx hb dL_law_149 rfl ?_
  refine lv_aload_n hx hb dL_law_150 rfl (lv_at hl 1 rfl) ?_
  refine lv_aload_n hx hb dL_law_151 rfl (lv_at hl 3 rfl) ?_
  refine lv_iload_n hx hb dL_law_152 rfl (lv_at hl 0 rfl) ?_
  refine lv_iconst (v := 1) hx hb dL_law_153 (by decide) ?_
  refine lv_iadd hx hb dL_law_154 ?_
  refine va_sld hx hb hX hbl hbA hS (sc_in (q := 1) rfl (by decide) hn hL) dL_law_155 ?_
  refine lw_m (va_runV (As := [.int (xs (nI n + 1).toNatClampNeg)]) (rest := []) ⟨hx, hb, hml, hown, hts⟩ (cu_M_chalk l dC dI cI cC cG cZ mo y (xs (nI n + 1).toNatClampNeg) (rs_MI hR) (rs_kp hR)) (cwV 1 hts gL_law_X7_chalk rfl rfl rfl (by decide +kernel) ⟨Nat.le_of_ble_eq_true rfl, Nat.le_of_ble_eq_true rfl⟩) (lw_preM hP hK hD) rfl rfl hl.1 rfl (lv_room (Nat.le_of_ble_eq_true rfl)) dL_law_156 ⟨Nat.le_of_ble_eq_true rfl, Nat.le_of_ble_eq_true rfl⟩) hP hD hS (fun H locs hP hD hS => ?_)
  refine lv_pop hx hb dL_law_159 rfl ?_
  refine lv_goto (tgt := 699) hx hb dL_law_160 (by decide) ?_
  exact hend _ _ _ pa _ _ (rs_chalk hR) hP hD hS hl
set_option maxHeartbeats 4000000 in
set_option maxRecDepth 100000 in
theorem case_1 {p : Program} {e : Env} {s : State} {m : MethodId} {below : List Frame} {meth : Method} {c : Code} (l : Launch) {b L : Nat} {xs : Nat → Int32} {A : Nat → Prop} (hx : p.tables.exec = Jvm.exec) (hb : c.code = code) (hr : meth.sig.returnType = ret) (hml : c.maxLocals = 4) (hown : s.vm.findClass RL = some m.cls) (hts : ∀ w ∈ wsL_law, w.before #[Value.ref b] s = true) (hX : va_X b L xs s s.heap) (hbl : b < s.heap.size) (hbA : ¬ A b) (dC : Nat → ClassId) (dI : Nat → Nat → Nat) (cI cC cG cZ : ClassId) (ad : Nat → Nat → Nat) (mo : Nat → Nat) (hK : va_K (dC, dI) vwCl (tyL cI cC cG cZ) s) (hL : L ≤ 2048) (n : Nat) (hn : n + 4 ≤ L) (pa : Nat → Nat → Nat) (x : XS) (y : MST) (hR : RS x y) (H : Heap) (locs : List Loc) (ls : Array Slot) (hP : bP (dC, dI) vwCl (xW cI cC cG ad pa x ++ mW cI cZ mo y) H) (hD : bD A (xW cI cC cG ad pa x ++ mW cI cZ mo y)) (hS : va_S A s.heap H locs) (hl : lv_has ls 4 [(3, .int (nI n)), (2, .ref (mo 0)), (1, .ref (ad 0 0)), (0, .ref b)]) (hend : ∀ (H : Heap) (locs : List Loc) (ls : Array Slot) (pa : Nat → Nat → Nat) (x : XS) (y : MST), RS x y → bP (dC, dI) vwCl (xW cI cC cG ad pa x ++ mW cI cZ mo y) H → bD A (xW cI cC cG ad pa x ++ mW cI cZ mo y) → va_S A s.heap H locs → lv_has ls 4 [(3, .int (nI n)), (2, .ref (mo 0)), (1, .ref (ad 0 0)), (0, .ref b)] → W p l e room_1 s m #[Value.ref b] below meth c H locs 600000 7302250 (lw_Z below #[Value.ref b] s) (F0 m 699 ls [])) : W p l e room_1 s m #[Value.ref b] below meth c H locs 600000 7302250 (lw_Z below #[Value.ref b] s) (F0 m 163 ls []) := by
  refine lv_aload_n hx hb dL_law_163 rfl (lv_at hl 2 rfl) ?_
  refine lv_aload_n hx hb dL_law_164 rfl (lv_at hl 3 rfl) ?_
  refine lv_iload_n hx hb dL_law_165 rfl (lv_at hl 0 rfl) ?_
  refine lv_iconst (v := 1) hx hb dL_law_166 (by decide) ?_
  refine lv_iadd hx hb dL_law_167 ?_
  refine va_sld hx hb hX hbl hbA hS (sc_in (q := 1) rfl (by decide) hn hL) dL_law_168 ?_
  refine lw_x (va_runV (As := [.int (xs (nI n + 1).toNatClampNeg)]) (rest := []) ⟨hx, hb, hml, hown, hts⟩ (cu_TC_snip l dC dI cI cC cG cZ ad pa x (xs (nI n + 1).toNatClampNeg) (rs_m0 hR) (rs_m1 hR) (rs_k hR) _ rfl) (cwV 1 hts gL_law_X6_snip rfl rfl rfl (by decide +kernel) ⟨Nat.le_of_ble_eq_true rfl, Nat.le_of_ble_eq_true rfl⟩) (lw_preX hP hK hD) rfl rfl hl.1 rfl (lv_room (Nat.le_of_ble_eq_true rfl)) dL_law_169 ⟨Nat.le_of_ble_eq_true rfl, Nat.le_of_ble_eq_true rfl⟩) hP hD hS (fun H locs pa hP hD hS => ?_)
  refine lv_pop hx hb dL_law_172 rfl ?_
  refine lv_aload_n hx hb dL_law_173 rfl (lv_at hl 1 rfl) ?_
  refine lv_aload_n hx hb dL_law_174 rfl (lv_at hl 3 rfl) ?_
  refine lv_iload_n hx hb dL_law_175 rfl (lv_at hl 0 rfl) ?_
  refine lv_iconst (v := 1) hx hb dL_law_176 (by decide) ?_
  refine lv_iadd hx hb dL_law_177 ?_
  refine va_sld hx hb hX hbl hbA hS (sc_in (q := 1) rfl (by decide) hn hL) dL_law_178 ?_
  refine lw_m (va_runV (As := [.int (xs (nI n + 1).toNatClampNeg)]) (rest := []) ⟨hx, hb, hml, hown, hts⟩ (cu_M_snip l dC dI cI cC cG cZ mo y (xs (nI n + 1).toNatClampNeg) (rs_MI hR) (rs_kp hR)) (cwV 1 hts gL_law_X7_snip rfl rfl rfl (by decide +kernel) ⟨Nat.le_of_ble_eq_true rfl, Nat.le_of_ble_eq_true rfl⟩) (lw_preM hP hK hD) rfl rfl hl.1 rfl (lv_room (Nat.le_of_ble_eq_true rfl)) dL_law_179 ⟨Nat.le_of_ble_eq_true rfl, Nat.le_of_ble_eq_true rfl⟩) hP hD hS (fun H locs hP hD hS => ?_)
  refine lv_pop hx hb dL_law_182 rfl ?_
  refine lv_goto (tgt := 699) hx hb dL_law_183 (by decide) ?_
  exact hend _ _ _ pa _ _ (rs_snip hR) hP hD hS hl
set_option maxHeartbeats 4000000 in
set_option maxRecDepth 100000 in
theorem case_2 {p : Program} {e : Env} {s : State} {m : MethodId} {below : List Frame} {meth : Method} {c : Code} (l : Launch) {b L : Nat} {xs : Nat → Int32} {A : Nat → Prop} (hx : p.tables.exec = Jvm.exec) (hb : c.code = code) (hr : meth.sig.returnType = ret) (hml : c.maxLocals = 4) (hown : s.vm.findClass RL = some m.cls) (hts : ∀ w ∈ wsL_law, w.before #[Value.ref b] s = true) (hX : va_X b L xs s s.heap) (hbl : b < s.heap.size) (hbA : ¬ A b) (dC : Nat → ClassId) (dI : Nat → Nat → Nat) (cI cC cG cZ : ClassId) (ad : Nat → Nat → Nat) (mo : Nat → Nat) (hK : va_K (dC, dI) vwCl (tyL cI cC cG cZ) s) (hL : L ≤ 2048) (n : Nat) (hn : n + 4 ≤ L) (pa : Nat → Nat → Nat) (x : XS) (y : MST) (hR : RS x y) (H : Heap) (locs : List Loc) (ls : Array Slot) (hP : bP (dC, dI) vwCl (xW cI cC cG ad pa x ++ mW cI cZ mo y) H) (hD : bD A (xW cI cC cG ad pa x ++ mW cI cZ mo y)) (hS : va_S A s.heap H locs) (hl : lv_has ls 4 [(3, .int (nI n)), (2, .ref (mo 0)), (1, .ref (ad 0 0)), (0, .ref b)]) (hend : ∀ (H : Heap) (locs : List Loc) (ls : Array Slot) (pa : Nat → Nat → Nat) (x : XS) (y : MST), RS x y → bP (dC, dI) vwCl (xW cI cC cG ad pa x ++ mW cI cZ mo y) H → bD A (xW cI cC cG ad pa x ++ mW cI cZ mo y) → va_S A s.heap H locs → lv_has ls 4 [(3, .int (nI n)), (2, .ref (mo 0)), (1, .ref (ad 0 0)), (0, .ref b)] → W p l e room_1 s m #[Value.ref b] below meth c H locs 600000 7302250 (lw_Z below #[Value.ref b] s) (F0 m 699 ls [])) : W p l e room_1 s m #[Value.ref b] below meth c H locs 600000 7302250 (lw_Z below #[Value.ref b] s) (F0 m 186 ls []) := by
  refine lv_aload_n hx hb dL_law_186 rfl (lv_at hl 2 rfl) ?_
  refine lv_aload_n hx hb dL_law_187 rfl (lv_at hl 3 rfl) ?_
  refine lv_iload_n hx hb dL_law_188 rfl (lv_at hl 0 rfl) ?_
  refine lv_iconst (v := 1) hx hb dL_law_189 (by decide) ?_
  refine lv_iadd hx hb dL_law_190 ?_
  refine va_sld hx hb hX hbl hbA hS (sc_in (q := 1) rfl (by decide) hn hL) dL_law_191 ?_
  refine lw_x (va_runV (As := [.int (xs (nI n + 1).toNatClampNeg)]) (rest := []) ⟨hx, hb, hml, hown, hts⟩ (cu_TC_sew l dC dI cI cC cG cZ ad pa x (xs (nI n + 1).toNatClampNeg) (rs_m0 hR) (rs_m1 hR) (rs_k hR) _ rfl) (cwV 1 hts gL_law_X6_sew rfl rfl rfl (by decide +kernel) ⟨Nat.le_of_ble_eq_true rfl, Nat.le_of_ble_eq_true rfl⟩) (lw_preX hP hK hD) rfl rfl hl.1 rfl (lv_room (Nat.le_of_ble_eq_true rfl)) dL_law_192 ⟨Nat.le_of_ble_eq_true rfl, Nat.le_of_ble_eq_true rfl⟩) hP hD hS (fun H locs pa hP hD hS => ?_)
  refine lv_pop hx hb dL_law_195 rfl ?_
  refine lv_aload_n hx hb dL_law_196 rfl (lv_at hl 1 rfl) ?_
  refine lv_aload_n hx hb dL_law_197 rfl (lv_at hl 3 rfl) ?_
  refine lv_iload_n hx hb dL_law_198 rfl (lv_at hl 0 rfl) ?_
  refine lv_iconst (v := 1) hx hb dL_law_199 (by decide) ?_
  refine lv_iadd hx hb dL_law_200 ?_
  refine va_sld hx hb hX hbl hbA hS (sc_in (q := 1) rfl (by decide) hn hL) dL_law_201 ?_
  refine lw_m (va_runV (As := [.int (xs (nI n + 1).toNatClampNeg)]) (rest := []) ⟨hx, hb, hml, hown, hts⟩ (cu_M_sew l dC dI cI cC cG cZ mo y (xs (nI n + 1).toNatClampNeg) (rs_MI hR) (rs_kp hR)) (cwV 1 hts gL_law_X7_sew rfl rfl rfl (by decide +kernel) ⟨Nat.le_of_ble_eq_true rfl, Nat.le_of_ble_eq_true rfl⟩) (lw_preM hP hK hD) rfl rfl hl.1 rfl (lv_room (Nat.le_of_ble_eq_true rfl)) dL_law_202 ⟨Nat.le_of_ble_eq_true rfl, Nat.le_of_ble_eq_true rfl⟩) hP hD hS (fun H locs hP hD hS => ?_)
  refine lv_pop hx hb dL_law_205 rfl ?_
  refine lv_goto (tgt := 699) hx hb dL_law_206 (by decide) ?_
  exact hend _ _ _ pa _ _ (rs_sew hR) hP hD hS hl
set_option maxHeartbeats 4000000 in
set_option maxRecDepth 100000 in
theorem case_3 {p : Program} {e : Env} {s : State} {m : MethodId} {below : List Frame} {meth : Method} {c : Code} (l : Launch) {b L : Nat} {xs : Nat → Int32} {A : Nat → Prop} (hx : p.tables.exec = Jvm.exec) (hb : c.code = code) (hr : meth.sig.returnType = ret) (hml : c.maxLocals = 4) (hown : s.vm.findClass RL = some m.cls) (hts : ∀ w ∈ wsL_law, w.before #[Value.ref b] s = true) (hX : va_X b L xs s s.heap) (hbl : b < s.heap.size) (hbA : ¬ A b) (dC : Nat → ClassId) (dI : Nat → Nat → Nat) (cI cC cG cZ : ClassId) (ad : Nat → Nat → Nat) (mo : Nat → Nat) (hK : va_K (dC, dI) vwCl (tyL cI cC cG cZ) s) (hL : L ≤ 2048) (n : Nat) (hn : n + 4 ≤ L) (pa : Nat → Nat → Nat) (x : XS) (y : MST) (hR : RS x y) (H : Heap) (locs : List Loc) (ls : Array Slot) (hP : bP (dC, dI) vwCl (xW cI cC cG ad pa x ++ mW cI cZ mo y) H) (hD : bD A (xW cI cC cG ad pa x ++ mW cI cZ mo y)) (hS : va_S A s.heap H locs) (hl : lv_has ls 4 [(3, .int (nI n)), (2, .ref (mo 0)), (1, .ref (ad 0 0)), (0, .ref b)]) (hend : ∀ (H : Heap) (locs : List Loc) (ls : Array Slot) (pa : Nat → Nat → Nat) (x : XS) (y : MST), RS x y → bP (dC, dI) vwCl (xW cI cC cG ad pa x ++ mW cI cZ mo y) H → bD A (xW cI cC cG ad pa x ++ mW cI cZ mo y) → va_S A s.heap H locs → lv_has ls 4 [(3, .int (nI n)), (2, .ref (mo 0)), (1, .ref (ad 0 0)), (0, .ref b)] → W p l e room_1 s m #[Value.ref b] below meth c H locs 600000 7302250 (lw_Z below #[Value.ref b] s) (F0 m 699 ls [])) : W p l e room_1 s m #[Value.ref b] below meth c H locs 600000 7302250 (lw_Z below #[Value.ref b] s) (F0 m 209 ls []) := by
  refine lv_aload_n hx hb dL_law_209 rfl (lv_at hl 2 rfl) ?_
  refine lv_aload_n hx hb dL_law_210 rfl (lv_at hl 3 rfl) ?_
  refine lv_iload_n hx hb dL_law_211 rfl (lv_at hl 0 rfl) ?_
  refine lv_iconst (v := 1) hx hb dL_law_212 (by decide) ?_
  refine lv_iadd hx hb dL_law_213 ?_
  refine va_sld hx hb hX hbl hbA hS (sc_in (q := 1) rfl (by decide) hn hL) dL_law_214 ?_
  refine lw_x (va_runV (As := [.int (xs (nI n + 1).toNatClampNeg)]) (rest := []) ⟨hx, hb, hml, hown, hts⟩ (cu_TC_bluff l dC dI cI cC cG cZ ad pa x (xs (nI n + 1).toNatClampNeg) (rs_m0 hR) (rs_m1 hR) (rs_k hR) _ rfl) (cwV 1 hts gL_law_X6_bluff rfl rfl rfl (by decide +kernel) ⟨Nat.le_of_ble_eq_true rfl, Nat.le_of_ble_eq_true rfl⟩) (lw_preX hP hK hD) rfl rfl hl.1 rfl (lv_room (Nat.le_of_ble_eq_true rfl)) dL_law_215 ⟨Nat.le_of_ble_eq_true rfl, Nat.le_of_ble_eq_true rfl⟩) hP hD hS (fun H locs pa hP hD hS => ?_)
  refine lv_pop hx hb dL_law_218 rfl ?_
  refine lv_aload_n hx hb dL_law_219 rfl (lv_at hl 1 rfl) ?_
  refine lv_aload_n hx hb dL_law_220 rfl (lv_at hl 3 rfl) ?_
  refine lv_iload_n hx hb dL_law_221 rfl (lv_at hl 0 rfl) ?_
  refine lv_iconst (v := 1) hx hb dL_law_222 (by decide) ?_
  refine lv_iadd hx hb dL_law_223 ?_
  refine va_sld hx hb hX hbl hbA hS (sc_in (q := 1) rfl (by decide) hn hL) dL_law_224 ?_
  refine lw_m (va_runV (As := [.int (xs (nI n + 1).toNatClampNeg)]) (rest := []) ⟨hx, hb, hml, hown, hts⟩ (cu_M_bluff l dC dI cI cC cG cZ mo y (xs (nI n + 1).toNatClampNeg) (rs_MI hR) (rs_kp hR)) (cwV 1 hts gL_law_X7_bluff rfl rfl rfl (by decide +kernel) ⟨Nat.le_of_ble_eq_true rfl, Nat.le_of_ble_eq_true rfl⟩) (lw_preM hP hK hD) rfl rfl hl.1 rfl (lv_room (Nat.le_of_ble_eq_true rfl)) dL_law_225 ⟨Nat.le_of_ble_eq_true rfl, Nat.le_of_ble_eq_true rfl⟩) hP hD hS (fun H locs hP hD hS => ?_)
  refine lv_pop hx hb dL_law_228 rfl ?_
  refine lv_goto (tgt := 699) hx hb dL_law_229 (by decide) ?_
  exact hend _ _ _ pa _ _ (rs_bluff hR) hP hD hS hl
set_option maxHeartbeats 4000000 in
set_option maxRecDepth 100000 in
theorem case_4 {p : Program} {e : Env} {s : State} {m : MethodId} {below : List Frame} {meth : Method} {c : Code} (l : Launch) {b L : Nat} {xs : Nat → Int32} {A : Nat → Prop} (hx : p.tables.exec = Jvm.exec) (hb : c.code = code) (hr : meth.sig.returnType = ret) (hml : c.maxLocals = 4) (hown : s.vm.findClass RL = some m.cls) (hts : ∀ w ∈ wsL_law, w.before #[Value.ref b] s = true) (hX : va_X b L xs s s.heap) (hbl : b < s.heap.size) (hbA : ¬ A b) (dC : Nat → ClassId) (dI : Nat → Nat → Nat) (cI cC cG cZ : ClassId) (ad : Nat → Nat → Nat) (mo : Nat → Nat) (hK : va_K (dC, dI) vwCl (tyL cI cC cG cZ) s) (hL : L ≤ 2048) (n : Nat) (hn : n + 4 ≤ L) (pa : Nat → Nat → Nat) (x : XS) (y : MST) (hR : RS x y) (H : Heap) (locs : List Loc) (ls : Array Slot) (hP : bP (dC, dI) vwCl (xW cI cC cG ad pa x ++ mW cI cZ mo y) H) (hD : bD A (xW cI cC cG ad pa x ++ mW cI cZ mo y)) (hS : va_S A s.heap H locs) (hl : lv_has ls 4 [(3, .int (nI n)), (2, .ref (mo 0)), (1, .ref (ad 0 0)), (0, .ref b)]) (hend : ∀ (H : Heap) (locs : List Loc) (ls : Array Slot) (pa : Nat → Nat → Nat) (x : XS) (y : MST), RS x y → bP (dC, dI) vwCl (xW cI cC cG ad pa x ++ mW cI cZ mo y) H → bD A (xW cI cC cG ad pa x ++ mW cI cZ mo y) → va_S A s.heap H locs → lv_has ls 4 [(3, .int (nI n)), (2, .ref (mo 0)), (1, .ref (ad 0 0)), (0, .ref b)] → W p l e room_1 s m #[Value.ref b] below meth c H locs 600000 7302250 (lw_Z below #[Value.ref b] s) (F0 m 699 ls [])) : W p l e room_1 s m #[Value.ref b] below meth c H locs 600000 7302250 (lw_Z below #[Value.ref b] s) (F0 m 232 ls []) := by
  refine lv_aload_n hx hb dL_law_232 rfl (lv_at hl 2 rfl) ?_
  refine lv_aload_n hx hb dL_law_233 rfl (lv_at hl 3 rfl) ?_
  refine lv_iload_n hx hb dL_law_234 rfl (lv_at hl 0 rfl) ?_
  refine lv_iconst (v := 1) hx hb dL_law_235 (by decide) ?_
  refine lv_iadd hx hb dL_law_236 ?_
  refine va_sld hx hb hX hbl hbA hS (sc_in (q := 1) rfl (by decide) hn hL) dL_law_237 ?_
  refine lw_x (va_runV (As := [.int (xs (nI n + 1).toNatClampNeg)]) (rest := []) ⟨hx, hb, hml, hown, hts⟩ (cu_TC_doubt l dC dI cI cC cG cZ ad pa x (xs (nI n + 1).toNatClampNeg) (rs_m0 hR) (rs_m1 hR) (rs_k hR) _ rfl) (cwV 1 hts gL_law_X6_doubt rfl rfl rfl (by decide +kernel) ⟨Nat.le_of_ble_eq_true rfl, Nat.le_of_ble_eq_true rfl⟩) (lw_preX hP hK hD) rfl rfl hl.1 rfl (lv_room (Nat.le_of_ble_eq_true rfl)) dL_law_238 ⟨Nat.le_of_ble_eq_true rfl, Nat.le_of_ble_eq_true rfl⟩) hP hD hS (fun H locs pa hP hD hS => ?_)
  refine lv_pop hx hb dL_law_241 rfl ?_
  refine lv_aload_n hx hb dL_law_242 rfl (lv_at hl 1 rfl) ?_
  refine lv_aload_n hx hb dL_law_243 rfl (lv_at hl 3 rfl) ?_
  refine lv_iload_n hx hb dL_law_244 rfl (lv_at hl 0 rfl) ?_
  refine lv_iconst (v := 1) hx hb dL_law_245 (by decide) ?_
  refine lv_iadd hx hb dL_law_246 ?_
  refine va_sld hx hb hX hbl hbA hS (sc_in (q := 1) rfl (by decide) hn hL) dL_law_247 ?_
  refine lw_m (va_runV (As := [.int (xs (nI n + 1).toNatClampNeg)]) (rest := []) ⟨hx, hb, hml, hown, hts⟩ (cu_M_doubt l dC dI cI cC cG cZ mo y (xs (nI n + 1).toNatClampNeg) (rs_MI hR) (rs_kp hR)) (cwV 1 hts gL_law_X7_doubt rfl rfl rfl (by decide +kernel) ⟨Nat.le_of_ble_eq_true rfl, Nat.le_of_ble_eq_true rfl⟩) (lw_preM hP hK hD) rfl rfl hl.1 rfl (lv_room (Nat.le_of_ble_eq_true rfl)) dL_law_248 ⟨Nat.le_of_ble_eq_true rfl, Nat.le_of_ble_eq_true rfl⟩) hP hD hS (fun H locs hP hD hS => ?_)
  refine lv_pop hx hb dL_law_251 rfl ?_
  refine lv_goto (tgt := 699) hx hb dL_law_252 (by decide) ?_
  exact hend _ _ _ pa _ _ (rs_doubt hR) hP hD hS hl
set_option maxHeartbeats 4000000 in
set_option maxRecDepth 100000 in
theorem case_5 {p : Program} {e : Env} {s : State} {m : MethodId} {below : List Frame} {meth : Method} {c : Code} (l : Launch) {b L : Nat} {xs : Nat → Int32} {A : Nat → Prop} (hx : p.tables.exec = Jvm.exec) (hb : c.code = code) (hr : meth.sig.returnType = ret) (hml : c.maxLocals = 4) (hown : s.vm.findClass RL = some m.cls) (hts : ∀ w ∈ wsL_law, w.before #[Value.ref b] s = true) (hX : va_X b L xs s s.heap) (hbl : b < s.heap.size) (hbA : ¬ A b) (dC : Nat → ClassId) (dI : Nat → Nat → Nat) (cI cC cG cZ : ClassId) (ad : Nat → Nat → Nat) (mo : Nat → Nat) (hK : va_K (dC, dI) vwCl (tyL cI cC cG cZ) s) (hL : L ≤ 2048) (n : Nat) (hn : n + 4 ≤ L) (pa : Nat → Nat → Nat) (x : XS) (y : MST) (hR : RS x y) (H : Heap) (locs : List Loc) (ls : Array Slot) (hP : bP (dC, dI) vwCl (xW cI cC cG ad pa x ++ mW cI cZ mo y) H) (hD : bD A (xW cI cC cG ad pa x ++ mW cI cZ mo y)) (hS : va_S A s.heap H locs) (hl : lv_has ls 4 [(3, .int (nI n)), (2, .ref (mo 0)), (1, .ref (ad 0 0)), (0, .ref b)]) (hend : ∀ (H : Heap) (locs : List Loc) (ls : Array Slot) (pa : Nat → Nat → Nat) (x : XS) (y : MST), RS x y → bP (dC, dI) vwCl (xW cI cC cG ad pa x ++ mW cI cZ mo y) H → bD A (xW cI cC cG ad pa x ++ mW cI cZ mo y) → va_S A s.heap H locs → lv_has ls 4 [(3, .int (nI n)), (2, .ref (mo 0)), (1, .ref (ad 0 0)), (0, .ref b)] → W p l e room_1 s m #[Value.ref b] below meth c H locs 600000 7302250 (lw_Z below #[Value.ref b] s) (F0 m 699 ls [])) : W p l e room_1 s m #[Value.ref b] below meth c H locs 600000 7302250 (lw_Z below #[Value.ref b] s) (F0 m 255 ls []) := by
  refine lv_aload_n hx hb dL_law_255 rfl (lv_at hl 2 rfl) ?_
  refine lw_x (va_runV (As := []) (rest := []) ⟨hx, hb, hml, hown, hts⟩ (cu_TC_pass l dC dI cI cC cG cZ ad pa x  (rs_m0 hR) (rs_m1 hR) (rs_k hR) _ rfl) (cwV 0 hts gL_law_X6_pass rfl rfl rfl (by decide +kernel) ⟨Nat.le_of_ble_eq_true rfl, Nat.le_of_ble_eq_true rfl⟩) (lw_preX hP hK hD) rfl rfl hl.1 rfl (lv_room (Nat.le_of_ble_eq_true rfl)) dL_law_256 ⟨Nat.le_of_ble_eq_true rfl, Nat.le_of_ble_eq_true rfl⟩) hP hD hS (fun H locs pa hP hD hS => ?_)
  refine lv_pop hx hb dL_law_259 rfl ?_
  refine lv_aload_n hx hb dL_law_260 rfl (lv_at hl 1 rfl) ?_
  refine lw_m (va_runV (As := []) (rest := []) ⟨hx, hb, hml, hown, hts⟩ (cu_M_pass l dC dI cI cC cG cZ mo y  (rs_MI hR) (rs_kp hR)) (cwV 0 hts gL_law_X7_pass rfl rfl rfl (by decide +kernel) ⟨Nat.le_of_ble_eq_true rfl, Nat.le_of_ble_eq_true rfl⟩) (lw_preM hP hK hD) rfl rfl hl.1 rfl (lv_room (Nat.le_of_ble_eq_true rfl)) dL_law_261 ⟨Nat.le_of_ble_eq_true rfl, Nat.le_of_ble_eq_true rfl⟩) hP hD hS (fun H locs hP hD hS => ?_)
  refine lv_pop hx hb dL_law_264 rfl ?_
  refine lv_goto (tgt := 699) hx hb dL_law_265 (by decide) ?_
  exact hend _ _ _ pa _ _ (rs_pass hR) hP hD hS hl
set_option maxHeartbeats 4000000 in
set_option maxRecDepth 100000 in
theorem case_6 {p : Program} {e : Env} {s : State} {m : MethodId} {below : List Frame} {meth : Method} {c : Code} (l : Launch) {b L : Nat} {xs : Nat → Int32} {A : Nat → Prop} (hx : p.tables.exec = Jvm.exec) (hb : c.code = code) (hr : meth.sig.returnType = ret) (hml : c.maxLocals = 4) (hown : s.vm.findClass RL = some m.cls) (hts : ∀ w ∈ wsL_law, w.before #[Value.ref b] s = true) (hX : va_X b L xs s s.heap) (hbl : b < s.heap.size) (hbA : ¬ A b) (dC : Nat → ClassId) (dI : Nat → Nat → Nat) (cI cC cG cZ : ClassId) (ad : Nat → Nat → Nat) (mo : Nat → Nat) (hK : va_K (dC, dI) vwCl (tyL cI cC cG cZ) s) (hL : L ≤ 2048) (n : Nat) (hn : n + 4 ≤ L) (pa : Nat → Nat → Nat) (x : XS) (y : MST) (hR : RS x y) (H : Heap) (locs : List Loc) (ls : Array Slot) (hP : bP (dC, dI) vwCl (xW cI cC cG ad pa x ++ mW cI cZ mo y) H) (hD : bD A (xW cI cC cG ad pa x ++ mW cI cZ mo y)) (hS : va_S A s.heap H locs) (hl : lv_has ls 4 [(3, .int (nI n)), (2, .ref (mo 0)), (1, .ref (ad 0 0)), (0, .ref b)]) (hend : ∀ (H : Heap) (locs : List Loc) (ls : Array Slot) (pa : Nat → Nat → Nat) (x : XS) (y : MST), RS x y → bP (dC, dI) vwCl (xW cI cC cG ad pa x ++ mW cI cZ mo y) H → bD A (xW cI cC cG ad pa x ++ mW cI cZ mo y) → va_S A s.heap H locs → lv_has ls 4 [(3, .int (nI n)), (2, .ref (mo 0)), (1, .ref (ad 0 0)), (0, .ref b)] → W p l e room_1 s m #[Value.ref b] below meth c H locs 600000 7302250 (lw_Z below #[Value.ref b] s) (F0 m 699 ls [])) : W p l e room_1 s m #[Value.ref b] below meth c H locs 600000 7302250 (lw_Z below #[Value.ref b] s) (F0 m 268 ls []) := by
  refine lv_aload_n hx hb dL_law_268 rfl (lv_at hl 2 rfl) ?_
  refine lv_aload_n hx hb dL_law_269 rfl (lv_at hl 3 rfl) ?_
  refine lv_iload_n hx hb dL_law_270 rfl (lv_at hl 0 rfl) ?_
  refine lv_iconst (v := 1) hx hb dL_law_271 (by decide) ?_
  refine lv_iadd hx hb dL_law_272 ?_
  refine va_sld hx hb hX hbl hbA hS (sc_in (q := 1) rfl (by decide) hn hL) dL_law_273 ?_
  refine lv_aload_n hx hb dL_law_274 rfl (lv_at hl 3 rfl) ?_
  refine lv_iload_n hx hb dL_law_275 rfl (lv_at hl 0 rfl) ?_
  refine lv_iconst (v := 2) hx hb dL_law_276 (by decide) ?_
  refine lv_iadd hx hb dL_law_277 ?_
  refine va_sld hx hb hX hbl hbA hS (sc_in (q := 2) rfl (by decide) hn hL) dL_law_278 ?_
  refine lw_x (va_runV (As := [.int (xs (nI n + 1).toNatClampNeg), .int (xs (nI n + 2).toNatClampNeg)]) (rest := []) ⟨hx, hb, hml, hown, hts⟩ (cu_TC_of l dC dI cI cC cG cZ ad pa x (xs (nI n + 1).toNatClampNeg) (xs (nI n + 2).toNatClampNeg) (rs_m0 hR) (rs_m1 hR)) (cwV 2 hts gL_law_X6_of rfl rfl rfl (by decide +kernel) ⟨Nat.le_of_ble_eq_true rfl, Nat.le_of_ble_eq_true rfl⟩) (lw_preX hP hK hD) rfl rfl hl.1 rfl (lv_room (Nat.le_of_ble_eq_true rfl)) dL_law_279 ⟨Nat.le_of_ble_eq_true rfl, Nat.le_of_ble_eq_true rfl⟩) hP hD hS (fun H locs pa hP hD hS => ?_)
  refine lv_pop hx hb dL_law_282 rfl ?_
  refine lv_aload_n hx hb dL_law_283 rfl (lv_at hl 1 rfl) ?_
  refine lv_aload_n hx hb dL_law_284 rfl (lv_at hl 3 rfl) ?_
  refine lv_iload_n hx hb dL_law_285 rfl (lv_at hl 0 rfl) ?_
  refine lv_iconst (v := 1) hx hb dL_law_286 (by decide) ?_
  refine lv_iadd hx hb dL_law_287 ?_
  refine va_sld hx hb hX hbl hbA hS (sc_in (q := 1) rfl (by decide) hn hL) dL_law_288 ?_
  refine lv_aload_n hx hb dL_law_289 rfl (lv_at hl 3 rfl) ?_
  refine lv_iload_n hx hb dL_law_290 rfl (lv_at hl 0 rfl) ?_
  refine lv_iconst (v := 2) hx hb dL_law_291 (by decide) ?_
  refine lv_iadd hx hb dL_law_292 ?_
  refine va_sld hx hb hX hbl hbA hS (sc_in (q := 2) rfl (by decide) hn hL) dL_law_293 ?_
  refine lw_m (va_runV (As := [.int (xs (nI n + 1).toNatClampNeg), .int (xs (nI n + 2).toNatClampNeg)]) (rest := []) ⟨hx, hb, hml, hown, hts⟩ (cu_M_of l dC dI cI cC cG cZ mo y (xs (nI n + 1).toNatClampNeg) (xs (nI n + 2).toNatClampNeg) (rs_MI hR)) (cwV 2 hts gL_law_X7_of rfl rfl rfl (by decide +kernel) ⟨Nat.le_of_ble_eq_true rfl, Nat.le_of_ble_eq_true rfl⟩) (lw_preM hP hK hD) rfl rfl hl.1 rfl (lv_room (Nat.le_of_ble_eq_true rfl)) dL_law_294 ⟨Nat.le_of_ble_eq_true rfl, Nat.le_of_ble_eq_true rfl⟩) hP hD hS (fun H locs hP hD hS => ?_)
  refine lv_pop hx hb dL_law_297 rfl ?_
  refine lv_goto (tgt := 699) hx hb dL_law_298 (by decide) ?_
  exact hend _ _ _ pa _ _ (rs_of hR) hP hD hS hl
set_option maxHeartbeats 4000000 in
set_option maxRecDepth 100000 in
theorem case_7 {p : Program} {e : Env} {s : State} {m : MethodId} {below : List Frame} {meth : Method} {c : Code} (l : Launch) {b L : Nat} {xs : Nat → Int32} {A : Nat → Prop} (hx : p.tables.exec = Jvm.exec) (hb : c.code = code) (hr : meth.sig.returnType = ret) (hml : c.maxLocals = 4) (hown : s.vm.findClass RL = some m.cls) (hts : ∀ w ∈ wsL_law, w.before #[Value.ref b] s = true) (hX : va_X b L xs s s.heap) (hbl : b < s.heap.size) (hbA : ¬ A b) (dC : Nat → ClassId) (dI : Nat → Nat → Nat) (cI cC cG cZ : ClassId) (ad : Nat → Nat → Nat) (mo : Nat → Nat) (hK : va_K (dC, dI) vwCl (tyL cI cC cG cZ) s) (hL : L ≤ 2048) (n : Nat) (hn : n + 4 ≤ L) (pa : Nat → Nat → Nat) (x : XS) (y : MST) (hR : RS x y) (H : Heap) (locs : List Loc) (ls : Array Slot) (hP : bP (dC, dI) vwCl (xW cI cC cG ad pa x ++ mW cI cZ mo y) H) (hD : bD A (xW cI cC cG ad pa x ++ mW cI cZ mo y)) (hS : va_S A s.heap H locs) (hl : lv_has ls 4 [(3, .int (nI n)), (2, .ref (mo 0)), (1, .ref (ad 0 0)), (0, .ref b)]) (hend : ∀ (H : Heap) (locs : List Loc) (ls : Array Slot) (pa : Nat → Nat → Nat) (x : XS) (y : MST), RS x y → bP (dC, dI) vwCl (xW cI cC cG ad pa x ++ mW cI cZ mo y) H → bD A (xW cI cC cG ad pa x ++ mW cI cZ mo y) → va_S A s.heap H locs → lv_has ls 4 [(3, .int (nI n)), (2, .ref (mo 0)), (1, .ref (ad 0 0)), (0, .ref b)] → W p l e room_1 s m #[Value.ref b] below meth c H locs 600000 7302250 (lw_Z below #[Value.ref b] s) (F0 m 699 ls [])) : W p l e room_1 s m #[Value.ref b] below meth c H locs 600000 7302250 (lw_Z below #[Value.ref b] s) (F0 m 301 ls []) := by
  refine lv_aload_n hx hb dL_law_301 rfl (lv_at hl 2 rfl) ?_
  refine lv_aload_n hx hb dL_law_302 rfl (lv_at hl 3 rfl) ?_
  refine lv_iload_n hx hb dL_law_303 rfl (lv_at hl 0 rfl) ?_
  refine lv_iconst (v := 1) hx hb dL_law_304 (by decide) ?_
  refine lv_iadd hx hb dL_law_305 ?_
  refine va_sld hx hb hX hbl hbA hS (sc_in (q := 1) rfl (by decide) hn hL) dL_law_306 ?_
  refine lv_aload_n hx hb dL_law_307 rfl (lv_at hl 3 rfl) ?_
  refine lv_iload_n hx hb dL_law_308 rfl (lv_at hl 0 rfl) ?_
  refine lv_iconst (v := 2) hx hb dL_law_309 (by decide) ?_
  refine lv_iadd hx hb dL_law_310 ?_
  refine va_sld hx hb hX hbl hbA hS (sc_in (q := 2) rfl (by decide) hn hL) dL_law_311 ?_
  refine lw_x (va_runV (As := [.int (xs (nI n + 1).toNatClampNeg), .int (xs (nI n + 2).toNatClampNeg)]) (rest := []) ⟨hx, hb, hml, hown, hts⟩ (cu_TC_cell l dC dI cI cC cG cZ ad pa x (xs (nI n + 1).toNatClampNeg) (xs (nI n + 2).toNatClampNeg) ) (cwV 2 hts gL_law_X6_cell rfl rfl rfl (by decide +kernel) ⟨Nat.le_of_ble_eq_true rfl, Nat.le_of_ble_eq_true rfl⟩) (lw_preX hP hK hD) rfl rfl hl.1 rfl (lv_room (Nat.le_of_ble_eq_true rfl)) dL_law_312 ⟨Nat.le_of_ble_eq_true rfl, Nat.le_of_ble_eq_true rfl⟩) hP hD hS (fun H locs pa hP hD hS => ?_)
  refine lv_pop hx hb dL_law_315 rfl ?_
  refine lv_aload_n hx hb dL_law_316 rfl (lv_at hl 1 rfl) ?_
  refine lv_aload_n hx hb dL_law_317 rfl (lv_at hl 3 rfl) ?_
  refine lv_iload_n hx hb dL_law_318 rfl (lv_at hl 0 rfl) ?_
  refine lv_iconst (v := 1) hx hb dL_law_319 (by decide) ?_
  refine lv_iadd hx hb dL_law_320 ?_
  refine va_sld hx hb hX hbl hbA hS (sc_in (q := 1) rfl (by decide) hn hL) dL_law_321 ?_
  refine lv_aload_n hx hb dL_law_322 rfl (lv_at hl 3 rfl) ?_
  refine lv_iload_n hx hb dL_law_323 rfl (lv_at hl 0 rfl) ?_
  refine lv_iconst (v := 2) hx hb dL_law_324 (by decide) ?_
  refine lv_iadd hx hb dL_law_325 ?_
  refine va_sld hx hb hX hbl hbA hS (sc_in (q := 2) rfl (by decide) hn hL) dL_law_326 ?_
  refine lw_m (va_runV (As := [.int (xs (nI n + 1).toNatClampNeg), .int (xs (nI n + 2).toNatClampNeg)]) (rest := []) ⟨hx, hb, hml, hown, hts⟩ (cu_M_cell l dC dI cI cC cG cZ mo y (xs (nI n + 1).toNatClampNeg) (xs (nI n + 2).toNatClampNeg) ) (cwV 2 hts gL_law_X7_cell rfl rfl rfl (by decide +kernel) ⟨Nat.le_of_ble_eq_true rfl, Nat.le_of_ble_eq_true rfl⟩) (lw_preM hP hK hD) rfl rfl hl.1 rfl (lv_room (Nat.le_of_ble_eq_true rfl)) dL_law_327 ⟨Nat.le_of_ble_eq_true rfl, Nat.le_of_ble_eq_true rfl⟩) hP hD hS (fun H locs hP hD hS => ?_)
  refine lv_pop hx hb dL_law_330 rfl ?_
  refine lv_goto (tgt := 699) hx hb dL_law_331 (by decide) ?_
  exact hend _ _ _ pa _ _ (rs_cell hR) hP hD hS hl
set_option maxHeartbeats 4000000 in
set_option maxRecDepth 100000 in
theorem case_8 {p : Program} {e : Env} {s : State} {m : MethodId} {below : List Frame} {meth : Method} {c : Code} (l : Launch) {b L : Nat} {xs : Nat → Int32} {A : Nat → Prop} (hx : p.tables.exec = Jvm.exec) (hb : c.code = code) (hr : meth.sig.returnType = ret) (hml : c.maxLocals = 4) (hown : s.vm.findClass RL = some m.cls) (hts : ∀ w ∈ wsL_law, w.before #[Value.ref b] s = true) (hX : va_X b L xs s s.heap) (hbl : b < s.heap.size) (hbA : ¬ A b) (dC : Nat → ClassId) (dI : Nat → Nat → Nat) (cI cC cG cZ : ClassId) (ad : Nat → Nat → Nat) (mo : Nat → Nat) (hK : va_K (dC, dI) vwCl (tyL cI cC cG cZ) s) (hL : L ≤ 2048) (n : Nat) (hn : n + 4 ≤ L) (pa : Nat → Nat → Nat) (x : XS) (y : MST) (hR : RS x y) (H : Heap) (locs : List Loc) (ls : Array Slot) (hP : bP (dC, dI) vwCl (xW cI cC cG ad pa x ++ mW cI cZ mo y) H) (hD : bD A (xW cI cC cG ad pa x ++ mW cI cZ mo y)) (hS : va_S A s.heap H locs) (hl : lv_has ls 4 [(3, .int (nI n)), (2, .ref (mo 0)), (1, .ref (ad 0 0)), (0, .ref b)]) (hend : ∀ (H : Heap) (locs : List Loc) (ls : Array Slot) (pa : Nat → Nat → Nat) (x : XS) (y : MST), RS x y → bP (dC, dI) vwCl (xW cI cC cG ad pa x ++ mW cI cZ mo y) H → bD A (xW cI cC cG ad pa x ++ mW cI cZ mo y) → va_S A s.heap H locs → lv_has ls 4 [(3, .int (nI n)), (2, .ref (mo 0)), (1, .ref (ad 0 0)), (0, .ref b)] → W p l e room_1 s m #[Value.ref b] below meth c H locs 600000 7302250 (lw_Z below #[Value.ref b] s) (F0 m 699 ls [])) : W p l e room_1 s m #[Value.ref b] below meth c H locs 600000 7302250 (lw_Z below #[Value.ref b] s) (F0 m 334 ls []) := by
  refine lv_aload_n hx hb dL_law_334 rfl (lv_at hl 2 rfl) ?_
  refine lv_aload_n hx hb dL_law_335 rfl (lv_at hl 3 rfl) ?_
  refine lv_iload_n hx hb dL_law_336 rfl (lv_at hl 0 rfl) ?_
  refine lv_iconst (v := 1) hx hb dL_law_337 (by decide) ?_
  refine lv_iadd hx hb dL_law_338 ?_
  refine va_sld hx hb hX hbl hbA hS (sc_in (q := 1) rfl (by decide) hn hL) dL_law_339 ?_
  refine lv_aload_n hx hb dL_law_340 rfl (lv_at hl 3 rfl) ?_
  refine lv_iload_n hx hb dL_law_341 rfl (lv_at hl 0 rfl) ?_
  refine lv_iconst (v := 2) hx hb dL_law_342 (by decide) ?_
  refine lv_iadd hx hb dL_law_343 ?_
  refine va_sld hx hb hX hbl hbA hS (sc_in (q := 2) rfl (by decide) hn hL) dL_law_344 ?_
  refine lw_x (va_runV (As := [.int (xs (nI n + 1).toNatClampNeg), .int (xs (nI n + 2).toNatClampNeg)]) (rest := []) ⟨hx, hb, hml, hown, hts⟩ (cu_TC_player l dC dI cI cC cG cZ ad pa x (xs (nI n + 1).toNatClampNeg) (xs (nI n + 2).toNatClampNeg) ) (cwV 2 hts gL_law_X6_player rfl rfl rfl (by decide +kernel) ⟨Nat.le_of_ble_eq_true rfl, Nat.le_of_ble_eq_true rfl⟩) (lw_preX hP hK hD) rfl rfl hl.1 rfl (lv_room (Nat.le_of_ble_eq_true rfl)) dL_law_345 ⟨Nat.le_of_ble_eq_true rfl, Nat.le_of_ble_eq_true rfl⟩) hP hD hS (fun H locs pa hP hD hS => ?_)
  refine lv_pop hx hb dL_law_348 rfl ?_
  refine lv_aload_n hx hb dL_law_349 rfl (lv_at hl 1 rfl) ?_
  refine lv_aload_n hx hb dL_law_350 rfl (lv_at hl 3 rfl) ?_
  refine lv_iload_n hx hb dL_law_351 rfl (lv_at hl 0 rfl) ?_
  refine lv_iconst (v := 1) hx hb dL_law_352 (by decide) ?_
  refine lv_iadd hx hb dL_law_353 ?_
  refine va_sld hx hb hX hbl hbA hS (sc_in (q := 1) rfl (by decide) hn hL) dL_law_354 ?_
  refine lv_aload_n hx hb dL_law_355 rfl (lv_at hl 3 rfl) ?_
  refine lv_iload_n hx hb dL_law_356 rfl (lv_at hl 0 rfl) ?_
  refine lv_iconst (v := 2) hx hb dL_law_357 (by decide) ?_
  refine lv_iadd hx hb dL_law_358 ?_
  refine va_sld hx hb hX hbl hbA hS (sc_in (q := 2) rfl (by decide) hn hL) dL_law_359 ?_
  refine lw_m (va_runV (As := [.int (xs (nI n + 1).toNatClampNeg), .int (xs (nI n + 2).toNatClampNeg)]) (rest := []) ⟨hx, hb, hml, hown, hts⟩ (cu_M_player l dC dI cI cC cG cZ mo y (xs (nI n + 1).toNatClampNeg) (xs (nI n + 2).toNatClampNeg) ) (cwV 2 hts gL_law_X7_player rfl rfl rfl (by decide +kernel) ⟨Nat.le_of_ble_eq_true rfl, Nat.le_of_ble_eq_true rfl⟩) (lw_preM hP hK hD) rfl rfl hl.1 rfl (lv_room (Nat.le_of_ble_eq_true rfl)) dL_law_360 ⟨Nat.le_of_ble_eq_true rfl, Nat.le_of_ble_eq_true rfl⟩) hP hD hS (fun H locs hP hD hS => ?_)
  refine lv_pop hx hb dL_law_363 rfl ?_
  refine lv_goto (tgt := 699) hx hb dL_law_364 (by decide) ?_
  exact hend _ _ _ pa _ _ (rs_player hR) hP hD hS hl
set_option maxHeartbeats 4000000 in
set_option maxRecDepth 100000 in
theorem case_9 {p : Program} {e : Env} {s : State} {m : MethodId} {below : List Frame} {meth : Method} {c : Code} (l : Launch) {b L : Nat} {xs : Nat → Int32} {A : Nat → Prop} (hx : p.tables.exec = Jvm.exec) (hb : c.code = code) (hr : meth.sig.returnType = ret) (hml : c.maxLocals = 4) (hown : s.vm.findClass RL = some m.cls) (hts : ∀ w ∈ wsL_law, w.before #[Value.ref b] s = true) (hX : va_X b L xs s s.heap) (hbl : b < s.heap.size) (hbA : ¬ A b) (dC : Nat → ClassId) (dI : Nat → Nat → Nat) (cI cC cG cZ : ClassId) (ad : Nat → Nat → Nat) (mo : Nat → Nat) (hK : va_K (dC, dI) vwCl (tyL cI cC cG cZ) s) (hL : L ≤ 2048) (n : Nat) (hn : n + 4 ≤ L) (pa : Nat → Nat → Nat) (x : XS) (y : MST) (hR : RS x y) (H : Heap) (locs : List Loc) (ls : Array Slot) (hP : bP (dC, dI) vwCl (xW cI cC cG ad pa x ++ mW cI cZ mo y) H) (hD : bD A (xW cI cC cG ad pa x ++ mW cI cZ mo y)) (hS : va_S A s.heap H locs) (hl : lv_has ls 4 [(3, .int (nI n)), (2, .ref (mo 0)), (1, .ref (ad 0 0)), (0, .ref b)]) (hend : ∀ (H : Heap) (locs : List Loc) (ls : Array Slot) (pa : Nat → Nat → Nat) (x : XS) (y : MST), RS x y → bP (dC, dI) vwCl (xW cI cC cG ad pa x ++ mW cI cZ mo y) H → bD A (xW cI cC cG ad pa x ++ mW cI cZ mo y) → va_S A s.heap H locs → lv_has ls 4 [(3, .int (nI n)), (2, .ref (mo 0)), (1, .ref (ad 0 0)), (0, .ref b)] → W p l e room_1 s m #[Value.ref b] below meth c H locs 600000 7302250 (lw_Z below #[Value.ref b] s) (F0 m 699 ls [])) : W p l e room_1 s m #[Value.ref b] below meth c H locs 600000 7302250 (lw_Z below #[Value.ref b] s) (F0 m 367 ls []) := by
  refine lv_aload_n hx hb dL_law_367 rfl (lv_at hl 2 rfl) ?_
  refine lv_aload_n hx hb dL_law_368 rfl (lv_at hl 3 rfl) ?_
  refine lv_iload_n hx hb dL_law_369 rfl (lv_at hl 0 rfl) ?_
  refine lv_iconst (v := 1) hx hb dL_law_370 (by decide) ?_
  refine lv_iadd hx hb dL_law_371 ?_
  refine va_sld hx hb hX hbl hbA hS (sc_in (q := 1) rfl (by decide) hn hL) dL_law_372 ?_
  refine lv_aload_n hx hb dL_law_373 rfl (lv_at hl 3 rfl) ?_
  refine lv_iload_n hx hb dL_law_374 rfl (lv_at hl 0 rfl) ?_
  refine lv_iconst (v := 2) hx hb dL_law_375 (by decide) ?_
  refine lv_iadd hx hb dL_law_376 ?_
  refine va_sld hx hb hX hbl hbA hS (sc_in (q := 2) rfl (by decide) hn hL) dL_law_377 ?_
  refine lw_x (va_runV (As := [.int (xs (nI n + 1).toNatClampNeg), .int (xs (nI n + 2).toNatClampNeg)]) (rest := []) ⟨hx, hb, hml, hown, hts⟩ (cu_TC_chalked l dC dI cI cC cG cZ ad pa x (xs (nI n + 1).toNatClampNeg) (xs (nI n + 2).toNatClampNeg) (rs_m0 hR) (rs_m1 hR)) (cwV 2 hts gL_law_X6_chalked rfl rfl rfl (by decide +kernel) ⟨Nat.le_of_ble_eq_true rfl, Nat.le_of_ble_eq_true rfl⟩) (lw_preX hP hK hD) rfl rfl hl.1 rfl (lv_room (Nat.le_of_ble_eq_true rfl)) dL_law_378 ⟨Nat.le_of_ble_eq_true rfl, Nat.le_of_ble_eq_true rfl⟩) hP hD hS (fun H locs pa hP hD hS => ?_)
  refine lv_pop hx hb dL_law_381 rfl ?_
  refine lv_aload_n hx hb dL_law_382 rfl (lv_at hl 1 rfl) ?_
  refine lv_aload_n hx hb dL_law_383 rfl (lv_at hl 3 rfl) ?_
  refine lv_iload_n hx hb dL_law_384 rfl (lv_at hl 0 rfl) ?_
  refine lv_iconst (v := 1) hx hb dL_law_385 (by decide) ?_
  refine lv_iadd hx hb dL_law_386 ?_
  refine va_sld hx hb hX hbl hbA hS (sc_in (q := 1) rfl (by decide) hn hL) dL_law_387 ?_
  refine lv_aload_n hx hb dL_law_388 rfl (lv_at hl 3 rfl) ?_
  refine lv_iload_n hx hb dL_law_389 rfl (lv_at hl 0 rfl) ?_
  refine lv_iconst (v := 2) hx hb dL_law_390 (by decide) ?_
  refine lv_iadd hx hb dL_law_391 ?_
  refine va_sld hx hb hX hbl hbA hS (sc_in (q := 2) rfl (by decide) hn hL) dL_law_392 ?_
  refine lw_m (va_runV (As := [.int (xs (nI n + 1).toNatClampNeg), .int (xs (nI n + 2).toNatClampNeg)]) (rest := []) ⟨hx, hb, hml, hown, hts⟩ (cu_M_chalked l dC dI cI cC cG cZ mo y (xs (nI n + 1).toNatClampNeg) (xs (nI n + 2).toNatClampNeg) (rs_MI hR)) (cwV 2 hts gL_law_X7_chalked rfl rfl rfl (by decide +kernel) ⟨Nat.le_of_ble_eq_true rfl, Nat.le_of_ble_eq_true rfl⟩) (lw_preM hP hK hD) rfl rfl hl.1 rfl (lv_room (Nat.le_of_ble_eq_true rfl)) dL_law_393 ⟨Nat.le_of_ble_eq_true rfl, Nat.le_of_ble_eq_true rfl⟩) hP hD hS (fun H locs hP hD hS => ?_)
  refine lv_pop hx hb dL_law_396 rfl ?_
  refine lv_goto (tgt := 699) hx hb dL_law_397 (by decide) ?_
  exact hend _ _ _ pa _ _ (rs_chalked hR) hP hD hS hl
set_option maxHeartbeats 4000000 in
set_option maxRecDepth 100000 in
theorem case_10 {p : Program} {e : Env} {s : State} {m : MethodId} {below : List Frame} {meth : Method} {c : Code} (l : Launch) {b L : Nat} {xs : Nat → Int32} {A : Nat → Prop} (hx : p.tables.exec = Jvm.exec) (hb : c.code = code) (hr : meth.sig.returnType = ret) (hml : c.maxLocals = 4) (hown : s.vm.findClass RL = some m.cls) (hts : ∀ w ∈ wsL_law, w.before #[Value.ref b] s = true) (hX : va_X b L xs s s.heap) (hbl : b < s.heap.size) (hbA : ¬ A b) (dC : Nat → ClassId) (dI : Nat → Nat → Nat) (cI cC cG cZ : ClassId) (ad : Nat → Nat → Nat) (mo : Nat → Nat) (hK : va_K (dC, dI) vwCl (tyL cI cC cG cZ) s) (hL : L ≤ 2048) (n : Nat) (hn : n + 4 ≤ L) (pa : Nat → Nat → Nat) (x : XS) (y : MST) (hR : RS x y) (H : Heap) (locs : List Loc) (ls : Array Slot) (hP : bP (dC, dI) vwCl (xW cI cC cG ad pa x ++ mW cI cZ mo y) H) (hD : bD A (xW cI cC cG ad pa x ++ mW cI cZ mo y)) (hS : va_S A s.heap H locs) (hl : lv_has ls 4 [(3, .int (nI n)), (2, .ref (mo 0)), (1, .ref (ad 0 0)), (0, .ref b)]) (hend : ∀ (H : Heap) (locs : List Loc) (ls : Array Slot) (pa : Nat → Nat → Nat) (x : XS) (y : MST), RS x y → bP (dC, dI) vwCl (xW cI cC cG ad pa x ++ mW cI cZ mo y) H → bD A (xW cI cC cG ad pa x ++ mW cI cZ mo y) → va_S A s.heap H locs → lv_has ls 4 [(3, .int (nI n)), (2, .ref (mo 0)), (1, .ref (ad 0 0)), (0, .ref b)] → W p l e room_1 s m #[Value.ref b] below meth c H locs 600000 7302250 (lw_Z below #[Value.ref b] s) (F0 m 699 ls [])) : W p l e room_1 s m #[Value.ref b] below meth c H locs 600000 7302250 (lw_Z below #[Value.ref b] s) (F0 m 400 ls []) := by
  refine lv_aload_n hx hb dL_law_400 rfl (lv_at hl 2 rfl) ?_
  refine lv_aload_n hx hb dL_law_401 rfl (lv_at hl 3 rfl) ?_
  refine lv_iload_n hx hb dL_law_402 rfl (lv_at hl 0 rfl) ?_
  refine lv_iconst (v := 1) hx hb dL_law_403 (by decide) ?_
  refine lv_iadd hx hb dL_law_404 ?_
  refine va_sld hx hb hX hbl hbA hS (sc_in (q := 1) rfl (by decide) hn hL) dL_law_405 ?_
  refine lw_x (va_runV (As := [.int (xs (nI n + 1).toNatClampNeg)]) (rest := []) ⟨hx, hb, hml, hown, hts⟩ (cu_TC_count l dC dI cI cC cG cZ ad pa x (xs (nI n + 1).toNatClampNeg) ) (cwV 1 hts gL_law_X6_count rfl rfl rfl (by decide +kernel) ⟨Nat.le_of_ble_eq_true rfl, Nat.le_of_ble_eq_true rfl⟩) (lw_preX hP hK hD) rfl rfl hl.1 rfl (lv_room (Nat.le_of_ble_eq_true rfl)) dL_law_406 ⟨Nat.le_of_ble_eq_true rfl, Nat.le_of_ble_eq_true rfl⟩) hP hD hS (fun H locs pa hP hD hS => ?_)
  refine lv_pop hx hb dL_law_409 rfl ?_
  refine lv_aload_n hx hb dL_law_410 rfl (lv_at hl 1 rfl) ?_
  refine lv_aload_n hx hb dL_law_411 rfl (lv_at hl 3 rfl) ?_
  refine lv_iload_n hx hb dL_law_412 rfl (lv_at hl 0 rfl) ?_
  refine lv_iconst (v := 1) hx hb dL_law_413 (by decide) ?_
  refine lv_iadd hx hb dL_law_414 ?_
  refine va_sld hx hb hX hbl hbA hS (sc_in (q := 1) rfl (by decide) hn hL) dL_law_415 ?_
  refine lw_m (va_runV (As := [.int (xs (nI n + 1).toNatClampNeg)]) (rest := []) ⟨hx, hb, hml, hown, hts⟩ (cu_M_count l dC dI cI cC cG cZ mo y (xs (nI n + 1).toNatClampNeg) ) (cwV 1 hts gL_law_X7_count rfl rfl rfl (by decide +kernel) ⟨Nat.le_of_ble_eq_true rfl, Nat.le_of_ble_eq_true rfl⟩) (lw_preM hP hK hD) rfl rfl hl.1 rfl (lv_room (Nat.le_of_ble_eq_true rfl)) dL_law_416 ⟨Nat.le_of_ble_eq_true rfl, Nat.le_of_ble_eq_true rfl⟩) hP hD hS (fun H locs hP hD hS => ?_)
  refine lv_pop hx hb dL_law_419 rfl ?_
  refine lv_goto (tgt := 699) hx hb dL_law_420 (by decide) ?_
  exact hend _ _ _ pa _ _ (rs_count hR) hP hD hS hl
set_option maxHeartbeats 4000000 in
set_option maxRecDepth 100000 in
theorem case_11 {p : Program} {e : Env} {s : State} {m : MethodId} {below : List Frame} {meth : Method} {c : Code} (l : Launch) {b L : Nat} {xs : Nat → Int32} {A : Nat → Prop} (hx : p.tables.exec = Jvm.exec) (hb : c.code = code) (hr : meth.sig.returnType = ret) (hml : c.maxLocals = 4) (hown : s.vm.findClass RL = some m.cls) (hts : ∀ w ∈ wsL_law, w.before #[Value.ref b] s = true) (hX : va_X b L xs s s.heap) (hbl : b < s.heap.size) (hbA : ¬ A b) (dC : Nat → ClassId) (dI : Nat → Nat → Nat) (cI cC cG cZ : ClassId) (ad : Nat → Nat → Nat) (mo : Nat → Nat) (hK : va_K (dC, dI) vwCl (tyL cI cC cG cZ) s) (hL : L ≤ 2048) (n : Nat) (hn : n + 4 ≤ L) (pa : Nat → Nat → Nat) (x : XS) (y : MST) (hR : RS x y) (H : Heap) (locs : List Loc) (ls : Array Slot) (hP : bP (dC, dI) vwCl (xW cI cC cG ad pa x ++ mW cI cZ mo y) H) (hD : bD A (xW cI cC cG ad pa x ++ mW cI cZ mo y)) (hS : va_S A s.heap H locs) (hl : lv_has ls 4 [(3, .int (nI n)), (2, .ref (mo 0)), (1, .ref (ad 0 0)), (0, .ref b)]) (hend : ∀ (H : Heap) (locs : List Loc) (ls : Array Slot) (pa : Nat → Nat → Nat) (x : XS) (y : MST), RS x y → bP (dC, dI) vwCl (xW cI cC cG ad pa x ++ mW cI cZ mo y) H → bD A (xW cI cC cG ad pa x ++ mW cI cZ mo y) → va_S A s.heap H locs → lv_has ls 4 [(3, .int (nI n)), (2, .ref (mo 0)), (1, .ref (ad 0 0)), (0, .ref b)] → W p l e room_1 s m #[Value.ref b] below meth c H locs 600000 7302250 (lw_Z below #[Value.ref b] s) (F0 m 699 ls [])) : W p l e room_1 s m #[Value.ref b] below meth c H locs 600000 7302250 (lw_Z below #[Value.ref b] s) (F0 m 423 ls []) := by
  refine lv_aload_n hx hb dL_law_423 rfl (lv_at hl 2 rfl) ?_
  refine lv_aload_n hx hb dL_law_424 rfl (lv_at hl 3 rfl) ?_
  refine lv_iload_n hx hb dL_law_425 rfl (lv_at hl 0 rfl) ?_
  refine lv_iconst (v := 1) hx hb dL_law_426 (by decide) ?_
  refine lv_iadd hx hb dL_law_427 ?_
  refine va_sld hx hb hX hbl hbA hS (sc_in (q := 1) rfl (by decide) hn hL) dL_law_428 ?_
  refine lw_x (va_runV (As := [.int (xs (nI n + 1).toNatClampNeg)]) (rest := []) ⟨hx, hb, hml, hown, hts⟩ (cu_TC_why l dC dI cI cC cG cZ ad pa x (xs (nI n + 1).toNatClampNeg) ) (cwV 1 hts gL_law_X6_why rfl rfl rfl (by decide +kernel) ⟨Nat.le_of_ble_eq_true rfl, Nat.le_of_ble_eq_true rfl⟩) (lw_preX hP hK hD) rfl rfl hl.1 rfl (lv_room (Nat.le_of_ble_eq_true rfl)) dL_law_429 ⟨Nat.le_of_ble_eq_true rfl, Nat.le_of_ble_eq_true rfl⟩) hP hD hS (fun H locs pa hP hD hS => ?_)
  refine lv_pop hx hb dL_law_432 rfl ?_
  refine lv_aload_n hx hb dL_law_433 rfl (lv_at hl 1 rfl) ?_
  refine lv_aload_n hx hb dL_law_434 rfl (lv_at hl 3 rfl) ?_
  refine lv_iload_n hx hb dL_law_435 rfl (lv_at hl 0 rfl) ?_
  refine lv_iconst (v := 1) hx hb dL_law_436 (by decide) ?_
  refine lv_iadd hx hb dL_law_437 ?_
  refine va_sld hx hb hX hbl hbA hS (sc_in (q := 1) rfl (by decide) hn hL) dL_law_438 ?_
  refine lw_m (va_runV (As := [.int (xs (nI n + 1).toNatClampNeg)]) (rest := []) ⟨hx, hb, hml, hown, hts⟩ (cu_M_why l dC dI cI cC cG cZ mo y (xs (nI n + 1).toNatClampNeg) ) (cwV 1 hts gL_law_X7_why rfl rfl rfl (by decide +kernel) ⟨Nat.le_of_ble_eq_true rfl, Nat.le_of_ble_eq_true rfl⟩) (lw_preM hP hK hD) rfl rfl hl.1 rfl (lv_room (Nat.le_of_ble_eq_true rfl)) dL_law_439 ⟨Nat.le_of_ble_eq_true rfl, Nat.le_of_ble_eq_true rfl⟩) hP hD hS (fun H locs hP hD hS => ?_)
  refine lv_pop hx hb dL_law_442 rfl ?_
  refine lv_goto (tgt := 699) hx hb dL_law_443 (by decide) ?_
  exact hend _ _ _ pa _ _ (rs_why hR) hP hD hS hl
set_option maxHeartbeats 4000000 in
set_option maxRecDepth 100000 in
theorem case_12 {p : Program} {e : Env} {s : State} {m : MethodId} {below : List Frame} {meth : Method} {c : Code} (l : Launch) {b L : Nat} {xs : Nat → Int32} {A : Nat → Prop} (hx : p.tables.exec = Jvm.exec) (hb : c.code = code) (hr : meth.sig.returnType = ret) (hml : c.maxLocals = 4) (hown : s.vm.findClass RL = some m.cls) (hts : ∀ w ∈ wsL_law, w.before #[Value.ref b] s = true) (hX : va_X b L xs s s.heap) (hbl : b < s.heap.size) (hbA : ¬ A b) (dC : Nat → ClassId) (dI : Nat → Nat → Nat) (cI cC cG cZ : ClassId) (ad : Nat → Nat → Nat) (mo : Nat → Nat) (hK : va_K (dC, dI) vwCl (tyL cI cC cG cZ) s) (hL : L ≤ 2048) (n : Nat) (hn : n + 4 ≤ L) (pa : Nat → Nat → Nat) (x : XS) (y : MST) (hR : RS x y) (H : Heap) (locs : List Loc) (ls : Array Slot) (hP : bP (dC, dI) vwCl (xW cI cC cG ad pa x ++ mW cI cZ mo y) H) (hD : bD A (xW cI cC cG ad pa x ++ mW cI cZ mo y)) (hS : va_S A s.heap H locs) (hl : lv_has ls 4 [(3, .int (nI n)), (2, .ref (mo 0)), (1, .ref (ad 0 0)), (0, .ref b)]) (hend : ∀ (H : Heap) (locs : List Loc) (ls : Array Slot) (pa : Nat → Nat → Nat) (x : XS) (y : MST), RS x y → bP (dC, dI) vwCl (xW cI cC cG ad pa x ++ mW cI cZ mo y) H → bD A (xW cI cC cG ad pa x ++ mW cI cZ mo y) → va_S A s.heap H locs → lv_has ls 4 [(3, .int (nI n)), (2, .ref (mo 0)), (1, .ref (ad 0 0)), (0, .ref b)] → W p l e room_1 s m #[Value.ref b] below meth c H locs 600000 7302250 (lw_Z below #[Value.ref b] s) (F0 m 699 ls [])) : W p l e room_1 s m #[Value.ref b] below meth c H locs 600000 7302250 (lw_Z below #[Value.ref b] s) (F0 m 446 ls []) := by
  refine lv_aload_n hx hb dL_law_446 rfl (lv_at hl 2 rfl) ?_
  refine lv_aload_n hx hb dL_law_447 rfl (lv_at hl 3 rfl) ?_
  refine lv_iload_n hx hb dL_law_448 rfl (lv_at hl 0 rfl) ?_
  refine lv_iconst (v := 1) hx hb dL_law_449 (by decide) ?_
  refine lv_iadd hx hb dL_law_450 ?_
  refine va_sld hx hb hX hbl hbA hS (sc_in (q := 1) rfl (by decide) hn hL) dL_law_451 ?_
  refine lw_x (va_runV (As := [.int (xs (nI n + 1).toNatClampNeg)]) (rest := []) ⟨hx, hb, hml, hown, hts⟩ (cu_TC_ifSnipped l dC dI cI cC cG cZ ad pa x (xs (nI n + 1).toNatClampNeg) ) (cwV 1 hts gL_law_X6_ifSnipped rfl rfl rfl (by decide +kernel) ⟨Nat.le_of_ble_eq_true rfl, Nat.le_of_ble_eq_true rfl⟩) (lw_preX hP hK hD) rfl rfl hl.1 rfl (lv_room (Nat.le_of_ble_eq_true rfl)) dL_law_452 ⟨Nat.le_of_ble_eq_true rfl, Nat.le_of_ble_eq_true rfl⟩) hP hD hS (fun H locs pa hP hD hS => ?_)
  refine lv_pop hx hb dL_law_455 rfl ?_
  refine lv_aload_n hx hb dL_law_456 rfl (lv_at hl 1 rfl) ?_
  refine lv_aload_n hx hb dL_law_457 rfl (lv_at hl 3 rfl) ?_
  refine lv_iload_n hx hb dL_law_458 rfl (lv_at hl 0 rfl) ?_
  refine lv_iconst (v := 1) hx hb dL_law_459 (by decide) ?_
  refine lv_iadd hx hb dL_law_460 ?_
  refine va_sld hx hb hX hbl hbA hS (sc_in (q := 1) rfl (by decide) hn hL) dL_law_461 ?_
  refine lw_m (va_runV (As := [.int (xs (nI n + 1).toNatClampNeg)]) (rest := []) ⟨hx, hb, hml, hown, hts⟩ (cu_M_ifSnipped l dC dI cI cC cG cZ mo y (xs (nI n + 1).toNatClampNeg) ) (cwV 1 hts gL_law_X7_ifSnipped rfl rfl rfl (by decide +kernel) ⟨Nat.le_of_ble_eq_true rfl, Nat.le_of_ble_eq_true rfl⟩) (lw_preM hP hK hD) rfl rfl hl.1 rfl (lv_room (Nat.le_of_ble_eq_true rfl)) dL_law_462 ⟨Nat.le_of_ble_eq_true rfl, Nat.le_of_ble_eq_true rfl⟩) hP hD hS (fun H locs hP hD hS => ?_)
  refine lv_pop hx hb dL_law_465 rfl ?_
  refine lv_goto (tgt := 699) hx hb dL_law_466 (by decide) ?_
  exact hend _ _ _ pa _ _ (rs_ifSnipped hR) hP hD hS hl
set_option maxHeartbeats 4000000 in
set_option maxRecDepth 100000 in
theorem case_13 {p : Program} {e : Env} {s : State} {m : MethodId} {below : List Frame} {meth : Method} {c : Code} (l : Launch) {b L : Nat} {xs : Nat → Int32} {A : Nat → Prop} (hx : p.tables.exec = Jvm.exec) (hb : c.code = code) (hr : meth.sig.returnType = ret) (hml : c.maxLocals = 4) (hown : s.vm.findClass RL = some m.cls) (hts : ∀ w ∈ wsL_law, w.before #[Value.ref b] s = true) (hX : va_X b L xs s s.heap) (hbl : b < s.heap.size) (hbA : ¬ A b) (dC : Nat → ClassId) (dI : Nat → Nat → Nat) (cI cC cG cZ : ClassId) (ad : Nat → Nat → Nat) (mo : Nat → Nat) (hK : va_K (dC, dI) vwCl (tyL cI cC cG cZ) s) (hL : L ≤ 2048) (n : Nat) (hn : n + 4 ≤ L) (pa : Nat → Nat → Nat) (x : XS) (y : MST) (hR : RS x y) (H : Heap) (locs : List Loc) (ls : Array Slot) (hP : bP (dC, dI) vwCl (xW cI cC cG ad pa x ++ mW cI cZ mo y) H) (hD : bD A (xW cI cC cG ad pa x ++ mW cI cZ mo y)) (hS : va_S A s.heap H locs) (hl : lv_has ls 4 [(3, .int (nI n)), (2, .ref (mo 0)), (1, .ref (ad 0 0)), (0, .ref b)]) (hend : ∀ (H : Heap) (locs : List Loc) (ls : Array Slot) (pa : Nat → Nat → Nat) (x : XS) (y : MST), RS x y → bP (dC, dI) vwCl (xW cI cC cG ad pa x ++ mW cI cZ mo y) H → bD A (xW cI cC cG ad pa x ++ mW cI cZ mo y) → va_S A s.heap H locs → lv_has ls 4 [(3, .int (nI n)), (2, .ref (mo 0)), (1, .ref (ad 0 0)), (0, .ref b)] → W p l e room_1 s m #[Value.ref b] below meth c H locs 600000 7302250 (lw_Z below #[Value.ref b] s) (F0 m 699 ls [])) : W p l e room_1 s m #[Value.ref b] below meth c H locs 600000 7302250 (lw_Z below #[Value.ref b] s) (F0 m 469 ls []) := by
  refine lv_aload_n hx hb dL_law_469 rfl (lv_at hl 2 rfl) ?_
  refine lv_aload_n hx hb dL_law_470 rfl (lv_at hl 3 rfl) ?_
  refine lv_iload_n hx hb dL_law_471 rfl (lv_at hl 0 rfl) ?_
  refine lv_iconst (v := 1) hx hb dL_law_472 (by decide) ?_
  refine lv_iadd hx hb dL_law_473 ?_
  refine va_sld hx hb hX hbl hbA hS (sc_in (q := 1) rfl (by decide) hn hL) dL_law_474 ?_
  refine lw_x (va_runV (As := [.int (xs (nI n + 1).toNatClampNeg)]) (rest := []) ⟨hx, hb, hml, hown, hts⟩ (cu_TC_bestSnip l dC dI cI cC cG cZ ad pa x (xs (nI n + 1).toNatClampNeg) (rs_m0 hR) (rs_m1 hR)) (cwV 1 hts gL_law_X6_bestSnip rfl rfl rfl (by decide +kernel) ⟨Nat.le_of_ble_eq_true rfl, Nat.le_of_ble_eq_true rfl⟩) (lw_preX hP hK hD) rfl rfl hl.1 rfl (lv_room (Nat.le_of_ble_eq_true rfl)) dL_law_475 ⟨Nat.le_of_ble_eq_true rfl, Nat.le_of_ble_eq_true rfl⟩) hP hD hS (fun H locs pa hP hD hS => ?_)
  refine lv_pop hx hb dL_law_478 rfl ?_
  refine lv_aload_n hx hb dL_law_479 rfl (lv_at hl 1 rfl) ?_
  refine lv_aload_n hx hb dL_law_480 rfl (lv_at hl 3 rfl) ?_
  refine lv_iload_n hx hb dL_law_481 rfl (lv_at hl 0 rfl) ?_
  refine lv_iconst (v := 1) hx hb dL_law_482 (by decide) ?_
  refine lv_iadd hx hb dL_law_483 ?_
  refine va_sld hx hb hX hbl hbA hS (sc_in (q := 1) rfl (by decide) hn hL) dL_law_484 ?_
  refine lw_m (va_runV (As := [.int (xs (nI n + 1).toNatClampNeg)]) (rest := []) ⟨hx, hb, hml, hown, hts⟩ (cu_M_bestSnip l dC dI cI cC cG cZ mo y (xs (nI n + 1).toNatClampNeg) (rs_MI hR)) (cwV 1 hts gL_law_X7_bestSnip rfl rfl rfl (by decide +kernel) ⟨Nat.le_of_ble_eq_true rfl, Nat.le_of_ble_eq_true rfl⟩) (lw_preM hP hK hD) rfl rfl hl.1 rfl (lv_room (Nat.le_of_ble_eq_true rfl)) dL_law_485 ⟨Nat.le_of_ble_eq_true rfl, Nat.le_of_ble_eq_true rfl⟩) hP hD hS (fun H locs hP hD hS => ?_)
  refine lv_pop hx hb dL_law_488 rfl ?_
  refine lv_goto (tgt := 699) hx hb dL_law_489 (by decide) ?_
  exact hend _ _ _ pa _ _ (rs_bestSnip hR) hP hD hS hl
set_option maxHeartbeats 4000000 in
set_option maxRecDepth 100000 in
theorem case_14 {p : Program} {e : Env} {s : State} {m : MethodId} {below : List Frame} {meth : Method} {c : Code} (l : Launch) {b L : Nat} {xs : Nat → Int32} {A : Nat → Prop} (hx : p.tables.exec = Jvm.exec) (hb : c.code = code) (hr : meth.sig.returnType = ret) (hml : c.maxLocals = 4) (hown : s.vm.findClass RL = some m.cls) (hts : ∀ w ∈ wsL_law, w.before #[Value.ref b] s = true) (hX : va_X b L xs s s.heap) (hbl : b < s.heap.size) (hbA : ¬ A b) (dC : Nat → ClassId) (dI : Nat → Nat → Nat) (cI cC cG cZ : ClassId) (ad : Nat → Nat → Nat) (mo : Nat → Nat) (hK : va_K (dC, dI) vwCl (tyL cI cC cG cZ) s) (hL : L ≤ 2048) (n : Nat) (hn : n + 4 ≤ L) (pa : Nat → Nat → Nat) (x : XS) (y : MST) (hR : RS x y) (H : Heap) (locs : List Loc) (ls : Array Slot) (hP : bP (dC, dI) vwCl (xW cI cC cG ad pa x ++ mW cI cZ mo y) H) (hD : bD A (xW cI cC cG ad pa x ++ mW cI cZ mo y)) (hS : va_S A s.heap H locs) (hl : lv_has ls 4 [(3, .int (nI n)), (2, .ref (mo 0)), (1, .ref (ad 0 0)), (0, .ref b)]) (hend : ∀ (H : Heap) (locs : List Loc) (ls : Array Slot) (pa : Nat → Nat → Nat) (x : XS) (y : MST), RS x y → bP (dC, dI) vwCl (xW cI cC cG ad pa x ++ mW cI cZ mo y) H → bD A (xW cI cC cG ad pa x ++ mW cI cZ mo y) → va_S A s.heap H locs → lv_has ls 4 [(3, .int (nI n)), (2, .ref (mo 0)), (1, .ref (ad 0 0)), (0, .ref b)] → W p l e room_1 s m #[Value.ref b] below meth c H locs 600000 7302250 (lw_Z below #[Value.ref b] s) (F0 m 699 ls [])) : W p l e room_1 s m #[Value.ref b] below meth c H locs 600000 7302250 (lw_Z below #[Value.ref b] s) (F0 m 492 ls []) := by
  refine lv_aload_n hx hb dL_law_492 rfl (lv_at hl 2 rfl) ?_
  refine lw_x (va_runV (As := []) (rest := []) ⟨hx, hb, hml, hown, hts⟩ (cu_TC_weak l dC dI cI cC cG cZ ad pa x  ) (cwV 0 hts gL_law_X6_weak rfl rfl rfl (by decide +kernel) ⟨Nat.le_of_ble_eq_true rfl, Nat.le_of_ble_eq_true rfl⟩) (lw_preX hP hK hD) rfl rfl hl.1 rfl (lv_room (Nat.le_of_ble_eq_true rfl)) dL_law_493 ⟨Nat.le_of_ble_eq_true rfl, Nat.le_of_ble_eq_true rfl⟩) hP hD hS (fun H locs pa hP hD hS => ?_)
  refine lv_pop hx hb dL_law_496 rfl ?_
  refine lv_aload_n hx hb dL_law_497 rfl (lv_at hl 1 rfl) ?_
  refine lw_m (va_runV (As := []) (rest := []) ⟨hx, hb, hml, hown, hts⟩ (cu_M_weak l dC dI cI cC cG cZ mo y  ) (cwV 0 hts gL_law_X7_weak rfl rfl rfl (by decide +kernel) ⟨Nat.le_of_ble_eq_true rfl, Nat.le_of_ble_eq_true rfl⟩) (lw_preM hP hK hD) rfl rfl hl.1 rfl (lv_room (Nat.le_of_ble_eq_true rfl)) dL_law_498 ⟨Nat.le_of_ble_eq_true rfl, Nat.le_of_ble_eq_true rfl⟩) hP hD hS (fun H locs hP hD hS => ?_)
  refine lv_pop hx hb dL_law_501 rfl ?_
  refine lv_goto (tgt := 699) hx hb dL_law_502 (by decide) ?_
  exact hend _ _ _ pa _ _ (rs_weak hR) hP hD hS hl
set_option maxHeartbeats 4000000 in
set_option maxRecDepth 100000 in
theorem case_15 {p : Program} {e : Env} {s : State} {m : MethodId} {below : List Frame} {meth : Method} {c : Code} (l : Launch) {b L : Nat} {xs : Nat → Int32} {A : Nat → Prop} (hx : p.tables.exec = Jvm.exec) (hb : c.code = code) (hr : meth.sig.returnType = ret) (hml : c.maxLocals = 4) (hown : s.vm.findClass RL = some m.cls) (hts : ∀ w ∈ wsL_law, w.before #[Value.ref b] s = true) (hX : va_X b L xs s s.heap) (hbl : b < s.heap.size) (hbA : ¬ A b) (dC : Nat → ClassId) (dI : Nat → Nat → Nat) (cI cC cG cZ : ClassId) (ad : Nat → Nat → Nat) (mo : Nat → Nat) (hK : va_K (dC, dI) vwCl (tyL cI cC cG cZ) s) (hL : L ≤ 2048) (n : Nat) (hn : n + 4 ≤ L) (pa : Nat → Nat → Nat) (x : XS) (y : MST) (hR : RS x y) (H : Heap) (locs : List Loc) (ls : Array Slot) (hP : bP (dC, dI) vwCl (xW cI cC cG ad pa x ++ mW cI cZ mo y) H) (hD : bD A (xW cI cC cG ad pa x ++ mW cI cZ mo y)) (hS : va_S A s.heap H locs) (hl : lv_has ls 4 [(3, .int (nI n)), (2, .ref (mo 0)), (1, .ref (ad 0 0)), (0, .ref b)]) (hend : ∀ (H : Heap) (locs : List Loc) (ls : Array Slot) (pa : Nat → Nat → Nat) (x : XS) (y : MST), RS x y → bP (dC, dI) vwCl (xW cI cC cG ad pa x ++ mW cI cZ mo y) H → bD A (xW cI cC cG ad pa x ++ mW cI cZ mo y) → va_S A s.heap H locs → lv_has ls 4 [(3, .int (nI n)), (2, .ref (mo 0)), (1, .ref (ad 0 0)), (0, .ref b)] → W p l e room_1 s m #[Value.ref b] below meth c H locs 600000 7302250 (lw_Z below #[Value.ref b] s) (F0 m 699 ls [])) : W p l e room_1 s m #[Value.ref b] below meth c H locs 600000 7302250 (lw_Z below #[Value.ref b] s) (F0 m 505 ls []) := by
  refine lv_aload_n hx hb dL_law_505 rfl (lv_at hl 2 rfl) ?_
  refine lv_aload_n hx hb dL_law_506 rfl (lv_at hl 3 rfl) ?_
  refine lv_iload_n hx hb dL_law_507 rfl (lv_at hl 0 rfl) ?_
  refine lv_iconst (v := 1) hx hb dL_law_508 (by decide) ?_
  refine lv_iadd hx hb dL_law_509 ?_
  refine va_sld hx hb hX hbl hbA hS (sc_in (q := 1) rfl (by decide) hn hL) dL_law_510 ?_
  refine lv_aload_n hx hb dL_law_511 rfl (lv_at hl 3 rfl) ?_
  refine lv_iload_n hx hb dL_law_512 rfl (lv_at hl 0 rfl) ?_
  refine lv_iconst (v := 2) hx hb dL_law_513 (by decide) ?_
  refine lv_iadd hx hb dL_law_514 ?_
  refine va_sld hx hb hX hbl hbA hS (sc_in (q := 2) rfl (by decide) hn hL) dL_law_515 ?_
  refine lv_aload_n hx hb dL_law_516 rfl (lv_at hl 3 rfl) ?_
  refine lv_iload_n hx hb dL_law_517 rfl (lv_at hl 0 rfl) ?_
  refine lv_iconst (v := 3) hx hb dL_law_518 (by decide) ?_
  refine lv_iadd hx hb dL_law_519 ?_
  refine va_sld hx hb hX hbl hbA hS (sc_in (q := 3) rfl (by decide) hn hL) dL_law_520 ?_
  refine lw_x (va_runV (As := [.int (xs (nI n + 1).toNatClampNeg), .int (xs (nI n + 2).toNatClampNeg), .int (xs (nI n + 3).toNatClampNeg)]) (rest := []) ⟨hx, hb, hml, hown, hts⟩ (cu_TC_together l dC dI cI cC cG cZ ad pa x (xs (nI n + 1).toNatClampNeg) (xs (nI n + 2).toNatClampNeg) (xs (nI n + 3).toNatClampNeg) ) (cwV 3 hts gL_law_X6_together rfl rfl rfl (by decide +kernel) ⟨Nat.le_of_ble_eq_true rfl, Nat.le_of_ble_eq_true rfl⟩) (lw_preX hP hK hD) rfl rfl hl.1 rfl (lv_room (Nat.le_of_ble_eq_true rfl)) dL_law_521 ⟨Nat.le_of_ble_eq_true rfl, Nat.le_of_ble_eq_true rfl⟩) hP hD hS (fun H locs pa hP hD hS => ?_)
  refine lv_pop hx hb dL_law_524 rfl ?_
  refine lv_aload_n hx hb dL_law_525 rfl (lv_at hl 1 rfl) ?_
  refine lv_aload_n hx hb dL_law_526 rfl (lv_at hl 3 rfl) ?_
  refine lv_iload_n hx hb dL_law_527 rfl (lv_at hl 0 rfl) ?_
  refine lv_iconst (v := 1) hx hb dL_law_528 (by decide) ?_
  refine lv_iadd hx hb dL_law_529 ?_
  refine va_sld hx hb hX hbl hbA hS (sc_in (q := 1) rfl (by decide) hn hL) dL_law_530 ?_
  refine lv_aload_n hx hb dL_law_531 rfl (lv_at hl 3 rfl) ?_
  refine lv_iload_n hx hb dL_law_532 rfl (lv_at hl 0 rfl) ?_
  refine lv_iconst (v := 2) hx hb dL_law_533 (by decide) ?_
  refine lv_iadd hx hb dL_law_534 ?_
  refine va_sld hx hb hX hbl hbA hS (sc_in (q := 2) rfl (by decide) hn hL) dL_law_535 ?_
  refine lv_aload_n hx hb dL_law_536 rfl (lv_at hl 3 rfl) ?_
  refine lv_iload_n hx hb dL_law_537 rfl (lv_at hl 0 rfl) ?_
  refine lv_iconst (v := 3) hx hb dL_law_538 (by decide) ?_
  refine lv_iadd hx hb dL_law_539 ?_
  refine va_sld hx hb hX hbl hbA hS (sc_in (q := 3) rfl (by decide) hn hL) dL_law_540 ?_
  refine lw_m (va_runV (As := [.int (xs (nI n + 1).toNatClampNeg), .int (xs (nI n + 2).toNatClampNeg), .int (xs (nI n + 3).toNatClampNeg)]) (rest := []) ⟨hx, hb, hml, hown, hts⟩ (cu_M_together l dC dI cI cC cG cZ mo y (xs (nI n + 1).toNatClampNeg) (xs (nI n + 2).toNatClampNeg) (xs (nI n + 3).toNatClampNeg) ) (cwV 3 hts gL_law_X7_together rfl rfl rfl (by decide +kernel) ⟨Nat.le_of_ble_eq_true rfl, Nat.le_of_ble_eq_true rfl⟩) (lw_preM hP hK hD) rfl rfl hl.1 rfl (lv_room (Nat.le_of_ble_eq_true rfl)) dL_law_541 ⟨Nat.le_of_ble_eq_true rfl, Nat.le_of_ble_eq_true rfl⟩) hP hD hS (fun H locs hP hD hS => ?_)
  refine lv_pop hx hb dL_law_544 rfl ?_
  refine lv_goto (tgt := 699) hx hb dL_law_545 (by decide) ?_
  exact hend _ _ _ pa _ _ (rs_together hR) hP hD hS hl
set_option maxHeartbeats 4000000 in
set_option maxRecDepth 100000 in
theorem case_16 {p : Program} {e : Env} {s : State} {m : MethodId} {below : List Frame} {meth : Method} {c : Code} (l : Launch) {b L : Nat} {xs : Nat → Int32} {A : Nat → Prop} (hx : p.tables.exec = Jvm.exec) (hb : c.code = code) (hr : meth.sig.returnType = ret) (hml : c.maxLocals = 4) (hown : s.vm.findClass RL = some m.cls) (hts : ∀ w ∈ wsL_law, w.before #[Value.ref b] s = true) (hX : va_X b L xs s s.heap) (hbl : b < s.heap.size) (hbA : ¬ A b) (dC : Nat → ClassId) (dI : Nat → Nat → Nat) (cI cC cG cZ : ClassId) (ad : Nat → Nat → Nat) (mo : Nat → Nat) (hK : va_K (dC, dI) vwCl (tyL cI cC cG cZ) s) (hL : L ≤ 2048) (n : Nat) (hn : n + 4 ≤ L) (pa : Nat → Nat → Nat) (x : XS) (y : MST) (hR : RS x y) (H : Heap) (locs : List Loc) (ls : Array Slot) (hP : bP (dC, dI) vwCl (xW cI cC cG ad pa x ++ mW cI cZ mo y) H) (hD : bD A (xW cI cC cG ad pa x ++ mW cI cZ mo y)) (hS : va_S A s.heap H locs) (hl : lv_has ls 4 [(3, .int (nI n)), (2, .ref (mo 0)), (1, .ref (ad 0 0)), (0, .ref b)]) (hend : ∀ (H : Heap) (locs : List Loc) (ls : Array Slot) (pa : Nat → Nat → Nat) (x : XS) (y : MST), RS x y → bP (dC, dI) vwCl (xW cI cC cG ad pa x ++ mW cI cZ mo y) H → bD A (xW cI cC cG ad pa x ++ mW cI cZ mo y) → va_S A s.heap H locs → lv_has ls 4 [(3, .int (nI n)), (2, .ref (mo 0)), (1, .ref (ad 0 0)), (0, .ref b)] → W p l e room_1 s m #[Value.ref b] below meth c H locs 600000 7302250 (lw_Z below #[Value.ref b] s) (F0 m 699 ls [])) : W p l e room_1 s m #[Value.ref b] below meth c H locs 600000 7302250 (lw_Z below #[Value.ref b] s) (F0 m 548 ls []) := by
  refine lv_aload_n hx hb dL_law_548 rfl (lv_at hl 2 rfl) ?_
  refine lv_aload_n hx hb dL_law_549 rfl (lv_at hl 3 rfl) ?_
  refine lv_iload_n hx hb dL_law_550 rfl (lv_at hl 0 rfl) ?_
  refine lv_iconst (v := 1) hx hb dL_law_551 (by decide) ?_
  refine lv_iadd hx hb dL_law_552 ?_
  refine va_sld hx hb hX hbl hbA hS (sc_in (q := 1) rfl (by decide) hn hL) dL_law_553 ?_
  refine lv_i2l (v := (xs (nI n + 1).toNatClampNeg).toInt64) hx hb dL_law_554 rfl ?_
  refine lv_bipush (v := 32) hx hb dL_law_555 (by decide) ?_
  refine lv_lshl (v := (((xs (nI n + 1).toNatClampNeg).toInt64) <<< ((32 : Int32).toInt64 &&& 63))) hx hb dL_law_557 rfl ?_
  refine lv_aload_n hx hb dL_law_558 rfl (lv_at hl 3 rfl) ?_
  refine lv_iload_n hx hb dL_law_559 rfl (lv_at hl 0 rfl) ?_
  refine lv_iconst (v := 2) hx hb dL_law_560 (by decide) ?_
  refine lv_iadd hx hb dL_law_561 ?_
  refine va_sld hx hb hX hbl hbA hS (sc_in (q := 2) rfl (by decide) hn hL) dL_law_562 ?_
  refine lv_i2l (v := (xs (nI n + 2).toNatClampNeg).toInt64) hx hb dL_law_563 rfl ?_
  refine lv_ldc2 (v := 4294967295) hx hb hown (hts (.constantLong RL 81 (4294967295)) (by decide +kernel)) dL_law_564 ?_
  refine lv_land hx hb dL_law_567 ?_
  refine lv_lor hx hb dL_law_568 ?_
  refine lw_x (va_runV (As := [.long ((((xs (nI n + 1).toNatClampNeg).toInt64) <<< ((32 : Int32).toInt64 &&& 63)) ||| (((xs (nI n + 2).toNatClampNeg).toInt64) &&& 4294967295))]) (rest := []) ⟨hx, hb, hml, hown, hts⟩ (cu_TC_put l dC dI cI cC cG cZ ad pa x ((((xs (nI n + 1).toNatClampNeg).toInt64) <<< ((32 : Int32).toInt64 &&& 63)) ||| (((xs (nI n + 2).toNatClampNeg).toInt64) &&& 4294967295)) (rs_l hR)) (cwV 1 hts gL_law_X6_put rfl rfl rfl (by decide +kernel) ⟨Nat.le_of_ble_eq_true rfl, Nat.le_of_ble_eq_true rfl⟩) (lw_preX hP hK hD) rfl rfl hl.1 rfl (lv_room (Nat.le_of_ble_eq_true rfl)) dL_law_569 ⟨Nat.le_of_ble_eq_true rfl, Nat.le_of_ble_eq_true rfl⟩) hP hD hS (fun H locs pa hP hD hS => ?_)
  refine lv_pop hx hb dL_law_572 rfl ?_
  refine lv_aload_n hx hb dL_law_573 rfl (lv_at hl 1 rfl) ?_
  refine lv_aload_n hx hb dL_law_574 rfl (lv_at hl 3 rfl) ?_
  refine lv_iload_n hx hb dL_law_575 rfl (lv_at hl 0 rfl) ?_
  refine lv_iconst (v := 1) hx hb dL_law_576 (by decide) ?_
  refine lv_iadd hx hb dL_law_577 ?_
  refine va_sld hx hb hX hbl hbA hS (sc_in (q := 1) rfl (by decide) hn hL) dL_law_578 ?_
  refine lv_i2l (v := (xs (nI n + 1).toNatClampNeg).toInt64) hx hb dL_law_579 rfl ?_
  refine lv_bipush (v := 32) hx hb dL_law_580 (by decide) ?_
  refine lv_lshl (v := (((xs (nI n + 1).toNatClampNeg).toInt64) <<< ((32 : Int32).toInt64 &&& 63))) hx hb dL_law_582 rfl ?_
  refine lv_aload_n hx hb dL_law_583 rfl (lv_at hl 3 rfl) ?_
  refine lv_iload_n hx hb dL_law_584 rfl (lv_at hl 0 rfl) ?_
  refine lv_iconst (v := 2) hx hb dL_law_585 (by decide) ?_
  refine lv_iadd hx hb dL_law_586 ?_
  refine va_sld hx hb hX hbl hbA hS (sc_in (q := 2) rfl (by decide) hn hL) dL_law_587 ?_
  refine lv_i2l (v := (xs (nI n + 2).toNatClampNeg).toInt64) hx hb dL_law_588 rfl ?_
  refine lv_ldc2 (v := 4294967295) hx hb hown (hts (.constantLong RL 81 (4294967295)) (by decide +kernel)) dL_law_589 ?_
  refine lv_land hx hb dL_law_592 ?_
  refine lv_lor hx hb dL_law_593 ?_
  refine lw_m (va_runV (As := [.long ((((xs (nI n + 1).toNatClampNeg).toInt64) <<< ((32 : Int32).toInt64 &&& 63)) ||| (((xs (nI n + 2).toNatClampNeg).toInt64) &&& 4294967295))]) (rest := []) ⟨hx, hb, hml, hown, hts⟩ (cu_M_put l dC dI cI cC cG cZ mo y ((((xs (nI n + 1).toNatClampNeg).toInt64) <<< ((32 : Int32).toInt64 &&& 63)) ||| (((xs (nI n + 2).toNatClampNeg).toInt64) &&& 4294967295)) (rs_ln hR)) (cwV 1 hts gL_law_X7_put rfl rfl rfl (by decide +kernel) ⟨Nat.le_of_ble_eq_true rfl, Nat.le_of_ble_eq_true rfl⟩) (lw_preM hP hK hD) rfl rfl hl.1 rfl (lv_room (Nat.le_of_ble_eq_true rfl)) dL_law_594 ⟨Nat.le_of_ble_eq_true rfl, Nat.le_of_ble_eq_true rfl⟩) hP hD hS (fun H locs hP hD hS => ?_)
  refine lv_pop hx hb dL_law_597 rfl ?_
  refine lv_goto (tgt := 699) hx hb dL_law_598 (by decide) ?_
  exact hend _ _ _ pa _ _ (rs_put hR) hP hD hS hl
set_option maxHeartbeats 4000000 in
set_option maxRecDepth 100000 in
theorem case_17 {p : Program} {e : Env} {s : State} {m : MethodId} {below : List Frame} {meth : Method} {c : Code} (l : Launch) {b L : Nat} {xs : Nat → Int32} {A : Nat → Prop} (hx : p.tables.exec = Jvm.exec) (hb : c.code = code) (hr : meth.sig.returnType = ret) (hml : c.maxLocals = 4) (hown : s.vm.findClass RL = some m.cls) (hts : ∀ w ∈ wsL_law, w.before #[Value.ref b] s = true) (hX : va_X b L xs s s.heap) (hbl : b < s.heap.size) (hbA : ¬ A b) (dC : Nat → ClassId) (dI : Nat → Nat → Nat) (cI cC cG cZ : ClassId) (ad : Nat → Nat → Nat) (mo : Nat → Nat) (hK : va_K (dC, dI) vwCl (tyL cI cC cG cZ) s) (hL : L ≤ 2048) (n : Nat) (hn : n + 4 ≤ L) (pa : Nat → Nat → Nat) (x : XS) (y : MST) (hR : RS x y) (H : Heap) (locs : List Loc) (ls : Array Slot) (hP : bP (dC, dI) vwCl (xW cI cC cG ad pa x ++ mW cI cZ mo y) H) (hD : bD A (xW cI cC cG ad pa x ++ mW cI cZ mo y)) (hS : va_S A s.heap H locs) (hl : lv_has ls 4 [(3, .int (nI n)), (2, .ref (mo 0)), (1, .ref (ad 0 0)), (0, .ref b)]) (hend : ∀ (H : Heap) (locs : List Loc) (ls : Array Slot) (pa : Nat → Nat → Nat) (x : XS) (y : MST), RS x y → bP (dC, dI) vwCl (xW cI cC cG ad pa x ++ mW cI cZ mo y) H → bD A (xW cI cC cG ad pa x ++ mW cI cZ mo y) → va_S A s.heap H locs → lv_has ls 4 [(3, .int (nI n)), (2, .ref (mo 0)), (1, .ref (ad 0 0)), (0, .ref b)] → W p l e room_1 s m #[Value.ref b] below meth c H locs 600000 7302250 (lw_Z below #[Value.ref b] s) (F0 m 699 ls [])) : W p l e room_1 s m #[Value.ref b] below meth c H locs 600000 7302250 (lw_Z below #[Value.ref b] s) (F0 m 601 ls []) := by
  refine lv_aload_n hx hb dL_law_601 rfl (lv_at hl 2 rfl) ?_
  refine lw_x (va_runV (As := []) (rest := []) ⟨hx, hb, hml, hown, hts⟩ (cu_TC_wipe l dC dI cI cC cG cZ ad pa x  ) (cwV 0 hts gL_law_X6_wipe rfl rfl rfl (by decide +kernel) ⟨Nat.le_of_ble_eq_true rfl, Nat.le_of_ble_eq_true rfl⟩) (lw_preX hP hK hD) rfl rfl hl.1 rfl (lv_room (Nat.le_of_ble_eq_true rfl)) dL_law_602 ⟨Nat.le_of_ble_eq_true rfl, Nat.le_of_ble_eq_true rfl⟩) hP hD hS (fun H locs pa hP hD hS => ?_)
  refine lv_pop hx hb dL_law_605 rfl ?_
  refine lv_aload_n hx hb dL_law_606 rfl (lv_at hl 1 rfl) ?_
  refine lw_m (va_runV (As := []) (rest := []) ⟨hx, hb, hml, hown, hts⟩ (cu_M_wipe l dC dI cI cC cG cZ mo y  ) (cwV 0 hts gL_law_X7_wipe rfl rfl rfl (by decide +kernel) ⟨Nat.le_of_ble_eq_true rfl, Nat.le_of_ble_eq_true rfl⟩) (lw_preM hP hK hD) rfl rfl hl.1 rfl (lv_room (Nat.le_of_ble_eq_true rfl)) dL_law_607 ⟨Nat.le_of_ble_eq_true rfl, Nat.le_of_ble_eq_true rfl⟩) hP hD hS (fun H locs hP hD hS => ?_)
  refine lv_pop hx hb dL_law_610 rfl ?_
  refine lv_goto (tgt := 699) hx hb dL_law_611 (by decide) ?_
  exact hend _ _ _ pa _ _ (rs_wipe hR) hP hD hS hl
set_option maxHeartbeats 4000000 in
set_option maxRecDepth 100000 in
theorem case_18 {p : Program} {e : Env} {s : State} {m : MethodId} {below : List Frame} {meth : Method} {c : Code} (l : Launch) {b L : Nat} {xs : Nat → Int32} {A : Nat → Prop} (hx : p.tables.exec = Jvm.exec) (hb : c.code = code) (hr : meth.sig.returnType = ret) (hml : c.maxLocals = 4) (hown : s.vm.findClass RL = some m.cls) (hts : ∀ w ∈ wsL_law, w.before #[Value.ref b] s = true) (hX : va_X b L xs s s.heap) (hbl : b < s.heap.size) (hbA : ¬ A b) (dC : Nat → ClassId) (dI : Nat → Nat → Nat) (cI cC cG cZ : ClassId) (ad : Nat → Nat → Nat) (mo : Nat → Nat) (hK : va_K (dC, dI) vwCl (tyL cI cC cG cZ) s) (hL : L ≤ 2048) (n : Nat) (hn : n + 4 ≤ L) (pa : Nat → Nat → Nat) (x : XS) (y : MST) (hR : RS x y) (H : Heap) (locs : List Loc) (ls : Array Slot) (hP : bP (dC, dI) vwCl (xW cI cC cG ad pa x ++ mW cI cZ mo y) H) (hD : bD A (xW cI cC cG ad pa x ++ mW cI cZ mo y)) (hS : va_S A s.heap H locs) (hl : lv_has ls 4 [(3, .int (nI n)), (2, .ref (mo 0)), (1, .ref (ad 0 0)), (0, .ref b)]) (hend : ∀ (H : Heap) (locs : List Loc) (ls : Array Slot) (pa : Nat → Nat → Nat) (x : XS) (y : MST), RS x y → bP (dC, dI) vwCl (xW cI cC cG ad pa x ++ mW cI cZ mo y) H → bD A (xW cI cC cG ad pa x ++ mW cI cZ mo y) → va_S A s.heap H locs → lv_has ls 4 [(3, .int (nI n)), (2, .ref (mo 0)), (1, .ref (ad 0 0)), (0, .ref b)] → W p l e room_1 s m #[Value.ref b] below meth c H locs 600000 7302250 (lw_Z below #[Value.ref b] s) (F0 m 699 ls [])) : W p l e room_1 s m #[Value.ref b] below meth c H locs 600000 7302250 (lw_Z below #[Value.ref b] s) (F0 m 614 ls []) := by
  refine lv_aload_n hx hb dL_law_614 rfl (lv_at hl 2 rfl) ?_
  refine lw_x (va_runV (As := []) (rest := []) ⟨hx, hb, hml, hown, hts⟩ (cu_TC_fault l dC dI cI cC cG cZ ad pa x  (rs_l hR)) (cwV 0 hts gL_law_X6_fault rfl rfl rfl (by decide +kernel) ⟨Nat.le_of_ble_eq_true rfl, Nat.le_of_ble_eq_true rfl⟩) (lw_preX hP hK hD) rfl rfl hl.1 rfl (lv_room (Nat.le_of_ble_eq_true rfl)) dL_law_615 ⟨Nat.le_of_ble_eq_true rfl, Nat.le_of_ble_eq_true rfl⟩) hP hD hS (fun H locs pa hP hD hS => ?_)
  refine lv_pop hx hb dL_law_618 rfl ?_
  refine lv_aload_n hx hb dL_law_619 rfl (lv_at hl 1 rfl) ?_
  refine lw_m (va_runV (As := []) (rest := []) ⟨hx, hb, hml, hown, hts⟩ (cu_M_fault l dC dI cI cC cG cZ mo y  (rs_ln hR)) (cwV 0 hts gL_law_X7_fault rfl rfl rfl (by decide +kernel) ⟨Nat.le_of_ble_eq_true rfl, Nat.le_of_ble_eq_true rfl⟩) (lw_preM hP hK hD) rfl rfl hl.1 rfl (lv_room (Nat.le_of_ble_eq_true rfl)) dL_law_620 ⟨Nat.le_of_ble_eq_true rfl, Nat.le_of_ble_eq_true rfl⟩) hP hD hS (fun H locs hP hD hS => ?_)
  refine lv_pop hx hb dL_law_623 rfl ?_
  refine lv_goto (tgt := 699) hx hb dL_law_624 (by decide) ?_
  exact hend _ _ _ pa _ _ (rs_fault hR) hP hD hS hl
set_option maxHeartbeats 4000000 in
set_option maxRecDepth 100000 in
theorem case_19 {p : Program} {e : Env} {s : State} {m : MethodId} {below : List Frame} {meth : Method} {c : Code} (l : Launch) {b L : Nat} {xs : Nat → Int32} {A : Nat → Prop} (hx : p.tables.exec = Jvm.exec) (hb : c.code = code) (hr : meth.sig.returnType = ret) (hml : c.maxLocals = 4) (hown : s.vm.findClass RL = some m.cls) (hts : ∀ w ∈ wsL_law, w.before #[Value.ref b] s = true) (hX : va_X b L xs s s.heap) (hbl : b < s.heap.size) (hbA : ¬ A b) (dC : Nat → ClassId) (dI : Nat → Nat → Nat) (cI cC cG cZ : ClassId) (ad : Nat → Nat → Nat) (mo : Nat → Nat) (hK : va_K (dC, dI) vwCl (tyL cI cC cG cZ) s) (hL : L ≤ 2048) (n : Nat) (hn : n + 4 ≤ L) (pa : Nat → Nat → Nat) (x : XS) (y : MST) (hR : RS x y) (H : Heap) (locs : List Loc) (ls : Array Slot) (hP : bP (dC, dI) vwCl (xW cI cC cG ad pa x ++ mW cI cZ mo y) H) (hD : bD A (xW cI cC cG ad pa x ++ mW cI cZ mo y)) (hS : va_S A s.heap H locs) (hl : lv_has ls 4 [(3, .int (nI n)), (2, .ref (mo 0)), (1, .ref (ad 0 0)), (0, .ref b)]) (hend : ∀ (H : Heap) (locs : List Loc) (ls : Array Slot) (pa : Nat → Nat → Nat) (x : XS) (y : MST), RS x y → bP (dC, dI) vwCl (xW cI cC cG ad pa x ++ mW cI cZ mo y) H → bD A (xW cI cC cG ad pa x ++ mW cI cZ mo y) → va_S A s.heap H locs → lv_has ls 4 [(3, .int (nI n)), (2, .ref (mo 0)), (1, .ref (ad 0 0)), (0, .ref b)] → W p l e room_1 s m #[Value.ref b] below meth c H locs 600000 7302250 (lw_Z below #[Value.ref b] s) (F0 m 699 ls [])) : W p l e room_1 s m #[Value.ref b] below meth c H locs 600000 7302250 (lw_Z below #[Value.ref b] s) (F0 m 627 ls []) := by
  refine lv_aload_n hx hb dL_law_627 rfl (lv_at hl 2 rfl) ?_
  refine lw_x (va_runV (As := []) (rest := []) ⟨hx, hb, hml, hown, hts⟩ (cu_TC_carryOut l dC dI cI cC cG cZ ad pa x  (rs_m0 hR) (rs_m1 hR) (rs_k hR) (rs_l hR) (rs_g hR) _ rfl) (cwV 0 hts gL_law_X6_carryOut rfl rfl rfl (by decide +kernel) ⟨Nat.le_of_ble_eq_true rfl, Nat.le_of_ble_eq_true rfl⟩) (lw_preX hP hK hD) rfl rfl hl.1 rfl (lv_room (Nat.le_of_ble_eq_true rfl)) dL_law_628 ⟨Nat.le_of_ble_eq_true rfl, Nat.le_of_ble_eq_true rfl⟩) hP hD hS (fun H locs pa hP hD hS => ?_)
  refine lv_pop hx hb dL_law_631 rfl ?_
  refine lv_aload_n hx hb dL_law_632 rfl (lv_at hl 1 rfl) ?_
  refine lw_m (va_runV (As := []) (rest := []) ⟨hx, hb, hml, hown, hts⟩ (cu_M_carryOut l dC dI cI cC cG cZ mo y  (rs_MI hR) (rs_kp hR) (rs_ln hR)) (cwV 0 hts gL_law_X7_carryOut rfl rfl rfl (by decide +kernel) ⟨Nat.le_of_ble_eq_true rfl, Nat.le_of_ble_eq_true rfl⟩) (lw_preM hP hK hD) rfl rfl hl.1 rfl (lv_room (Nat.le_of_ble_eq_true rfl)) dL_law_633 ⟨Nat.le_of_ble_eq_true rfl, Nat.le_of_ble_eq_true rfl⟩) hP hD hS (fun H locs hP hD hS => ?_)
  refine lv_pop hx hb dL_law_636 rfl ?_
  refine lv_goto (tgt := 699) hx hb dL_law_637 (by decide) ?_
  exact hend _ _ _ pa _ _ (rs_carryOut hR) hP hD hS hl
set_option maxHeartbeats 4000000 in
set_option maxRecDepth 100000 in
theorem case_20 {p : Program} {e : Env} {s : State} {m : MethodId} {below : List Frame} {meth : Method} {c : Code} (l : Launch) {b L : Nat} {xs : Nat → Int32} {A : Nat → Prop} (hx : p.tables.exec = Jvm.exec) (hb : c.code = code) (hr : meth.sig.returnType = ret) (hml : c.maxLocals = 4) (hown : s.vm.findClass RL = some m.cls) (hts : ∀ w ∈ wsL_law, w.before #[Value.ref b] s = true) (hX : va_X b L xs s s.heap) (hbl : b < s.heap.size) (hbA : ¬ A b) (dC : Nat → ClassId) (dI : Nat → Nat → Nat) (cI cC cG cZ : ClassId) (ad : Nat → Nat → Nat) (mo : Nat → Nat) (hK : va_K (dC, dI) vwCl (tyL cI cC cG cZ) s) (hL : L ≤ 2048) (n : Nat) (hn : n + 4 ≤ L) (pa : Nat → Nat → Nat) (x : XS) (y : MST) (hR : RS x y) (H : Heap) (locs : List Loc) (ls : Array Slot) (hP : bP (dC, dI) vwCl (xW cI cC cG ad pa x ++ mW cI cZ mo y) H) (hD : bD A (xW cI cC cG ad pa x ++ mW cI cZ mo y)) (hS : va_S A s.heap H locs) (hl : lv_has ls 4 [(3, .int (nI n)), (2, .ref (mo 0)), (1, .ref (ad 0 0)), (0, .ref b)]) (hend : ∀ (H : Heap) (locs : List Loc) (ls : Array Slot) (pa : Nat → Nat → Nat) (x : XS) (y : MST), RS x y → bP (dC, dI) vwCl (xW cI cC cG ad pa x ++ mW cI cZ mo y) H → bD A (xW cI cC cG ad pa x ++ mW cI cZ mo y) → va_S A s.heap H locs → lv_has ls 4 [(3, .int (nI n)), (2, .ref (mo 0)), (1, .ref (ad 0 0)), (0, .ref b)] → W p l e room_1 s m #[Value.ref b] below meth c H locs 600000 7302250 (lw_Z below #[Value.ref b] s) (F0 m 699 ls [])) : W p l e room_1 s m #[Value.ref b] below meth c H locs 600000 7302250 (lw_Z below #[Value.ref b] s) (F0 m 640 ls []) := by
  refine lv_aload_n hx hb dL_law_640 rfl (lv_at hl 2 rfl) ?_
  refine lw_x (va_runV (As := []) (rest := []) ⟨hx, hb, hml, hown, hts⟩ (cu_TC_undo l dC dI cI cC cG cZ ad pa x  (rs_k hR) _ rfl) (cwV 0 hts gL_law_X6_undo rfl rfl rfl (by decide +kernel) ⟨Nat.le_of_ble_eq_true rfl, Nat.le_of_ble_eq_true rfl⟩) (lw_preX hP hK hD) rfl rfl hl.1 rfl (lv_room (Nat.le_of_ble_eq_true rfl)) dL_law_641 ⟨Nat.le_of_ble_eq_true rfl, Nat.le_of_ble_eq_true rfl⟩) hP hD hS (fun H locs pa hP hD hS => ?_)
  refine lv_pop hx hb dL_law_644 rfl ?_
  refine lv_aload_n hx hb dL_law_645 rfl (lv_at hl 1 rfl) ?_
  refine lw_m (va_runV (As := []) (rest := []) ⟨hx, hb, hml, hown, hts⟩ (cu_M_undo l dC dI cI cC cG cZ mo y  (rs_kp hR)) (cwV 0 hts gL_law_X7_undo rfl rfl rfl (by decide +kernel) ⟨Nat.le_of_ble_eq_true rfl, Nat.le_of_ble_eq_true rfl⟩) (lw_preM hP hK hD) rfl rfl hl.1 rfl (lv_room (Nat.le_of_ble_eq_true rfl)) dL_law_646 ⟨Nat.le_of_ble_eq_true rfl, Nat.le_of_ble_eq_true rfl⟩) hP hD hS (fun H locs hP hD hS => ?_)
  refine lv_pop hx hb dL_law_649 rfl ?_
  refine lv_goto (tgt := 699) hx hb dL_law_650 (by decide) ?_
  exact hend _ _ _ pa _ _ (rs_undo hR) hP hD hS hl
set_option maxHeartbeats 4000000 in
set_option maxRecDepth 100000 in
theorem case_21 {p : Program} {e : Env} {s : State} {m : MethodId} {below : List Frame} {meth : Method} {c : Code} (l : Launch) {b L : Nat} {xs : Nat → Int32} {A : Nat → Prop} (hx : p.tables.exec = Jvm.exec) (hb : c.code = code) (hr : meth.sig.returnType = ret) (hml : c.maxLocals = 4) (hown : s.vm.findClass RL = some m.cls) (hts : ∀ w ∈ wsL_law, w.before #[Value.ref b] s = true) (hX : va_X b L xs s s.heap) (hbl : b < s.heap.size) (hbA : ¬ A b) (dC : Nat → ClassId) (dI : Nat → Nat → Nat) (cI cC cG cZ : ClassId) (ad : Nat → Nat → Nat) (mo : Nat → Nat) (hK : va_K (dC, dI) vwCl (tyL cI cC cG cZ) s) (hL : L ≤ 2048) (n : Nat) (hn : n + 4 ≤ L) (pa : Nat → Nat → Nat) (x : XS) (y : MST) (hR : RS x y) (H : Heap) (locs : List Loc) (ls : Array Slot) (hP : bP (dC, dI) vwCl (xW cI cC cG ad pa x ++ mW cI cZ mo y) H) (hD : bD A (xW cI cC cG ad pa x ++ mW cI cZ mo y)) (hS : va_S A s.heap H locs) (hl : lv_has ls 4 [(3, .int (nI n)), (2, .ref (mo 0)), (1, .ref (ad 0 0)), (0, .ref b)]) (hend : ∀ (H : Heap) (locs : List Loc) (ls : Array Slot) (pa : Nat → Nat → Nat) (x : XS) (y : MST), RS x y → bP (dC, dI) vwCl (xW cI cC cG ad pa x ++ mW cI cZ mo y) H → bD A (xW cI cC cG ad pa x ++ mW cI cZ mo y) → va_S A s.heap H locs → lv_has ls 4 [(3, .int (nI n)), (2, .ref (mo 0)), (1, .ref (ad 0 0)), (0, .ref b)] → W p l e room_1 s m #[Value.ref b] below meth c H locs 600000 7302250 (lw_Z below #[Value.ref b] s) (F0 m 699 ls [])) : W p l e room_1 s m #[Value.ref b] below meth c H locs 600000 7302250 (lw_Z below #[Value.ref b] s) (F0 m 653 ls []) := by
  refine lv_aload_n hx hb dL_law_653 rfl (lv_at hl 2 rfl) ?_
  refine lv_aload_n hx hb dL_law_654 rfl (lv_at hl 3 rfl) ?_
  refine lv_iload_n hx hb dL_law_655 rfl (lv_at hl 0 rfl) ?_
  refine lv_iconst (v := 1) hx hb dL_law_656 (by decide) ?_
  refine lv_iadd hx hb dL_law_657 ?_
  refine va_sld hx hb hX hbl hbA hS (sc_in (q := 1) rfl (by decide) hn hL) dL_law_658 ?_
  refine lw_x (va_runV (As := [.int (xs (nI n + 1).toNatClampNeg)]) (rest := []) ⟨hx, hb, hml, hown, hts⟩ (cu_TC_save l dC dI cI cC cG cZ ad pa x (xs (nI n + 1).toNatClampNeg) _ rfl) (cwV 1 hts gL_law_X6_save rfl rfl rfl (by decide +kernel) ⟨Nat.le_of_ble_eq_true rfl, Nat.le_of_ble_eq_true rfl⟩) (lw_preX hP hK hD) rfl rfl hl.1 rfl (lv_room (Nat.le_of_ble_eq_true rfl)) dL_law_659 ⟨Nat.le_of_ble_eq_true rfl, Nat.le_of_ble_eq_true rfl⟩) hP hD hS (fun H locs pa hP hD hS => ?_)
  refine lv_pop hx hb dL_law_662 rfl ?_
  refine lv_aload_n hx hb dL_law_663 rfl (lv_at hl 1 rfl) ?_
  refine lv_aload_n hx hb dL_law_664 rfl (lv_at hl 3 rfl) ?_
  refine lv_iload_n hx hb dL_law_665 rfl (lv_at hl 0 rfl) ?_
  refine lv_iconst (v := 1) hx hb dL_law_666 (by decide) ?_
  refine lv_iadd hx hb dL_law_667 ?_
  refine va_sld hx hb hX hbl hbA hS (sc_in (q := 1) rfl (by decide) hn hL) dL_law_668 ?_
  refine lw_m (va_runV (As := [.int (xs (nI n + 1).toNatClampNeg)]) (rest := []) ⟨hx, hb, hml, hown, hts⟩ (cu_M_save l dC dI cI cC cG cZ mo y (xs (nI n + 1).toNatClampNeg) ) (cwV 1 hts gL_law_X7_save rfl rfl rfl (by decide +kernel) ⟨Nat.le_of_ble_eq_true rfl, Nat.le_of_ble_eq_true rfl⟩) (lw_preM hP hK hD) rfl rfl hl.1 rfl (lv_room (Nat.le_of_ble_eq_true rfl)) dL_law_669 ⟨Nat.le_of_ble_eq_true rfl, Nat.le_of_ble_eq_true rfl⟩) hP hD hS (fun H locs hP hD hS => ?_)
  refine lv_pop hx hb dL_law_672 rfl ?_
  refine lv_goto (tgt := 699) hx hb dL_law_673 (by decide) ?_
  exact hend _ _ _ pa _ _ (rs_save hR) hP hD hS hl
set_option maxHeartbeats 4000000 in
set_option maxRecDepth 100000 in
theorem case_22 {p : Program} {e : Env} {s : State} {m : MethodId} {below : List Frame} {meth : Method} {c : Code} (l : Launch) {b L : Nat} {xs : Nat → Int32} {A : Nat → Prop} (hx : p.tables.exec = Jvm.exec) (hb : c.code = code) (hr : meth.sig.returnType = ret) (hml : c.maxLocals = 4) (hown : s.vm.findClass RL = some m.cls) (hts : ∀ w ∈ wsL_law, w.before #[Value.ref b] s = true) (hX : va_X b L xs s s.heap) (hbl : b < s.heap.size) (hbA : ¬ A b) (dC : Nat → ClassId) (dI : Nat → Nat → Nat) (cI cC cG cZ : ClassId) (ad : Nat → Nat → Nat) (mo : Nat → Nat) (hK : va_K (dC, dI) vwCl (tyL cI cC cG cZ) s) (hL : L ≤ 2048) (n : Nat) (hn : n + 4 ≤ L) (pa : Nat → Nat → Nat) (x : XS) (y : MST) (hR : RS x y) (H : Heap) (locs : List Loc) (ls : Array Slot) (hP : bP (dC, dI) vwCl (xW cI cC cG ad pa x ++ mW cI cZ mo y) H) (hD : bD A (xW cI cC cG ad pa x ++ mW cI cZ mo y)) (hS : va_S A s.heap H locs) (hl : lv_has ls 4 [(3, .int (nI n)), (2, .ref (mo 0)), (1, .ref (ad 0 0)), (0, .ref b)]) (hend : ∀ (H : Heap) (locs : List Loc) (ls : Array Slot) (pa : Nat → Nat → Nat) (x : XS) (y : MST), RS x y → bP (dC, dI) vwCl (xW cI cC cG ad pa x ++ mW cI cZ mo y) H → bD A (xW cI cC cG ad pa x ++ mW cI cZ mo y) → va_S A s.heap H locs → lv_has ls 4 [(3, .int (nI n)), (2, .ref (mo 0)), (1, .ref (ad 0 0)), (0, .ref b)] → W p l e room_1 s m #[Value.ref b] below meth c H locs 600000 7302250 (lw_Z below #[Value.ref b] s) (F0 m 699 ls [])) : W p l e room_1 s m #[Value.ref b] below meth c H locs 600000 7302250 (lw_Z below #[Value.ref b] s) (F0 m 676 ls []) := by
  refine lv_aload_n hx hb dL_law_676 rfl (lv_at hl 2 rfl) ?_
  refine lv_aload_n hx hb dL_law_677 rfl (lv_at hl 3 rfl) ?_
  refine lv_iload_n hx hb dL_law_678 rfl (lv_at hl 0 rfl) ?_
  refine lv_iconst (v := 1) hx hb dL_law_679 (by decide) ?_
  refine lv_iadd hx hb dL_law_680 ?_
  refine va_sld hx hb hX hbl hbA hS (sc_in (q := 1) rfl (by decide) hn hL) dL_law_681 ?_
  refine lw_x (va_runV (As := [.int (xs (nI n + 1).toNatClampNeg)]) (rest := []) ⟨hx, hb, hml, hown, hts⟩ (cu_TC_restore l dC dI cI cC cG cZ ad pa x (xs (nI n + 1).toNatClampNeg) (rs_k hR) _ rfl) (cwV 1 hts gL_law_X6_restore rfl rfl rfl (by decide +kernel) ⟨Nat.le_of_ble_eq_true rfl, Nat.le_of_ble_eq_true rfl⟩) (lw_preX hP hK hD) rfl rfl hl.1 rfl (lv_room (Nat.le_of_ble_eq_true rfl)) dL_law_682 ⟨Nat.le_of_ble_eq_true rfl, Nat.le_of_ble_eq_true rfl⟩) hP hD hS (fun H locs pa hP hD hS => ?_)
  refine lv_aload_n hx hb dL_law_685 rfl (lv_at hl 1 rfl) ?_
  refine lv_aload_n hx hb dL_law_686 rfl (lv_at hl 3 rfl) ?_
  refine lv_iload_n hx hb dL_law_687 rfl (lv_at hl 0 rfl) ?_
  refine lv_iconst (v := 1) hx hb dL_law_688 (by decide) ?_
  refine lv_iadd hx hb dL_law_689 ?_
  refine va_sld hx hb hX hbl hbA hS (sc_in (q := 1) rfl (by decide) hn hL) dL_law_690 ?_
  refine lw_m (va_runV (As := [.int (xs (nI n + 1).toNatClampNeg)]) (rest := [.int ((X_restore (xs (nI n + 1).toNatClampNeg) x).1)]) ⟨hx, hb, hml, hown, hts⟩ (cu_M_restore l dC dI cI cC cG cZ mo y (xs (nI n + 1).toNatClampNeg) (rs_kp hR)) (cwV 1 hts gL_law_X7_restore rfl rfl rfl (by decide +kernel) ⟨Nat.le_of_ble_eq_true rfl, Nat.le_of_ble_eq_true rfl⟩) (lw_preM hP hK hD) rfl rfl hl.1 rfl (lv_room (Nat.le_of_ble_eq_true rfl)) dL_law_691 ⟨Nat.le_of_ble_eq_true rfl, Nat.le_of_ble_eq_true rfl⟩) hP hD hS (fun H locs hP hD hS => ?_)
  refine lv_icmp_eq (tgt := 699) hx hb dL_law_694 (by decide) (fun _ => ?_) (fun h => absurd (es_restore hR) h)
  exact hend _ _ _ pa _ _ (rs_restore hR) hP hD hS hl
