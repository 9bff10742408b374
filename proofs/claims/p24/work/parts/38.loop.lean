set_option maxHeartbeats 8000000 in
set_option maxRecDepth 100000 in
theorem law_disp {p : Program} {e : Env} {s : State} {m : MethodId} {below : List Frame} {meth : Method} {c : Code} (l : Launch) {b L : Nat} {xs : Nat → Int32} {A : Nat → Prop} (hx : p.tables.exec = Jvm.exec) (hb : c.code = code) (hr : meth.sig.returnType = ret) (hml : c.maxLocals = 4) (hown : s.vm.findClass RL = some m.cls) (hts : ∀ w ∈ wsL_law, w.before #[Value.ref b] s = true) (hX : va_X b L xs s s.heap) (hbl : b < s.heap.size) (hbA : ¬ A b) (dC : Nat → ClassId) (dI : Nat → Nat → Nat) (cI cC cG cZ : ClassId) (ad : Nat → Nat → Nat) (mo : Nat → Nat) (hK : va_K (dC, dI) vwCl (tyL cI cC cG cZ) s) (hL : L ≤ 2048) (n : Nat) (hn : n + 4 ≤ L) (pa : Nat → Nat → Nat) (x : XS) (y : MST) (hR : RS x y) (H : Heap) (locs : List Loc) (ls : Array Slot) (hP : bP (dC, dI) vwCl (xW cI cC cG ad pa x ++ mW cI cZ mo y) H) (hD : bD A (xW cI cC cG ad pa x ++ mW cI cZ mo y)) (hS : va_S A s.heap H locs) (hl : lv_has ls 4 [(3, .int (nI n)), (2, .ref (mo 0)), (1, .ref (ad 0 0)), (0, .ref b)]) (hend : ∀ (H : Heap) (locs : List Loc) (ls : Array Slot) (pa : Nat → Nat → Nat) (x : XS) (y : MST), RS x y → bP (dC, dI) vwCl (xW cI cC cG ad pa x ++ mW cI cZ mo y) H → bD A (xW cI cC cG ad pa x ++ mW cI cZ mo y) → va_S A s.heap H locs → lv_has ls 4 [(3, .int (nI n)), (2, .ref (mo 0)), (1, .ref (ad 0 0)), (0, .ref b)] → W p l e room_1 s m #[Value.ref b] below meth c H locs 600000 7302250 (lw_Z below #[Value.ref b] s) (F0 m 699 ls [])) : W p l e room_1 s m #[Value.ref b] below meth c H locs 600000 7302250 (lw_Z below #[Value.ref b] s) (F0 m 26 ls []) := by
  refine lv_aload_n hx hb dL_law_26 rfl (lv_at hl 3 rfl) ?_
  refine lv_iload_n hx hb dL_law_27 rfl (lv_at hl 0 rfl) ?_
  refine va_sld hx hb hX hbl hbA hS (sc_in0 hn hL) dL_law_28 ?_
  refine lv_bipush (v := 31) hx hb dL_law_29 (by decide) ?_
  refine lv_iand hx hb dL_law_31 ?_
  by_cases d_0 : (xs (nI n).toNatClampNeg) &&& 31 = 0
  · refine lv_tableIn (off := 108) (tgt := 140) hx hb dL_law_32 (by rw [d_0]; decide) (by rw [d_0]; decide) (by rw [d_0]; rfl) (by decide) ?_
    exact case_0 l hx hb hr hml hown hts hX hbl hbA dC dI cI cC cG cZ ad mo hK hL n hn pa x y hR _ _ _ hP hD hS hl hend
  by_cases d_1 : (xs (nI n).toNatClampNeg) &&& 31 = 1
  · refine lv_tableIn (off := 131) (tgt := 163) hx hb dL_law_32 (by rw [d_1]; decide) (by rw [d_1]; decide) (by rw [d_1]; rfl) (by decide) ?_
    exact case_1 l hx hb hr hml hown hts hX hbl hbA dC dI cI cC cG cZ ad mo hK hL n hn pa x y hR _ _ _ hP hD hS hl hend
  by_cases d_2 : (xs (nI n).toNatClampNeg) &&& 31 = 2
  · refine lv_tableIn (off := 154) (tgt := 186) hx hb dL_law_32 (by rw [d_2]; decide) (by rw [d_2]; decide) (by rw [d_2]; rfl) (by decide) ?_
    exact case_2 l hx hb hr hml hown hts hX hbl hbA dC dI cI cC cG cZ ad mo hK hL n hn pa x y hR _ _ _ hP hD hS hl hend
  by_cases d_3 : (xs (nI n).toNatClampNeg) &&& 31 = 3
  · refine lv_tableIn (off := 177) (tgt := 209) hx hb dL_law_32 (by rw [d_3]; decide) (by rw [d_3]; decide) (by rw [d_3]; rfl) (by decide) ?_
    exact case_3 l hx hb hr hml hown hts hX hbl hbA dC dI cI cC cG cZ ad mo hK hL n hn pa x y hR _ _ _ hP hD hS hl hend
  by_cases d_4 : (xs (nI n).toNatClampNeg) &&& 31 = 4
  · refine lv_tableIn (off := 200) (tgt := 232) hx hb dL_law_32 (by rw [d_4]; decide) (by rw [d_4]; decide) (by rw [d_4]; rfl) (by decide) ?_
    exact case_4 l hx hb hr hml hown hts hX hbl hbA dC dI cI cC cG cZ ad mo hK hL n hn pa x y hR _ _ _ hP hD hS hl hend
  by_cases d_5 : (xs (nI n).toNatClampNeg) &&& 31 = 5
  · refine lv_tableIn (off := 223) (tgt := 255) hx hb dL_law_32 (by rw [d_5]; decide) (by rw [d_5]; decide) (by rw [d_5]; rfl) (by decide) ?_
    exact case_5 l hx hb hr hml hown hts hX hbl hbA dC dI cI cC cG cZ ad mo hK hL n hn pa x y hR _ _ _ hP hD hS hl hend
  by_cases d_6 : (xs (nI n).toNatClampNeg) &&& 31 = 6
  · refine lv_tableIn (off := 236) (tgt := 268) hx hb dL_law_32 (by rw [d_6]; decide) (by rw [d_6]; decide) (by rw [d_6]; rfl) (by decide) ?_
    exact case_6 l hx hb hr hml hown hts hX hbl hbA dC dI cI cC cG cZ ad mo hK hL n hn pa x y hR _ _ _ hP hD hS hl hend
  by_cases d_7 : (xs (nI n).toNatClampNeg) &&& 31 = 7
  · refine lv_tableIn (off := 269) (tgt := 301) hx hb dL_law_32 (by rw [d_7]; decide) (by rw [d_7]; decide) (by rw [d_7]; rfl) (by decide) ?_
    exact case_7 l hx hb hr hml hown hts hX hbl hbA dC dI cI cC cG cZ ad mo hK hL n hn pa x y hR _ _ _ hP hD hS hl hend
  by_cases d_8 : (xs (nI n).toNatClampNeg) &&& 31 = 8
  · refine lv_tableIn (off := 302) (tgt := 334) hx hb dL_law_32 (by rw [d_8]; decide) (by rw [d_8]; decide) (by rw [d_8]; rfl) (by decide) ?_
    exact case_8 l hx hb hr hml hown hts hX hbl hbA dC dI cI cC cG cZ ad mo hK hL n hn pa x y hR _ _ _ hP hD hS hl hend
  by_cases d_9 : (xs (nI n).toNatClampNeg) &&& 31 = 9
  · refine lv_tableIn (off := 335) (tgt := 367) hx hb dL_law_32 (by rw [d_9]; decide) (by rw [d_9]; decide) (by rw [d_9]; rfl) (by decide) ?_
    exact case_9 l hx hb hr hml hown hts hX hbl hbA dC dI cI cC cG cZ ad mo hK hL n hn pa x y hR _ _ _ hP hD hS hl hend
  by_cases d_10 : (xs (nI n).toNatClampNeg) &&& 31 = 10
  · refine lv_tableIn (off := 368) (tgt := 400) hx hb dL_law_32 (by rw [d_10]; decide) (by rw [d_10]; decide) (by rw [d_10]; rfl) (by decide) ?_
    exact case_10 l hx hb hr hml hown hts hX hbl hbA dC dI cI cC cG cZ ad mo hK hL n hn pa x y hR _ _ _ hP hD hS hl hend
  by_cases d_11 : (xs (nI n).toNatClampNeg) &&& 31 = 11
  · refine lv_tableIn (off := 391) (tgt := 423) hx hb dL_law_32 (by rw [d_11]; decide) (by rw [d_11]; decide) (by rw [d_11]; rfl) (by decide) ?_
    exact case_11 l hx hb hr hml hown hts hX hbl hbA dC dI cI cC cG cZ ad mo hK hL n hn pa x y hR _ _ _ hP hD hS hl hend
  by_cases d_12 : (xs (nI n).toNatClampNeg) &&& 31 = 12
  · refine lv_tableIn (off := 414) (tgt := 446) hx hb dL_law_32 (by rw [d_12]; decide) (by rw [d_12]; decide) (by rw [d_12]; rfl) (by decide) ?_
    exact case_12 l hx hb hr hml hown hts hX hbl hbA dC dI cI cC cG cZ ad mo hK hL n hn pa x y hR _ _ _ hP hD hS hl hend
  by_cases d_13 : (xs (nI n).toNatClampNeg) &&& 31 = 13
  · refine lv_tableIn (off := 437) (tgt := 469) hx hb dL_law_32 (by rw [d_13]; decide) (by rw [d_13]; decide) (by rw [d_13]; rfl) (by decide) ?_
    exact case_13 l hx hb hr hml hown hts hX hbl hbA dC dI cI cC cG cZ ad mo hK hL n hn pa x y hR _ _ _ hP hD hS hl hend
  by_cases d_14 : (xs (nI n).toNatClampNeg) &&& 31 = 14
  · refine lv_tableIn (off := 460) (tgt := 492) hx hb dL_law_32 (by rw [d_14]; decide) (by rw [d_14]; decide) (by rw [d_14]; rfl) (by decide) ?_
    exact case_14 l hx hb hr hml hown hts hX hbl hbA dC dI cI cC cG cZ ad mo hK hL n hn pa x y hR _ _ _ hP hD hS hl hend
  by_cases d_15 : (xs (nI n).toNatClampNeg) &&& 31 = 15
  · refine lv_tableIn (off := 473) (tgt := 505) hx hb dL_law_32 (by rw [d_15]; decide) (by rw [d_15]; decide) (by rw [d_15]; rfl) (by decide) ?_
    exact case_15 l hx hb hr hml hown hts hX hbl hbA dC dI cI cC cG cZ ad mo hK hL n hn pa x y hR _ _ _ hP hD hS hl hend
  by_cases d_16 : (xs (nI n).toNatClampNeg) &&& 31 = 16
  · refine lv_tableIn (off := 516) (tgt := 548) hx hb dL_law_32 (by rw [d_16]; decide) (by rw [d_16]; decide) (by rw [d_16]; rfl) (by decide) ?_
    exact case_16 l hx hb hr hml hown hts hX hbl hbA dC dI cI cC cG cZ ad mo hK hL n hn pa x y hR _ _ _ hP hD hS hl hend
  by_cases d_17 : (xs (nI n).toNatClampNeg) &&& 31 = 17
  · refine lv_tableIn (off := 569) (tgt := 601) hx hb dL_law_32 (by rw [d_17]; decide) (by rw [d_17]; decide) (by rw [d_17]; rfl) (by decide) ?_
    exact case_17 l hx hb hr hml hown hts hX hbl hbA dC dI cI cC cG cZ ad mo hK hL n hn pa x y hR _ _ _ hP hD hS hl hend
  by_cases d_18 : (xs (nI n).toNatClampNeg) &&& 31 = 18
  · refine lv_tableIn (off := 582) (tgt := 614) hx hb dL_law_32 (by rw [d_18]; decide) (by rw [d_18]; decide) (by rw [d_18]; rfl) (by decide) ?_
    exact case_18 l hx hb hr hml hown hts hX hbl hbA dC dI cI cC cG cZ ad mo hK hL n hn pa x y hR _ _ _ hP hD hS hl hend
  by_cases d_19 : (xs (nI n).toNatClampNeg) &&& 31 = 19
  · refine lv_tableIn (off := 595) (tgt := 627) hx hb dL_law_32 (by rw [d_19]; decide) (by rw [d_19]; decide) (by rw [d_19]; rfl) (by decide) ?_
    exact case_19 l hx hb hr hml hown hts hX hbl hbA dC dI cI cC cG cZ ad mo hK hL n hn pa x y hR _ _ _ hP hD hS hl hend
  by_cases d_20 : (xs (nI n).toNatClampNeg) &&& 31 = 20
  · refine lv_tableIn (off := 608) (tgt := 640) hx hb dL_law_32 (by rw [d_20]; decide) (by rw [d_20]; decide) (by rw [d_20]; rfl) (by decide) ?_
    exact case_20 l hx hb hr hml hown hts hX hbl hbA dC dI cI cC cG cZ ad mo hK hL n hn pa x y hR _ _ _ hP hD hS hl hend
  by_cases d_21 : (xs (nI n).toNatClampNeg) &&& 31 = 21
  · refine lv_tableIn (off := 621) (tgt := 653) hx hb dL_law_32 (by rw [d_21]; decide) (by rw [d_21]; decide) (by rw [d_21]; rfl) (by decide) ?_
    exact case_21 l hx hb hr hml hown hts hX hbl hbA dC dI cI cC cG cZ ad mo hK hL n hn pa x y hR _ _ _ hP hD hS hl hend
  by_cases d_22 : (xs (nI n).toNatClampNeg) &&& 31 = 22
  · refine lv_tableIn (off := 644) (tgt := 676) hx hb dL_law_32 (by rw [d_22]; decide) (by rw [d_22]; decide) (by rw [d_22]; rfl) (by decide) ?_
    exact case_22 l hx hb hr hml hown hts hX hbl hbA dC dI cI cC cG cZ ad mo hK hL n hn pa x y hR _ _ _ hP hD hS hl hend
  refine lv_tableOut (tgt := 699) hx hb dL_law_32 (by have o_0 := lv_neT (a := 0) d_0 rfl; have o_1 := lv_neT (a := 1) d_1 rfl; have o_2 := lv_neT (a := 2) d_2 rfl; have o_3 := lv_neT (a := 3) d_3 rfl; have o_4 := lv_neT (a := 4) d_4 rfl; have o_5 := lv_neT (a := 5) d_5 rfl; have o_6 := lv_neT (a := 6) d_6 rfl; have o_7 := lv_neT (a := 7) d_7 rfl; have o_8 := lv_neT (a := 8) d_8 rfl; have o_9 := lv_neT (a := 9) d_9 rfl; have o_10 := lv_neT (a := 10) d_10 rfl; have o_11 := lv_neT (a := 11) d_11 rfl; have o_12 := lv_neT (a := 12) d_12 rfl; have o_13 := lv_neT (a := 13) d_13 rfl; have o_14 := lv_neT (a := 14) d_14 rfl; have o_15 := lv_neT (a := 15) d_15 rfl; have o_16 := lv_neT (a := 16) d_16 rfl; have o_17 := lv_neT (a := 17) d_17 rfl; have o_18 := lv_neT (a := 18) d_18 rfl; have o_19 := lv_neT (a := 19) d_19 rfl; have o_20 := lv_neT (a := 20) d_20 rfl; have o_21 := lv_neT (a := 21) d_21 rfl; have o_22 := lv_neT (a := 22) d_22 rfl; omega) (by decide) ?_
  exact hend _ _ _ pa x y hR hP hD hS hl
set_option maxHeartbeats 8000000 in
set_option maxRecDepth 100000 in
theorem law_loop {p : Program} {e : Env} {s : State} {m : MethodId} {below : List Frame} {meth : Method} {c : Code} (l : Launch) {b L : Nat} {xs : Nat → Int32} {A : Nat → Prop} (hx : p.tables.exec = Jvm.exec) (hb : c.code = code) (hr : meth.sig.returnType = ret) (hml : c.maxLocals = 4) (hown : s.vm.findClass RL = some m.cls) (hts : ∀ w ∈ wsL_law, w.before #[Value.ref b] s = true) (hX : va_X b L xs s s.heap) (hbl : b < s.heap.size) (hbA : ¬ A b) (dC : Nat → ClassId) (dI : Nat → Nat → Nat) (cI cC cG cZ : ClassId) (ad : Nat → Nat → Nat) (mo : Nat → Nat) (hK : va_K (dC, dI) vwCl (tyL cI cC cG cZ) s) (hL : L ≤ 2048) (hlocks : meth.locks = false) (hAe : A = fun q => s.heap.size ≤ q) : ∀ (f n : Nat) (pa : Nat → Nat → Nat) (x : XS) (y : MST) (H : Heap) (locs : List Loc) (ls : Array Slot), L < n + 4 * f + 4 → n ≤ L + 4 → RS x y → bP (dC, dI) vwCl (xW cI cC cG ad pa x ++ mW cI cZ mo y) H → bD A (xW cI cC cG ad pa x ++ mW cI cZ mo y) → va_S A s.heap H locs → lv_has ls 4 [(3, .int (nI n)), (2, .ref (mo 0)), (1, .ref (ad 0 0)), (0, .ref b)] → W p l e room_1 s m #[Value.ref b] below meth c H locs 600000 7302250 (lw_Z below #[Value.ref b] s) (F0 m 18 ls []) := by
  have hout : ∀ (H : Heap) (locs : List Loc) (ls : Array Slot), va_S A s.heap H locs → W p l e room_1 s m #[Value.ref b] below meth c H locs 600000 7302250 (lw_Z below #[Value.ref b] s) (F0 m 705 ls []) := by
    intro H locs ls hS
    refine lv_iconst (v := 1) hx hb dL_law_705 (by decide) ?_
    refine va_forget (fun q hq => by have h := hS.2.2 q hq; rw [hAe] at h; exact h) ?_
    exact lw_ret hx hb hr hlocks dL_law_706
  intro f
  induction f with
  | zero =>
    intro n pa x y H locs ls hf hn hR hP hD hS hl
    refine lv_iload_n hx hb dL_law_18 rfl (lv_at hl 0 rfl) ?_
    refine lv_aload_n hx hb dL_law_19 rfl (lv_at hl 3 rfl) ?_
    refine va_slen hx hb hX hbl hbA hS dL_law_20 ?_
    refine lv_iconst (v := 4) hx hb dL_law_21 (by decide) ?_
    refine lv_isub hx hb dL_law_22 ?_
    refine lv_icmp_gt (tgt := 705) hx hb dL_law_23 (by decide) (fun c_1 => hout _ _ _ hS) (fun c_1 => ?_)
    have := lL_go hL (by omega) c_1
    omega
  | succ f ih =>
    intro n pa x y H locs ls hf hn hR hP hD hS hl
    refine lv_iload_n hx hb dL_law_18 rfl (lv_at hl 0 rfl) ?_
    refine lv_aload_n hx hb dL_law_19 rfl (lv_at hl 3 rfl) ?_
    refine va_slen hx hb hX hbl hbA hS dL_law_20 ?_
    refine lv_iconst (v := 4) hx hb dL_law_21 (by decide) ?_
    refine lv_isub hx hb dL_law_22 ?_
    refine lv_icmp_gt (tgt := 705) hx hb dL_law_23 (by decide) (fun c_1 => hout _ _ _ hS) (fun c_1 => ?_)
    have hn4 := lL_go hL (by omega) c_1
    refine law_disp l hx hb hr hml hown hts hX hbl hbA dC dI cI cC cG cZ ad mo hK hL n hn4 pa x y hR _ _ _ hP hD hS hl ?_
    intro H locs ls pa x y hR hP hD hS hl
    refine lv_iinc (v := nI (n + 4)) (lv' := [(3, .int (nI (n + 4))), (2, .ref (mo 0)), (1, .ref (ad 0 0)), (0, .ref b)]) hx hb dL_law_699 hl (k := 0) rfl (nI_add n 4) (by decide) rfl (fun ls hl => ?_)
    refine lv_goto (tgt := 18) hx hb dL_law_702 (by decide) ?_
    exact ih (n + 4) pa x y _ _ _ (by omega) (by omega) hR hP hD hS hl
