def F_Law_piece_L65 (cell : Int32) (but : Int32) (ab : Int32) (tn : Int32) (gn : Int64) (ac : Int64) (dn : Int64) (fs : Nat → Int32) (fm : Nat → Int32) (mks0 : Int32) (fma0 : Nat → Int32) (mks1 : Int32) (fma1 : Nat → Int32) (fmr : Nat → Int32) (y8 : Int32) : Nat → Int32 → Int32 → (Nat → Int32) → (Nat → Int32) → Int32 × Int32 × (Nat → Int32) × (Nat → Int32)
  | 0, x9, x6, w11f, w12f => (x9, x6, w11f, w12f)
  | n + 1, x9, x6, w11f, w12f => (if (4 : Int32) ≤ x9 then (x9, x6, w11f, w12f) else (bnd ((if x9 = 0 then (if (7 : Int32) ≤ (y8 - y8 / 8 * 8) then (-1) else (((7 : Int32) * (y8 / 8)) + (y8 - y8 / 8 * 8))) else (if x9 = 1 then (if (y8 - y8 / 8 * 8) ≤ 0 then (-1) else ((((7 : Int32) * (y8 / 8)) + (y8 - y8 / 8 * 8)) - 1)) else (if x9 = 2 then (if (40 : Int32) ≤ y8 then (-1) else ((42 : Int32) + y8)) else (if y8 ≤ 7 then (-1) else ((34 : Int32) + y8))))) : Int32) (fun v_14 => (bnd ((if x9 = 0 then (y8 + 1) else (if x9 = 1 then (y8 - 1) else (if x9 = 2 then (y8 + 8) else (y8 - 8)))) : Int32) (fun v_18 => (if v_14 < 0 then (F_Law_piece_L65 cell but ab tn gn ac dn fs fm mks0 fma0 mks1 fma1 fmr y8 n (x9 + 1) x6 w11f w12f) else (if v_14 = but then (F_Law_piece_L65 cell but ab tn gn ac dn fs fm mks0 fma0 mks1 fma1 fmr y8 n (x9 + 1) x6 w11f w12f) else (bnd (F_TC_cell v_18 (0 : Int32) gn ac dn) (fun r_23 => (if r_23 = 0 then (bnd (F_TC_of v_14 (6 : Int32) tn gn ac dn fs fm mks0 fma0 mks1 fma1) (fun r_26 => (if r_26 = 1 then (if (w11f v_18.toNatClampNeg) = 0 then (F_Law_piece_L65 cell but ab tn gn ac dn fs fm mks0 fma0 mks1 fma1 fmr y8 n (x9 + 1) (x6 + 1) (upd w11f v_18.toNatClampNeg 1) (upd w12f x6.toNatClampNeg v_18)) else (F_Law_piece_L65 cell but ab tn gn ac dn fs fm mks0 fma0 mks1 fma1 fmr y8 n (x9 + 1) x6 w11f w12f)) else (if ab = 0 then (F_Law_piece_L65 cell but ab tn gn ac dn fs fm mks0 fma0 mks1 fma1 fmr y8 n (x9 + 1) x6 w11f w12f) else (bnd (F_TC_of v_14 (0 : Int32) tn gn ac dn fs fm mks0 fma0 mks1 fma1) (fun r_32 => (if r_32 = 3 then (if (w11f v_18.toNatClampNeg) = 0 then (F_Law_piece_L65 cell but ab tn gn ac dn fs fm mks0 fma0 mks1 fma1 fmr y8 n (x9 + 1) (x6 + 1) (upd w11f v_18.toNatClampNeg 1) (upd w12f x6.toNatClampNeg v_18)) else (F_Law_piece_L65 cell but ab tn gn ac dn fs fm mks0 fma0 mks1 fma1 fmr y8 n (x9 + 1) x6 w11f w12f)) else (F_Law_piece_L65 cell but ab tn gn ac dn fs fm mks0 fma0 mks1 fma1 fmr y8 n (x9 + 1) x6 w11f w12f)))))))) else (F_Law_piece_L65 cell but ab tn gn ac dn fs fm mks0 fma0 mks1 fma1 fmr y8 n (x9 + 1) x6 w11f w12f)))))))))))
def F_Law_piece_L48 (cell : Int32) (but : Int32) (ab : Int32) (tn : Int32) (gn : Int64) (ac : Int64) (dn : Int64) (fs : Nat → Int32) (fm : Nat → Int32) (mks0 : Int32) (fma0 : Nat → Int32) (mks1 : Int32) (fma1 : Nat → Int32) (fmr : Nat → Int32) : Nat → Int32 → Int32 → (Nat → Int32) → (Nat → Int32) → Int32 × Int32 × (Nat → Int32) × (Nat → Int32)
  | 0, x7, x6, w11f, w12f => (x7, x6, w11f, w12f)
  | n + 1, x7, x6, w11f, w12f => (if x6 ≤ x7 then (x7, x6, w11f, w12f) else (bnd (w12f x7.toNatClampNeg) (fun y8 => (bnd (F_Law_piece_L65 cell but ab tn gn ac dn fs fm mks0 fma0 mks1 fma1 fmr y8 5 (0 : Int32) x6 w11f w12f) (fun q_5 => (F_Law_piece_L48 cell but ab tn gn ac dn fs fm mks0 fma0 mks1 fma1 fmr n (x7 + 1) q_5.2.1 q_5.2.2.1 q_5.2.2.2))))))
def F_Law_piece_L12 (cell : Int32) (but : Int32) (ab : Int32) (tn : Int32) (gn : Int64) (ac : Int64) (dn : Int64) (fs : Nat → Int32) (fm : Nat → Int32) (mks0 : Int32) (fma0 : Nat → Int32) (mks1 : Int32) (fma1 : Nat → Int32) (fmr : Nat → Int32) : Nat → Int32 → (Nat → Int32) → Int32 × (Nat → Int32)
  | 0, x7, w11f => (x7, w11f)
  | n + 1, x7, w11f => (if (48 : Int32) ≤ x7 then (x7, w11f) else (bnd ((if x7 = cell then 1 else 0) : Int32) (fun v_49 => (F_Law_piece_L12 cell but ab tn gn ac dn fs fm mks0 fma0 mks1 fma1 fmr n (x7 + 1) (upd w11f x7.toNatClampNeg v_49)))))
def F_Law_piece (cell : Int32) (but : Int32) (ab : Int32) (tn : Int32) (gn : Int64) (ac : Int64) (dn : Int64) (fs : Nat → Int32) (fm : Nat → Int32) (mks0 : Int32) (fma0 : Nat → Int32) (mks1 : Int32) (fma1 : Nat → Int32) (fmr : Nat → Int32) : Int32 × (Nat → Int32) := (bnd (F_Law_piece_L12 cell but ab tn gn ac dn fs fm mks0 fma0 mks1 fma1 fmr 49 (0 : Int32) fmr) (fun q_2 => (bnd (F_Law_piece_L48 cell but ab tn gn ac dn fs fm mks0 fma0 mks1 fma1 fmr 49 (0 : Int32) (1 : Int32) q_2.2 (upd (fun _ => 0) (0 : Int32).toNatClampNeg cell)) (fun q_3 => (q_3.2.1, q_3.2.2.1)))))
theorem pz_init (cell : Int32) (but : Int32) (ab : Int32) (tn : Int32) (gn : Int64) (ac : Int64) (dn : Int64) (fs : Nat → Int32) (fm : Nat → Int32) (mks0 : Int32) (fma0 : Nat → Int32) (mks1 : Int32) (fma1 : Nat → Int32) (fmr : Nat → Int32) (hc : vp_in cell 48) : PIv 1 (F_Law_piece_L12 cell but ab tn gn ac dn fs fm mks0 fma0 mks1 fma1 fmr 49 (0 : Int32) fmr).2 := by
  have h : ∀ (n k : Nat) (w : Nat → Int32), k ≤ 48 → 48 - k < n → (∀ i, i < k → w i = if nI i = cell then 1 else 0) → ∀ i, i < 48 → (F_Law_piece_L12 cell but ab tn gn ac dn fs fm mks0 fma0 mks1 fma1 fmr n (nI k) w).2 i = if nI i = cell then 1 else 0 := by
    intro n
    induction n with
    | zero => intro k w hk hn; exact absurd hn (Nat.not_lt_zero _)
    | succ n ih =>
      intro k w hk hn hw i hi
      rw [F_Law_piece_L12]
      by_cases c : (48 : Int32) ≤ nI k
      · rw [if_pos c]
        have hk2 : 48 ≤ k := (nI_leI (by decide) (by omega)).mp c
        exact hw i (by omega)
      · rw [if_neg c, bnd_eq, nI_1]
        have hlt : k < 48 := lp_lt rfl rfl hk c
        refine ih (k + 1) _ (by omega) (by omega) ?_ i hi
        intro q hq
        rw [nI_clamp (by omega)]
        by_cases e : q = k
        · subst e; rw [pk_us]
        · rw [pk_un e]; exact hw q (by omega)
  exact pi_init hc (fun i hi => by have := h 49 0 fmr (by omega) (by omega) (fun q hq => absurd hq (Nat.not_lt_zero _)) i hi; rwa [nI_0] at this)
set_option maxHeartbeats 4000000 in
set_option maxRecDepth 100000 in
theorem c_Law_piece (l : Launch) (dC : Nat → ClassId) (dI : Nat → Nat → Nat) (cI cC cG cZ : ClassId) (tc g h s0 s1 pd cl t0 t1 st mk ma0 ma1 sg hs gn_ mr : Nat) (cell : Int32) (but : Int32) (ab : Int32) (nx : Int32) (tn : Int32) (gn : Int64) (ac : Int64) (dn : Int64) (fs : Nat → Int32) (fm : Nat → Int32) (mks0 : Int32) (pts0 : Int32) (ths0 : Int32) (rgs0 : Int32) (rgc0 : Int32) (fnd0 : Int32) (rdb0 : Int32) (wdb0 : Int32) (fma0 : Nat → Int32) (mks1 : Int32) (pts1 : Int32) (ths1 : Int32) (rgs1 : Int32) (rgc1 : Int32) (fnd1 : Int32) (rdb1 : Int32) (wdb1 : Int32) (fma1 : Nat → Int32) (ln : Int32) (hk : Int32) (fmr : Nat → Int32) (hM0 : tm_ok 8 mks0) (hM1 : tm_ok 8 mks1) (hc : vp_in cell 48) (res : Int32 × (Nat → Int32)) (hres : res = F_Law_piece cell but ab tn gn ac dn fs fm mks0 fma0 mks1 fma1 fmr) (sz : Nat) : Met l yL_piece wsL_piece ({ frames := 5, cells := 1, slots := 48, locals := 110 }) (va_Pc [.ref tc, .ref mr, .int cell, .int but, .int ab] (fun U => U.heap.size = sz ∧ va_P (dC, dI) vwCl [(tc, .inr (6, [.ref g, .ref h, .ref s0, .ref s1, .ref pd])), (g, .inr (1, [.ref cl, .ref t0, .ref t1, .int nx, .int tn])), (cl, .inr (0, [.ref st, .ref mk, .long gn, .long ac, .long dn])), (st, .inl (cI, 82, .inl fs)), (mk, .inl (cI, 82, .inl fm)), (t0, .inr (5, [.ref ma0, .int mks0, .int pts0, .int ths0, .int rgs0, .int rgc0, .int fnd0, .int rdb0, .int wdb0])), (ma0, .inl (cI, 8, .inl fma0)), (t1, .inr (5, [.ref ma1, .int mks1, .int pts1, .int ths1, .int rgs1, .int rgc1, .int fnd1, .int rdb1, .int wdb1])), (ma1, .inl (cI, 8, .inl fma1)), (pd, .inr (3, [.ref sg, .int ln])), (h, .inr (2, [.ref hs, .int hk, .ref gn_])), (mr, .inl (cI, 48, .inl fmr))] U.heap ∧ va_K (dC, dI) vwCl (tyL cI cC cG cZ) U ∧ va_D (fun _ => True) [(tc, .inr (6, [.ref g, .ref h, .ref s0, .ref s1, .ref pd])), (g, .inr (1, [.ref cl, .ref t0, .ref t1, .int nx, .int tn])), (cl, .inr (0, [.ref st, .ref mk, .long gn, .long ac, .long dn])), (st, .inl (cI, 82, .inl fs)), (mk, .inl (cI, 82, .inl fm)), (t0, .inr (5, [.ref ma0, .int mks0, .int pts0, .int ths0, .int rgs0, .int rgc0, .int fnd0, .int rdb0, .int wdb0])), (ma0, .inl (cI, 8, .inl fma0)), (t1, .inr (5, [.ref ma1, .int mks1, .int pts1, .int ths1, .int rgs1, .int rgc1, .int fnd1, .int rdb1, .int wdb1])), (ma1, .inl (cI, 8, .inl fma1)), (pd, .inr (3, [.ref sg, .int ln])), (h, .inr (2, [.ref hs, .int hk, .ref gn_])), (mr, .inl (cI, 48, .inl fmr))])) (va_Qi (fun r (_ : Unit) => r = res.1) (fun _ zt => va_P (dC, dI) vwCl [(tc, .inr (6, [.ref g, .ref h, .ref s0, .ref s1, .ref pd])), (g, .inr (1, [.ref cl, .ref t0, .ref t1, .int nx, .int tn])), (cl, .inr (0, [.ref st, .ref mk, .long gn, .long ac, .long dn])), (st, .inl (cI, 82, .inl fs)), (mk, .inl (cI, 82, .inl fm)), (t0, .inr (5, [.ref ma0, .int mks0, .int pts0, .int ths0, .int rgs0, .int rgc0, .int fnd0, .int rdb0, .int wdb0])), (ma0, .inl (cI, 8, .inl fma0)), (t1, .inr (5, [.ref ma1, .int mks1, .int pts1, .int ths1, .int rgs1, .int rgc1, .int fnd1, .int rdb1, .int wdb1])), (ma1, .inl (cI, 8, .inl fma1)), (pd, .inr (3, [.ref sg, .int ln])), (h, .inr (2, [.ref hs, .int hk, .ref gn_])), (mr, .inl (cI, 48, .inl res.2))] zt.heap) (va_A [(tc, .inr (6, [.ref g, .ref h, .ref s0, .ref s1, .ref pd])), (g, .inr (1, [.ref cl, .ref t0, .ref t1, .int nx, .int tn])), (cl, .inr (0, [.ref st, .ref mk, .long gn, .long ac, .long dn])), (st, .inl (cI, 82, .inl fs)), (mk, .inl (cI, 82, .inl fm)), (t0, .inr (5, [.ref ma0, .int mks0, .int pts0, .int ths0, .int rgs0, .int rgc0, .int fnd0, .int rdb0, .int wdb0])), (ma0, .inl (cI, 8, .inl fma0)), (t1, .inr (5, [.ref ma1, .int mks1, .int pts1, .int ths1, .int rgs1, .int rgc1, .int fnd1, .int rdb1, .int wdb1])), (ma1, .inl (cI, 8, .inl fma1)), (pd, .inr (3, [.ref sg, .int ln])), (h, .inr (2, [.ref hs, .int hk, .ref gn_])), (mr, .inl (cI, 48, .inl fmr))] sz)) 1 48 (va_A [(tc, .inr (6, [.ref g, .ref h, .ref s0, .ref s1, .ref pd])), (g, .inr (1, [.ref cl, .ref t0, .ref t1, .int nx, .int tn])), (cl, .inr (0, [.ref st, .ref mk, .long gn, .long ac, .long dn])), (st, .inl (cI, 82, .inl fs)), (mk, .inl (cI, 82, .inl fm)), (t0, .inr (5, [.ref ma0, .int mks0, .int pts0, .int ths0, .int rgs0, .int rgc0, .int fnd0, .int rdb0, .int wdb0])), (ma0, .inl (cI, 8, .inl fma0)), (t1, .inr (5, [.ref ma1, .int mks1, .int pts1, .int ths1, .int rgs1, .int rgc1, .int fnd1, .int rdb1, .int wdb1])), (ma1, .inl (cI, 8, .inl fma1)), (pd, .inr (3, [.ref sg, .int ln])), (h, .inr (2, [.ref hs, .int hk, .ref gn_])), (mr, .inl (cI, 48, .inl fmr))] sz) := by
  refine Met.ofW (cc := cL_piece) (maxL := 13) (ret := (some .int)) (by decide) rfl ?_
  intro p e s m args below meth c s₁ B hml hv
  obtain ⟨rfl, hsz, hP, hK, hD0⟩ := hv
  have hx := B.exec
  have hb := B.bytes
  have hr := B.returns
  have hts := atoms_spec (ws := wsL_piece) B.pre
  have hown : s.vm.findClass RL = some m.cls := findClass_of_methodNamed B.named
  have hlocks := B.notSynchronized
  subst hsz
  have hD := hD0.self (sz := s.heap.size)
  generalize hAe : va_A [(tc, .inr (6, [.ref g, .ref h, .ref s0, .ref s1, .ref pd])), (g, .inr (1, [.ref cl, .ref t0, .ref t1, .int nx, .int tn])), (cl, .inr (0, [.ref st, .ref mk, .long gn, .long ac, .long dn])), (st, .inl (cI, 82, .inl fs)), (mk, .inl (cI, 82, .inl fm)), (t0, .inr (5, [.ref ma0, .int mks0, .int pts0, .int ths0, .int rgs0, .int rgc0, .int fnd0, .int rdb0, .int wdb0])), (ma0, .inl (cI, 8, .inl fma0)), (t1, .inr (5, [.ref ma1, .int mks1, .int pts1, .int ths1, .int rgs1, .int rgc1, .int fnd1, .int rdb1, .int wdb1])), (ma1, .inl (cI, 8, .inl fma1)), (pd, .inr (3, [.ref sg, .int ln])), (h, .inr (2, [.ref hs, .int hk, .ref gn_])), (mr, .inl (cI, 48, .inl fmr))] s.heap.size = A at hD ⊢
  have hA : ∀ q : Nat, s.heap.size ≤ q → A q := fun q h => by rw [← hAe]; exact Or.inr h
  have hS : va_S A s.heap s.heap [] := va_S.rf
  have hP : va_P (dC, dI) vwCl [(tc, .inr (6, [.ref g, .ref h, .ref s0, .ref s1, .ref pd])), (g, .inr (1, [.ref cl, .ref t0, .ref t1, .int nx, .int tn])), (cl, .inr (0, [.ref st, .ref mk, .long gn, .long ac, .long dn])), (st, .inl (cI, 82, .inl fs)), (mk, .inl (cI, 82, .inl fm)), (t0, .inr (5, [.ref ma0, .int mks0, .int pts0, .int ths0, .int rgs0, .int rgc0, .int fnd0, .int rdb0, .int wdb0])), (ma0, .inl (cI, 8, .inl fma0)), (t1, .inr (5, [.ref ma1, .int mks1, .int pts1, .int ths1, .int rgs1, .int rgc1, .int fnd1, .int rdb1, .int wdb1])), (ma1, .inl (cI, 8, .inl fma1)), (pd, .inr (3, [.ref sg, .int ln])), (h, .inr (2, [.ref hs, .int hk, .ref gn_])), (mr, .inl (cI, 48, .inl fmr))] s.heap := hP
  have hl := lv_entry ([.ref tc, .ref mr, .int cell, .int but, .int ab]) (n := 13) (Nat.le_of_ble_eq_true rfl)
  rw [lg_entry_eq]
  generalize (lg_sl ([.ref tc, .ref mr, .int cell, .int but, .int ab]) ++ List.replicate (13 - (lg_sl ([.ref tc, .ref mr, .int cell, .int but, .int ab])).length) Slot.unset).toArray = ls at hl ⊢
  have hl : lv_has ls 13 [(0, .ref tc), (1, .ref mr), (2, .int cell), (3, .int but), (4, .int ab)] := hl
  rw [F_Law_piece] at hres
  refine lv_bipush (v := 48) hx hb dL_piece_0 (by decide) ?_
  refine va_newa (atype := .int) (ty := .int) hx hb (hts (.arrayClass .int) (by decide +kernel)) rfl hK hP hD hS hA (a0 := (48, .inl (fun _ => 0))) (fun _ => rfl) (by decide) (by decide) (Nat.le_of_ble_eq_true rfl) (Nat.le_of_ble_eq_true rfl) (Nat.le_of_ble_eq_true rfl) dL_piece_2 (fun a_1 cN H hKn hP hD hS => ?_)
  have hcN : cI = cN := va_same (hK.2 0 _ rfl).2 (hKn.2 3 _ rfl).2
  subst hcN
  have hP : va_P (dC, dI) vwCl [(tc, .inr (6, [.ref g, .ref h, .ref s0, .ref s1, .ref pd])), (g, .inr (1, [.ref cl, .ref t0, .ref t1, .int nx, .int tn])), (cl, .inr (0, [.ref st, .ref mk, .long gn, .long ac, .long dn])), (st, .inl (cI, 82, .inl fs)), (mk, .inl (cI, 82, .inl fm)), (t0, .inr (5, [.ref ma0, .int mks0, .int pts0, .int ths0, .int rgs0, .int rgc0, .int fnd0, .int rdb0, .int wdb0])), (ma0, .inl (cI, 8, .inl fma0)), (t1, .inr (5, [.ref ma1, .int mks1, .int pts1, .int ths1, .int rgs1, .int rgc1, .int fnd1, .int rdb1, .int wdb1])), (ma1, .inl (cI, 8, .inl fma1)), (pd, .inr (3, [.ref sg, .int ln])), (h, .inr (2, [.ref hs, .int hk, .ref gn_])), (mr, .inl (cI, 48, .inl fmr)), (a_1, .inl (cI, 48, .inl (fun _ => 0)))] H := hP
  have hD : va_D A [(tc, .inr (6, [.ref g, .ref h, .ref s0, .ref s1, .ref pd])), (g, .inr (1, [.ref cl, .ref t0, .ref t1, .int nx, .int tn])), (cl, .inr (0, [.ref st, .ref mk, .long gn, .long ac, .long dn])), (st, .inl (cI, 82, .inl fs)), (mk, .inl (cI, 82, .inl fm)), (t0, .inr (5, [.ref ma0, .int mks0, .int pts0, .int ths0, .int rgs0, .int rgc0, .int fnd0, .int rdb0, .int wdb0])), (ma0, .inl (cI, 8, .inl fma0)), (t1, .inr (5, [.ref ma1, .int mks1, .int pts1, .int ths1, .int rgs1, .int rgc1, .int fnd1, .int rdb1, .int wdb1])), (ma1, .inl (cI, 8, .inl fma1)), (pd, .inr (3, [.ref sg, .int ln])), (h, .inr (2, [.ref hs, .int hk, .ref gn_])), (mr, .inl (cI, 48, .inl fmr)), (a_1, .inl (cI, 48, .inl (fun _ => 0)))] := hD
  refine W.widen (k := 1) (n := 48) (Nat.le_of_ble_eq_true rfl) (Nat.le_of_ble_eq_true rfl) ?_
  refine lv_astore (lv' := [(5, .ref a_1), (0, .ref tc), (1, .ref mr), (2, .int cell), (3, .int but), (4, .int ab)]) hx hb dL_piece_4 hl (by decide) rfl (fun ls hl => ?_)
  refine lv_iconst (v := 1) hx hb dL_piece_6 (by decide) ?_
  refine lv_istore (lv' := [(6, .int 1), (5, .ref a_1), (0, .ref tc), (1, .ref mr), (2, .int cell), (3, .int but), (4, .int ab)]) hx hb dL_piece_7 hl (by decide) rfl (fun ls hl => ?_)
  refine lv_iconst (v := 0) hx hb dL_piece_9 (by decide) ?_
  refine lv_istore (lv' := [(7, .int 0), (6, .int 1), (5, .ref a_1), (0, .ref tc), (1, .ref mr), (2, .int cell), (3, .int but), (4, .int ab)]) hx hb dL_piece_10 hl (by decide) rfl (fun ls hl => ?_)
  obtain ⟨q_2, hq_2⟩ : ∃ z, z = F_Law_piece_L12 cell but ab tn gn ac dn fs fm mks0 fma0 mks1 fma1 fmr 49 (0 : Int32) fmr := ⟨_, rfl⟩
  rw [bnd_e hq_2] at hres
  have hexit12 : ∀ (H : Heap) (locs : List Loc) (ls : Array Slot), va_P (dC, dI) vwCl [(tc, .inr (6, [.ref g, .ref h, .ref s0, .ref s1, .ref pd])), (g, .inr (1, [.ref cl, .ref t0, .ref t1, .int nx, .int tn])), (cl, .inr (0, [.ref st, .ref mk, .long gn, .long ac, .long dn])), (st, .inl (cI, 82, .inl fs)), (mk, .inl (cI, 82, .inl fm)), (t0, .inr (5, [.ref ma0, .int mks0, .int pts0, .int ths0, .int rgs0, .int rgc0, .int fnd0, .int rdb0, .int wdb0])), (ma0, .inl (cI, 8, .inl fma0)), (t1, .inr (5, [.ref ma1, .int mks1, .int pts1, .int ths1, .int rgs1, .int rgc1, .int fnd1, .int rdb1, .int wdb1])), (ma1, .inl (cI, 8, .inl fma1)), (pd, .inr (3, [.ref sg, .int ln])), (h, .inr (2, [.ref hs, .int hk, .ref gn_])), (mr, .inl (cI, 48, .inl q_2.2)), (a_1, .inl (cI, 48, .inl (fun _ => 0)))] H → va_D A [(tc, .inr (6, [.ref g, .ref h, .ref s0, .ref s1, .ref pd])), (g, .inr (1, [.ref cl, .ref t0, .ref t1, .int nx, .int tn])), (cl, .inr (0, [.ref st, .ref mk, .long gn, .long ac, .long dn])), (st, .inl (cI, 82, .inl fs)), (mk, .inl (cI, 82, .inl fm)), (t0, .inr (5, [.ref ma0, .int mks0, .int pts0, .int ths0, .int rgs0, .int rgc0, .int fnd0, .int rdb0, .int wdb0])), (ma0, .inl (cI, 8, .inl fma0)), (t1, .inr (5, [.ref ma1, .int mks1, .int pts1, .int ths1, .int rgs1, .int rgc1, .int fnd1, .int rdb1, .int wdb1])), (ma1, .inl (cI, 8, .inl fma1)), (pd, .inr (3, [.ref sg, .int ln])), (h, .inr (2, [.ref hs, .int hk, .ref gn_])), (mr, .inl (cI, 48, .inl q_2.2)), (a_1, .inl (cI, 48, .inl (fun _ => 0)))] → va_S A s.heap H locs → lv_has ls 13 [(7, .int q_2.1), (6, .int 1), (5, .ref a_1), (0, .ref tc), (1, .ref mr), (2, .int cell), (3, .int but), (4, .int ab)] → W p l e (headSpec wsL_piece ({ frames := 5, cells := 1, slots := 48, locals := 110 })).room s m ([.ref tc, .ref mr, .int cell, .int but, .int ab] : List Value).toArray below meth c H locs 1 48 (MQ below (va_Qi (fun r (_ : Unit) => r = res.1) (fun _ zt => va_P (dC, dI) vwCl [(tc, .inr (6, [.ref g, .ref h, .ref s0, .ref s1, .ref pd])), (g, .inr (1, [.ref cl, .ref t0, .ref t1, .int nx, .int tn])), (cl, .inr (0, [.ref st, .ref mk, .long gn, .long ac, .long dn])), (st, .inl (cI, 82, .inl fs)), (mk, .inl (cI, 82, .inl fm)), (t0, .inr (5, [.ref ma0, .int mks0, .int pts0, .int ths0, .int rgs0, .int rgc0, .int fnd0, .int rdb0, .int wdb0])), (ma0, .inl (cI, 8, .inl fma0)), (t1, .inr (5, [.ref ma1, .int mks1, .int pts1, .int ths1, .int rgs1, .int rgc1, .int fnd1, .int rdb1, .int wdb1])), (ma1, .inl (cI, 8, .inl fma1)), (pd, .inr (3, [.ref sg, .int ln])), (h, .inr (2, [.ref hs, .int hk, .ref gn_])), (mr, .inl (cI, 48, .inl res.2))] zt.heap) A) ([.ref tc, .ref mr, .int cell, .int but, .int ab] : List Value).toArray s 1 48 A) (F0 m 40 ls []) := by
    intro H locs ls  hP hD hS hl
    refine lv_aload hx hb dL_piece_40 (lv_at hl 2 rfl) ?_
    refine lv_iconst (v := 0) hx hb dL_piece_42 (by decide) ?_
    refine lv_iload_n hx hb dL_piece_43 rfl (lv_at hl 5 rfl) ?_
    refine va_iast hx hb hK hP hD hS 12 0 rfl rfl (vp_in_iff.mpr (by decide +kernel)) dL_piece_44 (fun H locs hP hD hS => ?_)
    have hP : va_P (dC, dI) vwCl [(tc, .inr (6, [.ref g, .ref h, .ref s0, .ref s1, .ref pd])), (g, .inr (1, [.ref cl, .ref t0, .ref t1, .int nx, .int tn])), (cl, .inr (0, [.ref st, .ref mk, .long gn, .long ac, .long dn])), (st, .inl (cI, 82, .inl fs)), (mk, .inl (cI, 82, .inl fm)), (t0, .inr (5, [.ref ma0, .int mks0, .int pts0, .int ths0, .int rgs0, .int rgc0, .int fnd0, .int rdb0, .int wdb0])), (ma0, .inl (cI, 8, .inl fma0)), (t1, .inr (5, [.ref ma1, .int mks1, .int pts1, .int ths1, .int rgs1, .int rgc1, .int fnd1, .int rdb1, .int wdb1])), (ma1, .inl (cI, 8, .inl fma1)), (pd, .inr (3, [.ref sg, .int ln])), (h, .inr (2, [.ref hs, .int hk, .ref gn_])), (mr, .inl (cI, 48, .inl q_2.2)), (a_1, .inl (cI, 48, .inl (upd (fun _ => 0) (0 : Int32).toNatClampNeg cell)))] H := hP
    have hD : va_D A [(tc, .inr (6, [.ref g, .ref h, .ref s0, .ref s1, .ref pd])), (g, .inr (1, [.ref cl, .ref t0, .ref t1, .int nx, .int tn])), (cl, .inr (0, [.ref st, .ref mk, .long gn, .long ac, .long dn])), (st, .inl (cI, 82, .inl fs)), (mk, .inl (cI, 82, .inl fm)), (t0, .inr (5, [.ref ma0, .int mks0, .int pts0, .int ths0, .int rgs0, .int rgc0, .int fnd0, .int rdb0, .int wdb0])), (ma0, .inl (cI, 8, .inl fma0)), (t1, .inr (5, [.ref ma1, .int mks1, .int pts1, .int ths1, .int rgs1, .int rgc1, .int fnd1, .int rdb1, .int wdb1])), (ma1, .inl (cI, 8, .inl fma1)), (pd, .inr (3, [.ref sg, .int ln])), (h, .inr (2, [.ref hs, .int hk, .ref gn_])), (mr, .inl (cI, 48, .inl q_2.2)), (a_1, .inl (cI, 48, .inl (upd (fun _ => 0) (0 : Int32).toNatClampNeg cell)))] := hD
    refine lv_iconst (v := 0) hx hb dL_piece_45 (by decide) ?_
    refine lv_istore (lv' := [(7, .int 0), (6, .int 1), (5, .ref a_1), (0, .ref tc), (1, .ref mr), (2, .int cell), (3, .int but), (4, .int ab)]) hx hb dL_piece_46 hl (by decide) rfl (fun ls hl => ?_)
    obtain ⟨q_3, hq_3⟩ : ∃ z, z = F_Law_piece_L48 cell but ab tn gn ac dn fs fm mks0 fma0 mks1 fma1 fmr 49 (0 : Int32) (1 : Int32) q_2.2 (upd (fun _ => 0) (0 : Int32).toNatClampNeg cell) := ⟨_, rfl⟩
    rw [bnd_e hq_3] at hres
    have hexit48 : ∀ (H : Heap) (locs : List Loc) (ls : Array Slot), va_P (dC, dI) vwCl [(tc, .inr (6, [.ref g, .ref h, .ref s0, .ref s1, .ref pd])), (g, .inr (1, [.ref cl, .ref t0, .ref t1, .int nx, .int tn])), (cl, .inr (0, [.ref st, .ref mk, .long gn, .long ac, .long dn])), (st, .inl (cI, 82, .inl fs)), (mk, .inl (cI, 82, .inl fm)), (t0, .inr (5, [.ref ma0, .int mks0, .int pts0, .int ths0, .int rgs0, .int rgc0, .int fnd0, .int rdb0, .int wdb0])), (ma0, .inl (cI, 8, .inl fma0)), (t1, .inr (5, [.ref ma1, .int mks1, .int pts1, .int ths1, .int rgs1, .int rgc1, .int fnd1, .int rdb1, .int wdb1])), (ma1, .inl (cI, 8, .inl fma1)), (pd, .inr (3, [.ref sg, .int ln])), (h, .inr (2, [.ref hs, .int hk, .ref gn_])), (mr, .inl (cI, 48, .inl q_3.2.2.1)), (a_1, .inl (cI, 48, .inl q_3.2.2.2))] H → va_D A [(tc, .inr (6, [.ref g, .ref h, .ref s0, .ref s1, .ref pd])), (g, .inr (1, [.ref cl, .ref t0, .ref t1, .int nx, .int tn])), (cl, .inr (0, [.ref st, .ref mk, .long gn, .long ac, .long dn])), (st, .inl (cI, 82, .inl fs)), (mk, .inl (cI, 82, .inl fm)), (t0, .inr (5, [.ref ma0, .int mks0, .int pts0, .int ths0, .int rgs0, .int rgc0, .int fnd0, .int rdb0, .int wdb0])), (ma0, .inl (cI, 8, .inl fma0)), (t1, .inr (5, [.ref ma1, .int mks1, .int pts1, .int ths1, .int rgs1, .int rgc1, .int fnd1, .int rdb1, .int wdb1])), (ma1, .inl (cI, 8, .inl fma1)), (pd, .inr (3, [.ref sg, .int ln])), (h, .inr (2, [.ref hs, .int hk, .ref gn_])), (mr, .inl (cI, 48, .inl q_3.2.2.1)), (a_1, .inl (cI, 48, .inl q_3.2.2.2))] → va_S A s.heap H locs → lv_has ls 13 [(7, .int q_3.1), (6, .int q_3.2.1), (5, .ref a_1), (0, .ref tc), (1, .ref mr), (2, .int cell), (3, .int but), (4, .int ab)] → W p l e (headSpec wsL_piece ({ frames := 5, cells := 1, slots := 48, locals := 110 })).room s m ([.ref tc, .ref mr, .int cell, .int but, .int ab] : List Value).toArray below meth c H locs 1 48 (MQ below (va_Qi (fun r (_ : Unit) => r = res.1) (fun _ zt => va_P (dC, dI) vwCl [(tc, .inr (6, [.ref g, .ref h, .ref s0, .ref s1, .ref pd])), (g, .inr (1, [.ref cl, .ref t0, .ref t1, .int nx, .int tn])), (cl, .inr (0, [.ref st, .ref mk, .long gn, .long ac, .long dn])), (st, .inl (cI, 82, .inl fs)), (mk, .inl (cI, 82, .inl fm)), (t0, .inr (5, [.ref ma0, .int mks0, .int pts0, .int ths0, .int rgs0, .int rgc0, .int fnd0, .int rdb0, .int wdb0])), (ma0, .inl (cI, 8, .inl fma0)), (t1, .inr (5, [.ref ma1, .int mks1, .int pts1, .int ths1, .int rgs1, .int rgc1, .int fnd1, .int rdb1, .int wdb1])), (ma1, .inl (cI, 8, .inl fma1)), (pd, .inr (3, [.ref sg, .int ln])), (h, .inr (2, [.ref hs, .int hk, .ref gn_])), (mr, .inl (cI, 48, .inl res.2))] zt.heap) A) ([.ref tc, .ref mr, .int cell, .int but, .int ab] : List Value).toArray s 1 48 A) (F0 m 328 ls []) := by
      intro H locs ls  hP hD hS hl
      refine lv_iload hx hb dL_piece_328 (lv_at hl 1 rfl) ?_
      subst hres
      have hP9 := hP.sub (ws' := [(tc, .inr (6, [.ref g, .ref h, .ref s0, .ref s1, .ref pd])), (g, .inr (1, [.ref cl, .ref t0, .ref t1, .int nx, .int tn])), (cl, .inr (0, [.ref st, .ref mk, .long gn, .long ac, .long dn])), (st, .inl (cI, 82, .inl fs)), (mk, .inl (cI, 82, .inl fm)), (t0, .inr (5, [.ref ma0, .int mks0, .int pts0, .int ths0, .int rgs0, .int rgc0, .int fnd0, .int rdb0, .int wdb0])), (ma0, .inl (cI, 8, .inl fma0)), (t1, .inr (5, [.ref ma1, .int mks1, .int pts1, .int ths1, .int rgs1, .int rgc1, .int fnd1, .int rdb1, .int wdb1])), (ma1, .inl (cI, 8, .inl fma1)), (pd, .inr (3, [.ref sg, .int ln])), (h, .inr (2, [.ref hs, .int hk, .ref gn_])), (mr, .inl (cI, 48, .inl q_3.2.2.1))]) [0, 1, 2, 3, 4, 5, 6, 7, 8, 9, 10, 11] rfl
      exact W.iret (v := q_3.2.1) hx hb hr (fun t ht hW => ⟨⟨q_3.2.1, (), rfl, rfl, (by show va_P _ _ _ t.heap; rw [ht]; exact hP9)⟩, hS.F ht⟩) hS.2.2 dL_piece_330
    have hloop48 : ∀ (n k48 : Nat) (x7 : Int32) (x6 : Int32) (w11f : Nat → Int32) (w12f : Nat → Int32) (H : Heap) (locs : List Loc) (ls : Array Slot), k48 ≤ 48 → 48 - k48 < n → x7 = nI k48 → PIv x6 w11f → q_3 = F_Law_piece_L48 cell but ab tn gn ac dn fs fm mks0 fma0 mks1 fma1 fmr n x7 x6 w11f w12f → va_P (dC, dI) vwCl [(tc, .inr (6, [.ref g, .ref h, .ref s0, .ref s1, .ref pd])), (g, .inr (1, [.ref cl, .ref t0, .ref t1, .int nx, .int tn])), (cl, .inr (0, [.ref st, .ref mk, .long gn, .long ac, .long dn])), (st, .inl (cI, 82, .inl fs)), (mk, .inl (cI, 82, .inl fm)), (t0, .inr (5, [.ref ma0, .int mks0, .int pts0, .int ths0, .int rgs0, .int rgc0, .int fnd0, .int rdb0, .int wdb0])), (ma0, .inl (cI, 8, .inl fma0)), (t1, .inr (5, [.ref ma1, .int mks1, .int pts1, .int ths1, .int rgs1, .int rgc1, .int fnd1, .int rdb1, .int wdb1])), (ma1, .inl (cI, 8, .inl fma1)), (pd, .inr (3, [.ref sg, .int ln])), (h, .inr (2, [.ref hs, .int hk, .ref gn_])), (mr, .inl (cI, 48, .inl w11f)), (a_1, .inl (cI, 48, .inl w12f))] H → va_D A [(tc, .inr (6, [.ref g, .ref h, .ref s0, .ref s1, .ref pd])), (g, .inr (1, [.ref cl, .ref t0, .ref t1, .int nx, .int tn])), (cl, .inr (0, [.ref st, .ref mk, .long gn, .long ac, .long dn])), (st, .inl (cI, 82, .inl fs)), (mk, .inl (cI, 82, .inl fm)), (t0, .inr (5, [.ref ma0, .int mks0, .int pts0, .int ths0, .int rgs0, .int rgc0, .int fnd0, .int rdb0, .int wdb0])), (ma0, .inl (cI, 8, .inl fma0)), (t1, .inr (5, [.ref ma1, .int mks1, .int pts1, .int ths1, .int rgs1, .int rgc1, .int fnd1, .int rdb1, .int wdb1])), (ma1, .inl (cI, 8, .inl fma1)), (pd, .inr (3, [.ref sg, .int ln])), (h, .inr (2, [.ref hs, .int hk, .ref gn_])), (mr, .inl (cI, 48, .inl w11f)), (a_1, .inl (cI, 48, .inl w12f))] → va_S A s.heap H locs → lv_has ls 13 [(7, .int x7), (6, .int x6), (5, .ref a_1), (0, .ref tc), (1, .ref mr), (2, .int cell), (3, .int but), (4, .int ab)] → W p l e (headSpec wsL_piece ({ frames := 5, cells := 1, slots := 48, locals := 110 })).room s m ([.ref tc, .ref mr, .int cell, .int but, .int ab] : List Value).toArray below meth c H locs 1 48 (MQ below (va_Qi (fun r (_ : Unit) => r = res.1) (fun _ zt => va_P (dC, dI) vwCl [(tc, .inr (6, [.ref g, .ref h, .ref s0, .ref s1, .ref pd])), (g, .inr (1, [.ref cl, .ref t0, .ref t1, .int nx, .int tn])), (cl, .inr (0, [.ref st, .ref mk, .long gn, .long ac, .long dn])), (st, .inl (cI, 82, .inl fs)), (mk, .inl (cI, 82, .inl fm)), (t0, .inr (5, [.ref ma0, .int mks0, .int pts0, .int ths0, .int rgs0, .int rgc0, .int fnd0, .int rdb0, .int wdb0])), (ma0, .inl (cI, 8, .inl fma0)), (t1, .inr (5, [.ref ma1, .int mks1, .int pts1, .int ths1, .int rgs1, .int rgc1, .int fnd1, .int rdb1, .int wdb1])), (ma1, .inl (cI, 8, .inl fma1)), (pd, .inr (3, [.ref sg, .int ln])), (h, .inr (2, [.ref hs, .int hk, .ref gn_])), (mr, .inl (cI, 48, .inl res.2))] zt.heap) A) ([.ref tc, .ref mr, .int cell, .int but, .int ab] : List Value).toArray s 1 48 A) (F0 m 48 ls []) := by
      intro n
      induction n with
      | zero => intro k48 x7 x6 w11f w12f _ _ _ _ hm; exact absurd hm (Nat.not_lt_zero _)
      | succ n ih48 =>
        intro k48 x7 x6 w11f w12f H locs ls hk48 hm48 ex48 hPI hq_3 hP hD hS hl
        rw [F_Law_piece_L48] at hq_3
        refine lv_iload hx hb dL_piece_48 (lv_at hl 0 rfl) ?_
        refine lv_iload hx hb dL_piece_50 (lv_at hl 1 rfl) ?_
        refine lv_icmp_ge (tgt := 328) hx hb dL_piece_52 (by decide) (fun c_4 => ?_) (fun c_4 => ?_)
        · rw [if_pos c_4] at hq_3
          subst hq_3
          exact hexit48 _ _ _  hP hD hS (lv_sub hl [0, 1, 2, 3, 4, 5, 6, 7] rfl)
        · rw [if_neg c_4] at hq_3
          have hlt_k48 : k48 < 48 := pi_lt hPI ex48 hk48 c_4
          refine lv_aload hx hb dL_piece_55 (lv_at hl 2 rfl) ?_
          refine lv_iload hx hb dL_piece_57 (lv_at hl 0 rfl) ?_
          refine va_iald hx hb hK hP 12 0 rfl rfl (by rw [ex48]; exact vp_in_nI (by omega) (by decide)) dL_piece_59 ?_
          refine lv_istore (lv' := [(8, .int (w12f x7.toNatClampNeg)), (7, .int x7), (6, .int x6), (5, .ref a_1), (0, .ref tc), (1, .ref mr), (2, .int cell), (3, .int but), (4, .int ab)]) hx hb dL_piece_60 hl (by decide) rfl (fun ls hl => ?_)
          obtain ⟨y8, hy8⟩ : ∃ z : Int32, z = (w12f x7.toNatClampNeg) := ⟨_, rfl⟩
          rw [bnd_e hy8] at hq_3
          rw [← hy8] at hl
          refine lv_iconst (v := 0) hx hb dL_piece_62 (by decide) ?_
          refine lv_istore (lv' := [(9, .int 0), (8, .int y8), (7, .int x7), (6, .int x6), (5, .ref a_1), (0, .ref tc), (1, .ref mr), (2, .int cell), (3, .int but), (4, .int ab)]) hx hb dL_piece_63 hl (by decide) rfl (fun ls hl => ?_)
          obtain ⟨q_5, hq_5⟩ : ∃ z, z = F_Law_piece_L65 cell but ab tn gn ac dn fs fm mks0 fma0 mks1 fma1 fmr y8 5 (0 : Int32) x6 w11f w12f := ⟨_, rfl⟩
          rw [bnd_e hq_5] at hq_3
          have hexit65 : ∀ (H : Heap) (locs : List Loc) (ls : Array Slot), PIv q_5.2.1 q_5.2.2.1 → va_P (dC, dI) vwCl [(tc, .inr (6, [.ref g, .ref h, .ref s0, .ref s1, .ref pd])), (g, .inr (1, [.ref cl, .ref t0, .ref t1, .int nx, .int tn])), (cl, .inr (0, [.ref st, .ref mk, .long gn, .long ac, .long dn])), (st, .inl (cI, 82, .inl fs)), (mk, .inl (cI, 82, .inl fm)), (t0, .inr (5, [.ref ma0, .int mks0, .int pts0, .int ths0, .int rgs0, .int rgc0, .int fnd0, .int rdb0, .int wdb0])), (ma0, .inl (cI, 8, .inl fma0)), (t1, .inr (5, [.ref ma1, .int mks1, .int pts1, .int ths1, .int rgs1, .int rgc1, .int fnd1, .int rdb1, .int wdb1])), (ma1, .inl (cI, 8, .inl fma1)), (pd, .inr (3, [.ref sg, .int ln])), (h, .inr (2, [.ref hs, .int hk, .ref gn_])), (mr, .inl (cI, 48, .inl q_5.2.2.1)), (a_1, .inl (cI, 48, .inl q_5.2.2.2))] H → va_D A [(tc, .inr (6, [.ref g, .ref h, .ref s0, .ref s1, .ref pd])), (g, .inr (1, [.ref cl, .ref t0, .ref t1, .int nx, .int tn])), (cl, .inr (0, [.ref st, .ref mk, .long gn, .long ac, .long dn])), (st, .inl (cI, 82, .inl fs)), (mk, .inl (cI, 82, .inl fm)), (t0, .inr (5, [.ref ma0, .int mks0, .int pts0, .int ths0, .int rgs0, .int rgc0, .int fnd0, .int rdb0, .int wdb0])), (ma0, .inl (cI, 8, .inl fma0)), (t1, .inr (5, [.ref ma1, .int mks1, .int pts1, .int ths1, .int rgs1, .int rgc1, .int fnd1, .int rdb1, .int wdb1])), (ma1, .inl (cI, 8, .inl fma1)), (pd, .inr (3, [.ref sg, .int ln])), (h, .inr (2, [.ref hs, .int hk, .ref gn_])), (mr, .inl (cI, 48, .inl q_5.2.2.1)), (a_1, .inl (cI, 48, .inl q_5.2.2.2))] → va_S A s.heap H locs → lv_has ls 13 [(9, .int q_5.1), (8, .int y8), (7, .int x7), (6, .int q_5.2.1), (5, .ref a_1), (0, .ref tc), (1, .ref mr), (2, .int cell), (3, .int but), (4, .int ab)] → W p l e (headSpec wsL_piece ({ frames := 5, cells := 1, slots := 48, locals := 110 })).room s m ([.ref tc, .ref mr, .int cell, .int but, .int ab] : List Value).toArray below meth c H locs 1 48 (MQ below (va_Qi (fun r (_ : Unit) => r = res.1) (fun _ zt => va_P (dC, dI) vwCl [(tc, .inr (6, [.ref g, .ref h, .ref s0, .ref s1, .ref pd])), (g, .inr (1, [.ref cl, .ref t0, .ref t1, .int nx, .int tn])), (cl, .inr (0, [.ref st, .ref mk, .long gn, .long ac, .long dn])), (st, .inl (cI, 82, .inl fs)), (mk, .inl (cI, 82, .inl fm)), (t0, .inr (5, [.ref ma0, .int mks0, .int pts0, .int ths0, .int rgs0, .int rgc0, .int fnd0, .int rdb0, .int wdb0])), (ma0, .inl (cI, 8, .inl fma0)), (t1, .inr (5, [.ref ma1, .int mks1, .int pts1, .int ths1, .int rgs1, .int rgc1, .int fnd1, .int rdb1, .int wdb1])), (ma1, .inl (cI, 8, .inl fma1)), (pd, .inr (3, [.ref sg, .int ln])), (h, .inr (2, [.ref hs, .int hk, .ref gn_])), (mr, .inl (cI, 48, .inl res.2))] zt.heap) A) ([.ref tc, .ref mr, .int cell, .int but, .int ab] : List Value).toArray s 1 48 A) (F0 m 322 ls []) := by
            intro H locs ls hPI2 hP hD hS hl
            refine lv_iinc (v := (x7 + 1)) (lv' := [(7, .int (x7 + 1)), (9, .int q_5.1), (8, .int y8), (6, .int q_5.2.1), (5, .ref a_1), (0, .ref tc), (1, .ref mr), (2, .int cell), (3, .int but), (4, .int ab)]) hx hb dL_piece_322 hl (k := 2) rfl rfl (by decide) rfl (fun ls hl => ?_)
            refine lv_goto (tgt := 48) hx hb dL_piece_325 (by decide) ?_
            exact ih48 (k48 + 1) (x7 + 1) q_5.2.1 q_5.2.2.1 q_5.2.2.2 _ _ _ (by omega) (by omega) (by rw [ex48]; exact nI_1 _) hPI2 hq_3 hP hD hS (lv_sub hl [0, 3, 4, 5, 6, 7, 8, 9] rfl)
          have hloop65 : ∀ (n k65 : Nat) (x9 : Int32) (x6 : Int32) (w11f : Nat → Int32) (w12f : Nat → Int32) (H : Heap) (locs : List Loc) (ls : Array Slot), k65 ≤ 4 → 4 - k65 < n → x9 = nI k65 → PIv x6 w11f → q_5 = F_Law_piece_L65 cell but ab tn gn ac dn fs fm mks0 fma0 mks1 fma1 fmr y8 n x9 x6 w11f w12f → va_P (dC, dI) vwCl [(tc, .inr (6, [.ref g, .ref h, .ref s0, .ref s1, .ref pd])), (g, .inr (1, [.ref cl, .ref t0, .ref t1, .int nx, .int tn])), (cl, .inr (0, [.ref st, .ref mk, .long gn, .long ac, .long dn])), (st, .inl (cI, 82, .inl fs)), (mk, .inl (cI, 82, .inl fm)), (t0, .inr (5, [.ref ma0, .int mks0, .int pts0, .int ths0, .int rgs0, .int rgc0, .int fnd0, .int rdb0, .int wdb0])), (ma0, .inl (cI, 8, .inl fma0)), (t1, .inr (5, [.ref ma1, .int mks1, .int pts1, .int ths1, .int rgs1, .int rgc1, .int fnd1, .int rdb1, .int wdb1])), (ma1, .inl (cI, 8, .inl fma1)), (pd, .inr (3, [.ref sg, .int ln])), (h, .inr (2, [.ref hs, .int hk, .ref gn_])), (mr, .inl (cI, 48, .inl w11f)), (a_1, .inl (cI, 48, .inl w12f))] H → va_D A [(tc, .inr (6, [.ref g, .ref h, .ref s0, .ref s1, .ref pd])), (g, .inr (1, [.ref cl, .ref t0, .ref t1, .int nx, .int tn])), (cl, .inr (0, [.ref st, .ref mk, .long gn, .long ac, .long dn])), (st, .inl (cI, 82, .inl fs)), (mk, .inl (cI, 82, .inl fm)), (t0, .inr (5, [.ref ma0, .int mks0, .int pts0, .int ths0, .int rgs0, .int rgc0, .int fnd0, .int rdb0, .int wdb0])), (ma0, .inl (cI, 8, .inl fma0)), (t1, .inr (5, [.ref ma1, .int mks1, .int pts1, .int ths1, .int rgs1, .int rgc1, .int fnd1, .int rdb1, .int wdb1])), (ma1, .inl (cI, 8, .inl fma1)), (pd, .inr (3, [.ref sg, .int ln])), (h, .inr (2, [.ref hs, .int hk, .ref gn_])), (mr, .inl (cI, 48, .inl w11f)), (a_1, .inl (cI, 48, .inl w12f))] → va_S A s.heap H locs → lv_has ls 13 [(9, .int x9), (8, .int y8), (7, .int x7), (6, .int x6), (5, .ref a_1), (0, .ref tc), (1, .ref mr), (2, .int cell), (3, .int but), (4, .int ab)] → W p l e (headSpec wsL_piece ({ frames := 5, cells := 1, slots := 48, locals := 110 })).room s m ([.ref tc, .ref mr, .int cell, .int but, .int ab] : List Value).toArray below meth c H locs 1 48 (MQ below (va_Qi (fun r (_ : Unit) => r = res.1) (fun _ zt => va_P (dC, dI) vwCl [(tc, .inr (6, [.ref g, .ref h, .ref s0, .ref s1, .ref pd])), (g, .inr (1, [.ref cl, .ref t0, .ref t1, .int nx, .int tn])), (cl, .inr (0, [.ref st, .ref mk, .long gn, .long ac, .long dn])), (st, .inl (cI, 82, .inl fs)), (mk, .inl (cI, 82, .inl fm)), (t0, .inr (5, [.ref ma0, .int mks0, .int pts0, .int ths0, .int rgs0, .int rgc0, .int fnd0, .int rdb0, .int wdb0])), (ma0, .inl (cI, 8, .inl fma0)), (t1, .inr (5, [.ref ma1, .int mks1, .int pts1, .int ths1, .int rgs1, .int rgc1, .int fnd1, .int rdb1, .int wdb1])), (ma1, .inl (cI, 8, .inl fma1)), (pd, .inr (3, [.ref sg, .int ln])), (h, .inr (2, [.ref hs, .int hk, .ref gn_])), (mr, .inl (cI, 48, .inl res.2))] zt.heap) A) ([.ref tc, .ref mr, .int cell, .int but, .int ab] : List Value).toArray s 1 48 A) (F0 m 65 ls []) := by
            intro n
            induction n with
            | zero => intro k65 x9 x6 w11f w12f _ _ _ _ hm; exact absurd hm (Nat.not_lt_zero _)
            | succ n ih65 =>
              intro k65 x9 x6 w11f w12f H locs ls hk65 hm65 ex65 hPI hq_5 hP hD hS hl
              rw [F_Law_piece_L65] at hq_5
              refine lv_iload hx hb dL_piece_65 (lv_at hl 0 rfl) ?_
              refine lv_iconst (v := 4) hx hb dL_piece_67 (by decide) ?_
              refine lv_icmp_ge (tgt := 322) hx hb dL_piece_68 (by decide) (fun c_6 => ?_) (fun c_6 => ?_)
              · rw [if_pos c_6] at hq_5
                subst hq_5
                exact hexit65 _ _ _ hPI hP hD hS (lv_sub hl [0, 1, 2, 3, 4, 5, 6, 7, 8, 9] rfl)
              · rw [if_neg c_6] at hq_5
                have hlt_k65 : k65 < 4 := lp_lt rfl ex65 hk65 c_6
                obtain ⟨v_14, hv_14⟩ : ∃ z : Int32, z = (if x9 = 0 then (if (7 : Int32) ≤ (y8 - y8 / 8 * 8) then (-1) else (((7 : Int32) * (y8 / 8)) + (y8 - y8 / 8 * 8))) else (if x9 = 1 then (if (y8 - y8 / 8 * 8) ≤ 0 then (-1) else ((((7 : Int32) * (y8 / 8)) + (y8 - y8 / 8 * 8)) - 1)) else (if x9 = 2 then (if (40 : Int32) ≤ y8 then (-1) else ((42 : Int32) + y8)) else (if y8 ≤ 7 then (-1) else ((34 : Int32) + y8))))) := ⟨_, rfl⟩
                rw [bnd_e hv_14] at hq_5
                have hj185 : ∀ (H : Heap) (locs : List Loc) (ls : Array Slot), va_P (dC, dI) vwCl [(tc, .inr (6, [.ref g, .ref h, .ref s0, .ref s1, .ref pd])), (g, .inr (1, [.ref cl, .ref t0, .ref t1, .int nx, .int tn])), (cl, .inr (0, [.ref st, .ref mk, .long gn, .long ac, .long dn])), (st, .inl (cI, 82, .inl fs)), (mk, .inl (cI, 82, .inl fm)), (t0, .inr (5, [.ref ma0, .int mks0, .int pts0, .int ths0, .int rgs0, .int rgc0, .int fnd0, .int rdb0, .int wdb0])), (ma0, .inl (cI, 8, .inl fma0)), (t1, .inr (5, [.ref ma1, .int mks1, .int pts1, .int ths1, .int rgs1, .int rgc1, .int fnd1, .int rdb1, .int wdb1])), (ma1, .inl (cI, 8, .inl fma1)), (pd, .inr (3, [.ref sg, .int ln])), (h, .inr (2, [.ref hs, .int hk, .ref gn_])), (mr, .inl (cI, 48, .inl w11f)), (a_1, .inl (cI, 48, .inl w12f))] H → va_D A [(tc, .inr (6, [.ref g, .ref h, .ref s0, .ref s1, .ref pd])), (g, .inr (1, [.ref cl, .ref t0, .ref t1, .int nx, .int tn])), (cl, .inr (0, [.ref st, .ref mk, .long gn, .long ac, .long dn])), (st, .inl (cI, 82, .inl fs)), (mk, .inl (cI, 82, .inl fm)), (t0, .inr (5, [.ref ma0, .int mks0, .int pts0, .int ths0, .int rgs0, .int rgc0, .int fnd0, .int rdb0, .int wdb0])), (ma0, .inl (cI, 8, .inl fma0)), (t1, .inr (5, [.ref ma1, .int mks1, .int pts1, .int ths1, .int rgs1, .int rgc1, .int fnd1, .int rdb1, .int wdb1])), (ma1, .inl (cI, 8, .inl fma1)), (pd, .inr (3, [.ref sg, .int ln])), (h, .inr (2, [.ref hs, .int hk, .ref gn_])), (mr, .inl (cI, 48, .inl w11f)), (a_1, .inl (cI, 48, .inl w12f))] → va_S A s.heap H locs → lv_has ls 13 [(9, .int x9), (8, .int y8), (7, .int x7), (6, .int x6), (5, .ref a_1), (0, .ref tc), (1, .ref mr), (2, .int cell), (3, .int but), (4, .int ab)] → W p l e (headSpec wsL_piece ({ frames := 5, cells := 1, slots := 48, locals := 110 })).room s m ([.ref tc, .ref mr, .int cell, .int but, .int ab] : List Value).toArray below meth c H locs 1 48 (MQ below (va_Qi (fun r (_ : Unit) => r = res.1) (fun _ zt => va_P (dC, dI) vwCl [(tc, .inr (6, [.ref g, .ref h, .ref s0, .ref s1, .ref pd])), (g, .inr (1, [.ref cl, .ref t0, .ref t1, .int nx, .int tn])), (cl, .inr (0, [.ref st, .ref mk, .long gn, .long ac, .long dn])), (st, .inl (cI, 82, .inl fs)), (mk, .inl (cI, 82, .inl fm)), (t0, .inr (5, [.ref ma0, .int mks0, .int pts0, .int ths0, .int rgs0, .int rgc0, .int fnd0, .int rdb0, .int wdb0])), (ma0, .inl (cI, 8, .inl fma0)), (t1, .inr (5, [.ref ma1, .int mks1, .int pts1, .int ths1, .int rgs1, .int rgc1, .int fnd1, .int rdb1, .int wdb1])), (ma1, .inl (cI, 8, .inl fma1)), (pd, .inr (3, [.ref sg, .int ln])), (h, .inr (2, [.ref hs, .int hk, .ref gn_])), (mr, .inl (cI, 48, .inl res.2))] zt.heap) A) ([.ref tc, .ref mr, .int cell, .int but, .int ab] : List Value).toArray s 1 48 A) (F0 m 185 ls [.int v_14]) := by
                  intro H locs ls hP hD hS hl
                  refine lv_istore (lv' := [(10, .int v_14), (9, .int x9), (8, .int y8), (7, .int x7), (6, .int x6), (5, .ref a_1), (0, .ref tc), (1, .ref mr), (2, .int cell), (3, .int but), (4, .int ab)]) hx hb dL_piece_185 hl (by decide) rfl (fun ls hl => ?_)
                  obtain ⟨v_18, hv_18⟩ : ∃ z : Int32, z = (if x9 = 0 then (y8 + 1) else (if x9 = 1 then (y8 - 1) else (if x9 = 2 then (y8 + 8) else (y8 - 8)))) := ⟨_, rfl⟩
                  rw [bnd_e hv_18] at hq_5
                  have hj231 : ∀ (H : Heap) (locs : List Loc) (ls : Array Slot), va_P (dC, dI) vwCl [(tc, .inr (6, [.ref g, .ref h, .ref s0, .ref s1, .ref pd])), (g, .inr (1, [.ref cl, .ref t0, .ref t1, .int nx, .int tn])), (cl, .inr (0, [.ref st, .ref mk, .long gn, .long ac, .long dn])), (st, .inl (cI, 82, .inl fs)), (mk, .inl (cI, 82, .inl fm)), (t0, .inr (5, [.ref ma0, .int mks0, .int pts0, .int ths0, .int rgs0, .int rgc0, .int fnd0, .int rdb0, .int wdb0])), (ma0, .inl (cI, 8, .inl fma0)), (t1, .inr (5, [.ref ma1, .int mks1, .int pts1, .int ths1, .int rgs1, .int rgc1, .int fnd1, .int rdb1, .int wdb1])), (ma1, .inl (cI, 8, .inl fma1)), (pd, .inr (3, [.ref sg, .int ln])), (h, .inr (2, [.ref hs, .int hk, .ref gn_])), (mr, .inl (cI, 48, .inl w11f)), (a_1, .inl (cI, 48, .inl w12f))] H → va_D A [(tc, .inr (6, [.ref g, .ref h, .ref s0, .ref s1, .ref pd])), (g, .inr (1, [.ref cl, .ref t0, .ref t1, .int nx, .int tn])), (cl, .inr (0, [.ref st, .ref mk, .long gn, .long ac, .long dn])), (st, .inl (cI, 82, .inl fs)), (mk, .inl (cI, 82, .inl fm)), (t0, .inr (5, [.ref ma0, .int mks0, .int pts0, .int ths0, .int rgs0, .int rgc0, .int fnd0, .int rdb0, .int wdb0])), (ma0, .inl (cI, 8, .inl fma0)), (t1, .inr (5, [.ref ma1, .int mks1, .int pts1, .int ths1, .int rgs1, .int rgc1, .int fnd1, .int rdb1, .int wdb1])), (ma1, .inl (cI, 8, .inl fma1)), (pd, .inr (3, [.ref sg, .int ln])), (h, .inr (2, [.ref hs, .int hk, .ref gn_])), (mr, .inl (cI, 48, .inl w11f)), (a_1, .inl (cI, 48, .inl w12f))] → va_S A s.heap H locs → lv_has ls 13 [(10, .int v_14), (9, .int x9), (8, .int y8), (7, .int x7), (6, .int x6), (5, .ref a_1), (0, .ref tc), (1, .ref mr), (2, .int cell), (3, .int but), (4, .int ab)] → W p l e (headSpec wsL_piece ({ frames := 5, cells := 1, slots := 48, locals := 110 })).room s m ([.ref tc, .ref mr, .int cell, .int but, .int ab] : List Value).toArray below meth c H locs 1 48 (MQ below (va_Qi (fun r (_ : Unit) => r = res.1) (fun _ zt => va_P (dC, dI) vwCl [(tc, .inr (6, [.ref g, .ref h, .ref s0, .ref s1, .ref pd])), (g, .inr (1, [.ref cl, .ref t0, .ref t1, .int nx, .int tn])), (cl, .inr (0, [.ref st, .ref mk, .long gn, .long ac, .long dn])), (st, .inl (cI, 82, .inl fs)), (mk, .inl (cI, 82, .inl fm)), (t0, .inr (5, [.ref ma0, .int mks0, .int pts0, .int ths0, .int rgs0, .int rgc0, .int fnd0, .int rdb0, .int wdb0])), (ma0, .inl (cI, 8, .inl fma0)), (t1, .inr (5, [.ref ma1, .int mks1, .int pts1, .int ths1, .int rgs1, .int rgc1, .int fnd1, .int rdb1, .int wdb1])), (ma1, .inl (cI, 8, .inl fma1)), (pd, .inr (3, [.ref sg, .int ln])), (h, .inr (2, [.ref hs, .int hk, .ref gn_])), (mr, .inl (cI, 48, .inl res.2))] zt.heap) A) ([.ref tc, .ref mr, .int cell, .int but, .int ab] : List Value).toArray s 1 48 A) (F0 m 231 ls [.int v_18]) := by
                    intro H locs ls hP hD hS hl
                    refine lv_istore (lv' := [(11, .int v_18), (10, .int v_14), (9, .int x9), (8, .int y8), (7, .int x7), (6, .int x6), (5, .ref a_1), (0, .ref tc), (1, .ref mr), (2, .int cell), (3, .int but), (4, .int ab)]) hx hb dL_piece_231 hl (by decide) rfl (fun ls hl => ?_)
                    refine lv_iload hx hb dL_piece_233 (lv_at hl 1 rfl) ?_
                    refine lv_if_lt (tgt := 286) hx hb dL_piece_235 (by decide) (fun c_19 => ?_) (fun c_19 => ?_)
                    · rw [if_pos c_19] at hq_5
                      refine lv_iconst (v := 0) hx hb dL_piece_286 (by decide) ?_
                      refine lv_istore (lv' := [(12, .int 0), (11, .int v_18), (10, .int v_14), (9, .int x9), (8, .int y8), (7, .int x7), (6, .int x6), (5, .ref a_1), (0, .ref tc), (1, .ref mr), (2, .int cell), (3, .int but), (4, .int ab)]) hx hb dL_piece_287 hl (by decide) rfl (fun ls hl => ?_)
                      refine lv_iload hx hb dL_piece_289 (lv_at hl 0 rfl) ?_
                      refine lv_if_eq (tgt := 316) hx hb dL_piece_291 (by decide) (fun c_20 => ?_) (fun c_20 => ?_)
                      rotate_left
                      · exact absurd (by decide) c_20
                      refine lv_iinc (v := (x9 + 1)) (lv' := [(9, .int (x9 + 1)), (12, .int 0), (11, .int v_18), (10, .int v_14), (8, .int y8), (7, .int x7), (6, .int x6), (5, .ref a_1), (0, .ref tc), (1, .ref mr), (2, .int cell), (3, .int but), (4, .int ab)]) hx hb dL_piece_316 hl (k := 3) rfl rfl (by decide) rfl (fun ls hl => ?_)
                      refine lv_goto (tgt := 65) hx hb dL_piece_319 (by decide) ?_
                      exact ih65 (k65 + 1) (x9 + 1) x6 w11f w12f _ _ _ (by omega) (by omega) (by rw [ex65]; exact nI_1 _) hPI hq_5 hP hD hS (lv_sub hl [0, 4, 5, 6, 7, 8, 9, 10, 11, 12] rfl)
                    · rw [if_neg c_19] at hq_5
                      refine lv_iload hx hb dL_piece_238 (lv_at hl 1 rfl) ?_
                      refine lv_iload_n hx hb dL_piece_240 rfl (lv_at hl 10 rfl) ?_
                      refine lv_icmp_eq (tgt := 286) hx hb dL_piece_241 (by decide) (fun c_21 => ?_) (fun c_21 => ?_)
                      · rw [if_pos c_21] at hq_5
                        refine lv_iconst (v := 0) hx hb dL_piece_286 (by decide) ?_
                        refine lv_istore (lv' := [(12, .int 0), (11, .int v_18), (10, .int v_14), (9, .int x9), (8, .int y8), (7, .int x7), (6, .int x6), (5, .ref a_1), (0, .ref tc), (1, .ref mr), (2, .int cell), (3, .int but), (4, .int ab)]) hx hb dL_piece_287 hl (by decide) rfl (fun ls hl => ?_)
                        refine lv_iload hx hb dL_piece_289 (lv_at hl 0 rfl) ?_
                        refine lv_if_eq (tgt := 316) hx hb dL_piece_291 (by decide) (fun c_22 => ?_) (fun c_22 => ?_)
                        rotate_left
                        · exact absurd (by decide) c_22
                        refine lv_iinc (v := (x9 + 1)) (lv' := [(9, .int (x9 + 1)), (12, .int 0), (11, .int v_18), (10, .int v_14), (8, .int y8), (7, .int x7), (6, .int x6), (5, .ref a_1), (0, .ref tc), (1, .ref mr), (2, .int cell), (3, .int but), (4, .int ab)]) hx hb dL_piece_316 hl (k := 3) rfl rfl (by decide) rfl (fun ls hl => ?_)
                        refine lv_goto (tgt := 65) hx hb dL_piece_319 (by decide) ?_
                        exact ih65 (k65 + 1) (x9 + 1) x6 w11f w12f _ _ _ (by omega) (by omega) (by rw [ex65]; exact nI_1 _) hPI hq_5 hP hD hS (lv_sub hl [0, 4, 5, 6, 7, 8, 9, 10, 11, 12] rfl)
                      · rw [if_neg c_21] at hq_5
                        refine lv_aload_n hx hb dL_piece_244 rfl (lv_at hl 7 rfl) ?_
                        refine lv_iload hx hb dL_piece_245 (lv_at hl 0 rfl) ?_
                        refine lv_iconst (v := 0) hx hb dL_piece_247 (by decide) ?_
                        obtain ⟨r_23, hr_23⟩ : ∃ z, z = F_TC_cell v_18 (0 : Int32) gn ac dn := ⟨_, rfl⟩
                        rw [bnd_e hr_23] at hq_5
                        refine ro_calli (va_runV (As := [.int v_18, .int 0]) (rest := []) ⟨hx, hb, hml, hown, hts⟩ (c_TC_cell l dC dI cI cC cG cZ tc g h s0 s1 pd cl t0 t1 st mk v_18 (0 : Int32) nx tn gn ac dn  r_23 hr_23) (cwV 2 hts gL_piece_X6_cell rfl rfl rfl (by decide +kernel) ⟨Nat.le_of_ble_eq_true rfl, Nat.le_of_ble_eq_true rfl⟩) (ro_preV (hP.sub (ws' := [(tc, .inr (6, [.ref g, .ref h, .ref s0, .ref s1, .ref pd])), (g, .inr (1, [.ref cl, .ref t0, .ref t1, .int nx, .int tn])), (cl, .inr (0, [.ref st, .ref mk, .long gn, .long ac, .long dn]))]) [0, 1, 2] rfl) hK (ci := 6) (q0 := 0) rfl rfl) rfl rfl hl.1 rfl (lv_room (Nat.le_of_ble_eq_true rfl)) dL_piece_248 ⟨Nat.le_of_ble_eq_true rfl, Nat.le_of_ble_eq_true rfl⟩) hP hS (fun H locs hP hS => ?_)
                        refine lv_if_ne (tgt := 286) hx hb dL_piece_251 (by decide) (fun c_24 => ?_) (fun c_24 => ?_)
                        · rw [if_neg c_24] at hq_5
                          refine lv_iconst (v := 0) hx hb dL_piece_286 (by decide) ?_
                          refine lv_istore (lv' := [(12, .int 0), (11, .int v_18), (10, .int v_14), (9, .int x9), (8, .int y8), (7, .int x7), (6, .int x6), (5, .ref a_1), (0, .ref tc), (1, .ref mr), (2, .int cell), (3, .int but), (4, .int ab)]) hx hb dL_piece_287 hl (by decide) rfl (fun ls hl => ?_)
                          refine lv_iload hx hb dL_piece_289 (lv_at hl 0 rfl) ?_
                          refine lv_if_eq (tgt := 316) hx hb dL_piece_291 (by decide) (fun c_25 => ?_) (fun c_25 => ?_)
                          rotate_left
                          · exact absurd (by decide) c_25
                          refine lv_iinc (v := (x9 + 1)) (lv' := [(9, .int (x9 + 1)), (12, .int 0), (11, .int v_18), (10, .int v_14), (8, .int y8), (7, .int x7), (6, .int x6), (5, .ref a_1), (0, .ref tc), (1, .ref mr), (2, .int cell), (3, .int but), (4, .int ab)]) hx hb dL_piece_316 hl (k := 3) rfl rfl (by decide) rfl (fun ls hl => ?_)
                          refine lv_goto (tgt := 65) hx hb dL_piece_319 (by decide) ?_
                          exact ih65 (k65 + 1) (x9 + 1) x6 w11f w12f _ _ _ (by omega) (by omega) (by rw [ex65]; exact nI_1 _) hPI hq_5 hP hD hS (lv_sub hl [0, 4, 5, 6, 7, 8, 9, 10, 11, 12] rfl)
                        · rw [if_pos c_24] at hq_5
                          refine lv_aload_n hx hb dL_piece_254 rfl (lv_at hl 7 rfl) ?_
                          refine lv_iload hx hb dL_piece_255 (lv_at hl 1 rfl) ?_
                          refine lv_bipush (v := 6) hx hb dL_piece_257 (by decide) ?_
                          obtain ⟨r_26, hr_26⟩ : ∃ z, z = F_TC_of v_14 (6 : Int32) tn gn ac dn fs fm mks0 fma0 mks1 fma1 := ⟨_, rfl⟩
                          rw [bnd_e hr_26] at hq_5
                          refine ro_calli (va_runV (As := [.int v_14, .int 6]) (rest := []) ⟨hx, hb, hml, hown, hts⟩ (c_TC_of l dC dI cI cC cG cZ tc g h s0 s1 pd cl t0 t1 st mk ma0 ma1 v_14 (6 : Int32) nx tn gn ac dn fs fm mks0 pts0 ths0 rgs0 rgc0 fnd0 rdb0 wdb0 fma0 mks1 pts1 ths1 rgs1 rgc1 fnd1 rdb1 wdb1 fma1 hM0 hM1 r_26 hr_26) (cwV 2 hts gL_piece_X6_of rfl rfl rfl (by decide +kernel) ⟨Nat.le_of_ble_eq_true rfl, Nat.le_of_ble_eq_true rfl⟩) (ro_preV (hP.sub (ws' := [(tc, .inr (6, [.ref g, .ref h, .ref s0, .ref s1, .ref pd])), (g, .inr (1, [.ref cl, .ref t0, .ref t1, .int nx, .int tn])), (cl, .inr (0, [.ref st, .ref mk, .long gn, .long ac, .long dn])), (st, .inl (cI, 82, .inl fs)), (mk, .inl (cI, 82, .inl fm)), (t0, .inr (5, [.ref ma0, .int mks0, .int pts0, .int ths0, .int rgs0, .int rgc0, .int fnd0, .int rdb0, .int wdb0])), (ma0, .inl (cI, 8, .inl fma0)), (t1, .inr (5, [.ref ma1, .int mks1, .int pts1, .int ths1, .int rgs1, .int rgc1, .int fnd1, .int rdb1, .int wdb1])), (ma1, .inl (cI, 8, .inl fma1))]) [0, 1, 2, 3, 4, 5, 6, 7, 8] rfl) hK (ci := 6) (q0 := 0) rfl rfl) rfl rfl hl.1 rfl (lv_room (Nat.le_of_ble_eq_true rfl)) dL_piece_259 ⟨Nat.le_of_ble_eq_true rfl, Nat.le_of_ble_eq_true rfl⟩) hP hS (fun H locs hP hS => ?_)
                          refine lv_iconst (v := 1) hx hb dL_piece_262 (by decide) ?_
                          refine lv_icmp_eq (tgt := 282) hx hb dL_piece_263 (by decide) (fun c_27 => ?_) (fun c_27 => ?_)
                          · rw [if_pos c_27] at hq_5
                            refine lv_iconst (v := 1) hx hb dL_piece_282 (by decide) ?_
                            refine lv_goto (tgt := 287) hx hb dL_piece_283 (by decide) ?_
                            refine lv_istore (lv' := [(12, .int 1), (11, .int v_18), (10, .int v_14), (9, .int x9), (8, .int y8), (7, .int x7), (6, .int x6), (5, .ref a_1), (0, .ref tc), (1, .ref mr), (2, .int cell), (3, .int but), (4, .int ab)]) hx hb dL_piece_287 hl (by decide) rfl (fun ls hl => ?_)
                            refine lv_iload hx hb dL_piece_289 (lv_at hl 0 rfl) ?_
                            refine lv_if_eq (tgt := 316) hx hb dL_piece_291 (by decide) (fun c_28 => ?_) (fun c_28 => ?_)
                            · exact absurd c_28 (by decide)
                            refine lv_aload_n hx hb dL_piece_294 rfl (lv_at hl 9 rfl) ?_
                            refine lv_iload hx hb dL_piece_295 (lv_at hl 1 rfl) ?_
                            refine va_iald hx hb hK hP 11 0 rfl rfl (cell_in (by rw [← hr_23]; exact c_24)) dL_piece_297 ?_
                            refine lv_if_ne (tgt := 316) hx hb dL_piece_298 (by decide) (fun c_29 => ?_) (fun c_29 => ?_)
                            · rw [if_neg c_29] at hq_5
                              refine lv_iinc (v := (x9 + 1)) (lv' := [(9, .int (x9 + 1)), (12, .int 1), (11, .int v_18), (10, .int v_14), (8, .int y8), (7, .int x7), (6, .int x6), (5, .ref a_1), (0, .ref tc), (1, .ref mr), (2, .int cell), (3, .int but), (4, .int ab)]) hx hb dL_piece_316 hl (k := 3) rfl rfl (by decide) rfl (fun ls hl => ?_)
                              refine lv_goto (tgt := 65) hx hb dL_piece_319 (by decide) ?_
                              exact ih65 (k65 + 1) (x9 + 1) x6 w11f w12f _ _ _ (by omega) (by omega) (by rw [ex65]; exact nI_1 _) hPI hq_5 hP hD hS (lv_sub hl [0, 4, 5, 6, 7, 8, 9, 10, 11, 12] rfl)
                            · rw [if_pos c_29] at hq_5
                              refine lv_aload_n hx hb dL_piece_301 rfl (lv_at hl 9 rfl) ?_
                              refine lv_iload hx hb dL_piece_302 (lv_at hl 1 rfl) ?_
                              refine lv_iconst (v := 1) hx hb dL_piece_304 (by decide) ?_
                              refine va_iast hx hb hK hP hD hS 11 0 rfl rfl (cell_in (by rw [← hr_23]; exact c_24)) dL_piece_305 (fun H locs hP hD hS => ?_)
                              have hP : va_P (dC, dI) vwCl [(tc, .inr (6, [.ref g, .ref h, .ref s0, .ref s1, .ref pd])), (g, .inr (1, [.ref cl, .ref t0, .ref t1, .int nx, .int tn])), (cl, .inr (0, [.ref st, .ref mk, .long gn, .long ac, .long dn])), (st, .inl (cI, 82, .inl fs)), (mk, .inl (cI, 82, .inl fm)), (t0, .inr (5, [.ref ma0, .int mks0, .int pts0, .int ths0, .int rgs0, .int rgc0, .int fnd0, .int rdb0, .int wdb0])), (ma0, .inl (cI, 8, .inl fma0)), (t1, .inr (5, [.ref ma1, .int mks1, .int pts1, .int ths1, .int rgs1, .int rgc1, .int fnd1, .int rdb1, .int wdb1])), (ma1, .inl (cI, 8, .inl fma1)), (pd, .inr (3, [.ref sg, .int ln])), (h, .inr (2, [.ref hs, .int hk, .ref gn_])), (mr, .inl (cI, 48, .inl (upd w11f v_18.toNatClampNeg 1))), (a_1, .inl (cI, 48, .inl w12f))] H := hP
                              have hD : va_D A [(tc, .inr (6, [.ref g, .ref h, .ref s0, .ref s1, .ref pd])), (g, .inr (1, [.ref cl, .ref t0, .ref t1, .int nx, .int tn])), (cl, .inr (0, [.ref st, .ref mk, .long gn, .long ac, .long dn])), (st, .inl (cI, 82, .inl fs)), (mk, .inl (cI, 82, .inl fm)), (t0, .inr (5, [.ref ma0, .int mks0, .int pts0, .int ths0, .int rgs0, .int rgc0, .int fnd0, .int rdb0, .int wdb0])), (ma0, .inl (cI, 8, .inl fma0)), (t1, .inr (5, [.ref ma1, .int mks1, .int pts1, .int ths1, .int rgs1, .int rgc1, .int fnd1, .int rdb1, .int wdb1])), (ma1, .inl (cI, 8, .inl fma1)), (pd, .inr (3, [.ref sg, .int ln])), (h, .inr (2, [.ref hs, .int hk, .ref gn_])), (mr, .inl (cI, 48, .inl (upd w11f v_18.toNatClampNeg 1))), (a_1, .inl (cI, 48, .inl w12f))] := hD
                              refine lv_aload hx hb dL_piece_306 (lv_at hl 7 rfl) ?_
                              refine lv_iload hx hb dL_piece_308 (lv_at hl 6 rfl) ?_
                              refine lv_iload hx hb dL_piece_310 (lv_at hl 1 rfl) ?_
                              refine va_iast hx hb hK hP hD hS 12 0 rfl rfl (pi_in hPI (cell_in (by rw [← hr_23]; exact c_24)) c_29) dL_piece_312 (fun H locs hP hD hS => ?_)
                              have hP : va_P (dC, dI) vwCl [(tc, .inr (6, [.ref g, .ref h, .ref s0, .ref s1, .ref pd])), (g, .inr (1, [.ref cl, .ref t0, .ref t1, .int nx, .int tn])), (cl, .inr (0, [.ref st, .ref mk, .long gn, .long ac, .long dn])), (st, .inl (cI, 82, .inl fs)), (mk, .inl (cI, 82, .inl fm)), (t0, .inr (5, [.ref ma0, .int mks0, .int pts0, .int ths0, .int rgs0, .int rgc0, .int fnd0, .int rdb0, .int wdb0])), (ma0, .inl (cI, 8, .inl fma0)), (t1, .inr (5, [.ref ma1, .int mks1, .int pts1, .int ths1, .int rgs1, .int rgc1, .int fnd1, .int rdb1, .int wdb1])), (ma1, .inl (cI, 8, .inl fma1)), (pd, .inr (3, [.ref sg, .int ln])), (h, .inr (2, [.ref hs, .int hk, .ref gn_])), (mr, .inl (cI, 48, .inl (upd w11f v_18.toNatClampNeg 1))), (a_1, .inl (cI, 48, .inl (upd w12f x6.toNatClampNeg v_18)))] H := hP
                              have hD : va_D A [(tc, .inr (6, [.ref g, .ref h, .ref s0, .ref s1, .ref pd])), (g, .inr (1, [.ref cl, .ref t0, .ref t1, .int nx, .int tn])), (cl, .inr (0, [.ref st, .ref mk, .long gn, .long ac, .long dn])), (st, .inl (cI, 82, .inl fs)), (mk, .inl (cI, 82, .inl fm)), (t0, .inr (5, [.ref ma0, .int mks0, .int pts0, .int ths0, .int rgs0, .int rgc0, .int fnd0, .int rdb0, .int wdb0])), (ma0, .inl (cI, 8, .inl fma0)), (t1, .inr (5, [.ref ma1, .int mks1, .int pts1, .int ths1, .int rgs1, .int rgc1, .int fnd1, .int rdb1, .int wdb1])), (ma1, .inl (cI, 8, .inl fma1)), (pd, .inr (3, [.ref sg, .int ln])), (h, .inr (2, [.ref hs, .int hk, .ref gn_])), (mr, .inl (cI, 48, .inl (upd w11f v_18.toNatClampNeg 1))), (a_1, .inl (cI, 48, .inl (upd w12f x6.toNatClampNeg v_18)))] := hD
                              refine lv_iinc (v := (x6 + 1)) (lv' := [(6, .int (x6 + 1)), (12, .int 1), (11, .int v_18), (10, .int v_14), (9, .int x9), (8, .int y8), (7, .int x7), (5, .ref a_1), (0, .ref tc), (1, .ref mr), (2, .int cell), (3, .int but), (4, .int ab)]) hx hb dL_piece_313 hl (k := 6) rfl rfl (by decide) rfl (fun ls hl => ?_)
                              refine lv_iinc (v := (x9 + 1)) (lv' := [(9, .int (x9 + 1)), (6, .int (x6 + 1)), (12, .int 1), (11, .int v_18), (10, .int v_14), (8, .int y8), (7, .int x7), (5, .ref a_1), (0, .ref tc), (1, .ref mr), (2, .int cell), (3, .int but), (4, .int ab)]) hx hb dL_piece_316 hl (k := 4) rfl rfl (by decide) rfl (fun ls hl => ?_)
                              refine lv_goto (tgt := 65) hx hb dL_piece_319 (by decide) ?_
                              exact ih65 (k65 + 1) (x9 + 1) (x6 + 1) (upd w11f v_18.toNatClampNeg 1) (upd w12f x6.toNatClampNeg v_18) _ _ _ (by omega) (by omega) (by rw [ex65]; exact nI_1 _) (pi_up hPI (cell_in (by rw [← hr_23]; exact c_24)) c_29) hq_5 hP hD hS (lv_sub hl [0, 5, 6, 1, 7, 8, 9, 10, 11, 12] rfl)
                          · rw [if_neg c_27] at hq_5
                            refine lv_iload hx hb dL_piece_266 (lv_at hl 11 rfl) ?_
                            refine lv_if_eq (tgt := 286) hx hb dL_piece_268 (by decide) (fun c_30 => ?_) (fun c_30 => ?_)
                            · rw [if_pos c_30] at hq_5
                              refine lv_iconst (v := 0) hx hb dL_piece_286 (by decide) ?_
                              refine lv_istore (lv' := [(12, .int 0), (11, .int v_18), (10, .int v_14), (9, .int x9), (8, .int y8), (7, .int x7), (6, .int x6), (5, .ref a_1), (0, .ref tc), (1, .ref mr), (2, .int cell), (3, .int but), (4, .int ab)]) hx hb dL_piece_287 hl (by decide) rfl (fun ls hl => ?_)
                              refine lv_iload hx hb dL_piece_289 (lv_at hl 0 rfl) ?_
                              refine lv_if_eq (tgt := 316) hx hb dL_piece_291 (by decide) (fun c_31 => ?_) (fun c_31 => ?_)
                              rotate_left
                              · exact absurd (by decide) c_31
                              refine lv_iinc (v := (x9 + 1)) (lv' := [(9, .int (x9 + 1)), (12, .int 0), (11, .int v_18), (10, .int v_14), (8, .int y8), (7, .int x7), (6, .int x6), (5, .ref a_1), (0, .ref tc), (1, .ref mr), (2, .int cell), (3, .int but), (4, .int ab)]) hx hb dL_piece_316 hl (k := 3) rfl rfl (by decide) rfl (fun ls hl => ?_)
                              refine lv_goto (tgt := 65) hx hb dL_piece_319 (by decide) ?_
                              exact ih65 (k65 + 1) (x9 + 1) x6 w11f w12f _ _ _ (by omega) (by omega) (by rw [ex65]; exact nI_1 _) hPI hq_5 hP hD hS (lv_sub hl [0, 4, 5, 6, 7, 8, 9, 10, 11, 12] rfl)
                            · rw [if_neg c_30] at hq_5
                              refine lv_aload_n hx hb dL_piece_271 rfl (lv_at hl 7 rfl) ?_
                              refine lv_iload hx hb dL_piece_272 (lv_at hl 1 rfl) ?_
                              refine lv_iconst (v := 0) hx hb dL_piece_274 (by decide) ?_
                              obtain ⟨r_32, hr_32⟩ : ∃ z, z = F_TC_of v_14 (0 : Int32) tn gn ac dn fs fm mks0 fma0 mks1 fma1 := ⟨_, rfl⟩
                              rw [bnd_e hr_32] at hq_5
                              refine ro_calli (va_runV (As := [.int v_14, .int 0]) (rest := []) ⟨hx, hb, hml, hown, hts⟩ (c_TC_of l dC dI cI cC cG cZ tc g h s0 s1 pd cl t0 t1 st mk ma0 ma1 v_14 (0 : Int32) nx tn gn ac dn fs fm mks0 pts0 ths0 rgs0 rgc0 fnd0 rdb0 wdb0 fma0 mks1 pts1 ths1 rgs1 rgc1 fnd1 rdb1 wdb1 fma1 hM0 hM1 r_32 hr_32) (cwV 2 hts gL_piece_X6_of rfl rfl rfl (by decide +kernel) ⟨Nat.le_of_ble_eq_true rfl, Nat.le_of_ble_eq_true rfl⟩) (ro_preV (hP.sub (ws' := [(tc, .inr (6, [.ref g, .ref h, .ref s0, .ref s1, .ref pd])), (g, .inr (1, [.ref cl, .ref t0, .ref t1, .int nx, .int tn])), (cl, .inr (0, [.ref st, .ref mk, .long gn, .long ac, .long dn])), (st, .inl (cI, 82, .inl fs)), (mk, .inl (cI, 82, .inl fm)), (t0, .inr (5, [.ref ma0, .int mks0, .int pts0, .int ths0, .int rgs0, .int rgc0, .int fnd0, .int rdb0, .int wdb0])), (ma0, .inl (cI, 8, .inl fma0)), (t1, .inr (5, [.ref ma1, .int mks1, .int pts1, .int ths1, .int rgs1, .int rgc1, .int fnd1, .int rdb1, .int wdb1])), (ma1, .inl (cI, 8, .inl fma1))]) [0, 1, 2, 3, 4, 5, 6, 7, 8] rfl) hK (ci := 6) (q0 := 0) rfl rfl) rfl rfl hl.1 rfl (lv_room (Nat.le_of_ble_eq_true rfl)) dL_piece_275 ⟨Nat.le_of_ble_eq_true rfl, Nat.le_of_ble_eq_true rfl⟩) hP hS (fun H locs hP hS => ?_)
                              refine lv_iconst (v := 3) hx hb dL_piece_278 (by decide) ?_
                              refine lv_icmp_ne (tgt := 286) hx hb dL_piece_279 (by decide) (fun c_33 => ?_) (fun c_33 => ?_)
                              · rw [if_neg c_33] at hq_5
                                refine lv_iconst (v := 0) hx hb dL_piece_286 (by decide) ?_
                                refine lv_istore (lv' := [(12, .int 0), (11, .int v_18), (10, .int v_14), (9, .int x9), (8, .int y8), (7, .int x7), (6, .int x6), (5, .ref a_1), (0, .ref tc), (1, .ref mr), (2, .int cell), (3, .int but), (4, .int ab)]) hx hb dL_piece_287 hl (by decide) rfl (fun ls hl => ?_)
                                refine lv_iload hx hb dL_piece_289 (lv_at hl 0 rfl) ?_
                                refine lv_if_eq (tgt := 316) hx hb dL_piece_291 (by decide) (fun c_34 => ?_) (fun c_34 => ?_)
                                rotate_left
                                · exact absurd (by decide) c_34
                                refine lv_iinc (v := (x9 + 1)) (lv' := [(9, .int (x9 + 1)), (12, .int 0), (11, .int v_18), (10, .int v_14), (8, .int y8), (7, .int x7), (6, .int x6), (5, .ref a_1), (0, .ref tc), (1, .ref mr), (2, .int cell), (3, .int but), (4, .int ab)]) hx hb dL_piece_316 hl (k := 3) rfl rfl (by decide) rfl (fun ls hl => ?_)
                                refine lv_goto (tgt := 65) hx hb dL_piece_319 (by decide) ?_
                                exact ih65 (k65 + 1) (x9 + 1) x6 w11f w12f _ _ _ (by omega) (by omega) (by rw [ex65]; exact nI_1 _) hPI hq_5 hP hD hS (lv_sub hl [0, 4, 5, 6, 7, 8, 9, 10, 11, 12] rfl)
                              · rw [if_pos c_33] at hq_5
                                refine lv_iconst (v := 1) hx hb dL_piece_282 (by decide) ?_
                                refine lv_goto (tgt := 287) hx hb dL_piece_283 (by decide) ?_
                                refine lv_istore (lv' := [(12, .int 1), (11, .int v_18), (10, .int v_14), (9, .int x9), (8, .int y8), (7, .int x7), (6, .int x6), (5, .ref a_1), (0, .ref tc), (1, .ref mr), (2, .int cell), (3, .int but), (4, .int ab)]) hx hb dL_piece_287 hl (by decide) rfl (fun ls hl => ?_)
                                refine lv_iload hx hb dL_piece_289 (lv_at hl 0 rfl) ?_
                                refine lv_if_eq (tgt := 316) hx hb dL_piece_291 (by decide) (fun c_35 => ?_) (fun c_35 => ?_)
                                · exact absurd c_35 (by decide)
                                refine lv_aload_n hx hb dL_piece_294 rfl (lv_at hl 9 rfl) ?_
                                refine lv_iload hx hb dL_piece_295 (lv_at hl 1 rfl) ?_
                                refine va_iald hx hb hK hP 11 0 rfl rfl (cell_in (by rw [← hr_23]; exact c_24)) dL_piece_297 ?_
                                refine lv_if_ne (tgt := 316) hx hb dL_piece_298 (by decide) (fun c_36 => ?_) (fun c_36 => ?_)
                                · rw [if_neg c_36] at hq_5
                                  refine lv_iinc (v := (x9 + 1)) (lv' := [(9, .int (x9 + 1)), (12, .int 1), (11, .int v_18), (10, .int v_14), (8, .int y8), (7, .int x7), (6, .int x6), (5, .ref a_1), (0, .ref tc), (1, .ref mr), (2, .int cell), (3, .int but), (4, .int ab)]) hx hb dL_piece_316 hl (k := 3) rfl rfl (by decide) rfl (fun ls hl => ?_)
                                  refine lv_goto (tgt := 65) hx hb dL_piece_319 (by decide) ?_
                                  exact ih65 (k65 + 1) (x9 + 1) x6 w11f w12f _ _ _ (by omega) (by omega) (by rw [ex65]; exact nI_1 _) hPI hq_5 hP hD hS (lv_sub hl [0, 4, 5, 6, 7, 8, 9, 10, 11, 12] rfl)
                                · rw [if_pos c_36] at hq_5
                                  refine lv_aload_n hx hb dL_piece_301 rfl (lv_at hl 9 rfl) ?_
                                  refine lv_iload hx hb dL_piece_302 (lv_at hl 1 rfl) ?_
                                  refine lv_iconst (v := 1) hx hb dL_piece_304 (by decide) ?_
                                  refine va_iast hx hb hK hP hD hS 11 0 rfl rfl (cell_in (by rw [← hr_23]; exact c_24)) dL_piece_305 (fun H locs hP hD hS => ?_)
                                  have hP : va_P (dC, dI) vwCl [(tc, .inr (6, [.ref g, .ref h, .ref s0, .ref s1, .ref pd])), (g, .inr (1, [.ref cl, .ref t0, .ref t1, .int nx, .int tn])), (cl, .inr (0, [.ref st, .ref mk, .long gn, .long ac, .long dn])), (st, .inl (cI, 82, .inl fs)), (mk, .inl (cI, 82, .inl fm)), (t0, .inr (5, [.ref ma0, .int mks0, .int pts0, .int ths0, .int rgs0, .int rgc0, .int fnd0, .int rdb0, .int wdb0])), (ma0, .inl (cI, 8, .inl fma0)), (t1, .inr (5, [.ref ma1, .int mks1, .int pts1, .int ths1, .int rgs1, .int rgc1, .int fnd1, .int rdb1, .int wdb1])), (ma1, .inl (cI, 8, .inl fma1)), (pd, .inr (3, [.ref sg, .int ln])), (h, .inr (2, [.ref hs, .int hk, .ref gn_])), (mr, .inl (cI, 48, .inl (upd w11f v_18.toNatClampNeg 1))), (a_1, .inl (cI, 48, .inl w12f))] H := hP
                                  have hD : va_D A [(tc, .inr (6, [.ref g, .ref h, .ref s0, .ref s1, .ref pd])), (g, .inr (1, [.ref cl, .ref t0, .ref t1, .int nx, .int tn])), (cl, .inr (0, [.ref st, .ref mk, .long gn, .long ac, .long dn])), (st, .inl (cI, 82, .inl fs)), (mk, .inl (cI, 82, .inl fm)), (t0, .inr (5, [.ref ma0, .int mks0, .int pts0, .int ths0, .int rgs0, .int rgc0, .int fnd0, .int rdb0, .int wdb0])), (ma0, .inl (cI, 8, .inl fma0)), (t1, .inr (5, [.ref ma1, .int mks1, .int pts1, .int ths1, .int rgs1, .int rgc1, .int fnd1, .int rdb1, .int wdb1])), (ma1, .inl (cI, 8, .inl fma1)), (pd, .inr (3, [.ref sg, .int ln])), (h, .inr (2, [.ref hs, .int hk, .ref gn_])), (mr, .inl (cI, 48, .inl (upd w11f v_18.toNatClampNeg 1))), (a_1, .inl (cI, 48, .inl w12f))] := hD
                                  refine lv_aload hx hb dL_piece_306 (lv_at hl 7 rfl) ?_
                                  refine lv_iload hx hb dL_piece_308 (lv_at hl 6 rfl) ?_
                                  refine lv_iload hx hb dL_piece_310 (lv_at hl 1 rfl) ?_
                                  refine va_iast hx hb hK hP hD hS 12 0 rfl rfl (pi_in hPI (cell_in (by rw [← hr_23]; exact c_24)) c_36) dL_piece_312 (fun H locs hP hD hS => ?_)
                                  have hP : va_P (dC, dI) vwCl [(tc, .inr (6, [.ref g, .ref h, .ref s0, .ref s1, .ref pd])), (g, .inr (1, [.ref cl, .ref t0, .ref t1, .int nx, .int tn])), (cl, .inr (0, [.ref st, .ref mk, .long gn, .long ac, .long dn])), (st, .inl (cI, 82, .inl fs)), (mk, .inl (cI, 82, .inl fm)), (t0, .inr (5, [.ref ma0, .int mks0, .int pts0, .int ths0, .int rgs0, .int rgc0, .int fnd0, .int rdb0, .int wdb0])), (ma0, .inl (cI, 8, .inl fma0)), (t1, .inr (5, [.ref ma1, .int mks1, .int pts1, .int ths1, .int rgs1, .int rgc1, .int fnd1, .int rdb1, .int wdb1])), (ma1, .inl (cI, 8, .inl fma1)), (pd, .inr (3, [.ref sg, .int ln])), (h, .inr (2, [.ref hs, .int hk, .ref gn_])), (mr, .inl (cI, 48, .inl (upd w11f v_18.toNatClampNeg 1))), (a_1, .inl (cI, 48, .inl (upd w12f x6.toNatClampNeg v_18)))] H := hP
                                  have hD : va_D A [(tc, .inr (6, [.ref g, .ref h, .ref s0, .ref s1, .ref pd])), (g, .inr (1, [.ref cl, .ref t0, .ref t1, .int nx, .int tn])), (cl, .inr (0, [.ref st, .ref mk, .long gn, .long ac, .long dn])), (st, .inl (cI, 82, .inl fs)), (mk, .inl (cI, 82, .inl fm)), (t0, .inr (5, [.ref ma0, .int mks0, .int pts0, .int ths0, .int rgs0, .int rgc0, .int fnd0, .int rdb0, .int wdb0])), (ma0, .inl (cI, 8, .inl fma0)), (t1, .inr (5, [.ref ma1, .int mks1, .int pts1, .int ths1, .int rgs1, .int rgc1, .int fnd1, .int rdb1, .int wdb1])), (ma1, .inl (cI, 8, .inl fma1)), (pd, .inr (3, [.ref sg, .int ln])), (h, .inr (2, [.ref hs, .int hk, .ref gn_])), (mr, .inl (cI, 48, .inl (upd w11f v_18.toNatClampNeg 1))), (a_1, .inl (cI, 48, .inl (upd w12f x6.toNatClampNeg v_18)))] := hD
                                  refine lv_iinc (v := (x6 + 1)) (lv' := [(6, .int (x6 + 1)), (12, .int 1), (11, .int v_18), (10, .int v_14), (9, .int x9), (8, .int y8), (7, .int x7), (5, .ref a_1), (0, .ref tc), (1, .ref mr), (2, .int cell), (3, .int but), (4, .int ab)]) hx hb dL_piece_313 hl (k := 6) rfl rfl (by decide) rfl (fun ls hl => ?_)
                                  refine lv_iinc (v := (x9 + 1)) (lv' := [(9, .int (x9 + 1)), (6, .int (x6 + 1)), (12, .int 1), (11, .int v_18), (10, .int v_14), (8, .int y8), (7, .int x7), (5, .ref a_1), (0, .ref tc), (1, .ref mr), (2, .int cell), (3, .int but), (4, .int ab)]) hx hb dL_piece_316 hl (k := 4) rfl rfl (by decide) rfl (fun ls hl => ?_)
                                  refine lv_goto (tgt := 65) hx hb dL_piece_319 (by decide) ?_
                                  exact ih65 (k65 + 1) (x9 + 1) (x6 + 1) (upd w11f v_18.toNatClampNeg 1) (upd w12f x6.toNatClampNeg v_18) _ _ _ (by omega) (by omega) (by rw [ex65]; exact nI_1 _) (pi_up hPI (cell_in (by rw [← hr_23]; exact c_24)) c_36) hq_5 hP hD hS (lv_sub hl [0, 5, 6, 1, 7, 8, 9, 10, 11, 12] rfl)
                  refine lv_iload hx hb dL_piece_187 (lv_at hl 1 rfl) ?_
                  refine lv_if_ne (tgt := 199) hx hb dL_piece_189 (by decide) (fun c_37 => ?_) (fun c_37 => ?_)
                  · rw [if_neg c_37] at hv_18
                    refine lv_iload hx hb dL_piece_199 (lv_at hl 1 rfl) ?_
                    refine lv_iconst (v := 1) hx hb dL_piece_201 (by decide) ?_
                    refine lv_icmp_ne (tgt := 212) hx hb dL_piece_202 (by decide) (fun c_38 => ?_) (fun c_38 => ?_)
                    · rw [if_neg c_38] at hv_18
                      refine lv_iload hx hb dL_piece_212 (lv_at hl 1 rfl) ?_
                      refine lv_iconst (v := 2) hx hb dL_piece_214 (by decide) ?_
                      refine lv_icmp_ne (tgt := 226) hx hb dL_piece_215 (by decide) (fun c_39 => ?_) (fun c_39 => ?_)
                      · rw [if_neg c_39] at hv_18
                        refine lv_iload hx hb dL_piece_226 (lv_at hl 2 rfl) ?_
                        refine lv_bipush (v := 8) hx hb dL_piece_228 (by decide) ?_
                        refine lv_isub hx hb dL_piece_230 ?_
                        subst hv_18
                        exact hj231 _ _ _ hP hD hS (lv_sub hl [0, 1, 2, 3, 4, 5, 6, 7, 8, 9, 10] rfl)
                      · rw [if_pos c_39] at hv_18
                        refine lv_iload hx hb dL_piece_218 (lv_at hl 2 rfl) ?_
                        refine lv_bipush (v := 8) hx hb dL_piece_220 (by decide) ?_
                        refine lv_iadd hx hb dL_piece_222 ?_
                        refine lv_goto (tgt := 231) hx hb dL_piece_223 (by decide) ?_
                        subst hv_18
                        exact hj231 _ _ _ hP hD hS (lv_sub hl [0, 1, 2, 3, 4, 5, 6, 7, 8, 9, 10] rfl)
                    · rw [if_pos c_38] at hv_18
                      refine lv_iload hx hb dL_piece_205 (lv_at hl 2 rfl) ?_
                      refine lv_iconst (v := 1) hx hb dL_piece_207 (by decide) ?_
                      refine lv_isub hx hb dL_piece_208 ?_
                      refine lv_goto (tgt := 231) hx hb dL_piece_209 (by decide) ?_
                      subst hv_18
                      exact hj231 _ _ _ hP hD hS (lv_sub hl [0, 1, 2, 3, 4, 5, 6, 7, 8, 9, 10] rfl)
                  · rw [if_pos c_37] at hv_18
                    refine lv_iload hx hb dL_piece_192 (lv_at hl 2 rfl) ?_
                    refine lv_iconst (v := 1) hx hb dL_piece_194 (by decide) ?_
                    refine lv_iadd hx hb dL_piece_195 ?_
                    refine lv_goto (tgt := 231) hx hb dL_piece_196 (by decide) ?_
                    subst hv_18
                    exact hj231 _ _ _ hP hD hS (lv_sub hl [0, 1, 2, 3, 4, 5, 6, 7, 8, 9, 10] rfl)
                refine lv_iload hx hb dL_piece_71 (lv_at hl 0 rfl) ?_
                refine lv_if_ne (tgt := 107) hx hb dL_piece_73 (by decide) (fun c_40 => ?_) (fun c_40 => ?_)
                · rw [if_neg c_40] at hv_14
                  refine lv_iload hx hb dL_piece_107 (lv_at hl 0 rfl) ?_
                  refine lv_iconst (v := 1) hx hb dL_piece_109 (by decide) ?_
                  refine lv_icmp_ne (tgt := 144) hx hb dL_piece_110 (by decide) (fun c_41 => ?_) (fun c_41 => ?_)
                  · rw [if_neg c_41] at hv_14
                    refine lv_iload hx hb dL_piece_144 (lv_at hl 0 rfl) ?_
                    refine lv_iconst (v := 2) hx hb dL_piece_146 (by decide) ?_
                    refine lv_icmp_ne (tgt := 169) hx hb dL_piece_147 (by decide) (fun c_42 => ?_) (fun c_42 => ?_)
                    · rw [if_neg c_42] at hv_14
                      refine lv_iload hx hb dL_piece_169 (lv_at hl 1 rfl) ?_
                      refine lv_bipush (v := 7) hx hb dL_piece_171 (by decide) ?_
                      refine lv_icmp_le (tgt := 184) hx hb dL_piece_173 (by decide) (fun c_43 => ?_) (fun c_43 => ?_)
                      · rw [if_pos c_43] at hv_14
                        refine lv_iconst (v := (-1)) hx hb dL_piece_184 (by decide) ?_
                        subst hv_14
                        exact hj185 _ _ _ hP hD hS (lv_sub hl [0, 1, 2, 3, 4, 5, 6, 7, 8, 9] rfl)
                      · rw [if_neg c_43] at hv_14
                        refine lv_bipush (v := 34) hx hb dL_piece_176 (by decide) ?_
                        refine lv_iload hx hb dL_piece_178 (lv_at hl 1 rfl) ?_
                        refine lv_iadd hx hb dL_piece_180 ?_
                        refine lv_goto (tgt := 185) hx hb dL_piece_181 (by decide) ?_
                        subst hv_14
                        exact hj185 _ _ _ hP hD hS (lv_sub hl [0, 1, 2, 3, 4, 5, 6, 7, 8, 9] rfl)
                    · rw [if_pos c_42] at hv_14
                      refine lv_iload hx hb dL_piece_150 (lv_at hl 1 rfl) ?_
                      refine lv_bipush (v := 40) hx hb dL_piece_152 (by decide) ?_
                      refine lv_icmp_ge (tgt := 165) hx hb dL_piece_154 (by decide) (fun c_44 => ?_) (fun c_44 => ?_)
                      · rw [if_pos c_44] at hv_14
                        refine lv_iconst (v := (-1)) hx hb dL_piece_165 (by decide) ?_
                        refine lv_goto (tgt := 185) hx hb dL_piece_166 (by decide) ?_
                        subst hv_14
                        exact hj185 _ _ _ hP hD hS (lv_sub hl [0, 1, 2, 3, 4, 5, 6, 7, 8, 9] rfl)
                      · rw [if_neg c_44] at hv_14
                        refine lv_bipush (v := 42) hx hb dL_piece_157 (by decide) ?_
                        refine lv_iload hx hb dL_piece_159 (lv_at hl 1 rfl) ?_
                        refine lv_iadd hx hb dL_piece_161 ?_
                        refine lv_goto (tgt := 185) hx hb dL_piece_162 (by decide) ?_
                        subst hv_14
                        exact hj185 _ _ _ hP hD hS (lv_sub hl [0, 1, 2, 3, 4, 5, 6, 7, 8, 9] rfl)
                  · rw [if_pos c_41] at hv_14
                    refine lv_iload hx hb dL_piece_113 (lv_at hl 1 rfl) ?_
                    refine lv_bipush (v := 8) hx hb dL_piece_115 (by decide) ?_
                    refine lv_irem hx hb dL_piece_117 (by decide) ?_
                    refine lv_if_le (tgt := 140) hx hb dL_piece_118 (by decide) (fun c_45 => ?_) (fun c_45 => ?_)
                    · rw [if_pos c_45] at hv_14
                      refine lv_iconst (v := (-1)) hx hb dL_piece_140 (by decide) ?_
                      refine lv_goto (tgt := 185) hx hb dL_piece_141 (by decide) ?_
                      subst hv_14
                      exact hj185 _ _ _ hP hD hS (lv_sub hl [0, 1, 2, 3, 4, 5, 6, 7, 8, 9] rfl)
                    · rw [if_neg c_45] at hv_14
                      refine lv_bipush (v := 7) hx hb dL_piece_121 (by decide) ?_
                      refine lv_iload hx hb dL_piece_123 (lv_at hl 1 rfl) ?_
                      refine lv_bipush (v := 8) hx hb dL_piece_125 (by decide) ?_
                      refine lv_idiv hx hb dL_piece_127 (by decide) ?_
                      refine lv_imul hx hb dL_piece_128 ?_
                      refine lv_iload hx hb dL_piece_129 (lv_at hl 1 rfl) ?_
                      refine lv_bipush (v := 8) hx hb dL_piece_131 (by decide) ?_
                      refine lv_irem hx hb dL_piece_133 (by decide) ?_
                      refine lv_iadd hx hb dL_piece_134 ?_
                      refine lv_iconst (v := 1) hx hb dL_piece_135 (by decide) ?_
                      refine lv_isub hx hb dL_piece_136 ?_
                      refine lv_goto (tgt := 185) hx hb dL_piece_137 (by decide) ?_
                      subst hv_14
                      exact hj185 _ _ _ hP hD hS (lv_sub hl [0, 1, 2, 3, 4, 5, 6, 7, 8, 9] rfl)
                · rw [if_pos c_40] at hv_14
                  refine lv_iload hx hb dL_piece_76 (lv_at hl 1 rfl) ?_
                  refine lv_bipush (v := 8) hx hb dL_piece_78 (by decide) ?_
                  refine lv_irem hx hb dL_piece_80 (by decide) ?_
                  refine lv_bipush (v := 7) hx hb dL_piece_81 (by decide) ?_
                  refine lv_icmp_ge (tgt := 103) hx hb dL_piece_83 (by decide) (fun c_46 => ?_) (fun c_46 => ?_)
                  · rw [if_pos c_46] at hv_14
                    refine lv_iconst (v := (-1)) hx hb dL_piece_103 (by decide) ?_
                    refine lv_goto (tgt := 185) hx hb dL_piece_104 (by decide) ?_
                    subst hv_14
                    exact hj185 _ _ _ hP hD hS (lv_sub hl [0, 1, 2, 3, 4, 5, 6, 7, 8, 9] rfl)
                  · rw [if_neg c_46] at hv_14
                    refine lv_bipush (v := 7) hx hb dL_piece_86 (by decide) ?_
                    refine lv_iload hx hb dL_piece_88 (lv_at hl 1 rfl) ?_
                    refine lv_bipush (v := 8) hx hb dL_piece_90 (by decide) ?_
                    refine lv_idiv hx hb dL_piece_92 (by decide) ?_
                    refine lv_imul hx hb dL_piece_93 ?_
                    refine lv_iload hx hb dL_piece_94 (lv_at hl 1 rfl) ?_
                    refine lv_bipush (v := 8) hx hb dL_piece_96 (by decide) ?_
                    refine lv_irem hx hb dL_piece_98 (by decide) ?_
                    refine lv_iadd hx hb dL_piece_99 ?_
                    refine lv_goto (tgt := 185) hx hb dL_piece_100 (by decide) ?_
                    subst hv_14
                    exact hj185 _ _ _ hP hD hS (lv_sub hl [0, 1, 2, 3, 4, 5, 6, 7, 8, 9] rfl)
          exact hloop65 5 0 (0 : Int32) x6 w11f w12f _ _ _ (by omega) (by omega) nI_0.symm hPI hq_5 hP hD hS (lv_sub hl [0, 1, 2, 3, 4, 5, 6, 7, 8, 9] rfl)
    exact hloop48 49 0 (0 : Int32) (1 : Int32) q_2.2 (upd (fun _ => 0) (0 : Int32).toNatClampNeg cell) _ _ _ (by omega) (by omega) nI_0.symm (by rw [hq_2]; exact pz_init cell but ab tn gn ac dn fs fm mks0 fma0 mks1 fma1 fmr hc) hq_3 hP hD hS (lv_sub hl [0, 1, 2, 3, 4, 5, 6, 7] rfl)
  have hloop12 : ∀ (n k12 : Nat) (x7 : Int32) (w11f : Nat → Int32) (H : Heap) (locs : List Loc) (ls : Array Slot), k12 ≤ 48 → 48 - k12 < n → x7 = nI k12 → q_2 = F_Law_piece_L12 cell but ab tn gn ac dn fs fm mks0 fma0 mks1 fma1 fmr n x7 w11f → va_P (dC, dI) vwCl [(tc, .inr (6, [.ref g, .ref h, .ref s0, .ref s1, .ref pd])), (g, .inr (1, [.ref cl, .ref t0, .ref t1, .int nx, .int tn])), (cl, .inr (0, [.ref st, .ref mk, .long gn, .long ac, .long dn])), (st, .inl (cI, 82, .inl fs)), (mk, .inl (cI, 82, .inl fm)), (t0, .inr (5, [.ref ma0, .int mks0, .int pts0, .int ths0, .int rgs0, .int rgc0, .int fnd0, .int rdb0, .int wdb0])), (ma0, .inl (cI, 8, .inl fma0)), (t1, .inr (5, [.ref ma1, .int mks1, .int pts1, .int ths1, .int rgs1, .int rgc1, .int fnd1, .int rdb1, .int wdb1])), (ma1, .inl (cI, 8, .inl fma1)), (pd, .inr (3, [.ref sg, .int ln])), (h, .inr (2, [.ref hs, .int hk, .ref gn_])), (mr, .inl (cI, 48, .inl w11f)), (a_1, .inl (cI, 48, .inl (fun _ => 0)))] H → va_D A [(tc, .inr (6, [.ref g, .ref h, .ref s0, .ref s1, .ref pd])), (g, .inr (1, [.ref cl, .ref t0, .ref t1, .int nx, .int tn])), (cl, .inr (0, [.ref st, .ref mk, .long gn, .long ac, .long dn])), (st, .inl (cI, 82, .inl fs)), (mk, .inl (cI, 82, .inl fm)), (t0, .inr (5, [.ref ma0, .int mks0, .int pts0, .int ths0, .int rgs0, .int rgc0, .int fnd0, .int rdb0, .int wdb0])), (ma0, .inl (cI, 8, .inl fma0)), (t1, .inr (5, [.ref ma1, .int mks1, .int pts1, .int ths1, .int rgs1, .int rgc1, .int fnd1, .int rdb1, .int wdb1])), (ma1, .inl (cI, 8, .inl fma1)), (pd, .inr (3, [.ref sg, .int ln])), (h, .inr (2, [.ref hs, .int hk, .ref gn_])), (mr, .inl (cI, 48, .inl w11f)), (a_1, .inl (cI, 48, .inl (fun _ => 0)))] → va_S A s.heap H locs → lv_has ls 13 [(7, .int x7), (6, .int 1), (5, .ref a_1), (0, .ref tc), (1, .ref mr), (2, .int cell), (3, .int but), (4, .int ab)] → W p l e (headSpec wsL_piece ({ frames := 5, cells := 1, slots := 48, locals := 110 })).room s m ([.ref tc, .ref mr, .int cell, .int but, .int ab] : List Value).toArray below meth c H locs 1 48 (MQ below (va_Qi (fun r (_ : Unit) => r = res.1) (fun _ zt => va_P (dC, dI) vwCl [(tc, .inr (6, [.ref g, .ref h, .ref s0, .ref s1, .ref pd])), (g, .inr (1, [.ref cl, .ref t0, .ref t1, .int nx, .int tn])), (cl, .inr (0, [.ref st, .ref mk, .long gn, .long ac, .long dn])), (st, .inl (cI, 82, .inl fs)), (mk, .inl (cI, 82, .inl fm)), (t0, .inr (5, [.ref ma0, .int mks0, .int pts0, .int ths0, .int rgs0, .int rgc0, .int fnd0, .int rdb0, .int wdb0])), (ma0, .inl (cI, 8, .inl fma0)), (t1, .inr (5, [.ref ma1, .int mks1, .int pts1, .int ths1, .int rgs1, .int rgc1, .int fnd1, .int rdb1, .int wdb1])), (ma1, .inl (cI, 8, .inl fma1)), (pd, .inr (3, [.ref sg, .int ln])), (h, .inr (2, [.ref hs, .int hk, .ref gn_])), (mr, .inl (cI, 48, .inl res.2))] zt.heap) A) ([.ref tc, .ref mr, .int cell, .int but, .int ab] : List Value).toArray s 1 48 A) (F0 m 12 ls []) := by
    intro n
    induction n with
    | zero => intro k12 x7 w11f _ _ _ _ hm; exact absurd hm (Nat.not_lt_zero _)
    | succ n ih12 =>
      intro k12 x7 w11f H locs ls hk12 hm12 ex12  hq_2 hP hD hS hl
      rw [F_Law_piece_L12] at hq_2
      refine lv_iload hx hb dL_piece_12 (lv_at hl 0 rfl) ?_
      refine lv_bipush (v := 48) hx hb dL_piece_14 (by decide) ?_
      refine lv_icmp_ge (tgt := 40) hx hb dL_piece_16 (by decide) (fun c_47 => ?_) (fun c_47 => ?_)
      · rw [if_pos c_47] at hq_2
        subst hq_2
        exact hexit12 _ _ _  hP hD hS (lv_sub hl [0, 1, 2, 3, 4, 5, 6, 7] rfl)
      · rw [if_neg c_47] at hq_2
        have hlt_k12 : k12 < 48 := lp_lt rfl ex12 hk12 c_47
        refine lv_aload_n hx hb dL_piece_19 rfl (lv_at hl 4 rfl) ?_
        refine lv_iload hx hb dL_piece_20 (lv_at hl 0 rfl) ?_
        obtain ⟨v_49, hv_49⟩ : ∃ z : Int32, z = (if x7 = cell then 1 else 0) := ⟨_, rfl⟩
        rw [bnd_e hv_49] at hq_2
        have hj33 : ∀ (H : Heap) (locs : List Loc) (ls : Array Slot), va_P (dC, dI) vwCl [(tc, .inr (6, [.ref g, .ref h, .ref s0, .ref s1, .ref pd])), (g, .inr (1, [.ref cl, .ref t0, .ref t1, .int nx, .int tn])), (cl, .inr (0, [.ref st, .ref mk, .long gn, .long ac, .long dn])), (st, .inl (cI, 82, .inl fs)), (mk, .inl (cI, 82, .inl fm)), (t0, .inr (5, [.ref ma0, .int mks0, .int pts0, .int ths0, .int rgs0, .int rgc0, .int fnd0, .int rdb0, .int wdb0])), (ma0, .inl (cI, 8, .inl fma0)), (t1, .inr (5, [.ref ma1, .int mks1, .int pts1, .int ths1, .int rgs1, .int rgc1, .int fnd1, .int rdb1, .int wdb1])), (ma1, .inl (cI, 8, .inl fma1)), (pd, .inr (3, [.ref sg, .int ln])), (h, .inr (2, [.ref hs, .int hk, .ref gn_])), (mr, .inl (cI, 48, .inl w11f)), (a_1, .inl (cI, 48, .inl (fun _ => 0)))] H → va_D A [(tc, .inr (6, [.ref g, .ref h, .ref s0, .ref s1, .ref pd])), (g, .inr (1, [.ref cl, .ref t0, .ref t1, .int nx, .int tn])), (cl, .inr (0, [.ref st, .ref mk, .long gn, .long ac, .long dn])), (st, .inl (cI, 82, .inl fs)), (mk, .inl (cI, 82, .inl fm)), (t0, .inr (5, [.ref ma0, .int mks0, .int pts0, .int ths0, .int rgs0, .int rgc0, .int fnd0, .int rdb0, .int wdb0])), (ma0, .inl (cI, 8, .inl fma0)), (t1, .inr (5, [.ref ma1, .int mks1, .int pts1, .int ths1, .int rgs1, .int rgc1, .int fnd1, .int rdb1, .int wdb1])), (ma1, .inl (cI, 8, .inl fma1)), (pd, .inr (3, [.ref sg, .int ln])), (h, .inr (2, [.ref hs, .int hk, .ref gn_])), (mr, .inl (cI, 48, .inl w11f)), (a_1, .inl (cI, 48, .inl (fun _ => 0)))] → va_S A s.heap H locs → lv_has ls 13 [(7, .int x7), (6, .int 1), (5, .ref a_1), (0, .ref tc), (1, .ref mr), (2, .int cell), (3, .int but), (4, .int ab)] → W p l e (headSpec wsL_piece ({ frames := 5, cells := 1, slots := 48, locals := 110 })).room s m ([.ref tc, .ref mr, .int cell, .int but, .int ab] : List Value).toArray below meth c H locs 1 48 (MQ below (va_Qi (fun r (_ : Unit) => r = res.1) (fun _ zt => va_P (dC, dI) vwCl [(tc, .inr (6, [.ref g, .ref h, .ref s0, .ref s1, .ref pd])), (g, .inr (1, [.ref cl, .ref t0, .ref t1, .int nx, .int tn])), (cl, .inr (0, [.ref st, .ref mk, .long gn, .long ac, .long dn])), (st, .inl (cI, 82, .inl fs)), (mk, .inl (cI, 82, .inl fm)), (t0, .inr (5, [.ref ma0, .int mks0, .int pts0, .int ths0, .int rgs0, .int rgc0, .int fnd0, .int rdb0, .int wdb0])), (ma0, .inl (cI, 8, .inl fma0)), (t1, .inr (5, [.ref ma1, .int mks1, .int pts1, .int ths1, .int rgs1, .int rgc1, .int fnd1, .int rdb1, .int wdb1])), (ma1, .inl (cI, 8, .inl fma1)), (pd, .inr (3, [.ref sg, .int ln])), (h, .inr (2, [.ref hs, .int hk, .ref gn_])), (mr, .inl (cI, 48, .inl res.2))] zt.heap) A) ([.ref tc, .ref mr, .int cell, .int but, .int ab] : List Value).toArray s 1 48 A) (F0 m 33 ls [.int v_49, .int x7, .ref mr]) := by
          intro H locs ls hP hD hS hl
          refine va_iast hx hb hK hP hD hS 11 0 rfl rfl (by rw [ex12]; exact vp_in_nI (by omega) (by decide)) dL_piece_33 (fun H locs hP hD hS => ?_)
          have hP : va_P (dC, dI) vwCl [(tc, .inr (6, [.ref g, .ref h, .ref s0, .ref s1, .ref pd])), (g, .inr (1, [.ref cl, .ref t0, .ref t1, .int nx, .int tn])), (cl, .inr (0, [.ref st, .ref mk, .long gn, .long ac, .long dn])), (st, .inl (cI, 82, .inl fs)), (mk, .inl (cI, 82, .inl fm)), (t0, .inr (5, [.ref ma0, .int mks0, .int pts0, .int ths0, .int rgs0, .int rgc0, .int fnd0, .int rdb0, .int wdb0])), (ma0, .inl (cI, 8, .inl fma0)), (t1, .inr (5, [.ref ma1, .int mks1, .int pts1, .int ths1, .int rgs1, .int rgc1, .int fnd1, .int rdb1, .int wdb1])), (ma1, .inl (cI, 8, .inl fma1)), (pd, .inr (3, [.ref sg, .int ln])), (h, .inr (2, [.ref hs, .int hk, .ref gn_])), (mr, .inl (cI, 48, .inl (upd w11f x7.toNatClampNeg v_49))), (a_1, .inl (cI, 48, .inl (fun _ => 0)))] H := hP
          have hD : va_D A [(tc, .inr (6, [.ref g, .ref h, .ref s0, .ref s1, .ref pd])), (g, .inr (1, [.ref cl, .ref t0, .ref t1, .int nx, .int tn])), (cl, .inr (0, [.ref st, .ref mk, .long gn, .long ac, .long dn])), (st, .inl (cI, 82, .inl fs)), (mk, .inl (cI, 82, .inl fm)), (t0, .inr (5, [.ref ma0, .int mks0, .int pts0, .int ths0, .int rgs0, .int rgc0, .int fnd0, .int rdb0, .int wdb0])), (ma0, .inl (cI, 8, .inl fma0)), (t1, .inr (5, [.ref ma1, .int mks1, .int pts1, .int ths1, .int rgs1, .int rgc1, .int fnd1, .int rdb1, .int wdb1])), (ma1, .inl (cI, 8, .inl fma1)), (pd, .inr (3, [.ref sg, .int ln])), (h, .inr (2, [.ref hs, .int hk, .ref gn_])), (mr, .inl (cI, 48, .inl (upd w11f x7.toNatClampNeg v_49))), (a_1, .inl (cI, 48, .inl (fun _ => 0)))] := hD
          refine lv_iinc (v := (x7 + 1)) (lv' := [(7, .int (x7 + 1)), (6, .int 1), (5, .ref a_1), (0, .ref tc), (1, .ref mr), (2, .int cell), (3, .int but), (4, .int ab)]) hx hb dL_piece_34 hl (k := 0) rfl rfl (by decide) rfl (fun ls hl => ?_)
          refine lv_goto (tgt := 12) hx hb dL_piece_37 (by decide) ?_
          exact ih12 (k12 + 1) (x7 + 1) (upd w11f x7.toNatClampNeg v_49) _ _ _ (by omega) (by omega) (by rw [ex12]; exact nI_1 _)  hq_2 hP hD hS (lv_sub hl [0, 1, 2, 3, 4, 5, 6, 7] rfl)
        refine lv_iload hx hb dL_piece_22 (lv_at hl 0 rfl) ?_
        refine lv_iload_n hx hb dL_piece_24 rfl (lv_at hl 5 rfl) ?_
        refine lv_icmp_ne (tgt := 32) hx hb dL_piece_25 (by decide) (fun c_50 => ?_) (fun c_50 => ?_)
        · rw [if_neg c_50] at hv_49
          refine lv_iconst (v := 0) hx hb dL_piece_32 (by decide) ?_
          subst hv_49
          exact hj33 _ _ _ hP hD hS (lv_sub hl [0, 1, 2, 3, 4, 5, 6, 7] rfl)
        · rw [if_pos c_50] at hv_49
          refine lv_iconst (v := 1) hx hb dL_piece_28 (by decide) ?_
          refine lv_goto (tgt := 33) hx hb dL_piece_29 (by decide) ?_
          subst hv_49
          exact hj33 _ _ _ hP hD hS (lv_sub hl [0, 1, 2, 3, 4, 5, 6, 7] rfl)
  exact hloop12 49 0 (0 : Int32) fmr _ _ _ (by omega) (by omega) nI_0.symm  hq_2 hP hD hS (lv_sub hl [0, 1, 2, 3, 4, 5, 6, 7] rfl)
