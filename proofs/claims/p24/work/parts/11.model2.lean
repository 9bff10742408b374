theorem iX7_rankOf_X7 : ∀ w ∈ u_ws RX7 TX7 9, w ∈ wsX7_rankOf := by decide +kernel
theorem kX7_rankOf_7 : Cond.fieldLink RX7 7 "TailorChalksModel" "s" "[I" ∈ wsX7_rankOf := by decide +kernel
def F_Model_rankOf_L6 (player : Int32) (joint : Int32) (vs : Nat → Int32) : Nat → Int32 → Int32 → Int32 × Int32
  | 0, x4, x3 => (x4, x3)
  | n + 1, x4, x3 => (bnd (F_Model_at player (2 : Int32)) (fun r_2 => (if (vs r_2.toNatClampNeg) ≤ x4 then (x4, x3) else (bnd (F_Model_chalkAt player x4 vs) (fun r_4 => (if r_4 = joint then (F_Model_rankOf_L6 player joint vs n (x4 + 1) x4) else (F_Model_rankOf_L6 player joint vs n (x4 + 1) x3)))))))
def F_Model_rankOf (player : Int32) (joint : Int32) (vs : Nat → Int32) : Int32 := (bnd (F_Model_rankOf_L6 player joint vs 9 (0 : Int32) (-6 : Int32)) (fun q_1 => q_1.2))
set_option maxHeartbeats 4000000 in
set_option maxRecDepth 100000 in
theorem c_Model_rankOf (l : Launch) (dC : Nat → ClassId) (dI : Nat → Nat → Nat) (cI cC cG cZ : ClassId) (mo ms mah mhi msl msv mpd mlb : Nat) (player : Int32) (joint : Int32) (vkp : Int32) (vln : Int32) (vs : Nat → Int32) (hp : p01 player) (hMI : MI vs) (res : Int32) (hres : res = F_Model_rankOf player joint vs) : Met l yX7_rankOf wsX7_rankOf ({ frames := 2, cells := 0, slots := 0, locals := 43 }) (va_Pc [.ref mo, .int player, .int joint] (ro_P (dC, dI) vwCl (tyL cI cC cG cZ) [(mo, .inr (7, [.ref ms, .ref mah, .ref mhi, .int vkp, .ref msl, .ref msv, .ref mpd, .int vln, .ref mlb])), (ms, .inl (cI, 246, .inl vs))])) (va_Qi (fun r (_ : Unit) => r = res) (fun _ _ => True) ro_F) 0 0 ro_F := by
  refine Met.ofW (cc := cX7_rankOf) (maxL := 5) (ret := (some .int)) (by decide) rfl ?_
  intro p e s m args below meth c s₁ B hml hv
  obtain ⟨rfl, hP, hK⟩ := hv
  have hx := B.exec
  have hb := B.bytes
  have hr := B.returns
  have hts := atoms_spec (ws := wsX7_rankOf) B.pre
  have hown : s.vm.findClass RX7 = some m.cls := findClass_of_methodNamed B.named
  have hlocks := B.notSynchronized
  have hS : va_S ro_F s.heap s.heap [] := va_S.rf
  have hl := lv_entry ([.ref mo, .int player, .int joint]) (n := 5) (Nat.le_of_ble_eq_true rfl)
  rw [lg_entry_eq]
  generalize (lg_sl ([.ref mo, .int player, .int joint]) ++ List.replicate (5 - (lg_sl ([.ref mo, .int player, .int joint])).length) Slot.unset).toArray = ls at hl ⊢
  have hl : lv_has ls 5 [(0, .ref mo), (1, .int player), (2, .int joint)] := hl
  obtain ⟨M, hM8, exM⟩ := mi_cnt hMI hp
  rw [F_Model_rankOf] at hres
  refine lv_bipush (v := (-6)) hx hb dX7_rankOf_0 (by decide) ?_
  refine lv_istore_n (lv' := [(3, .int (-6)), (0, .ref mo), (1, .int player), (2, .int joint)]) hx hb dX7_rankOf_2 rfl hl (by decide) rfl (fun ls hl => ?_)
  refine lv_iconst (v := 0) hx hb dX7_rankOf_3 (by decide) ?_
  refine lv_istore (lv' := [(4, .int 0), (3, .int (-6)), (0, .ref mo), (1, .int player), (2, .int joint)]) hx hb dX7_rankOf_4 hl (by decide) rfl (fun ls hl => ?_)
  obtain ⟨q_1, hq_1⟩ : ∃ z, z = F_Model_rankOf_L6 player joint vs 9 (0 : Int32) (-6 : Int32) := ⟨_, rfl⟩
  rw [bnd_e hq_1] at hres
  have hexit6 : ∀ (H : Heap) (locs : List Loc) (ls : Array Slot), va_P (dC, dI) vwCl [(mo, .inr (7, [.ref ms, .ref mah, .ref mhi, .int vkp, .ref msl, .ref msv, .ref mpd, .int vln, .ref mlb])), (ms, .inl (cI, 246, .inl vs))] H → va_S ro_F s.heap H locs → lv_has ls 5 [(4, .int q_1.1), (3, .int q_1.2), (0, .ref mo), (1, .int player), (2, .int joint)] → W p l e (headSpec wsX7_rankOf ({ frames := 2, cells := 0, slots := 0, locals := 43 })).room s m ([.ref mo, .int player, .int joint] : List Value).toArray below meth c H locs 0 0 (MQ below (va_Qi (fun r (_ : Unit) => r = res) (fun _ _ => True) ro_F) ([.ref mo, .int player, .int joint] : List Value).toArray s 0 0 ro_F) (F0 m 45 ls []) := by
    intro H locs ls  hP hS hl
    refine lv_iload_n hx hb dX7_rankOf_45 rfl (lv_at hl 1 rfl) ?_
    exact W.iret (v := q_1.2) hx hb hr (fun t ht hW => ⟨⟨q_1.2, (), rfl, hres.symm, trivial⟩, hS.F ht⟩) hS.2.2 dX7_rankOf_46
  have hloop6 : ∀ (n k6 : Nat) (x4 : Int32) (x3 : Int32) (H : Heap) (locs : List Loc) (ls : Array Slot), k6 ≤ M → M - k6 < n → x4 = nI k6 → q_1 = F_Model_rankOf_L6 player joint vs n x4 x3 → va_P (dC, dI) vwCl [(mo, .inr (7, [.ref ms, .ref mah, .ref mhi, .int vkp, .ref msl, .ref msv, .ref mpd, .int vln, .ref mlb])), (ms, .inl (cI, 246, .inl vs))] H → va_S ro_F s.heap H locs → lv_has ls 5 [(4, .int x4), (3, .int x3), (0, .ref mo), (1, .int player), (2, .int joint)] → W p l e (headSpec wsX7_rankOf ({ frames := 2, cells := 0, slots := 0, locals := 43 })).room s m ([.ref mo, .int player, .int joint] : List Value).toArray below meth c H locs 0 0 (MQ below (va_Qi (fun r (_ : Unit) => r = res) (fun _ _ => True) ro_F) ([.ref mo, .int player, .int joint] : List Value).toArray s 0 0 ro_F) (F0 m 6 ls []) := by
    intro n
    induction n with
    | zero => intro k6 x4 x3 _ _ _ _ hm; exact absurd hm (Nat.not_lt_zero _)
    | succ n ih6 =>
      intro k6 x4 x3 H locs ls hk6 hm6 ex6  hq_1 hP hS hl
      rw [F_Model_rankOf_L6] at hq_1
      refine lv_iload hx hb dX7_rankOf_6 (lv_at hl 0 rfl) ?_
      refine lv_aload_n hx hb dX7_rankOf_8 rfl (lv_at hl 2 rfl) ?_
      refine va_get (D := (dC, dI)) (ci := 7) (v := .ref ms) (C := RX7) (T := TX7) (N := 9) hx hb hts iX7_rankOf_X7 hown hK hP 0 rfl rfl 0 (by decide) (hts (.fieldLink RX7 7 "TailorChalksModel" "s" "[I") kX7_rankOf_7) (fun _ h9 => h9) rfl dX7_rankOf_9 ?_
      refine lv_iload_n hx hb dX7_rankOf_12 rfl (lv_at hl 3 rfl) ?_
      refine lv_iconst (v := 2) hx hb dX7_rankOf_13 (by decide) ?_
      obtain ⟨r_2, hr_2⟩ : ∃ z, z = F_Model_at player (2 : Int32) := ⟨_, rfl⟩
      rw [bnd_e hr_2] at hq_1
      refine ro_calli (va_runS (As := [.int player, .int 2]) (rest := [.ref ms, .int x4]) ⟨hx, hb, hml, hown, hts⟩ (c_Model_at l dC dI cI cC cG cZ  player (2 : Int32)  r_2 hr_2) (va_cwS 2 hts gX7_rankOf_X7_at rfl rfl rfl (by decide +kernel) ⟨Nat.le_of_ble_eq_true rfl, Nat.le_of_ble_eq_true rfl⟩) (ro_preS (hP.sub (ws' := []) [] rfl) hK) rfl rfl hl.1 rfl (lv_room (Nat.le_of_ble_eq_true rfl)) dX7_rankOf_14 ⟨Nat.zero_le _, Nat.zero_le _⟩) hP hS (fun H locs hP hS => ?_)
      refine va_iald hx hb hK hP 1 0 rfl rfl (by rw [hr_2]; exact at_in hp (by decide) (by decide)) dX7_rankOf_17 ?_
      refine lv_icmp_ge (tgt := 45) hx hb dX7_rankOf_18 (by decide) (fun c_3 => ?_) (fun c_3 => ?_)
      · rw [if_pos c_3] at hq_1
        subst hq_1
        exact hexit6 _ _ _  hP hS (lv_sub hl [0, 1, 2, 3, 4] rfl)
      · rw [if_neg c_3] at hq_1
        have hlt_k6 : k6 < M := lp_lt (by rw [hr_2]; exact exM) ex6 hk6 c_3
        refine lv_aload_n hx hb dX7_rankOf_21 rfl (lv_at hl 2 rfl) ?_
        refine lv_iload_n hx hb dX7_rankOf_22 rfl (lv_at hl 3 rfl) ?_
        refine lv_iload hx hb dX7_rankOf_23 (lv_at hl 0 rfl) ?_
        obtain ⟨r_4, hr_4⟩ : ∃ z, z = F_Model_chalkAt player x4 vs := ⟨_, rfl⟩
        rw [bnd_e hr_4] at hq_1
        refine ro_calli (va_runV (As := [.int player, .int x4]) (rest := []) ⟨hx, hb, hml, hown, hts⟩ (c_Model_chalkAt l dC dI cI cC cG cZ mo ms mah mhi msl msv mpd mlb player x4 vkp vln vs hp (by rw [ex6]; exact vp_in_nI (by omega) (by decide)) r_4 hr_4) (cwV 2 hts gX7_rankOf_X7_chalkAt rfl rfl rfl (by decide +kernel) ⟨Nat.le_of_ble_eq_true rfl, Nat.le_of_ble_eq_true rfl⟩) (ro_preV (hP.sub (ws' := [(mo, .inr (7, [.ref ms, .ref mah, .ref mhi, .int vkp, .ref msl, .ref msv, .ref mpd, .int vln, .ref mlb])), (ms, .inl (cI, 246, .inl vs))]) [0, 1] rfl) hK (ci := 7) (q0 := 0) rfl rfl) rfl rfl hl.1 rfl (lv_room (Nat.le_of_ble_eq_true rfl)) dX7_rankOf_25 ⟨Nat.zero_le _, Nat.zero_le _⟩) hP hS (fun H locs hP hS => ?_)
        refine lv_iload_n hx hb dX7_rankOf_28 rfl (lv_at hl 4 rfl) ?_
        refine lv_icmp_ne (tgt := 37) hx hb dX7_rankOf_29 (by decide) (fun c_5 => ?_) (fun c_5 => ?_)
        · rw [if_neg c_5] at hq_1
          refine lv_iload_n hx hb dX7_rankOf_37 rfl (lv_at hl 1 rfl) ?_
          refine lv_istore_n (lv' := [(3, .int x3), (4, .int x4), (0, .ref mo), (1, .int player), (2, .int joint)]) hx hb dX7_rankOf_38 rfl hl (by decide) rfl (fun ls hl => ?_)
          refine lv_iinc (v := (x4 + 1)) (lv' := [(4, .int (x4 + 1)), (3, .int x3), (0, .ref mo), (1, .int player), (2, .int joint)]) hx hb dX7_rankOf_39 hl (k := 1) rfl rfl (by decide) rfl (fun ls hl => ?_)
          refine lv_goto (tgt := 6) hx hb dX7_rankOf_42 (by decide) ?_
          exact ih6 (k6 + 1) (x4 + 1) x3 _ _ _ (by omega) (by omega) (by rw [ex6]; exact nI_1 _)  hq_1 hP hS (lv_sub hl [0, 1, 2, 3, 4] rfl)
        · rw [if_pos c_5] at hq_1
          refine lv_iload hx hb dX7_rankOf_32 (lv_at hl 0 rfl) ?_
          refine lv_goto (tgt := 38) hx hb dX7_rankOf_34 (by decide) ?_
          refine lv_istore_n (lv' := [(3, .int x4), (4, .int x4), (0, .ref mo), (1, .int player), (2, .int joint)]) hx hb dX7_rankOf_38 rfl hl (by decide) rfl (fun ls hl => ?_)
          refine lv_iinc (v := (x4 + 1)) (lv' := [(4, .int (x4 + 1)), (3, .int x4), (0, .ref mo), (1, .int player), (2, .int joint)]) hx hb dX7_rankOf_39 hl (k := 1) rfl rfl (by decide) rfl (fun ls hl => ?_)
          refine lv_goto (tgt := 6) hx hb dX7_rankOf_42 (by decide) ?_
          exact ih6 (k6 + 1) (x4 + 1) x4 _ _ _ (by omega) (by omega) (by rw [ex6]; exact nI_1 _)  hq_1 hP hS (lv_sub hl [0, 1, 2, 3, 4] rfl)
  exact hloop6 9 0 (0 : Int32) (-6 : Int32) _ _ _ (by omega) (by omega) nI_0.symm  hq_1 hP hS (lv_sub hl [0, 1, 2, 3, 4] rfl)
theorem rank_loop {player joint : Int32} {vs : Nat → Int32} {M : Nat} (exM : vs (F_Model_at player 2).toNatClampNeg = nI M) (hM : M ≤ 8) : ∀ (n k : Nat) (x3 : Int32), k ≤ M → M - k < n → (x3 = -6 ∨ ∃ q : Nat, q < M ∧ x3 = nI q) → ((F_Model_rankOf_L6 player joint vs n (nI k) x3).2 = -6 ∨ ∃ q : Nat, q < M ∧ (F_Model_rankOf_L6 player joint vs n (nI k) x3).2 = nI q) := by
  intro n
  induction n with
  | zero => intro k x3 hk hn; exact absurd hn (Nat.not_lt_zero _)
  | succ n ih =>
    intro k x3 hk hn hx
    rw [F_Model_rankOf_L6]
    simp only [bnd]
    by_cases c : vs (F_Model_at player 2).toNatClampNeg ≤ nI k
    · rw [if_pos c]; exact hx
    · rw [if_neg c]
      have hlt : k < M := lp_lt exM rfl hk c
      by_cases d : F_Model_chalkAt player (nI k) vs = joint
      · rw [if_pos d, nI_1]; exact ih (k + 1) _ (by omega) (by omega) (Or.inr ⟨k, hlt, rfl⟩)
      · rw [if_neg d, nI_1]; exact ih (k + 1) _ (by omega) (by omega) hx
theorem rankOf_in {player joint r : Int32} {vs : Nat → Int32} {M : Nat} (hM : M ≤ 8) (exM : vs (F_Model_at player 2).toNatClampNeg = nI M) (hr : r = F_Model_rankOf player joint vs) (c : ¬ r = -6) : ∃ rk : Nat, rk < M ∧ r = nI rk := by
  rw [hr] at c ⊢
  exact (rank_loop exM hM 9 0 (-6) (Nat.zero_le _) (by omega) (Or.inl rfl)).resolve_left c
def F_Model_hasChalk (player : Int32) (joint : Int32) (vs : Nat → Int32) : Int32 := (bnd (F_Model_rankOf player joint vs) (fun r_1 => (if r_1 = (-6) then 0 else 1)))
set_option maxHeartbeats 4000000 in
set_option maxRecDepth 100000 in
theorem c_Model_hasChalk (l : Launch) (dC : Nat → ClassId) (dI : Nat → Nat → Nat) (cI cC cG cZ : ClassId) (mo ms mah mhi msl msv mpd mlb : Nat) (player : Int32) (joint : Int32) (vkp : Int32) (vln : Int32) (vs : Nat → Int32) (hp : p01 player) (hMI : MI vs) (res : Int32) (hres : res = F_Model_hasChalk player joint vs) : Met l yX7_hasChalk wsX7_hasChalk ({ frames := 3, cells := 0, slots := 0, locals := 67 }) (va_Pc [.ref mo, .int player, .int joint] (ro_P (dC, dI) vwCl (tyL cI cC cG cZ) [(mo, .inr (7, [.ref ms, .ref mah, .ref mhi, .int vkp, .ref msl, .ref msv, .ref mpd, .int vln, .ref mlb])), (ms, .inl (cI, 246, .inl vs))])) (va_Qi (fun r (_ : Unit) => r = res) (fun _ _ => True) ro_F) 0 0 ro_F := by
  refine Met.ofW (cc := cX7_hasChalk) (maxL := 3) (ret := (some .boolean)) (by decide) rfl ?_
  intro p e s m args below meth c s₁ B hml hv
  obtain ⟨rfl, hP, hK⟩ := hv
  have hx := B.exec
  have hb := B.bytes
  have hr := B.returns
  have hts := atoms_spec (ws := wsX7_hasChalk) B.pre
  have hown : s.vm.findClass RX7 = some m.cls := findClass_of_methodNamed B.named
  have hlocks := B.notSynchronized
  have hS : va_S ro_F s.heap s.heap [] := va_S.rf
  have hl := lv_entry ([.ref mo, .int player, .int joint]) (n := 3) (Nat.le_of_ble_eq_true rfl)
  rw [lg_entry_eq]
  generalize (lg_sl ([.ref mo, .int player, .int joint]) ++ List.replicate (3 - (lg_sl ([.ref mo, .int player, .int joint])).length) Slot.unset).toArray = ls at hl ⊢
  have hl : lv_has ls 3 [(0, .ref mo), (1, .int player), (2, .int joint)] := hl
  rw [F_Model_hasChalk] at hres
  refine lv_aload_n hx hb dX7_hasChalk_0 rfl (lv_at hl 0 rfl) ?_
  refine lv_iload_n hx hb dX7_hasChalk_1 rfl (lv_at hl 1 rfl) ?_
  refine lv_iload_n hx hb dX7_hasChalk_2 rfl (lv_at hl 2 rfl) ?_
  obtain ⟨r_1, hr_1⟩ : ∃ z, z = F_Model_rankOf player joint vs := ⟨_, rfl⟩
  rw [bnd_e hr_1] at hres
  refine ro_calli (va_runV (As := [.int player, .int joint]) (rest := []) ⟨hx, hb, hml, hown, hts⟩ (c_Model_rankOf l dC dI cI cC cG cZ mo ms mah mhi msl msv mpd mlb player joint vkp vln vs hp hMI r_1 hr_1) (cwV 2 hts gX7_hasChalk_X7_rankOf rfl rfl rfl (by decide +kernel) ⟨Nat.le_of_ble_eq_true rfl, Nat.le_of_ble_eq_true rfl⟩) (ro_preV (hP.sub (ws' := [(mo, .inr (7, [.ref ms, .ref mah, .ref mhi, .int vkp, .ref msl, .ref msv, .ref mpd, .int vln, .ref mlb])), (ms, .inl (cI, 246, .inl vs))]) [0, 1] rfl) hK (ci := 7) (q0 := 0) rfl rfl) rfl rfl hl.1 rfl (lv_room (Nat.le_of_ble_eq_true rfl)) dX7_hasChalk_3 ⟨Nat.zero_le _, Nat.zero_le _⟩) hP hS (fun H locs hP hS => ?_)
  refine lv_bipush (v := (-6)) hx hb dX7_hasChalk_6 (by decide) ?_
  refine lv_icmp_eq (tgt := 15) hx hb dX7_hasChalk_8 (by decide) (fun c_2 => ?_) (fun c_2 => ?_)
  · rw [if_pos c_2] at hres
    refine lv_iconst (v := 0) hx hb dX7_hasChalk_15 (by decide) ?_
    exact W.zret (v := 0) hx hb hr rfl (fun t ht hW => ⟨⟨0, (), rfl, hres.symm, trivial⟩, hS.F ht⟩) hS.2.2 dX7_hasChalk_16
  · rw [if_neg c_2] at hres
    refine lv_iconst (v := 1) hx hb dX7_hasChalk_11 (by decide) ?_
    refine lv_goto (tgt := 16) hx hb dX7_hasChalk_12 (by decide) ?_
    exact W.zret (v := 1) hx hb hr rfl (fun t ht hW => ⟨⟨1, (), rfl, hres.symm, trivial⟩, hS.F ht⟩) hS.2.2 dX7_hasChalk_16
theorem F_Model_hasChalk_b (player : Int32) (joint : Int32) (vs : Nat → Int32) : F_Model_hasChalk player joint vs = 0 ∨ F_Model_hasChalk player joint vs = 1 := by
  unfold F_Model_hasChalk
  try simp only [bnd]
  (repeat' split) <;> first | exact Or.inl rfl | exact Or.inr rfl
theorem iX7_rubs_X7 : ∀ w ∈ u_ws RX7 TX7 9, w ∈ wsX7_rubs := by decide +kernel
theorem kX7_rubs_7 : Cond.fieldLink RX7 7 "TailorChalksModel" "s" "[I" ∈ wsX7_rubs := by decide +kernel
def F_Model_rubs_L30 (player : Int32) (joint : Int32) (vs : Nat → Int32) : Nat → Int32 → Int32 → (Nat → Int32) → Int32 × Int32 × (Nat → Int32)
  | 0, x4, x3, w1f => (x4, x3, w1f)
  | n + 1, x4, x3, w1f => (bnd (F_Model_at player (2 : Int32)) (fun r_7 => (if (w1f r_7.toNatClampNeg) ≤ x4 then (x4, x3, w1f) else (bnd (F_Model_at player (8 : Int32)) (fun r_9 => (bnd (F_Model_chalkAt player (x4 + 1) w1f) (fun r_10 => (F_Model_rubs_L30 player joint vs n (x4 + 1) x3 (upd w1f (r_9 + x4).toNatClampNeg r_10)))))))))
def F_Model_rubs (player : Int32) (joint : Int32) (vs : Nat → Int32) : (Nat → Int32) := (bnd (F_Model_rankOf player joint vs) (fun r_1 => (if r_1 = (-6) then vs else (bnd (F_Model_at player (2 : Int32)) (fun r_3 => (bnd (F_Model_rubs_L30 player joint vs 9 r_1 r_1 (upd vs r_3.toNatClampNeg ((vs r_3.toNatClampNeg) - 1))) (fun q_4 => (bnd (F_Model_at player (8 : Int32)) (fun r_5 => (bnd (F_Model_at player (2 : Int32)) (fun r_6 => (upd q_4.2.2 (r_5 + (q_4.2.2 r_6.toNatClampNeg)).toNatClampNeg 0))))))))))))
set_option maxHeartbeats 4000000 in
set_option maxRecDepth 100000 in
theorem c_Model_rubs (l : Launch) (dC : Nat → ClassId) (dI : Nat → Nat → Nat) (cI cC cG cZ : ClassId) (mo ms mah mhi msl msv mpd mlb : Nat) (player : Int32) (joint : Int32) (vkp : Int32) (vln : Int32) (vs : Nat → Int32) (hp : p01 player) (hMI : MI vs) (res : (Nat → Int32)) (hres : res = F_Model_rubs player joint vs) : Met l yX7_rubs wsX7_rubs ({ frames := 3, cells := 0, slots := 0, locals := 67 }) (va_Pc [.ref mo, .int player, .int joint] (wr_P (dC, dI) vwCl (tyL cI cC cG cZ) [(mo, .inr (7, [.ref ms, .ref mah, .ref mhi, .int vkp, .ref msl, .ref msv, .ref mpd, .int vln, .ref mlb])), (ms, .inl (cI, 246, .inl vs))])) (va_Qv (fun (_ : Unit) => True) (fun _ zt => va_P (dC, dI) vwCl [(mo, .inr (7, [.ref ms, .ref mah, .ref mhi, .int vkp, .ref msl, .ref msv, .ref mpd, .int vln, .ref mlb])), (ms, .inl (cI, 246, .inl res))] zt.heap) (wr_A [(mo, .inr (7, [.ref ms, .ref mah, .ref mhi, .int vkp, .ref msl, .ref msv, .ref mpd, .int vln, .ref mlb])), (ms, .inl (cI, 246, .inl vs))])) 0 0 (wr_A [(mo, .inr (7, [.ref ms, .ref mah, .ref mhi, .int vkp, .ref msl, .ref msv, .ref mpd, .int vln, .ref mlb])), (ms, .inl (cI, 246, .inl vs))]) := by
  refine Met.ofW (cc := cX7_rubs) (maxL := 5) (ret := none) (by decide) rfl ?_
  intro p e s m args below meth c s₁ B hml hv
  obtain ⟨rfl, hP, hK, hD0⟩ := hv
  have hx := B.exec
  have hb := B.bytes
  have hr := B.returns
  have hts := atoms_spec (ws := wsX7_rubs) B.pre
  have hown : s.vm.findClass RX7 = some m.cls := findClass_of_methodNamed B.named
  have hlocks := B.notSynchronized
  have hD := wr_self hD0
  generalize hAe : wr_A [(mo, .inr (7, [.ref ms, .ref mah, .ref mhi, .int vkp, .ref msl, .ref msv, .ref mpd, .int vln, .ref mlb])), (ms, .inl (cI, 246, .inl vs))] = A at hD ⊢
  have hS : va_S A s.heap s.heap [] := va_S.rf
  have hP : va_P (dC, dI) vwCl [(mo, .inr (7, [.ref ms, .ref mah, .ref mhi, .int vkp, .ref msl, .ref msv, .ref mpd, .int vln, .ref mlb])), (ms, .inl (cI, 246, .inl vs))] s.heap := hP
  have hl := lv_entry ([.ref mo, .int player, .int joint]) (n := 5) (Nat.le_of_ble_eq_true rfl)
  rw [lg_entry_eq]
  generalize (lg_sl ([.ref mo, .int player, .int joint]) ++ List.replicate (5 - (lg_sl ([.ref mo, .int player, .int joint])).length) Slot.unset).toArray = ls at hl ⊢
  have hl : lv_has ls 5 [(0, .ref mo), (1, .int player), (2, .int joint)] := hl
  obtain ⟨M, hM8, exM⟩ := mi_cnt hMI hp
  rw [F_Model_rubs] at hres
  refine lv_aload_n hx hb dX7_rubs_0 rfl (lv_at hl 0 rfl) ?_
  refine lv_iload_n hx hb dX7_rubs_1 rfl (lv_at hl 1 rfl) ?_
  refine lv_iload_n hx hb dX7_rubs_2 rfl (lv_at hl 2 rfl) ?_
  obtain ⟨r_1, hr_1⟩ : ∃ z, z = F_Model_rankOf player joint vs := ⟨_, rfl⟩
  rw [bnd_e hr_1] at hres
  refine ro_calli (va_runV (As := [.int player, .int joint]) (rest := []) ⟨hx, hb, hml, hown, hts⟩ (c_Model_rankOf l dC dI cI cC cG cZ mo ms mah mhi msl msv mpd mlb player joint vkp vln vs hp hMI r_1 hr_1) (cwV 2 hts gX7_rubs_X7_rankOf rfl rfl rfl (by decide +kernel) ⟨Nat.le_of_ble_eq_true rfl, Nat.le_of_ble_eq_true rfl⟩) (ro_preV (hP.sub (ws' := [(mo, .inr (7, [.ref ms, .ref mah, .ref mhi, .int vkp, .ref msl, .ref msv, .ref mpd, .int vln, .ref mlb])), (ms, .inl (cI, 246, .inl vs))]) [0, 1] rfl) hK (ci := 7) (q0 := 0) rfl rfl) rfl rfl hl.1 rfl (lv_room (Nat.le_of_ble_eq_true rfl)) dX7_rubs_3 ⟨Nat.zero_le _, Nat.zero_le _⟩) hP hS (fun H locs hP hS => ?_)
  refine lv_istore_n (lv' := [(3, .int r_1), (0, .ref mo), (1, .int player), (2, .int joint)]) hx hb dX7_rubs_6 rfl hl (by decide) rfl (fun ls hl => ?_)
  refine lv_iload_n hx hb dX7_rubs_7 rfl (lv_at hl 0 rfl) ?_
  refine lv_bipush (v := (-6)) hx hb dX7_rubs_8 (by decide) ?_
  refine lv_icmp_eq (tgt := 97) hx hb dX7_rubs_10 (by decide) (fun c_2 => ?_) (fun c_2 => ?_)
  · rw [if_pos c_2] at hres
    subst hres
    exact W.vret hx hb hr (fun t ht hW => ⟨⟨(), rfl, trivial, (by show va_P _ _ _ t.heap; rw [ht]; exact hP)⟩, hS.F ht⟩) hS.2.2 dX7_rubs_97
  · rw [if_neg c_2] at hres
    refine lv_aload_n hx hb dX7_rubs_13 rfl (lv_at hl 1 rfl) ?_
    refine va_get (D := (dC, dI)) (ci := 7) (v := .ref ms) (C := RX7) (T := TX7) (N := 9) hx hb hts iX7_rubs_X7 hown hK hP 0 rfl rfl 0 (by decide) (hts (.fieldLink RX7 7 "TailorChalksModel" "s" "[I") kX7_rubs_7) (fun _ h9 => h9) rfl dX7_rubs_14 ?_
    refine lv_iload_n hx hb dX7_rubs_17 rfl (lv_at hl 2 rfl) ?_
    refine lv_iconst (v := 2) hx hb dX7_rubs_18 (by decide) ?_
    obtain ⟨r_3, hr_3⟩ : ∃ z, z = F_Model_at player (2 : Int32) := ⟨_, rfl⟩
    rw [bnd_e hr_3] at hres
    refine ro_calli (va_runS (As := [.int player, .int 2]) (rest := [.ref ms]) ⟨hx, hb, hml, hown, hts⟩ (c_Model_at l dC dI cI cC cG cZ  player (2 : Int32)  r_3 hr_3) (va_cwS 2 hts gX7_rubs_X7_at rfl rfl rfl (by decide +kernel) ⟨Nat.le_of_ble_eq_true rfl, Nat.le_of_ble_eq_true rfl⟩) (ro_preS (hP.sub (ws' := []) [] rfl) hK) rfl rfl hl.1 rfl (lv_room (Nat.le_of_ble_eq_true rfl)) dX7_rubs_19 ⟨Nat.zero_le _, Nat.zero_le _⟩) hP hS (fun H locs hP hS => ?_)
    refine lv_dup2_11 hx hb dX7_rubs_22 rfl rfl ?_
    refine va_iald hx hb hK hP 1 0 rfl rfl (by rw [hr_3]; exact at_in hp (by decide) (by decide)) dX7_rubs_23 ?_
    refine lv_iconst (v := 1) hx hb dX7_rubs_24 (by decide) ?_
    refine lv_isub hx hb dX7_rubs_25 ?_
    refine va_iast hx hb hK hP hD hS 1 0 rfl rfl (by rw [hr_3]; exact at_in hp (by decide) (by decide)) dX7_rubs_26 (fun H locs hP hD hS => ?_)
    have hP : va_P (dC, dI) vwCl [(mo, .inr (7, [.ref ms, .ref mah, .ref mhi, .int vkp, .ref msl, .ref msv, .ref mpd, .int vln, .ref mlb])), (ms, .inl (cI, 246, .inl (upd vs r_3.toNatClampNeg ((vs r_3.toNatClampNeg) - 1))))] H := hP
    have hD : va_D A [(mo, .inr (7, [.ref ms, .ref mah, .ref mhi, .int vkp, .ref msl, .ref msv, .ref mpd, .int vln, .ref mlb])), (ms, .inl (cI, 246, .inl (upd vs r_3.toNatClampNeg ((vs r_3.toNatClampNeg) - 1))))] := hD
    refine lv_iload_n hx hb dX7_rubs_27 rfl (lv_at hl 0 rfl) ?_
    refine lv_istore (lv' := [(4, .int r_1), (3, .int r_1), (0, .ref mo), (1, .int player), (2, .int joint)]) hx hb dX7_rubs_28 hl (by decide) rfl (fun ls hl => ?_)
    obtain ⟨rk, hrk, erk⟩ := rankOf_in hM8 exM hr_1 c_2
    obtain ⟨q_4, hq_4⟩ : ∃ z, z = F_Model_rubs_L30 player joint vs 9 r_1 r_1 (upd vs r_3.toNatClampNeg ((vs r_3.toNatClampNeg) - 1)) := ⟨_, rfl⟩
    rw [bnd_e hq_4] at hres
    have hexit30 : ∀ (H : Heap) (locs : List Loc) (ls : Array Slot), q_4.2.2 (F_Model_at player 2).toNatClampNeg = nI (M - 1) → va_P (dC, dI) vwCl [(mo, .inr (7, [.ref ms, .ref mah, .ref mhi, .int vkp, .ref msl, .ref msv, .ref mpd, .int vln, .ref mlb])), (ms, .inl (cI, 246, .inl q_4.2.2))] H → va_D A [(mo, .inr (7, [.ref ms, .ref mah, .ref mhi, .int vkp, .ref msl, .ref msv, .ref mpd, .int vln, .ref mlb])), (ms, .inl (cI, 246, .inl q_4.2.2))] → va_S A s.heap H locs → lv_has ls 5 [(4, .int q_4.1), (3, .int q_4.2.1), (0, .ref mo), (1, .int player), (2, .int joint)] → W p l e (headSpec wsX7_rubs ({ frames := 3, cells := 0, slots := 0, locals := 67 })).room s m ([.ref mo, .int player, .int joint] : List Value).toArray below meth c H locs 0 0 (MQ below (va_Qv (fun (_ : Unit) => True) (fun _ zt => va_P (dC, dI) vwCl [(mo, .inr (7, [.ref ms, .ref mah, .ref mhi, .int vkp, .ref msl, .ref msv, .ref mpd, .int vln, .ref mlb])), (ms, .inl (cI, 246, .inl res))] zt.heap) A) ([.ref mo, .int player, .int joint] : List Value).toArray s 0 0 A) (F0 m 74 ls []) := by
      intro H locs ls hcn hP hD hS hl
      refine lv_aload_n hx hb dX7_rubs_74 rfl (lv_at hl 2 rfl) ?_
      refine va_get (D := (dC, dI)) (ci := 7) (v := .ref ms) (C := RX7) (T := TX7) (N := 9) hx hb hts iX7_rubs_X7 hown hK hP 0 rfl rfl 0 (by decide) (hts (.fieldLink RX7 7 "TailorChalksModel" "s" "[I") kX7_rubs_7) (fun _ h9 => h9) rfl dX7_rubs_75 ?_
      refine lv_iload_n hx hb dX7_rubs_78 rfl (lv_at hl 3 rfl) ?_
      refine lv_bipush (v := 8) hx hb dX7_rubs_79 (by decide) ?_
      obtain ⟨r_5, hr_5⟩ : ∃ z, z = F_Model_at player (8 : Int32) := ⟨_, rfl⟩
      rw [bnd_e hr_5] at hres
      refine ro_calli (va_runS (As := [.int player, .int 8]) (rest := [.ref ms]) ⟨hx, hb, hml, hown, hts⟩ (c_Model_at l dC dI cI cC cG cZ  player (8 : Int32)  r_5 hr_5) (va_cwS 2 hts gX7_rubs_X7_at rfl rfl rfl (by decide +kernel) ⟨Nat.le_of_ble_eq_true rfl, Nat.le_of_ble_eq_true rfl⟩) (ro_preS (hP.sub (ws' := []) [] rfl) hK) rfl rfl hl.1 rfl (lv_room (Nat.le_of_ble_eq_true rfl)) dX7_rubs_81 ⟨Nat.zero_le _, Nat.zero_le _⟩) hP hS (fun H locs hP hS => ?_)
      refine lv_aload_n hx hb dX7_rubs_84 rfl (lv_at hl 2 rfl) ?_
      refine va_get (D := (dC, dI)) (ci := 7) (v := .ref ms) (C := RX7) (T := TX7) (N := 9) hx hb hts iX7_rubs_X7 hown hK hP 0 rfl rfl 0 (by decide) (hts (.fieldLink RX7 7 "TailorChalksModel" "s" "[I") kX7_rubs_7) (fun _ h9 => h9) rfl dX7_rubs_85 ?_
      refine lv_iload_n hx hb dX7_rubs_88 rfl (lv_at hl 3 rfl) ?_
      refine lv_iconst (v := 2) hx hb dX7_rubs_89 (by decide) ?_
      obtain ⟨r_6, hr_6⟩ : ∃ z, z = F_Model_at player (2 : Int32) := ⟨_, rfl⟩
      rw [bnd_e hr_6] at hres
      refine ro_calli (va_runS (As := [.int player, .int 2]) (rest := [.ref ms, .int r_5, .ref ms]) ⟨hx, hb, hml, hown, hts⟩ (c_Model_at l dC dI cI cC cG cZ  player (2 : Int32)  r_6 hr_6) (va_cwS 2 hts gX7_rubs_X7_at rfl rfl rfl (by decide +kernel) ⟨Nat.le_of_ble_eq_true rfl, Nat.le_of_ble_eq_true rfl⟩) (ro_preS (hP.sub (ws' := []) [] rfl) hK) rfl rfl hl.1 rfl (lv_room (Nat.le_of_ble_eq_true rfl)) dX7_rubs_90 ⟨Nat.zero_le _, Nat.zero_le _⟩) hP hS (fun H locs hP hS => ?_)
      refine va_iald hx hb hK hP 1 0 rfl rfl (by rw [hr_6]; exact at_in hp (by decide) (by decide)) dX7_rubs_93 ?_
      refine lv_iadd hx hb dX7_rubs_94 ?_
      refine lv_iconst (v := 0) hx hb dX7_rubs_95 (by decide) ?_
      refine va_iast hx hb hK hP hD hS 1 0 rfl rfl (by rw [hr_5]; exact at_in8 hp (by rw [hr_6, hcn]; exact vp_in_nI (by omega) (by decide))) dX7_rubs_96 (fun H locs hP hD hS => ?_)
      have hP : va_P (dC, dI) vwCl [(mo, .inr (7, [.ref ms, .ref mah, .ref mhi, .int vkp, .ref msl, .ref msv, .ref mpd, .int vln, .ref mlb])), (ms, .inl (cI, 246, .inl (upd q_4.2.2 (r_5 + (q_4.2.2 r_6.toNatClampNeg)).toNatClampNeg 0)))] H := hP
      have hD : va_D A [(mo, .inr (7, [.ref ms, .ref mah, .ref mhi, .int vkp, .ref msl, .ref msv, .ref mpd, .int vln, .ref mlb])), (ms, .inl (cI, 246, .inl (upd q_4.2.2 (r_5 + (q_4.2.2 r_6.toNatClampNeg)).toNatClampNeg 0)))] := hD
      subst hres
      exact W.vret hx hb hr (fun t ht hW => ⟨⟨(), rfl, trivial, (by show va_P _ _ _ t.heap; rw [ht]; exact hP)⟩, hS.F ht⟩) hS.2.2 dX7_rubs_97
    have hloop30 : ∀ (n k30 : Nat) (x4 : Int32) (x3 : Int32) (w1f : Nat → Int32) (H : Heap) (locs : List Loc) (ls : Array Slot), k30 ≤ (M - 1) → (M - 1) - k30 < n → x4 = nI k30 → w1f (F_Model_at player 2).toNatClampNeg = nI (M - 1) → q_4 = F_Model_rubs_L30 player joint vs n x4 x3 w1f → va_P (dC, dI) vwCl [(mo, .inr (7, [.ref ms, .ref mah, .ref mhi, .int vkp, .ref msl, .ref msv, .ref mpd, .int vln, .ref mlb])), (ms, .inl (cI, 246, .inl w1f))] H → va_D A [(mo, .inr (7, [.ref ms, .ref mah, .ref mhi, .int vkp, .ref msl, .ref msv, .ref mpd, .int vln, .ref mlb])), (ms, .inl (cI, 246, .inl w1f))] → va_S A s.heap H locs → lv_has ls 5 [(4, .int x4), (3, .int x3), (0, .ref mo), (1, .int player), (2, .int joint)] → W p l e (headSpec wsX7_rubs ({ frames := 3, cells := 0, slots := 0, locals := 67 })).room s m ([.ref mo, .int player, .int joint] : List Value).toArray below meth c H locs 0 0 (MQ below (va_Qv (fun (_ : Unit) => True) (fun _ zt => va_P (dC, dI) vwCl [(mo, .inr (7, [.ref ms, .ref mah, .ref mhi, .int vkp, .ref msl, .ref msv, .ref mpd, .int vln, .ref mlb])), (ms, .inl (cI, 246, .inl res))] zt.heap) A) ([.ref mo, .int player, .int joint] : List Value).toArray s 0 0 A) (F0 m 30 ls []) := by
      intro n
      induction n with
      | zero => intro k30 x4 x3 w1f _ _ _ _ hm; exact absurd hm (Nat.not_lt_zero _)
      | succ n ih30 =>
        intro k30 x4 x3 w1f H locs ls hk30 hm30 ex30 hcn hq_4 hP hD hS hl
        rw [F_Model_rubs_L30] at hq_4
        refine lv_iload hx hb dX7_rubs_30 (lv_at hl 0 rfl) ?_
        refine lv_aload_n hx hb dX7_rubs_32 rfl (lv_at hl 2 rfl) ?_
        refine va_get (D := (dC, dI)) (ci := 7) (v := .ref ms) (C := RX7) (T := TX7) (N := 9) hx hb hts iX7_rubs_X7 hown hK hP 0 rfl rfl 0 (by decide) (hts (.fieldLink RX7 7 "TailorChalksModel" "s" "[I") kX7_rubs_7) (fun _ h9 => h9) rfl dX7_rubs_33 ?_
        refine lv_iload_n hx hb dX7_rubs_36 rfl (lv_at hl 3 rfl) ?_
        refine lv_iconst (v := 2) hx hb dX7_rubs_37 (by decide) ?_
        obtain ⟨r_7, hr_7⟩ : ∃ z, z = F_Model_at player (2 : Int32) := ⟨_, rfl⟩
        rw [bnd_e hr_7] at hq_4
        refine ro_calli (va_runS (As := [.int player, .int 2]) (rest := [.ref ms, .int x4]) ⟨hx, hb, hml, hown, hts⟩ (c_Model_at l dC dI cI cC cG cZ  player (2 : Int32)  r_7 hr_7) (va_cwS 2 hts gX7_rubs_X7_at rfl rfl rfl (by decide +kernel) ⟨Nat.le_of_ble_eq_true rfl, Nat.le_of_ble_eq_true rfl⟩) (ro_preS (hP.sub (ws' := []) [] rfl) hK) rfl rfl hl.1 rfl (lv_room (Nat.le_of_ble_eq_true rfl)) dX7_rubs_38 ⟨Nat.zero_le _, Nat.zero_le _⟩) hP hS (fun H locs hP hS => ?_)
        refine va_iald hx hb hK hP 1 0 rfl rfl (by rw [hr_7]; exact at_in hp (by decide) (by decide)) dX7_rubs_41 ?_
        refine lv_icmp_ge (tgt := 74) hx hb dX7_rubs_42 (by decide) (fun c_8 => ?_) (fun c_8 => ?_)
        · rw [if_pos c_8] at hq_4
          subst hq_4
          exact hexit30 _ _ _ hcn hP hD hS (lv_sub hl [0, 1, 2, 3, 4] rfl)
        · rw [if_neg c_8] at hq_4
          have hlt_k30 : k30 < (M - 1) := lp_lt (by rw [hr_7]; exact hcn) ex30 hk30 c_8
          refine lv_aload_n hx hb dX7_rubs_45 rfl (lv_at hl 2 rfl) ?_
          refine va_get (D := (dC, dI)) (ci := 7) (v := .ref ms) (C := RX7) (T := TX7) (N := 9) hx hb hts iX7_rubs_X7 hown hK hP 0 rfl rfl 0 (by decide) (hts (.fieldLink RX7 7 "TailorChalksModel" "s" "[I") kX7_rubs_7) (fun _ h9 => h9) rfl dX7_rubs_46 ?_
          refine lv_iload_n hx hb dX7_rubs_49 rfl (lv_at hl 3 rfl) ?_
          refine lv_bipush (v := 8) hx hb dX7_rubs_50 (by decide) ?_
          obtain ⟨r_9, hr_9⟩ : ∃ z, z = F_Model_at player (8 : Int32) := ⟨_, rfl⟩
          rw [bnd_e hr_9] at hq_4
          refine ro_calli (va_runS (As := [.int player, .int 8]) (rest := [.ref ms]) ⟨hx, hb, hml, hown, hts⟩ (c_Model_at l dC dI cI cC cG cZ  player (8 : Int32)  r_9 hr_9) (va_cwS 2 hts gX7_rubs_X7_at rfl rfl rfl (by decide +kernel) ⟨Nat.le_of_ble_eq_true rfl, Nat.le_of_ble_eq_true rfl⟩) (ro_preS (hP.sub (ws' := []) [] rfl) hK) rfl rfl hl.1 rfl (lv_room (Nat.le_of_ble_eq_true rfl)) dX7_rubs_52 ⟨Nat.zero_le _, Nat.zero_le _⟩) hP hS (fun H locs hP hS => ?_)
          refine lv_iload hx hb dX7_rubs_55 (lv_at hl 0 rfl) ?_
          refine lv_iadd hx hb dX7_rubs_57 ?_
          refine lv_aload_n hx hb dX7_rubs_58 rfl (lv_at hl 2 rfl) ?_
          refine lv_iload_n hx hb dX7_rubs_59 rfl (lv_at hl 3 rfl) ?_
          refine lv_iload hx hb dX7_rubs_60 (lv_at hl 0 rfl) ?_
          refine lv_iconst (v := 1) hx hb dX7_rubs_62 (by decide) ?_
          refine lv_iadd hx hb dX7_rubs_63 ?_
          obtain ⟨r_10, hr_10⟩ : ∃ z, z = F_Model_chalkAt player (x4 + 1) w1f := ⟨_, rfl⟩
          rw [bnd_e hr_10] at hq_4
          refine ro_calli (va_runV (As := [.int player, .int (x4 + 1)]) (rest := [.int (r_9 + x4), .ref ms]) ⟨hx, hb, hml, hown, hts⟩ (c_Model_chalkAt l dC dI cI cC cG cZ mo ms mah mhi msl msv mpd mlb player (x4 + 1) vkp vln w1f hp (by rw [ex30]; exact vp_up1 (by omega)) r_10 hr_10) (cwV 2 hts gX7_rubs_X7_chalkAt rfl rfl rfl (by decide +kernel) ⟨Nat.le_of_ble_eq_true rfl, Nat.le_of_ble_eq_true rfl⟩) (ro_preV (hP.sub (ws' := [(mo, .inr (7, [.ref ms, .ref mah, .ref mhi, .int vkp, .ref msl, .ref msv, .ref mpd, .int vln, .ref mlb])), (ms, .inl (cI, 246, .inl w1f))]) [0, 1] rfl) hK (ci := 7) (q0 := 0) rfl rfl) rfl rfl hl.1 rfl (lv_room (Nat.le_of_ble_eq_true rfl)) dX7_rubs_64 ⟨Nat.zero_le _, Nat.zero_le _⟩) hP hS (fun H locs hP hS => ?_)
          refine va_iast hx hb hK hP hD hS 1 0 rfl rfl (by rw [hr_9]; exact at_in8 hp (by rw [ex30]; exact vp_in_nI (by omega) (by decide))) dX7_rubs_67 (fun H locs hP hD hS => ?_)
          have hP : va_P (dC, dI) vwCl [(mo, .inr (7, [.ref ms, .ref mah, .ref mhi, .int vkp, .ref msl, .ref msv, .ref mpd, .int vln, .ref mlb])), (ms, .inl (cI, 246, .inl (upd w1f (r_9 + x4).toNatClampNeg r_10)))] H := hP
          have hD : va_D A [(mo, .inr (7, [.ref ms, .ref mah, .ref mhi, .int vkp, .ref msl, .ref msv, .ref mpd, .int vln, .ref mlb])), (ms, .inl (cI, 246, .inl (upd w1f (r_9 + x4).toNatClampNeg r_10)))] := hD
          refine lv_iinc (v := (x4 + 1)) (lv' := [(4, .int (x4 + 1)), (3, .int x3), (0, .ref mo), (1, .int player), (2, .int joint)]) hx hb dX7_rubs_68 hl (k := 0) rfl rfl (by decide) rfl (fun ls hl => ?_)
          refine lv_goto (tgt := 30) hx hb dX7_rubs_71 (by decide) ?_
          exact ih30 (k30 + 1) (x4 + 1) x3 (upd w1f (r_9 + x4).toNatClampNeg r_10) _ _ _ (by omega) (by omega) (by rw [ex30]; exact nI_1 _) (by rw [hr_9, pk_un (at_ne hp (by rw [ex30]; exact vp_in_nI (by omega) (by decide)))]; exact hcn) hq_4 hP hD hS (lv_sub hl [0, 1, 2, 3, 4] rfl)
    exact hloop30 9 rk r_1 r_1 (upd vs r_3.toNatClampNeg ((vs r_3.toNatClampNeg) - 1)) _ _ _ (by omega) (by omega) erk (by rw [hr_3, pk_us, exM]; exact rub_dec (by omega)) hq_4 hP hD hS (lv_sub hl [0, 1, 2, 3, 4] rfl)
theorem rub_loop {player joint : Int32} {vs : Nat → Int32} (hp : p01 player) {M : Nat} (hM : M ≤ 8) {i : Nat} (hi : ∀ j, j < 8 → i ≠ (F_Model_at player 8 + nI j).toNatClampNeg) : ∀ (n k : Nat) (x3 : Int32) (w : Nat → Int32), k ≤ M - 1 → M - 1 - k < n → w (F_Model_at player 2).toNatClampNeg = nI (M - 1) → (F_Model_rubs_L30 player joint vs n (nI k) x3 w).2.2 i = w i := by
  intro n
  induction n with
  | zero => intro k x3 w hk hn; exact absurd hn (Nat.not_lt_zero _)
  | succ n ih =>
    intro k x3 w hk hn hw
    rw [F_Model_rubs_L30]
    simp only [bnd]
    by_cases c : w (F_Model_at player 2).toNatClampNeg ≤ nI k
    · rw [if_pos c]
    · rw [if_neg c, nI_1]
      have hlt : k < M - 1 := lp_lt hw rfl hk c
      rw [ih (k + 1) _ _ (by omega) (by omega) (by rw [pk_un (at_ne hp (vp_in_nI (by omega) (by decide)))]; exact hw)]
      exact pk_un (hi k (by omega))
theorem at8_big {p : Int32} (hp : p01 p) {i : Nat} (h : i = 214 ∨ i = 230 ∨ i = 245) : ∀ j, j < 8 → i ≠ (F_Model_at p 8 + nI j).toNatClampNeg := by
  intro j hj
  rcases hp with rfl | rfl
  · rw [show F_Model_at 0 8 = nI 220 from at_0 8, nI_add, nI_clamp (by omega)]; omega
  · rw [show F_Model_at 1 8 = nI 236 from at_1 8, nI_add, nI_clamp (by omega)]; omega
theorem tm_ok_dec {x : Int32} {M : Nat} (hM : M ≤ 8) (h : x = nI (M - 1)) : tm_ok 8 x := ⟨M - 1, by omega, h⟩
theorem rubs_MI {player joint : Int32} {vs : Nat → Int32} (h : MI vs) (hp : p01 player) : MI (F_Model_rubs player joint vs) := by
  obtain ⟨M, hM, exM⟩ := mi_cnt h hp
  unfold F_Model_rubs
  simp only [bnd]
  by_cases c : F_Model_rankOf player joint vs = -6
  · rw [if_pos c]; exact h
  · rw [if_neg c]
    obtain ⟨rk, hrk, erk⟩ := rankOf_in hM exM rfl c
    rw [erk]
    generalize hw : upd vs (F_Model_at player 2).toNatClampNeg (vs (F_Model_at player 2).toNatClampNeg - 1) = w
    have hw2 : w (F_Model_at player 2).toNatClampNeg = nI (M - 1) := by rw [← hw, pk_us, exM]; exact rub_dec (by omega)
    generalize hz : (F_Model_rubs_L30 player joint vs 9 (nI rk) (nI rk) w).2.2 = z
    have hz2 : ∀ i, (∀ j, j < 8 → i ≠ (F_Model_at player 8 + nI j).toNatClampNeg) → z i = w i := fun i hi => by
      rw [← hz]; exact rub_loop hp hM hi 9 rk _ w (by omega) (by omega) hw2
    have h2 : z (F_Model_at player 2).toNatClampNeg = nI (M - 1) := by
      rw [hz2 _ (fun j hj => at_ne hp (vp_in_nI hj (by decide)))]; exact hw2
    rw [h2]
    have key : ∀ i, (i = 214 ∨ i = 230 ∨ i = 245) → upd z (F_Model_at player 8 + nI (M - 1)).toNatClampNeg 0 i = w i := fun i hi => by
      rw [pk_un (at8_big hp hi (M - 1) (by omega)), hz2 i (at8_big hp hi)]
    refine ⟨?_, ?_, ?_⟩
    · rw [key 245 (by omega), ← hw]
      rcases hp with rfl | rfl
      · rw [pk_un (by rw [show (F_Model_at 0 2).toNatClampNeg = 214 by decide +kernel]; omega)]; exact h.1
      · rw [pk_un (by rw [show (F_Model_at 1 2).toNatClampNeg = 230 by decide +kernel]; omega)]; exact h.1
    · rw [key 214 (by omega)]
      rcases hp with rfl | rfl
      · rw [show (214 : Nat) = (F_Model_at 0 2).toNatClampNeg by decide +kernel]; exact tm_ok_dec hM hw2
      · rw [← hw, pk_un (by rw [show (F_Model_at 1 2).toNatClampNeg = 230 by decide +kernel]; omega)]; exact h.2.1
    · rw [key 230 (by omega)]
      rcases hp with rfl | rfl
      · rw [← hw, pk_un (by rw [show (F_Model_at 0 2).toNatClampNeg = 214 by decide +kernel]; omega)]; exact h.2.2
      · rw [show (230 : Nat) = (F_Model_at 1 2).toNatClampNeg by decide +kernel]; exact tm_ok_dec hM hw2
theorem iX7_ends_X7 : ∀ w ∈ u_ws RX7 TX7 9, w ∈ wsX7_ends := by decide +kernel
theorem kX7_ends_7 : Cond.fieldLink RX7 7 "TailorChalksModel" "s" "[I" ∈ wsX7_ends := by decide +kernel
def F_Model_ends (told : Int32) (vs : Nat → Int32) : Int32 × (Nat → Int32) := (told, (upd (upd vs (244 : Int32).toNatClampNeg ((vs (244 : Int32).toNatClampNeg) + 1)) (245 : Int32).toNatClampNeg ((1 : Int32) - ((upd vs (244 : Int32).toNatClampNeg ((vs (244 : Int32).toNatClampNeg) + 1)) (245 : Int32).toNatClampNeg))))
set_option maxHeartbeats 4000000 in
set_option maxRecDepth 100000 in
theorem c_Model_ends (l : Launch) (dC : Nat → ClassId) (dI : Nat → Nat → Nat) (cI cC cG cZ : ClassId) (mo ms mah mhi msl msv mpd mlb : Nat) (told : Int32) (vkp : Int32) (vln : Int32) (vs : Nat → Int32) (res : Int32 × (Nat → Int32)) (hres : res = F_Model_ends told vs) : Met l yX7_ends wsX7_ends ({ frames := 0, cells := 0, slots := 0, locals := 0 }) (va_Pc [.ref mo, .int told] (wr_P (dC, dI) vwCl (tyL cI cC cG cZ) [(mo, .inr (7, [.ref ms, .ref mah, .ref mhi, .int vkp, .ref msl, .ref msv, .ref mpd, .int vln, .ref mlb])), (ms, .inl (cI, 246, .inl vs))])) (va_Qi (fun r (_ : Unit) => r = res.1) (fun _ zt => va_P (dC, dI) vwCl [(mo, .inr (7, [.ref ms, .ref mah, .ref mhi, .int vkp, .ref msl, .ref msv, .ref mpd, .int vln, .ref mlb])), (ms, .inl (cI, 246, .inl res.2))] zt.heap) (wr_A [(mo, .inr (7, [.ref ms, .ref mah, .ref mhi, .int vkp, .ref msl, .ref msv, .ref mpd, .int vln, .ref mlb])), (ms, .inl (cI, 246, .inl vs))])) 0 0 (wr_A [(mo, .inr (7, [.ref ms, .ref mah, .ref mhi, .int vkp, .ref msl, .ref msv, .ref mpd, .int vln, .ref mlb])), (ms, .inl (cI, 246, .inl vs))]) := by
  refine Met.ofW (cc := cX7_ends) (maxL := 2) (ret := (some .int)) (by decide) rfl ?_
  intro p e s m args below meth c s₁ B hml hv
  obtain ⟨rfl, hP, hK, hD0⟩ := hv
  have hx := B.exec
  have hb := B.bytes
  have hr := B.returns
  have hts := atoms_spec (ws := wsX7_ends) B.pre
  have hown : s.vm.findClass RX7 = some m.cls := findClass_of_methodNamed B.named
  have hlocks := B.notSynchronized
  have hD := wr_self hD0
  generalize hAe : wr_A [(mo, .inr (7, [.ref ms, .ref mah, .ref mhi, .int vkp, .ref msl, .ref msv, .ref mpd, .int vln, .ref mlb])), (ms, .inl (cI, 246, .inl vs))] = A at hD ⊢
  have hS : va_S A s.heap s.heap [] := va_S.rf
  have hP : va_P (dC, dI) vwCl [(mo, .inr (7, [.ref ms, .ref mah, .ref mhi, .int vkp, .ref msl, .ref msv, .ref mpd, .int vln, .ref mlb])), (ms, .inl (cI, 246, .inl vs))] s.heap := hP
  have hl := lv_entry ([.ref mo, .int told]) (n := 2) (Nat.le_of_ble_eq_true rfl)
  rw [lg_entry_eq]
  generalize (lg_sl ([.ref mo, .int told]) ++ List.replicate (2 - (lg_sl ([.ref mo, .int told])).length) Slot.unset).toArray = ls at hl ⊢
  have hl : lv_has ls 2 [(0, .ref mo), (1, .int told)] := hl
  rw [F_Model_ends] at hres
  refine lv_aload_n hx hb dX7_ends_0 rfl (lv_at hl 0 rfl) ?_
  refine va_get (D := (dC, dI)) (ci := 7) (v := .ref ms) (C := RX7) (T := TX7) (N := 9) hx hb hts iX7_ends_X7 hown hK hP 0 rfl rfl 0 (by decide) (hts (.fieldLink RX7 7 "TailorChalksModel" "s" "[I") kX7_ends_7) (fun _ h9 => h9) rfl dX7_ends_1 ?_
  refine lv_sipush (v := 244) hx hb dX7_ends_4 (by decide) ?_
  refine lv_dup2_11 hx hb dX7_ends_7 rfl rfl ?_
  refine va_iald hx hb hK hP 1 0 rfl rfl (vp_in_iff.mpr (by decide +kernel)) dX7_ends_8 ?_
  refine lv_iconst (v := 1) hx hb dX7_ends_9 (by decide) ?_
  refine lv_iadd hx hb dX7_ends_10 ?_
  refine va_iast hx hb hK hP hD hS 1 0 rfl rfl (vp_in_iff.mpr (by decide +kernel)) dX7_ends_11 (fun H locs hP hD hS => ?_)
  have hP : va_P (dC, dI) vwCl [(mo, .inr (7, [.ref ms, .ref mah, .ref mhi, .int vkp, .ref msl, .ref msv, .ref mpd, .int vln, .ref mlb])), (ms, .inl (cI, 246, .inl (upd vs (244 : Int32).toNatClampNeg ((vs (244 : Int32).toNatClampNeg) + 1))))] H := hP
  have hD : va_D A [(mo, .inr (7, [.ref ms, .ref mah, .ref mhi, .int vkp, .ref msl, .ref msv, .ref mpd, .int vln, .ref mlb])), (ms, .inl (cI, 246, .inl (upd vs (244 : Int32).toNatClampNeg ((vs (244 : Int32).toNatClampNeg) + 1))))] := hD
  refine lv_aload_n hx hb dX7_ends_12 rfl (lv_at hl 0 rfl) ?_
  refine va_get (D := (dC, dI)) (ci := 7) (v := .ref ms) (C := RX7) (T := TX7) (N := 9) hx hb hts iX7_ends_X7 hown hK hP 0 rfl rfl 0 (by decide) (hts (.fieldLink RX7 7 "TailorChalksModel" "s" "[I") kX7_ends_7) (fun _ h9 => h9) rfl dX7_ends_13 ?_
  refine lv_sipush (v := 245) hx hb dX7_ends_16 (by decide) ?_
  refine lv_iconst (v := 1) hx hb dX7_ends_19 (by decide) ?_
  refine lv_aload_n hx hb dX7_ends_20 rfl (lv_at hl 0 rfl) ?_
  refine va_get (D := (dC, dI)) (ci := 7) (v := .ref ms) (C := RX7) (T := TX7) (N := 9) hx hb hts iX7_ends_X7 hown hK hP 0 rfl rfl 0 (by decide) (hts (.fieldLink RX7 7 "TailorChalksModel" "s" "[I") kX7_ends_7) (fun _ h9 => h9) rfl dX7_ends_21 ?_
  refine lv_sipush (v := 245) hx hb dX7_ends_24 (by decide) ?_
  refine va_iald hx hb hK hP 1 0 rfl rfl (vp_in_iff.mpr (by decide +kernel)) dX7_ends_27 ?_
  refine lv_isub hx hb dX7_ends_28 ?_
  refine va_iast hx hb hK hP hD hS 1 0 rfl rfl (vp_in_iff.mpr (by decide +kernel)) dX7_ends_29 (fun H locs hP hD hS => ?_)
  have hP : va_P (dC, dI) vwCl [(mo, .inr (7, [.ref ms, .ref mah, .ref mhi, .int vkp, .ref msl, .ref msv, .ref mpd, .int vln, .ref mlb])), (ms, .inl (cI, 246, .inl (upd (upd vs (244 : Int32).toNatClampNeg ((vs (244 : Int32).toNatClampNeg) + 1)) (245 : Int32).toNatClampNeg ((1 : Int32) - ((upd vs (244 : Int32).toNatClampNeg ((vs (244 : Int32).toNatClampNeg) + 1)) (245 : Int32).toNatClampNeg)))))] H := hP
  have hD : va_D A [(mo, .inr (7, [.ref ms, .ref mah, .ref mhi, .int vkp, .ref msl, .ref msv, .ref mpd, .int vln, .ref mlb])), (ms, .inl (cI, 246, .inl (upd (upd vs (244 : Int32).toNatClampNeg ((vs (244 : Int32).toNatClampNeg) + 1)) (245 : Int32).toNatClampNeg ((1 : Int32) - ((upd vs (244 : Int32).toNatClampNeg ((vs (244 : Int32).toNatClampNeg) + 1)) (245 : Int32).toNatClampNeg)))))] := hD
  refine lv_iload_n hx hb dX7_ends_30 rfl (lv_at hl 1 rfl) ?_
  subst hres
  exact W.iret (v := told) hx hb hr (fun t ht hW => ⟨⟨told, (), rfl, rfl, (by show va_P _ _ _ t.heap; rw [ht]; exact hP)⟩, hS.F ht⟩) hS.2.2 dX7_ends_31
theorem iX7_chalks_X7 : ∀ w ∈ u_ws RX7 TX7 9, w ∈ wsX7_chalks := by decide +kernel
theorem kX7_chalks_7 : Cond.fieldLink RX7 7 "TailorChalksModel" "s" "[I" ∈ wsX7_chalks := by decide +kernel
def F_Model_chalks (joint : Int32) (vs : Nat → Int32) : Int32 × (Nat → Int32) := (bnd (F_Model_isJoint joint) (fun r_1 => (if r_1 = 0 then ((-1), vs) else (bnd (F_Model_isOver vs) (fun r_3 => (if r_3 = 0 then (bnd (F_Model_holds joint vs) (fun r_5 => (if r_5 = 0 then ((-5), vs) else (bnd (F_Model_hasChalk (vs (245 : Int32).toNatClampNeg) joint vs) (fun r_7 => (if r_7 = 0 then (bnd (F_Model_at (vs (245 : Int32).toNatClampNeg) (2 : Int32)) (fun r_9 => (if (vs r_9.toNatClampNeg) = 8 then ((-4), vs) else (bnd (F_Model_at (vs (245 : Int32).toNatClampNeg) (8 : Int32)) (fun r_11 => (bnd (F_Model_at (vs (245 : Int32).toNatClampNeg) (2 : Int32)) (fun r_12 => (bnd (F_Model_at (vs (245 : Int32).toNatClampNeg) (2 : Int32)) (fun r_13 => (bnd (F_Model_at (vs (245 : Int32).toNatClampNeg) (2 : Int32)) (fun r_14 => (bnd (F_Model_ends ((upd (upd vs (r_11 + (vs r_12.toNatClampNeg)).toNatClampNeg joint) r_13.toNatClampNeg (((upd vs (r_11 + (vs r_12.toNatClampNeg)).toNatClampNeg joint) r_13.toNatClampNeg) + 1)) r_14.toNatClampNeg) (upd (upd vs (r_11 + (vs r_12.toNatClampNeg)).toNatClampNeg joint) r_13.toNatClampNeg (((upd vs (r_11 + (vs r_12.toNatClampNeg)).toNatClampNeg joint) r_13.toNatClampNeg) + 1))) (fun r_15 => (r_15.1, r_15.2)))))))))))))) else ((-5), vs))))))) else ((-5), vs)))))))
set_option maxHeartbeats 4000000 in
set_option maxRecDepth 100000 in
theorem c_Model_chalks (l : Launch) (dC : Nat → ClassId) (dI : Nat → Nat → Nat) (cI cC cG cZ : ClassId) (mo ms mah mhi msl msv mpd mlb : Nat) (joint : Int32) (vkp : Int32) (vln : Int32) (vs : Nat → Int32) (hMI : MI vs) (res : Int32 × (Nat → Int32)) (hres : res = F_Model_chalks joint vs) : Met l yX7_chalks wsX7_chalks ({ frames := 4, cells := 0, slots := 0, locals := 89 }) (va_Pc [.ref mo, .int joint] (wr_P (dC, dI) vwCl (tyL cI cC cG cZ) [(mo, .inr (7, [.ref ms, .ref mah, .ref mhi, .int vkp, .ref msl, .ref msv, .ref mpd, .int vln, .ref mlb])), (ms, .inl (cI, 246, .inl vs))])) (va_Qi (fun r (_ : Unit) => r = res.1) (fun _ zt => va_P (dC, dI) vwCl [(mo, .inr (7, [.ref ms, .ref mah, .ref mhi, .int vkp, .ref msl, .ref msv, .ref mpd, .int vln, .ref mlb])), (ms, .inl (cI, 246, .inl res.2))] zt.heap) (wr_A [(mo, .inr (7, [.ref ms, .ref mah, .ref mhi, .int vkp, .ref msl, .ref msv, .ref mpd, .int vln, .ref mlb])), (ms, .inl (cI, 246, .inl vs))])) 0 0 (wr_A [(mo, .inr (7, [.ref ms, .ref mah, .ref mhi, .int vkp, .ref msl, .ref msv, .ref mpd, .int vln, .ref mlb])), (ms, .inl (cI, 246, .inl vs))]) := by
  refine Met.ofW (cc := cX7_chalks) (maxL := 3) (ret := (some .int)) (by decide) rfl ?_
  intro p e s m args below meth c s₁ B hml hv
  obtain ⟨rfl, hP, hK, hD0⟩ := hv
  have hx := B.exec
  have hb := B.bytes
  have hr := B.returns
  have hts := atoms_spec (ws := wsX7_chalks) B.pre
  have hown : s.vm.findClass RX7 = some m.cls := findClass_of_methodNamed B.named
  have hlocks := B.notSynchronized
  have hD := wr_self hD0
  generalize hAe : wr_A [(mo, .inr (7, [.ref ms, .ref mah, .ref mhi, .int vkp, .ref msl, .ref msv, .ref mpd, .int vln, .ref mlb])), (ms, .inl (cI, 246, .inl vs))] = A at hD ⊢
  have hS : va_S A s.heap s.heap [] := va_S.rf
  have hP : va_P (dC, dI) vwCl [(mo, .inr (7, [.ref ms, .ref mah, .ref mhi, .int vkp, .ref msl, .ref msv, .ref mpd, .int vln, .ref mlb])), (ms, .inl (cI, 246, .inl vs))] s.heap := hP
  have hl := lv_entry ([.ref mo, .int joint]) (n := 3) (Nat.le_of_ble_eq_true rfl)
  rw [lg_entry_eq]
  generalize (lg_sl ([.ref mo, .int joint]) ++ List.replicate (3 - (lg_sl ([.ref mo, .int joint])).length) Slot.unset).toArray = ls at hl ⊢
  have hl : lv_has ls 3 [(0, .ref mo), (1, .int joint)] := hl
  rw [F_Model_chalks] at hres
  refine lv_aload_n hx hb dX7_chalks_0 rfl (lv_at hl 0 rfl) ?_
  refine va_get (D := (dC, dI)) (ci := 7) (v := .ref ms) (C := RX7) (T := TX7) (N := 9) hx hb hts iX7_chalks_X7 hown hK hP 0 rfl rfl 0 (by decide) (hts (.fieldLink RX7 7 "TailorChalksModel" "s" "[I") kX7_chalks_7) (fun _ h9 => h9) rfl dX7_chalks_1 ?_
  refine lv_sipush (v := 245) hx hb dX7_chalks_4 (by decide) ?_
  refine va_iald hx hb hK hP 1 0 rfl rfl (vp_in_iff.mpr (by decide +kernel)) dX7_chalks_7 ?_
  refine lv_istore_n (lv' := [(2, .int (vs (245 : Int32).toNatClampNeg)), (0, .ref mo), (1, .int joint)]) hx hb dX7_chalks_8 rfl hl (by decide) rfl (fun ls hl => ?_)
  refine lv_iload_n hx hb dX7_chalks_9 rfl (lv_at hl 2 rfl) ?_
  obtain ⟨r_1, hr_1⟩ : ∃ z, z = F_Model_isJoint joint := ⟨_, rfl⟩
  rw [bnd_e hr_1] at hres
  refine ro_calli (va_runS (As := [.int joint]) (rest := []) ⟨hx, hb, hml, hown, hts⟩ (c_Model_isJoint l dC dI cI cC cG cZ  joint  r_1 hr_1) (va_cwS 1 hts gX7_chalks_X7_isJoint rfl rfl rfl (by decide +kernel) ⟨Nat.le_of_ble_eq_true rfl, Nat.le_of_ble_eq_true rfl⟩) (ro_preS (hP.sub (ws' := []) [] rfl) hK) rfl rfl hl.1 rfl (lv_room (Nat.le_of_ble_eq_true rfl)) dX7_chalks_10 ⟨Nat.zero_le _, Nat.zero_le _⟩) hP hS (fun H locs hP hS => ?_)
  refine lv_if_ne (tgt := 18) hx hb dX7_chalks_13 (by decide) (fun c_2 => ?_) (fun c_2 => ?_)
  · rw [if_neg c_2] at hres
    refine lv_aload_n hx hb dX7_chalks_18 rfl (lv_at hl 1 rfl) ?_
    obtain ⟨r_3, hr_3⟩ : ∃ z, z = F_Model_isOver vs := ⟨_, rfl⟩
    rw [bnd_e hr_3] at hres
    refine ro_calli (va_runV (As := []) (rest := []) ⟨hx, hb, hml, hown, hts⟩ (c_Model_isOver l dC dI cI cC cG cZ mo ms mah mhi msl msv mpd mlb vkp vln vs  r_3 hr_3) (cwV 0 hts gX7_chalks_X7_isOver rfl rfl rfl (by decide +kernel) ⟨Nat.le_of_ble_eq_true rfl, Nat.le_of_ble_eq_true rfl⟩) (ro_preV (hP.sub (ws' := [(mo, .inr (7, [.ref ms, .ref mah, .ref mhi, .int vkp, .ref msl, .ref msv, .ref mpd, .int vln, .ref mlb])), (ms, .inl (cI, 246, .inl vs))]) [0, 1] rfl) hK (ci := 7) (q0 := 0) rfl rfl) rfl rfl hl.1 rfl (lv_room (Nat.le_of_ble_eq_true rfl)) dX7_chalks_19 ⟨Nat.zero_le _, Nat.zero_le _⟩) hP hS (fun H locs hP hS => ?_)
    refine lv_if_ne (tgt := 42) hx hb dX7_chalks_22 (by decide) (fun c_4 => ?_) (fun c_4 => ?_)
    · rw [if_neg c_4] at hres
      refine lv_bipush (v := (-5)) hx hb dX7_chalks_42 (by decide) ?_
      subst hres
      exact W.iret (v := (-5)) hx hb hr (fun t ht hW => ⟨⟨(-5), (), rfl, rfl, (by show va_P _ _ _ t.heap; rw [ht]; exact hP)⟩, hS.F ht⟩) hS.2.2 dX7_chalks_44
    · rw [if_pos c_4] at hres
      refine lv_aload_n hx hb dX7_chalks_25 rfl (lv_at hl 1 rfl) ?_
      refine lv_iload_n hx hb dX7_chalks_26 rfl (lv_at hl 2 rfl) ?_
      obtain ⟨r_5, hr_5⟩ : ∃ z, z = F_Model_holds joint vs := ⟨_, rfl⟩
      rw [bnd_e hr_5] at hres
      refine ro_calli (va_runV (As := [.int joint]) (rest := []) ⟨hx, hb, hml, hown, hts⟩ (c_Model_holds l dC dI cI cC cG cZ mo ms mah mhi msl msv mpd mlb joint vkp vln vs (mjt_in (by rw [← hr_1]; exact c_2)) r_5 hr_5) (cwV 1 hts gX7_chalks_X7_holds rfl rfl rfl (by decide +kernel) ⟨Nat.le_of_ble_eq_true rfl, Nat.le_of_ble_eq_true rfl⟩) (ro_preV (hP.sub (ws' := [(mo, .inr (7, [.ref ms, .ref mah, .ref mhi, .int vkp, .ref msl, .ref msv, .ref mpd, .int vln, .ref mlb])), (ms, .inl (cI, 246, .inl vs))]) [0, 1] rfl) hK (ci := 7) (q0 := 0) rfl rfl) rfl rfl hl.1 rfl (lv_room (Nat.le_of_ble_eq_true rfl)) dX7_chalks_27 ⟨Nat.zero_le _, Nat.zero_le _⟩) hP hS (fun H locs hP hS => ?_)
      refine lv_if_eq (tgt := 42) hx hb dX7_chalks_30 (by decide) (fun c_6 => ?_) (fun c_6 => ?_)
      · rw [if_pos c_6] at hres
        refine lv_bipush (v := (-5)) hx hb dX7_chalks_42 (by decide) ?_
        subst hres
        exact W.iret (v := (-5)) hx hb hr (fun t ht hW => ⟨⟨(-5), (), rfl, rfl, (by show va_P _ _ _ t.heap; rw [ht]; exact hP)⟩, hS.F ht⟩) hS.2.2 dX7_chalks_44
      · rw [if_neg c_6] at hres
        refine lv_aload_n hx hb dX7_chalks_33 rfl (lv_at hl 1 rfl) ?_
        refine lv_iload_n hx hb dX7_chalks_34 rfl (lv_at hl 0 rfl) ?_
        refine lv_iload_n hx hb dX7_chalks_35 rfl (lv_at hl 2 rfl) ?_
        obtain ⟨r_7, hr_7⟩ : ∃ z, z = F_Model_hasChalk (vs (245 : Int32).toNatClampNeg) joint vs := ⟨_, rfl⟩
        rw [bnd_e hr_7] at hres
        refine ro_calli (va_runV (As := [.int (vs (245 : Int32).toNatClampNeg), .int joint]) (rest := []) ⟨hx, hb, hml, hown, hts⟩ (c_Model_hasChalk l dC dI cI cC cG cZ mo ms mah mhi msl msv mpd mlb (vs (245 : Int32).toNatClampNeg) joint vkp vln vs (mi_next hMI) hMI r_7 hr_7) (cwV 2 hts gX7_chalks_X7_hasChalk rfl rfl rfl (by decide +kernel) ⟨Nat.le_of_ble_eq_true rfl, Nat.le_of_ble_eq_true rfl⟩) (ro_preV (hP.sub (ws' := [(mo, .inr (7, [.ref ms, .ref mah, .ref mhi, .int vkp, .ref msl, .ref msv, .ref mpd, .int vln, .ref mlb])), (ms, .inl (cI, 246, .inl vs))]) [0, 1] rfl) hK (ci := 7) (q0 := 0) rfl rfl) rfl rfl hl.1 rfl (lv_room (Nat.le_of_ble_eq_true rfl)) dX7_chalks_36 ⟨Nat.zero_le _, Nat.zero_le _⟩) hP hS (fun H locs hP hS => ?_)
        refine lv_if_eq (tgt := 45) hx hb dX7_chalks_39 (by decide) (fun c_8 => ?_) (fun c_8 => ?_)
        · rw [if_pos c_8] at hres
          refine lv_aload_n hx hb dX7_chalks_45 rfl (lv_at hl 1 rfl) ?_
          refine va_get (D := (dC, dI)) (ci := 7) (v := .ref ms) (C := RX7) (T := TX7) (N := 9) hx hb hts iX7_chalks_X7 hown hK hP 0 rfl rfl 0 (by decide) (hts (.fieldLink RX7 7 "TailorChalksModel" "s" "[I") kX7_chalks_7) (fun _ h9 => h9) rfl dX7_chalks_46 ?_
          refine lv_iload_n hx hb dX7_chalks_49 rfl (lv_at hl 0 rfl) ?_
          refine lv_iconst (v := 2) hx hb dX7_chalks_50 (by decide) ?_
          obtain ⟨r_9, hr_9⟩ : ∃ z, z = F_Model_at (vs (245 : Int32).toNatClampNeg) (2 : Int32) := ⟨_, rfl⟩
          rw [bnd_e hr_9] at hres
          refine ro_calli (va_runS (As := [.int (vs (245 : Int32).toNatClampNeg), .int 2]) (rest := [.ref ms]) ⟨hx, hb, hml, hown, hts⟩ (c_Model_at l dC dI cI cC cG cZ  (vs (245 : Int32).toNatClampNeg) (2 : Int32)  r_9 hr_9) (va_cwS 2 hts gX7_chalks_X7_at rfl rfl rfl (by decide +kernel) ⟨Nat.le_of_ble_eq_true rfl, Nat.le_of_ble_eq_true rfl⟩) (ro_preS (hP.sub (ws' := []) [] rfl) hK) rfl rfl hl.1 rfl (lv_room (Nat.le_of_ble_eq_true rfl)) dX7_chalks_51 ⟨Nat.zero_le _, Nat.zero_le _⟩) hP hS (fun H locs hP hS => ?_)
          refine va_iald hx hb hK hP 1 0 rfl rfl (by rw [hr_9]; exact at_in (mi_next hMI) (by decide) (by decide)) dX7_chalks_54 ?_
          refine lv_bipush (v := 8) hx hb dX7_chalks_55 (by decide) ?_
          refine lv_icmp_ne (tgt := 63) hx hb dX7_chalks_57 (by decide) (fun c_10 => ?_) (fun c_10 => ?_)
          · rw [if_neg c_10] at hres
            refine lv_aload_n hx hb dX7_chalks_63 rfl (lv_at hl 1 rfl) ?_
            refine va_get (D := (dC, dI)) (ci := 7) (v := .ref ms) (C := RX7) (T := TX7) (N := 9) hx hb hts iX7_chalks_X7 hown hK hP 0 rfl rfl 0 (by decide) (hts (.fieldLink RX7 7 "TailorChalksModel" "s" "[I") kX7_chalks_7) (fun _ h9 => h9) rfl dX7_chalks_64 ?_
            refine lv_iload_n hx hb dX7_chalks_67 rfl (lv_at hl 0 rfl) ?_
            refine lv_bipush (v := 8) hx hb dX7_chalks_68 (by decide) ?_
            obtain ⟨r_11, hr_11⟩ : ∃ z, z = F_Model_at (vs (245 : Int32).toNatClampNeg) (8 : Int32) := ⟨_, rfl⟩
            rw [bnd_e hr_11] at hres
            refine ro_calli (va_runS (As := [.int (vs (245 : Int32).toNatClampNeg), .int 8]) (rest := [.ref ms]) ⟨hx, hb, hml, hown, hts⟩ (c_Model_at l dC dI cI cC cG cZ  (vs (245 : Int32).toNatClampNeg) (8 : Int32)  r_11 hr_11) (va_cwS 2 hts gX7_chalks_X7_at rfl rfl rfl (by decide +kernel) ⟨Nat.le_of_ble_eq_true rfl, Nat.le_of_ble_eq_true rfl⟩) (ro_preS (hP.sub (ws' := []) [] rfl) hK) rfl rfl hl.1 rfl (lv_room (Nat.le_of_ble_eq_true rfl)) dX7_chalks_70 ⟨Nat.zero_le _, Nat.zero_le _⟩) hP hS (fun H locs hP hS => ?_)
            refine lv_aload_n hx hb dX7_chalks_73 rfl (lv_at hl 1 rfl) ?_
            refine va_get (D := (dC, dI)) (ci := 7) (v := .ref ms) (C := RX7) (T := TX7) (N := 9) hx hb hts iX7_chalks_X7 hown hK hP 0 rfl rfl 0 (by decide) (hts (.fieldLink RX7 7 "TailorChalksModel" "s" "[I") kX7_chalks_7) (fun _ h9 => h9) rfl dX7_chalks_74 ?_
            refine lv_iload_n hx hb dX7_chalks_77 rfl (lv_at hl 0 rfl) ?_
            refine lv_iconst (v := 2) hx hb dX7_chalks_78 (by decide) ?_
            obtain ⟨r_12, hr_12⟩ : ∃ z, z = F_Model_at (vs (245 : Int32).toNatClampNeg) (2 : Int32) := ⟨_, rfl⟩
            rw [bnd_e hr_12] at hres
            refine ro_calli (va_runS (As := [.int (vs (245 : Int32).toNatClampNeg), .int 2]) (rest := [.ref ms, .int r_11, .ref ms]) ⟨hx, hb, hml, hown, hts⟩ (c_Model_at l dC dI cI cC cG cZ  (vs (245 : Int32).toNatClampNeg) (2 : Int32)  r_12 hr_12) (va_cwS 2 hts gX7_chalks_X7_at rfl rfl rfl (by decide +kernel) ⟨Nat.le_of_ble_eq_true rfl, Nat.le_of_ble_eq_true rfl⟩) (ro_preS (hP.sub (ws' := []) [] rfl) hK) rfl rfl hl.1 rfl (lv_room (Nat.le_of_ble_eq_true rfl)) dX7_chalks_79 ⟨Nat.zero_le _, Nat.zero_le _⟩) hP hS (fun H locs hP hS => ?_)
            refine va_iald hx hb hK hP 1 0 rfl rfl (by rw [hr_12]; exact at_in (mi_next hMI) (by decide) (by decide)) dX7_chalks_82 ?_
            refine lv_iadd hx hb dX7_chalks_83 ?_
            refine lv_iload_n hx hb dX7_chalks_84 rfl (lv_at hl 2 rfl) ?_
            refine va_iast hx hb hK hP hD hS 1 0 rfl rfl (by rw [hr_11]; exact at_in8 (mi_next hMI) (tm_in3 (by rw [hr_12]; exact mi_cnt hMI (mi_next hMI)) (by rw [hr_12, ← hr_9]; exact c_10))) dX7_chalks_85 (fun H locs hP hD hS => ?_)
            have hP : va_P (dC, dI) vwCl [(mo, .inr (7, [.ref ms, .ref mah, .ref mhi, .int vkp, .ref msl, .ref msv, .ref mpd, .int vln, .ref mlb])), (ms, .inl (cI, 246, .inl (upd vs (r_11 + (vs r_12.toNatClampNeg)).toNatClampNeg joint)))] H := hP
            have hD : va_D A [(mo, .inr (7, [.ref ms, .ref mah, .ref mhi, .int vkp, .ref msl, .ref msv, .ref mpd, .int vln, .ref mlb])), (ms, .inl (cI, 246, .inl (upd vs (r_11 + (vs r_12.toNatClampNeg)).toNatClampNeg joint)))] := hD
            refine lv_aload_n hx hb dX7_chalks_86 rfl (lv_at hl 1 rfl) ?_
            refine va_get (D := (dC, dI)) (ci := 7) (v := .ref ms) (C := RX7) (T := TX7) (N := 9) hx hb hts iX7_chalks_X7 hown hK hP 0 rfl rfl 0 (by decide) (hts (.fieldLink RX7 7 "TailorChalksModel" "s" "[I") kX7_chalks_7) (fun _ h9 => h9) rfl dX7_chalks_87 ?_
            refine lv_iload_n hx hb dX7_chalks_90 rfl (lv_at hl 0 rfl) ?_
            refine lv_iconst (v := 2) hx hb dX7_chalks_91 (by decide) ?_
            obtain ⟨r_13, hr_13⟩ : ∃ z, z = F_Model_at (vs (245 : Int32).toNatClampNeg) (2 : Int32) := ⟨_, rfl⟩
            rw [bnd_e hr_13] at hres
            refine ro_calli (va_runS (As := [.int (vs (245 : Int32).toNatClampNeg), .int 2]) (rest := [.ref ms]) ⟨hx, hb, hml, hown, hts⟩ (c_Model_at l dC dI cI cC cG cZ  (vs (245 : Int32).toNatClampNeg) (2 : Int32)  r_13 hr_13) (va_cwS 2 hts gX7_chalks_X7_at rfl rfl rfl (by decide +kernel) ⟨Nat.le_of_ble_eq_true rfl, Nat.le_of_ble_eq_true rfl⟩) (ro_preS (hP.sub (ws' := []) [] rfl) hK) rfl rfl hl.1 rfl (lv_room (Nat.le_of_ble_eq_true rfl)) dX7_chalks_92 ⟨Nat.zero_le _, Nat.zero_le _⟩) hP hS (fun H locs hP hS => ?_)
            refine lv_dup2_11 hx hb dX7_chalks_95 rfl rfl ?_
            refine va_iald hx hb hK hP 1 0 rfl rfl (by rw [hr_13]; exact at_in (mi_next hMI) (by decide) (by decide)) dX7_chalks_96 ?_
            refine lv_iconst (v := 1) hx hb dX7_chalks_97 (by decide) ?_
            refine lv_iadd hx hb dX7_chalks_98 ?_
            refine va_iast hx hb hK hP hD hS 1 0 rfl rfl (by rw [hr_13]; exact at_in (mi_next hMI) (by decide) (by decide)) dX7_chalks_99 (fun H locs hP hD hS => ?_)
            have hP : va_P (dC, dI) vwCl [(mo, .inr (7, [.ref ms, .ref mah, .ref mhi, .int vkp, .ref msl, .ref msv, .ref mpd, .int vln, .ref mlb])), (ms, .inl (cI, 246, .inl (upd (upd vs (r_11 + (vs r_12.toNatClampNeg)).toNatClampNeg joint) r_13.toNatClampNeg (((upd vs (r_11 + (vs r_12.toNatClampNeg)).toNatClampNeg joint) r_13.toNatClampNeg) + 1))))] H := hP
            have hD : va_D A [(mo, .inr (7, [.ref ms, .ref mah, .ref mhi, .int vkp, .ref msl, .ref msv, .ref mpd, .int vln, .ref mlb])), (ms, .inl (cI, 246, .inl (upd (upd vs (r_11 + (vs r_12.toNatClampNeg)).toNatClampNeg joint) r_13.toNatClampNeg (((upd vs (r_11 + (vs r_12.toNatClampNeg)).toNatClampNeg joint) r_13.toNatClampNeg) + 1))))] := hD
            refine lv_aload_n hx hb dX7_chalks_100 rfl (lv_at hl 1 rfl) ?_
            refine lv_aload_n hx hb dX7_chalks_101 rfl (lv_at hl 1 rfl) ?_
            refine va_get (D := (dC, dI)) (ci := 7) (v := .ref ms) (C := RX7) (T := TX7) (N := 9) hx hb hts iX7_chalks_X7 hown hK hP 0 rfl rfl 0 (by decide) (hts (.fieldLink RX7 7 "TailorChalksModel" "s" "[I") kX7_chalks_7) (fun _ h9 => h9) rfl dX7_chalks_102 ?_
            refine lv_iload_n hx hb dX7_chalks_105 rfl (lv_at hl 0 rfl) ?_
            refine lv_iconst (v := 2) hx hb dX7_chalks_106 (by decide) ?_
            obtain ⟨r_14, hr_14⟩ : ∃ z, z = F_Model_at (vs (245 : Int32).toNatClampNeg) (2 : Int32) := ⟨_, rfl⟩
            rw [bnd_e hr_14] at hres
            refine ro_calli (va_runS (As := [.int (vs (245 : Int32).toNatClampNeg), .int 2]) (rest := [.ref ms, .ref mo]) ⟨hx, hb, hml, hown, hts⟩ (c_Model_at l dC dI cI cC cG cZ  (vs (245 : Int32).toNatClampNeg) (2 : Int32)  r_14 hr_14) (va_cwS 2 hts gX7_chalks_X7_at rfl rfl rfl (by decide +kernel) ⟨Nat.le_of_ble_eq_true rfl, Nat.le_of_ble_eq_true rfl⟩) (ro_preS (hP.sub (ws' := []) [] rfl) hK) rfl rfl hl.1 rfl (lv_room (Nat.le_of_ble_eq_true rfl)) dX7_chalks_107 ⟨Nat.zero_le _, Nat.zero_le _⟩) hP hS (fun H locs hP hS => ?_)
            refine va_iald hx hb hK hP 1 0 rfl rfl (by rw [hr_14]; exact at_in (mi_next hMI) (by decide) (by decide)) dX7_chalks_110 ?_
            obtain ⟨r_15, hr_15⟩ : ∃ z, z = F_Model_ends ((upd (upd vs (r_11 + (vs r_12.toNatClampNeg)).toNatClampNeg joint) r_13.toNatClampNeg (((upd vs (r_11 + (vs r_12.toNatClampNeg)).toNatClampNeg joint) r_13.toNatClampNeg) + 1)) r_14.toNatClampNeg) (upd (upd vs (r_11 + (vs r_12.toNatClampNeg)).toNatClampNeg joint) r_13.toNatClampNeg (((upd vs (r_11 + (vs r_12.toNatClampNeg)).toNatClampNeg joint) r_13.toNatClampNeg) + 1)) := ⟨_, rfl⟩
            rw [bnd_e hr_15] at hres
            refine wr_calli (w1 := [(mo, .inr (7, [.ref ms, .ref mah, .ref mhi, .int vkp, .ref msl, .ref msv, .ref mpd, .int vln, .ref mlb])), (ms, .inl (cI, 246, .inl r_15.2))]) (is := [0, 1]) (va_runV (As := [.int ((upd (upd vs (r_11 + (vs r_12.toNatClampNeg)).toNatClampNeg joint) r_13.toNatClampNeg (((upd vs (r_11 + (vs r_12.toNatClampNeg)).toNatClampNeg joint) r_13.toNatClampNeg) + 1)) r_14.toNatClampNeg)]) (rest := []) ⟨hx, hb, hml, hown, hts⟩ (c_Model_ends l dC dI cI cC cG cZ mo ms mah mhi msl msv mpd mlb ((upd (upd vs (r_11 + (vs r_12.toNatClampNeg)).toNatClampNeg joint) r_13.toNatClampNeg (((upd vs (r_11 + (vs r_12.toNatClampNeg)).toNatClampNeg joint) r_13.toNatClampNeg) + 1)) r_14.toNatClampNeg) vkp vln (upd (upd vs (r_11 + (vs r_12.toNatClampNeg)).toNatClampNeg joint) r_13.toNatClampNeg (((upd vs (r_11 + (vs r_12.toNatClampNeg)).toNatClampNeg joint) r_13.toNatClampNeg) + 1))  r_15 hr_15) (cwV 1 hts gX7_chalks_X7_ends rfl rfl rfl (by decide +kernel) ⟨Nat.le_of_ble_eq_true rfl, Nat.le_of_ble_eq_true rfl⟩) (wr_preV (hP.sub (ws' := [(mo, .inr (7, [.ref ms, .ref mah, .ref mhi, .int vkp, .ref msl, .ref msv, .ref mpd, .int vln, .ref mlb])), (ms, .inl (cI, 246, .inl (upd (upd vs (r_11 + (vs r_12.toNatClampNeg)).toNatClampNeg joint) r_13.toNatClampNeg (((upd vs (r_11 + (vs r_12.toNatClampNeg)).toNatClampNeg joint) r_13.toNatClampNeg) + 1))))]) [0, 1] rfl) hK (hD.sub (ws' := [(mo, .inr (7, [.ref ms, .ref mah, .ref mhi, .int vkp, .ref msl, .ref msv, .ref mpd, .int vln, .ref mlb])), (ms, .inl (cI, 246, .inl (upd (upd vs (r_11 + (vs r_12.toNatClampNeg)).toNatClampNeg joint) r_13.toNatClampNeg (((upd vs (r_11 + (vs r_12.toNatClampNeg)).toNatClampNeg joint) r_13.toNatClampNeg) + 1))))]) [0, 1] (by decide) rfl) (ci := 7) (q0 := 0) rfl rfl) rfl rfl hl.1 rfl (lv_room (Nat.le_of_ble_eq_true rfl)) dX7_chalks_111 ⟨Nat.zero_le _, Nat.zero_le _⟩) hP hD hS rfl rfl rfl (fun H locs hP hD hS => ?_)
            have hP : va_P (dC, dI) vwCl [(mo, .inr (7, [.ref ms, .ref mah, .ref mhi, .int vkp, .ref msl, .ref msv, .ref mpd, .int vln, .ref mlb])), (ms, .inl (cI, 246, .inl r_15.2))] H := hP
            have hD : va_D A [(mo, .inr (7, [.ref ms, .ref mah, .ref mhi, .int vkp, .ref msl, .ref msv, .ref mpd, .int vln, .ref mlb])), (ms, .inl (cI, 246, .inl r_15.2))] := hD
            subst hres
            exact W.iret (v := r_15.1) hx hb hr (fun t ht hW => ⟨⟨r_15.1, (), rfl, rfl, (by show va_P _ _ _ t.heap; rw [ht]; exact hP)⟩, hS.F ht⟩) hS.2.2 dX7_chalks_114
          · rw [if_pos c_10] at hres
            refine lv_bipush (v := (-4)) hx hb dX7_chalks_60 (by decide) ?_
            subst hres
            exact W.iret (v := (-4)) hx hb hr (fun t ht hW => ⟨⟨(-4), (), rfl, rfl, (by show va_P _ _ _ t.heap; rw [ht]; exact hP)⟩, hS.F ht⟩) hS.2.2 dX7_chalks_62
        · rw [if_neg c_8] at hres
          refine lv_bipush (v := (-5)) hx hb dX7_chalks_42 (by decide) ?_
          subst hres
          exact W.iret (v := (-5)) hx hb hr (fun t ht hW => ⟨⟨(-5), (), rfl, rfl, (by show va_P _ _ _ t.heap; rw [ht]; exact hP)⟩, hS.F ht⟩) hS.2.2 dX7_chalks_44
  · rw [if_pos c_2] at hres
    refine lv_iconst (v := (-1)) hx hb dX7_chalks_16 (by decide) ?_
    subst hres
    exact W.iret (v := (-1)) hx hb hr (fun t ht hW => ⟨⟨(-1), (), rfl, rfl, (by show va_P _ _ _ t.heap; rw [ht]; exact hP)⟩, hS.F ht⟩) hS.2.2 dX7_chalks_17
theorem iX7_reason_X7 : ∀ w ∈ u_ws RX7 TX7 9, w ∈ wsX7_reason := by decide +kernel
theorem kX7_reason_7 : Cond.fieldLink RX7 7 "TailorChalksModel" "s" "[I" ∈ wsX7_reason := by decide +kernel
def F_Model_reason (joint : Int32) (vs : Nat → Int32) : Int32 := (bnd (F_Model_isOver vs) (fun r_1 => (if r_1 = 0 then (bnd (F_Model_isVoid joint vs) (fun r_3 => (if r_3 = 0 then (if (vs ((0 : Int32) + joint).toNatClampNeg) = 1 then 3 else 0) else 2))) else 1)))
set_option maxHeartbeats 4000000 in
set_option maxRecDepth 100000 in
theorem c_Model_reason (l : Launch) (dC : Nat → ClassId) (dI : Nat → Nat → Nat) (cI cC cG cZ : ClassId) (mo ms mah mhi msl msv mpd mlb : Nat) (joint : Int32) (vkp : Int32) (vln : Int32) (vs : Nat → Int32) (hj : vp_in joint 82) (res : Int32) (hres : res = F_Model_reason joint vs) : Met l yX7_reason wsX7_reason ({ frames := 3, cells := 0, slots := 0, locals := 63 }) (va_Pc [.ref mo, .int joint] (ro_P (dC, dI) vwCl (tyL cI cC cG cZ) [(mo, .inr (7, [.ref ms, .ref mah, .ref mhi, .int vkp, .ref msl, .ref msv, .ref mpd, .int vln, .ref mlb])), (ms, .inl (cI, 246, .inl vs))])) (va_Qi (fun r (_ : Unit) => r = res) (fun _ _ => True) ro_F) 0 0 ro_F := by
  refine Met.ofW (cc := cX7_reason) (maxL := 2) (ret := (some .int)) (by decide) rfl ?_
  intro p e s m args below meth c s₁ B hml hv
  obtain ⟨rfl, hP, hK⟩ := hv
  have hx := B.exec
  have hb := B.bytes
  have hr := B.returns
  have hts := atoms_spec (ws := wsX7_reason) B.pre
  have hown : s.vm.findClass RX7 = some m.cls := findClass_of_methodNamed B.named
  have hlocks := B.notSynchronized
  have hS : va_S ro_F s.heap s.heap [] := va_S.rf
  have hl := lv_entry ([.ref mo, .int joint]) (n := 2) (Nat.le_of_ble_eq_true rfl)
  rw [lg_entry_eq]
  generalize (lg_sl ([.ref mo, .int joint]) ++ List.replicate (2 - (lg_sl ([.ref mo, .int joint])).length) Slot.unset).toArray = ls at hl ⊢
  have hl : lv_has ls 2 [(0, .ref mo), (1, .int joint)] := hl
  rw [F_Model_reason] at hres
  refine lv_aload_n hx hb dX7_reason_0 rfl (lv_at hl 0 rfl) ?_
  obtain ⟨r_1, hr_1⟩ : ∃ z, z = F_Model_isOver vs := ⟨_, rfl⟩
  rw [bnd_e hr_1] at hres
  refine ro_calli (va_runV (As := []) (rest := []) ⟨hx, hb, hml, hown, hts⟩ (c_Model_isOver l dC dI cI cC cG cZ mo ms mah mhi msl msv mpd mlb vkp vln vs  r_1 hr_1) (cwV 0 hts gX7_reason_X7_isOver rfl rfl rfl (by decide +kernel) ⟨Nat.le_of_ble_eq_true rfl, Nat.le_of_ble_eq_true rfl⟩) (ro_preV (hP.sub (ws' := [(mo, .inr (7, [.ref ms, .ref mah, .ref mhi, .int vkp, .ref msl, .ref msv, .ref mpd, .int vln, .ref mlb])), (ms, .inl (cI, 246, .inl vs))]) [0, 1] rfl) hK (ci := 7) (q0 := 0) rfl rfl) rfl rfl hl.1 rfl (lv_room (Nat.le_of_ble_eq_true rfl)) dX7_reason_1 ⟨Nat.zero_le _, Nat.zero_le _⟩) hP hS (fun H locs hP hS => ?_)
  refine lv_if_eq (tgt := 11) hx hb dX7_reason_4 (by decide) (fun c_2 => ?_) (fun c_2 => ?_)
  · rw [if_pos c_2] at hres
    refine lv_aload_n hx hb dX7_reason_11 rfl (lv_at hl 0 rfl) ?_
    refine lv_iload_n hx hb dX7_reason_12 rfl (lv_at hl 1 rfl) ?_
    obtain ⟨r_3, hr_3⟩ : ∃ z, z = F_Model_isVoid joint vs := ⟨_, rfl⟩
    rw [bnd_e hr_3] at hres
    refine ro_calli (va_runV (As := [.int joint]) (rest := []) ⟨hx, hb, hml, hown, hts⟩ (c_Model_isVoid l dC dI cI cC cG cZ mo ms mah mhi msl msv mpd mlb joint vkp vln vs hj r_3 hr_3) (cwV 1 hts gX7_reason_X7_isVoid rfl rfl rfl (by decide +kernel) ⟨Nat.le_of_ble_eq_true rfl, Nat.le_of_ble_eq_true rfl⟩) (ro_preV (hP.sub (ws' := [(mo, .inr (7, [.ref ms, .ref mah, .ref mhi, .int vkp, .ref msl, .ref msv, .ref mpd, .int vln, .ref mlb])), (ms, .inl (cI, 246, .inl vs))]) [0, 1] rfl) hK (ci := 7) (q0 := 0) rfl rfl) rfl rfl hl.1 rfl (lv_room (Nat.le_of_ble_eq_true rfl)) dX7_reason_13 ⟨Nat.zero_le _, Nat.zero_le _⟩) hP hS (fun H locs hP hS => ?_)
    refine lv_if_eq (tgt := 23) hx hb dX7_reason_16 (by decide) (fun c_4 => ?_) (fun c_4 => ?_)
    · rw [if_pos c_4] at hres
      refine lv_aload_n hx hb dX7_reason_23 rfl (lv_at hl 0 rfl) ?_
      refine va_get (D := (dC, dI)) (ci := 7) (v := .ref ms) (C := RX7) (T := TX7) (N := 9) hx hb hts iX7_reason_X7 hown hK hP 0 rfl rfl 0 (by decide) (hts (.fieldLink RX7 7 "TailorChalksModel" "s" "[I") kX7_reason_7) (fun _ h9 => h9) rfl dX7_reason_24 ?_
      refine lv_iconst (v := 0) hx hb dX7_reason_27 (by decide) ?_
      refine lv_iload_n hx hb dX7_reason_28 rfl (lv_at hl 1 rfl) ?_
      refine lv_iadd hx hb dX7_reason_29 ?_
      refine va_iald hx hb hK hP 1 0 rfl rfl (vp_addc (q := 0) (n := 82) rfl hj (by decide) (by decide)) dX7_reason_30 ?_
      refine lv_iconst (v := 1) hx hb dX7_reason_31 (by decide) ?_
      refine lv_icmp_ne (tgt := 39) hx hb dX7_reason_32 (by decide) (fun c_5 => ?_) (fun c_5 => ?_)
      · rw [if_neg c_5] at hres
        refine lv_iconst (v := 0) hx hb dX7_reason_39 (by decide) ?_
        exact W.iret (v := 0) hx hb hr (fun t ht hW => ⟨⟨0, (), rfl, hres.symm, trivial⟩, hS.F ht⟩) hS.2.2 dX7_reason_40
      · rw [if_pos c_5] at hres
        refine lv_iconst (v := 3) hx hb dX7_reason_35 (by decide) ?_
        refine lv_goto (tgt := 40) hx hb dX7_reason_36 (by decide) ?_
        exact W.iret (v := 3) hx hb hr (fun t ht hW => ⟨⟨3, (), rfl, hres.symm, trivial⟩, hS.F ht⟩) hS.2.2 dX7_reason_40
    · rw [if_neg c_4] at hres
      refine lv_iconst (v := 2) hx hb dX7_reason_19 (by decide) ?_
      refine lv_goto (tgt := 40) hx hb dX7_reason_20 (by decide) ?_
      exact W.iret (v := 2) hx hb hr (fun t ht hW => ⟨⟨2, (), rfl, hres.symm, trivial⟩, hS.F ht⟩) hS.2.2 dX7_reason_40
  · rw [if_neg c_2] at hres
    refine lv_iconst (v := 1) hx hb dX7_reason_7 (by decide) ?_
    refine lv_goto (tgt := 40) hx hb dX7_reason_8 (by decide) ?_
    exact W.iret (v := 1) hx hb hr (fun t ht hW => ⟨⟨1, (), rfl, hres.symm, trivial⟩, hS.F ht⟩) hS.2.2 dX7_reason_40
