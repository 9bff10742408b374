-- what falls off: the law's count and the class's
theorem bnd_tr {α β : Type} {x v : α} {f : α → β} {w : β} (h : x = v) (k : f v = w) : bnd x f = w := by rw [h]; exact k
theorem falls_ok {gn ac dn : Int64} {fs fm vs : Nat → Int32} (h : CR gn ac dn fs fm vs) (tn mks0 mks1 : Int32) (fma0 fma1 fmr : Nat → Int32) {j : Nat} (hj : j < 82) (hv : ¬ vd vs j) : (F_Law_falls (nI j) tn gn ac dn fs fm mks0 fma0 mks1 fma1 fmr).1 = F_Long_bitCount (F_Cloth_ragOf (nI j) ac dn) := by
  have gF : ¬ vs (164 + jF j) = 1 := fun z => hv (Or.inl z)
  have gS : ¬ vs (164 + jS j) = 1 := fun z => hv (Or.inr z)
  have lF := jF_lt hj
  have lS := jS_lt hj
  obtain ⟨p1, -⟩ := piece_ok h tn mks0 mks1 fma0 fma1 fmr lF gF (GE_but h hj)
  obtain ⟨p2, p3⟩ := piece_ok h tn mks0 mks1 fma0 fma1 (F_Law_piece (nI (jF j)) (nI j) 0 tn gn ac dn fs fm mks0 fma0 mks1 fma1 fmr).2 lS gS (GE_but h hj)
  obtain ⟨-, c1⟩ := conn (vlb := vs) (GE_but h hj) lF gF
  obtain ⟨-, c2⟩ := conn (vlb := vs) (GE_but h hj) lS gS
  have sym : b6 (F_Cloth_spread (nI (jF j)) (rgA j ac) (rgD j dn)) (jS j) = true ↔ b6 (F_Cloth_spread (nI (jS j)) (rgA j ac) (rgD j dn)) (jF j) = true := by
    rw [c1 _ lS, c2 _ lF]
    exact eq_comm
  rw [rag_f hj ac dn]
  unfold F_Law_falls
  rw [bnd_eq, bnd_eq, bnd_eq, bnd_eq, of_2 hj, of_3 hj, bnd_eq, bnd_eq, p1, p2, bnd_eq, nI_clamp (by omega), p3 _ lF]
  have h0 := has_0 (x := F_Cloth_spread (nI (jF j)) (rgA j ac) (rgD j dn)) (c := jS j) (by omega)
  generalize (F_Law_piece (nI (jS j)) (nI j) 0 tn gn ac dn fs fm mks0 fma0 mks1 fma1 (F_Law_piece (nI (jF j)) (nI j) 0 tn gn ac dn fs fm mks0 fma0 mks1 fma1 fmr).2).2 = mk
  generalize F_Cloth_spread (nI (jF j)) (rgA j ac) (rgD j dn) = N at sym h0 ⊢
  generalize F_Cloth_spread (nI (jS j)) (rgA j ac) (rgD j dn) = Q at sym ⊢
  by_cases z : b6 N (jS j) = true
  · rw [if_pos (sym.mp z), if_pos rfl, if_neg d01, if_neg (fun q => by rw [h0.mp q] at z; exact absurd z (by decide))]
    exact bc_0.symm
  · have z2 : b6 N (jS j) = false := not_true_false.mpr z
    rw [if_neg (fun q => z (sym.mpr q)), if_neg (show ¬ (0 : Int32) = 1 by decide), if_pos rfl, if_pos (h0.mpr z2)]
    unfold rgP
    by_cases y : F_Long_bitCount Q ≤ F_Long_bitCount N
    · rw [if_pos y, if_pos y]
      by_cases x : F_Long_bitCount Q ≤ 12
      · rw [if_pos x, if_neg (Int32.not_lt.mpr x)]
      · rw [if_neg x, if_pos (Int32.not_le.mp x)]
        exact bc_0.symm
    · rw [if_neg y, if_neg y]
      by_cases x : F_Long_bitCount N ≤ 12
      · rw [if_pos x, if_neg (Int32.not_lt.mpr x)]
      · rw [if_neg x, if_pos (Int32.not_le.mp x)]
        exact bc_0.symm
