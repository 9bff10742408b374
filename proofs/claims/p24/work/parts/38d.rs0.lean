-- the strong relation holds at the start
theorem z_g : ∀ c : Fin 48, (b6 0 c.val = true ↔ ms_0 (164 + c.val) = 1) := by decide +kernel
theorem z_s : ∀ j : Fin 82, (0 : Int32) = ms_0 j.val ∧ (-6 : Int32) = ms_0 (82 + j.val) := by decide +kernel
theorem z_a : ∀ c : Fin 64, (b6 140185576636287 c.val = true ↔ c.val < 48 ∧ c.val % 8 < 7 ∧ hold ms_0 (7 * (c.val / 8) + c.val % 8)) := by
  unfold hold vd
  decide +kernel
theorem z_d : ∀ c : Fin 64, (b6 1099511627775 c.val = true ↔ c.val < 40 ∧ hold ms_0 (42 + c.val)) := by
  unfold hold vd
  decide +kernel
theorem z_n : ms_0 212 = 0 ∧ ms_0 213 = 5 ∧ ms_0 214 = 0 ∧ ms_0 215 = 0 ∧ ms_0 216 = 0 ∧ ms_0 217 = 0 ∧ ms_0 218 = 0 ∧ ms_0 219 = 0 ∧ ms_0 228 = 0 ∧ ms_0 229 = 5 ∧ ms_0 230 = 0 ∧ ms_0 231 = 0 ∧ ms_0 232 = 0 ∧ ms_0 233 = 0 ∧ ms_0 234 = 0 ∧ ms_0 235 = 0 ∧ ms_0 244 = 0 ∧ ms_0 245 = 0 := by decide +kernel
theorem CR_0 : CR 0 140185576636287 1099511627775 (fun _ => 0) (fun _ => -6) ms_0 := by
  refine ⟨fun c hc => z_g ⟨c, hc⟩, fun c _ => b6_zero c, fun j hj => (z_s ⟨j, hj⟩).1, fun j hj => (z_s ⟨j, hj⟩).2, fun c => ?_, fun c => ?_⟩
  · rcases Nat.lt_or_ge c 64 with z | z
    · exact z_a ⟨c, z⟩
    · exact ⟨fun q => absurd (b6_lt q) (by omega), fun q => absurd q.1 (by omega)⟩
  · rcases Nat.lt_or_ge c 64 with z | z
    · exact z_d ⟨c, z⟩
    · exact ⟨fun q => absurd (b6_lt q) (by omega), fun q => absurd q.1 (by omega)⟩
theorem MS_0 {q : Nat} {f : Nat → Int32} (h : ms_0 (tO q + 2) = 0) : MS q 0 f ms_0 0 := ⟨rfl, h, ⟨by omega, fun i hi => absurd hi (Nat.not_lt_zero _), fun i k hi => absurd hi (Nat.not_lt_zero _)⟩, fun i hi => absurd hi (Nat.not_lt_zero _)⟩
theorem GRS_0 : GRS S_0 ms_0 := by
  obtain ⟨a0, a1, a2, a3, a4, a5, a6, a7, b0, b1, b2, b3, b4, b5, b6, b7, c4, c5⟩ := z_n
  have e0 : (0 : Int32).toInt = 0 := by decide
  exact ⟨CR_0, c5.symm, c4.symm, Or.inl c5, ⟨a0.symm, a1.symm, a3.symm, a4.symm, a5.symm, a6.symm, a7.symm, 0, MS_0 a2⟩, ⟨b0.symm, b1.symm, b3.symm, b4.symm, b5.symm, b6.symm, b7.symm, 0, MS_0 b2⟩, 0, by omega, c4, by rw [a0, e0]; omega, by rw [b0, e0]; omega⟩
theorem rs_0 : RS x_0 y_0 := by
  refine ⟨rx_0, GRS_0, ⟨rfl, fun i hi => absurd hi (Nat.not_lt_zero _)⟩, fun s hs => ⟨?_, fun z => absurd rfl z⟩⟩
  rcases (show s = 0 ∨ s = 1 by omega) with rfl | rfl <;> rfl
