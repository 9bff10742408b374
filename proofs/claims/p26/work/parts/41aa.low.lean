-- numbers in range
theorem low_f {n : Nat} (v : Int32) (hn : 0 < n ∧ n < 2 ^ 31) : F_Law_low v (nI n) = nI (v.toBitVec.toNat % 2 ^ 31 % n) := by
  unfold F_Law_low
  rw [pk_and v (m := 2147483647) 31 (by decide)]
  exact pk_rem (Nat.mod_lt _ (by decide)) hn.1 hn.2
theorem low_in {n : Nat} (v : Int32) (hn : 0 < n ∧ n < 2 ^ 31) : vp_in (F_Law_low v (nI n)) n := by
  rw [low_f v hn]
  exact vp_in_nI (Nat.mod_lt _ hn.1) hn.2
