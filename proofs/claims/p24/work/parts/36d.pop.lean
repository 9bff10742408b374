-- how many bits a long has
/-- bits of x below n -/
def pcN : Nat → Nat → Nat
  | 0, _ => 0
  | n + 1, x => pcN n x + (x.testBit n).toNat
theorem pcN_le : ∀ (n x : Nat), pcN n x ≤ n
  | 0, _ => Nat.le_refl _
  | n + 1, x => by
    have := pcN_le n x
    have : (x.testBit n).toNat ≤ 1 := by cases x.testBit n <;> decide
    show pcN n x + (x.testBit n).toNat ≤ n + 1
    omega
theorem pcN_eq : ∀ {n x y : Nat}, (∀ i, i < n → x.testBit i = y.testBit i) → pcN n x = pcN n y
  | 0, _, _, _ => rfl
  | n + 1, x, y, h => by
    show pcN n x + (x.testBit n).toNat = pcN n y + (y.testBit n).toNat
    rw [pcN_eq (n := n) (fun i hi => h i (by omega)), h n (by omega)]
theorem byte_bit {a y i : Nat} (ha : a < 256) : (a + 256 * y).testBit i = if i < 8 then a.testBit i else y.testBit (i - 8) := by
  rw [show a + 256 * y = 2 ^ 8 * y + a by omega]
  exact Nat.testBit_two_pow_mul_add y (by omega) i
theorem pcN_byte : ∀ (n a y : Nat), a < 256 → pcN (8 + n) (a + 256 * y) = pcN 8 a + pcN n y
  | 0, a, y, ha => by
    show pcN 8 (a + 256 * y) = pcN 8 a
    exact pcN_eq (fun i hi => by rw [byte_bit ha, if_pos hi])
  | n + 1, a, y, ha => by
    show pcN (8 + n) (a + 256 * y) + ((a + 256 * y).testBit (8 + n)).toNat = pcN 8 a + (pcN n y + (y.testBit n).toNat)
    rw [pcN_byte n a y ha, byte_bit ha, if_neg (by omega), show 8 + n - 8 = n by omega]
    omega
theorem and_byte {a y m M : Nat} (ha : a < 256) (hm : m < 256) : (a + 256 * y) &&& (m + 256 * M) = (a &&& m) + 256 * (y &&& M) := by
  have h8 : a &&& m < 256 := Nat.lt_of_le_of_lt Nat.and_le_left ha
  apply Nat.eq_of_testBit_eq
  intro i
  rw [Nat.testBit_and, byte_bit ha, byte_bit hm, byte_bit h8]
  by_cases c : i < 8
  · rw [if_pos c, if_pos c, if_pos c, Nat.testBit_and]
  · rw [if_neg c, if_neg c, if_neg c, Nat.testBit_and]
/-- a byte n times -/
def Mk (r : Nat) : Nat → Nat
  | 0 => 0
  | n + 1 => r + 256 * Mk r n
/-- the counts of the bytes -/
def cs : Nat → Nat → Nat
  | 0, _ => 0
  | n + 1, x => pcN 8 (x % 256) + 256 * cs n (x / 256)
def st1 (m x : Nat) : Nat := x - ((x / 2) &&& m)
def st2 (m y : Nat) : Nat := (y &&& m) + ((y / 4) &&& m)
def st3 (m z : Nat) : Nat := (z + z / 16) &&& m
theorem tb1 : ∀ a : Fin 256, ∀ b : Fin 2, ((a.val / 2 + 128 * b.val) &&& 85) = ((a.val / 2) &&& 85) ∧ ((a.val / 2) &&& 85) ≤ a.val := by decide +kernel
theorem tb2 : ∀ a : Fin 256, ∀ b : Fin 4, ((a.val / 4 + 64 * b.val) &&& 51) = ((a.val / 4) &&& 51) := by decide +kernel
theorem tb3 : ∀ a : Fin 256, st2 51 (st1 85 a.val) % 16 ≤ 4 ∧ st2 51 (st1 85 a.val) / 16 ≤ 4 ∧ st1 85 a.val < 256 := by decide +kernel
theorem tb4 : ∀ a : Fin 256, ∀ b : Fin 5, ((st2 51 (st1 85 a.val) + st2 51 (st1 85 a.val) / 16 + 16 * b.val) &&& 15) = pcN 8 a.val ∧ st2 51 (st1 85 a.val) + st2 51 (st1 85 a.val) / 16 + 16 * b.val < 256 := by decide +kernel
theorem st1_b {a y M : Nat} (ha : a < 256) : st1 (85 + 256 * M) (a + 256 * y) = st1 85 a + 256 * st1 M y := by
  unfold st1
  have h := tb1 ⟨a, ha⟩ ⟨y % 2, by omega⟩
  dsimp only at h
  rw [show (a + 256 * y) / 2 = (a / 2 + 128 * (y % 2)) + 256 * (y / 2) by omega, and_byte (by omega) (by omega), h.1]
  have h2 : (y / 2 &&& M) ≤ y := Nat.le_trans Nat.and_le_left (Nat.div_le_self _ _)
  have h3 := h.2
  omega
theorem st2_b {a y M : Nat} (ha : a < 256) : st2 (51 + 256 * M) (a + 256 * y) = st2 51 a + 256 * st2 M y := by
  unfold st2
  have h := tb2 ⟨a, ha⟩ ⟨y % 4, by omega⟩
  dsimp only at h
  rw [show (a + 256 * y) / 4 = (a / 4 + 64 * (y % 4)) + 256 * (y / 4) by omega, and_byte ha (by omega), and_byte (by omega) (by omega), h]
  omega
theorem pop_go : ∀ (n x : Nat), x < 256 ^ n → st3 (Mk 15 n) (st2 (Mk 51 n) (st1 (Mk 85 n) x)) = cs n x ∧ st2 (Mk 51 n) (st1 (Mk 85 n) x) % 16 ≤ 4
  | 0, x, h => by
    have hx : x = 0 := by omega
    subst hx
    decide
  | n + 1, x, h => by
    have hx : x = x % 256 + 256 * (x / 256) := by omega
    have hlt : x / 256 < 256 ^ n := by
      rw [Nat.pow_succ] at h
      omega
    obtain ⟨i1, i2⟩ := pop_go n (x / 256) hlt
    have ha : x % 256 < 256 := Nat.mod_lt _ (by decide)
    generalize x % 256 = a at hx ha
    generalize hy : x / 256 = y at hx hlt i1 i2
    have t3 := tb3 ⟨a, ha⟩
    dsimp only at t3
    have e2 : st2 (Mk 51 (n + 1)) (st1 (Mk 85 (n + 1)) x) = st2 51 (st1 85 a) + 256 * st2 (Mk 51 n) (st1 (Mk 85 n) y) := by
      rw [hx]
      show st2 (51 + 256 * Mk 51 n) (st1 (85 + 256 * Mk 85 n) (a + 256 * y)) = _
      rw [st1_b ha, st2_b t3.2.2]
    refine ⟨?_, ?_⟩
    · rw [e2]
      generalize hz : st2 (Mk 51 n) (st1 (Mk 85 n) y) = z at i1 i2
      have t4 := tb4 ⟨a, ha⟩ ⟨z % 16, by omega⟩
      dsimp only at t4
      generalize st2 51 (st1 85 a) = q at t3 t4
      show (q + 256 * z + (q + 256 * z) / 16) &&& (15 + 256 * Mk 15 n) = _
      rw [show q + 256 * z + (q + 256 * z) / 16 = (q + q / 16 + 16 * (z % 16)) + 256 * (z + z / 16) by omega, and_byte t4.2 (by omega), t4.1]
      show pcN 8 a + 256 * st3 (Mk 15 n) z = pcN 8 (x % 256) + 256 * cs n (x / 256)
      rw [i1, hy, show x % 256 = a by omega]
    · rw [e2]
      omega
theorem cs_bytes (x : Nat) (h : x < 256 ^ 8) : ∃ c0 c1 c2 c3 c4 c5 c6 c7 : Nat, c0 ≤ 8 ∧ c1 ≤ 8 ∧ c2 ≤ 8 ∧ c3 ≤ 8 ∧ c4 ≤ 8 ∧ c5 ≤ 8 ∧ c6 ≤ 8 ∧ c7 ≤ 8 ∧ cs 8 x = c0 + 256 * (c1 + 256 * (c2 + 256 * (c3 + 256 * (c4 + 256 * (c5 + 256 * (c6 + 256 * c7)))))) ∧ pcN 64 x = c0 + (c1 + (c2 + (c3 + (c4 + (c5 + (c6 + c7)))))) := by
  have e : ∀ y : Nat, y = y % 256 + 256 * (y / 256) := fun y => by omega
  have s : ∀ n y : Nat, pcN (8 + n) y = pcN 8 (y % 256) + pcN n (y / 256) := fun n y => by
    have h1 := pcN_byte n (y % 256) (y / 256) (Nat.mod_lt _ (by decide))
    rwa [← e y] at h1
  refine ⟨pcN 8 (x % 256), pcN 8 (x / 256 % 256), pcN 8 (x / 256 / 256 % 256), pcN 8 (x / 256 / 256 / 256 % 256), pcN 8 (x / 256 / 256 / 256 / 256 % 256), pcN 8 (x / 256 / 256 / 256 / 256 / 256 % 256), pcN 8 (x / 256 / 256 / 256 / 256 / 256 / 256 % 256), pcN 8 (x / 256 / 256 / 256 / 256 / 256 / 256 / 256 % 256), pcN_le 8 _, pcN_le 8 _, pcN_le 8 _, pcN_le 8 _, pcN_le 8 _, pcN_le 8 _, pcN_le 8 _, pcN_le 8 _, ?_, ?_⟩
  · rfl
  · rw [show (64 : Nat) = 8 + 56 from rfl, s 56, show (56 : Nat) = 8 + 48 from rfl, s 48, show (48 : Nat) = 8 + 40 from rfl, s 40, show (40 : Nat) = 8 + 32 from rfl, s 32, show (32 : Nat) = 8 + 24 from rfl, s 24, show (24 : Nat) = 8 + 16 from rfl, s 16, show (16 : Nat) = 8 + 8 from rfl, s 8]
    have e7 : x / 256 / 256 / 256 / 256 / 256 / 256 / 256 % 256 = x / 256 / 256 / 256 / 256 / 256 / 256 / 256 := Nat.mod_eq_of_lt (by omega)
    rw [e7]
/-- the last steps of the count: bytes added up -/
theorem fold_b (i : Nat) (c0 c1 c2 c3 c4 c5 c6 c7 : Nat) (h0 : c0 ≤ 8) (h1 : c1 ≤ 8) (h2 : c2 ≤ 8) (h3 : c3 ≤ 8) (h4 : c4 ≤ 8) (h5 : c5 ≤ 8) (h6 : c6 ≤ 8) (h7 : c7 ≤ 8) (hi : i = c0 + 256 * (c1 + 256 * (c2 + 256 * (c3 + 256 * (c4 + 256 * (c5 + 256 * (c6 + 256 * c7))))))) :
    ((i + i / 256) + (i + i / 256) / 65536 + ((i + i / 256) + (i + i / 256) / 65536) / 4294967296) % 128 = c0 + (c1 + (c2 + (c3 + (c4 + (c5 + (c6 + c7)))))) ∧ i < 2 ^ 60 := by
  have q1 : i / 256 = c1 + 256 * (c2 + 256 * (c3 + 256 * (c4 + 256 * (c5 + 256 * (c6 + 256 * c7))))) := by omega
  have qA : i + i / 256 = (c0 + c1) + 256 * ((c1 + c2) + 256 * ((c2 + c3) + 256 * ((c3 + c4) + 256 * ((c4 + c5) + 256 * ((c5 + c6) + 256 * ((c6 + c7) + 256 * c7)))))) := by rw [q1, hi]; omega
  refine ⟨?_, by omega⟩
  rw [qA]
  clear qA q1 hi
  have q2 : ((c0 + c1) + 256 * ((c1 + c2) + 256 * ((c2 + c3) + 256 * ((c3 + c4) + 256 * ((c4 + c5) + 256 * ((c5 + c6) + 256 * ((c6 + c7) + 256 * c7))))))) / 65536 = (c2 + c3) + 256 * ((c3 + c4) + 256 * ((c4 + c5) + 256 * ((c5 + c6) + 256 * ((c6 + c7) + 256 * c7)))) := by omega
  rw [q2]
  have qB : ((c0 + c1) + 256 * ((c1 + c2) + 256 * ((c2 + c3) + 256 * ((c3 + c4) + 256 * ((c4 + c5) + 256 * ((c5 + c6) + 256 * ((c6 + c7) + 256 * c7))))))) + ((c2 + c3) + 256 * ((c3 + c4) + 256 * ((c4 + c5) + 256 * ((c5 + c6) + 256 * ((c6 + c7) + 256 * c7))))) = (c0 + c1 + c2 + c3) + 256 * ((c1 + c2 + c3 + c4) + 256 * ((c2 + c3 + c4 + c5) + 256 * ((c3 + c4 + c5 + c6) + 256 * ((c4 + c5 + c6 + c7) + 256 * ((c5 + c6 + c7) + 256 * ((c6 + c7) + 256 * c7)))))) := by omega
  rw [qB]
  have q3 : ((c0 + c1 + c2 + c3) + 256 * ((c1 + c2 + c3 + c4) + 256 * ((c2 + c3 + c4 + c5) + 256 * ((c3 + c4 + c5 + c6) + 256 * ((c4 + c5 + c6 + c7) + 256 * ((c5 + c6 + c7) + 256 * ((c6 + c7) + 256 * c7))))))) / 4294967296 = (c4 + c5 + c6 + c7) + 256 * ((c5 + c6 + c7) + 256 * ((c6 + c7) + 256 * c7)) := by omega
  rw [q3]
  clear q2 q3 qB
  generalize (c1 + c2 + c3 + c4) + 256 * ((c2 + c3 + c4 + c5) + 256 * ((c3 + c4 + c5 + c6) + 256 * ((c4 + c5 + c6 + c7) + 256 * ((c5 + c6 + c7) + 256 * ((c6 + c7) + 256 * c7))))) = r1
  generalize (c5 + c6 + c7) + 256 * ((c6 + c7) + 256 * c7) = r2
  omega
def N6 (x : Int64) : Nat := x.toBitVec.toNat
theorem N6_lt (x : Int64) : N6 x < 2 ^ 64 := x.toBitVec.isLt
theorem N6_and (x y : Int64) : N6 (x &&& y) = N6 x &&& N6 y := BitVec.toNat_and x.toBitVec y.toBitVec
theorem N6_add {x y : Int64} (h : N6 x + N6 y < 2 ^ 64) : N6 (x + y) = N6 x + N6 y := by
  show (x.toBitVec + y.toBitVec).toNat = _
  rw [BitVec.toNat_add]
  exact Nat.mod_eq_of_lt h
theorem N6_sub {x y : Int64} (h : N6 y ≤ N6 x) : N6 (x - y) = N6 x - N6 y := by
  show (x.toBitVec - y.toBitVec).toNat = _
  exact BitVec.toNat_sub_of_le h
theorem N6_sr {x : Int64} {k : Int32} {q : Nat} (hk : ((k.toInt64.toUInt64 &&& Int64.toUInt64 63).toBitVec % 64).toNat = q) : N6 (x.toUInt64 >>> (k.toInt64.toUInt64 &&& Int64.toUInt64 63)).toInt64 = N6 x / 2 ^ q := by
  show (x.toBitVec >>> ((k.toInt64.toUInt64 &&& Int64.toUInt64 63).toBitVec % 64)).toNat = _
  rw [BitVec.ushiftRight_eq', BitVec.toNat_ushiftRight, hk, Nat.shiftRight_eq_div_pow]
  rfl
def sr (x : Int64) (k : Int32) : Int64 := (x.toUInt64 >>> (k.toInt64.toUInt64 &&& Int64.toUInt64 63)).toInt64
def bc1 (x : Int64) : Int64 := x - (sr x 1 &&& 6148914691236517205)
def bc2 (x : Int64) : Int64 := (x &&& 3689348814741910323) + (sr x 2 &&& 3689348814741910323)
def bc3 (x : Int64) : Int64 := (x + sr x 4) &&& 1085102592571150095
def bcA (x : Int64) (k : Int32) : Int64 := x + sr x k
theorem bc_def (x : Int64) : F_Long_bitCount x = (bcA (bcA (bcA (bc3 (bc2 (bc1 x))) 8) 16) 32).toInt32 &&& 127 := rfl
theorem low7 (z : Int64) : z.toInt32 &&& 127 = nI (N6 z % 128) := by
  apply Int32.toBitVec.inj
  show (z.toBitVec.signExtend 32) &&& 127#32 = BitVec.ofNat 32 (N6 z % 128)
  apply BitVec.eq_of_getLsbD_eq
  intro i hi
  have h127 : ∀ i : Fin 32, (127#32).getLsbD i.val = decide (i.val < 7) := by decide +kernel
  have hR : (BitVec.ofNat 32 (N6 z % 128)).getLsbD i = (decide (i < 7) && (N6 z).testBit i) := by
    rw [BitVec.getLsbD_ofNat, show (128 : Nat) = 2 ^ 7 from rfl, Nat.testBit_mod_two_pow, decide_eq_true hi, Bool.true_and]
  have h64 : i < 64 := by omega
  rw [hR, BitVec.getLsbD_and, BitVec.getLsbD_signExtend, h127 ⟨i, hi⟩, decide_eq_true hi, if_pos h64, Bool.true_and, Bool.and_comm]
  rfl
theorem bitCount_N (x : Int64) : F_Long_bitCount x = nI (pcN 64 (N6 x)) := by
  have hx : N6 x < 256 ^ 8 := by have := N6_lt x; omega
  have m5 : N6 6148914691236517205 = Mk 85 8 := by decide +kernel
  have m3 : N6 3689348814741910323 = Mk 51 8 := by decide +kernel
  have mf : N6 1085102592571150095 = Mk 15 8 := by decide +kernel
  have v5 : Mk 85 8 = 6148914691236517205 := by decide +kernel
  have v3 : Mk 51 8 = 3689348814741910323 := by decide +kernel
  have vf : Mk 15 8 = 1085102592571150095 := by decide +kernel
  have s1 : N6 (sr x 1) = N6 x / 2 := N6_sr (q := 1) (by decide +kernel)
  have e1 : N6 (bc1 x) = st1 (Mk 85 8) (N6 x) := by
    have h : N6 (sr x 1 &&& 6148914691236517205) = (N6 x / 2) &&& Mk 85 8 := by rw [N6_and, s1, m5]
    unfold bc1
    rw [N6_sub (by rw [h]; exact Nat.le_trans Nat.and_le_left (Nat.div_le_self _ _)), h]
    rfl
  have s2 : N6 (sr (bc1 x) 2) = N6 (bc1 x) / 4 := N6_sr (q := 2) (by decide +kernel)
  have e2 : N6 (bc2 (bc1 x)) = st2 (Mk 51 8) (N6 (bc1 x)) := by
    have ha : N6 (bc1 x &&& 3689348814741910323) = N6 (bc1 x) &&& Mk 51 8 := by rw [N6_and, m3]
    have hb : N6 (sr (bc1 x) 2 &&& 3689348814741910323) = (N6 (bc1 x) / 4) &&& Mk 51 8 := by rw [N6_and, s2, m3]
    have la : N6 (bc1 x) &&& Mk 51 8 ≤ Mk 51 8 := Nat.and_le_right
    have lb : (N6 (bc1 x) / 4) &&& Mk 51 8 ≤ Mk 51 8 := Nat.and_le_right
    rw [v3] at la lb
    unfold bc2
    rw [N6_add (by rw [ha, hb, v3]; omega), ha, hb]
    rfl
  have s3 : N6 (sr (bc2 (bc1 x)) 4) = N6 (bc2 (bc1 x)) / 16 := N6_sr (q := 4) (by decide +kernel)
  have e3 : N6 (bc3 (bc2 (bc1 x))) = st3 (Mk 15 8) (N6 (bc2 (bc1 x))) := by
    have la : N6 (bc1 x) &&& Mk 51 8 ≤ Mk 51 8 := Nat.and_le_right
    have lb : (N6 (bc1 x) / 4) &&& Mk 51 8 ≤ Mk 51 8 := Nat.and_le_right
    have l2 : N6 (bc2 (bc1 x)) ≤ 2 * Mk 51 8 := by
      rw [e2]; unfold st2; omega
    rw [v3] at l2
    unfold bc3
    rw [N6_and, N6_add (by rw [s3]; omega), s3, mf]
    rfl
  have hp := (pop_go 8 (N6 x) hx).1
  have e4 : N6 (bc3 (bc2 (bc1 x))) = cs 8 (N6 x) := by rw [e3, e2, e1, hp]
  obtain ⟨c0, c1, c2, c3, c4, c5, c6, c7, h0, h1, h2, h3, h4, h5, h6, h7, hc, hn⟩ := cs_bytes (N6 x) hx
  rw [bc_def, low7, hn]
  rw [hc] at e4
  generalize bc3 (bc2 (bc1 x)) = z at e4
  obtain ⟨f1, f2⟩ := fold_b (N6 z) c0 c1 c2 c3 c4 c5 c6 c7 h0 h1 h2 h3 h4 h5 h6 h7 e4
  have r1 : N6 (bcA z 8) = N6 z + N6 z / 256 := by
    have s : N6 (sr z 8) = N6 z / 256 := N6_sr (q := 8) (by decide +kernel)
    unfold bcA
    rw [N6_add (by rw [s]; omega), s]
  have r2 : N6 (bcA (bcA z 8) 16) = N6 (bcA z 8) + N6 (bcA z 8) / 65536 := by
    have s : N6 (sr (bcA z 8) 16) = N6 (bcA z 8) / 65536 := N6_sr (q := 16) (by decide +kernel)
    unfold bcA at s ⊢
    rw [N6_add (by rw [s]; unfold bcA at r1; rw [r1]; omega), s]
  have r3 : N6 (bcA (bcA (bcA z 8) 16) 32) = N6 (bcA (bcA z 8) 16) + N6 (bcA (bcA z 8) 16) / 4294967296 := by
    have s : N6 (sr (bcA (bcA z 8) 16) 32) = N6 (bcA (bcA z 8) 16) / 4294967296 := N6_sr (q := 32) (by decide +kernel)
    show N6 (bcA (bcA z 8) 16 + sr (bcA (bcA z 8) 16) 32) = _
    rw [N6_add (by rw [s, r2, r1]; omega), s]
  rw [r3, r2, r1, f1]
/-- how many of the first n are so -/
def cntB (f : Nat → Bool) : Nat → Nat
  | 0 => 0
  | n + 1 => cntB f n + (f n).toNat
theorem cntB_eq {f g : Nat → Bool} : ∀ {n : Nat}, (∀ i, i < n → f i = g i) → cntB f n = cntB g n
  | 0, _ => rfl
  | n + 1, h => by
    show cntB f n + (f n).toNat = cntB g n + (g n).toNat
    rw [cntB_eq (n := n) (fun i hi => h i (by omega)), h n (by omega)]
theorem cntB_le (f : Nat → Bool) : ∀ n : Nat, cntB f n ≤ n
  | 0 => Nat.le_refl _
  | n + 1 => by
    have h1 := cntB_le f n
    have h2 : (f n).toNat ≤ 1 := by cases f n <;> decide
    show cntB f n + (f n).toNat ≤ n + 1
    omega
theorem cntB_ext {f : Nat → Bool} {m : Nat} : ∀ n : Nat, m ≤ n → (∀ i, m ≤ i → i < n → f i = false) → cntB f n = cntB f m
  | 0, h, _ => by rw [show m = 0 by omega]
  | n + 1, h, hz => by
    rcases Nat.lt_or_ge m (n + 1) with h1 | h1
    · show cntB f n + (f n).toNat = cntB f m
      rw [cntB_ext n (by omega) (fun i a b => hz i a (by omega)), hz n (by omega) (by omega)]
      rfl
    · rw [show m = n + 1 by omega]
theorem pcN_cnt : ∀ n x : Nat, pcN n x = cntB (fun i => x.testBit i) n
  | 0, _ => rfl
  | n + 1, x => by
    show pcN n x + _ = cntB _ n + _
    rw [pcN_cnt n x]
/-- bits of longs, counted -/
theorem bitCount_b6 (x : Int64) : F_Long_bitCount x = nI (cntB (b6 x) 64) := by
  rw [bitCount_N, pcN_cnt]
  rfl
theorem bitCount_48 {x : Int64} (h : ∀ i, 48 ≤ i → b6 x i = false) : F_Long_bitCount x = nI (cntB (b6 x) 48) := by
  rw [bitCount_b6, cntB_ext 64 (by omega : 48 ≤ 64) (fun i a _ => h i a)]
