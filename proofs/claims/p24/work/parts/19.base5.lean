-- a game's state in one value: 18 ints, 3 longs, 4 arrays
abbrev GS : Type := (Nat → Int32) × (Nat → Int64) × (Nat → Nat → Int32)
def gI (a0 a1 a2 a3 a4 a5 a6 a7 a8 a9 a10 a11 a12 a13 a14 a15 a16 a17 : Int32) : Nat → Int32
  | 0 => a0
  | 1 => a1
  | 2 => a2
  | 3 => a3
  | 4 => a4
  | 5 => a5
  | 6 => a6
  | 7 => a7
  | 8 => a8
  | 9 => a9
  | 10 => a10
  | 11 => a11
  | 12 => a12
  | 13 => a13
  | 14 => a14
  | 15 => a15
  | 16 => a16
  | _ => a17
def gJ (a b c : Int64) : Nat → Int64
  | 0 => a
  | 1 => b
  | _ => c
def gA (a b c d : Nat → Int32) : Nat → Nat → Int32
  | 0 => a
  | 1 => b
  | 2 => c
  | _ => d
def mkGS (nx tn : Int32) (gn ac dn : Int64) (fs fm : Nat → Int32) (i2 i3 i4 i5 i6 i7 i8 i9 : Int32) (f0 : Nat → Int32) (i10 i11 i12 i13 i14 i15 i16 i17 : Int32) (f1 : Nat → Int32) : GS :=
  (gI nx tn i2 i3 i4 i5 i6 i7 i8 i9 i10 i11 i12 i13 i14 i15 i16 i17, gJ gn ac dn, gA fs fm f0 f1)
def ch16 (v : Int32) : Prop := narrow .char (.int v) = .int v
theorem nn_of3 {x : Int32} (c : ¬ x < 0) : 0 ≤ x.toInt := by
  rw [Int32.lt_iff_toInt_lt] at c
  have e : (0 : Int32).toInt = 0 := rfl
  omega
theorem lp_lt3 {x N : Int32} {k n : Nat} (hN : N = nI n) (ex : x = nI k) (hn : n ≤ 80) (hk : k ≤ n + 1) (c : ¬ N < x) : k < n + 1 := by
  rcases Nat.lt_or_ge k (n + 1) with h | h
  · exact h
  · refine absurd ?_ c
    have e : k = n + 1 := by omega
    rw [hN, ex, e, Int32.lt_iff_toInt_lt, nI_toInt (by omega), nI_toInt (by omega)]
    omega
