/-- a game's own cell, and the rest of it -/
def gh (a : Nat → Nat) (S : GS) : va_W := [((a 0), .inr (1, [.ref (a 1), .ref (a 4), .ref (a 6), .int (S.1 0), .int (S.1 1)]))]
def gr (cI : ClassId) (a : Nat → Nat) (S : GS) : va_W := [((a 1), .inr (0, [.ref (a 2), .ref (a 3), .long (S.2.1 0), .long (S.2.1 1), .long (S.2.1 2)])), ((a 2), .inl (cI, 82, .inl (S.2.2 0))), ((a 3), .inl (cI, 82, .inl (S.2.2 1))), ((a 4), .inr (5, [.ref (a 5), .int (S.1 2), .int (S.1 3), .int (S.1 4), .int (S.1 5), .int (S.1 6), .int (S.1 7), .int (S.1 8), .int (S.1 9)])), ((a 5), .inl (cI, 8, .inl (S.2.2 2))), ((a 6), .inr (5, [.ref (a 7), .int (S.1 10), .int (S.1 11), .int (S.1 12), .int (S.1 13), .int (S.1 14), .int (S.1 15), .int (S.1 16), .int (S.1 17)])), ((a 7), .inl (cI, 8, .inl (S.2.2 3)))]
def tcB (ad : Nat → Nat → Nat) : va_W := [(ad 0 0, .inr (6, [.ref (ad 1 0), .ref (ad 2 0), .ref (ad 11 0), .ref (ad 13 0), .ref (ad 15 0)]))]
def hiB (ad pa : Nat → Nat → Nat) (k : Int32) : va_W := [(ad 2 0, .inr (2, [.ref (ad 3 0), .int k, .ref (pa 6 0)]))]
def arB (cG : ClassId) (ad pa : Nat → Nat → Nat) : va_W := [(ad 3 0, .inl (cG, 6, .inr (.inr (.inr (.inr (hf6 (some (pa 0 0)) (some (pa 1 0)) (some (pa 2 0)) (some (pa 3 0)) (some (pa 4 0)) (some (pa 5 0))))))))]
def slB (a b : Nat) (f : Int32) : va_W := [(a, .inr (4, [.ref b, .int f]))]
def pdB (ad : Nat → Nat → Nat) (n : Int32) : va_W := [(ad 15 0, .inr (3, [.ref (ad 15 1), .int n]))]
def psB (cC : ClassId) (ad : Nat → Nat → Nat) (f : Nat → Int32) : va_W := [(ad 15 1, .inl (cC, 80, .inl f))]
/-- an object: its game, how many states are kept, these and the noted one, the slots, the pad -/
abbrev XS : Type := GS × Nat × (Nat → GS) × (Nat → Int32) × (Nat → GS) × Int32 × (Nat → Int32)
def xW (cI cC cG : ClassId) (ad pa : Nat → Nat → Nat) (x : XS) : List va_W := [tcB ad, gh (ad 1) x.1, gr cI (ad 1) x.1, hiB ad pa (nI x.2.1), arB cG ad pa, gh (pa 0) (x.2.2.1 0), gr cI (pa 0) (x.2.2.1 0), gh (pa 1) (x.2.2.1 1), gr cI (pa 1) (x.2.2.1 1), gh (pa 2) (x.2.2.1 2), gr cI (pa 2) (x.2.2.1 2), gh (pa 3) (x.2.2.1 3), gr cI (pa 3) (x.2.2.1 3), gh (pa 4) (x.2.2.1 4), gr cI (pa 4) (x.2.2.1 4), gh (pa 5) (x.2.2.1 5), gr cI (pa 5) (x.2.2.1 5), gh (pa 6) (x.2.2.1 6), gr cI (pa 6) (x.2.2.1 6), slB (ad 11 0) (ad 12 0) (x.2.2.2.1 0), gh (ad 12) (x.2.2.2.2.1 0), gr cI (ad 12) (x.2.2.2.2.1 0), slB (ad 13 0) (ad 14 0) (x.2.2.2.1 1), gh (ad 14) (x.2.2.2.2.1 1), gr cI (ad 14) (x.2.2.2.2.1 1), pdB ad x.2.2.2.2.2.1, psB cC ad x.2.2.2.2.2.2]
def v7 (a b c d e f g : GS) : Nat → GS
  | 0 => a
  | 1 => b
  | 2 => c
  | 3 => d
  | 4 => e
  | 5 => f
  | _ => g
def g2 (a b : GS) : Nat → GS
  | 0 => a
  | _ => b
def f2 (a b : Int32) : Nat → Int32
  | 0 => a
  | _ => b
def noteV (S : GS) (V : Nat → GS) : Nat → GS := v7 (V 0) (V 1) (V 2) (V 3) (V 4) (V 5) S
/-- what is kept, behind the keeping of the noted one -/
def keepX : Nat → (Nat → GS) → Nat × (Nat → GS)
  | 0, V => (1, v7 (V 6) (V 1) (V 2) (V 3) (V 4) (V 5) (V 0))
  | 1, V => (2, v7 (V 0) (V 6) (V 2) (V 3) (V 4) (V 5) (V 1))
  | 2, V => (3, v7 (V 0) (V 1) (V 6) (V 3) (V 4) (V 5) (V 2))
  | 3, V => (4, v7 (V 0) (V 1) (V 2) (V 6) (V 4) (V 5) (V 3))
  | 4, V => (5, v7 (V 0) (V 1) (V 2) (V 3) (V 6) (V 5) (V 4))
  | 5, V => (6, v7 (V 0) (V 1) (V 2) (V 3) (V 4) (V 6) (V 5))
  | _, V => (6, v7 (V 1) (V 2) (V 3) (V 4) (V 5) (V 6) (V 0))
def obyR (o j : Int32) (S : GS) := F_Game_obey o j (S.1 0) (S.1 1) (S.2.1 0) (S.2.1 1) (S.2.1 2) (S.2.2 0) (S.2.2 1) (S.1 2) (S.1 3) (S.1 4) (S.1 5) (S.1 6) (S.1 7) (S.1 8) (S.1 9) (S.2.2 2) (S.1 10) (S.1 11) (S.1 12) (S.1 13) (S.1 14) (S.1 15) (S.1 16) (S.1 17) (S.2.2 3)
def oby (o j : Int32) (S : GS) : Int32 × GS := ((obyR o j S).1, mkGS (obyR o j S).2.1 (obyR o j S).2.2.1 (obyR o j S).2.2.2.1 (obyR o j S).2.2.2.2.1 (obyR o j S).2.2.2.2.2.1 (obyR o j S).2.2.2.2.2.2.1 (obyR o j S).2.2.2.2.2.2.2.1 (obyR o j S).2.2.2.2.2.2.2.2.1 (obyR o j S).2.2.2.2.2.2.2.2.2.1 (obyR o j S).2.2.2.2.2.2.2.2.2.2.1 (obyR o j S).2.2.2.2.2.2.2.2.2.2.2.1 (obyR o j S).2.2.2.2.2.2.2.2.2.2.2.2.1 (obyR o j S).2.2.2.2.2.2.2.2.2.2.2.2.2.1 (obyR o j S).2.2.2.2.2.2.2.2.2.2.2.2.2.2.1 (obyR o j S).2.2.2.2.2.2.2.2.2.2.2.2.2.2.2.1 (obyR o j S).2.2.2.2.2.2.2.2.2.2.2.2.2.2.2.2.1 (obyR o j S).2.2.2.2.2.2.2.2.2.2.2.2.2.2.2.2.2.1 (obyR o j S).2.2.2.2.2.2.2.2.2.2.2.2.2.2.2.2.2.2.1 (obyR o j S).2.2.2.2.2.2.2.2.2.2.2.2.2.2.2.2.2.2.2.1 (obyR o j S).2.2.2.2.2.2.2.2.2.2.2.2.2.2.2.2.2.2.2.2.1 (obyR o j S).2.2.2.2.2.2.2.2.2.2.2.2.2.2.2.2.2.2.2.2.2.1 (obyR o j S).2.2.2.2.2.2.2.2.2.2.2.2.2.2.2.2.2.2.2.2.2.2.1 (obyR o j S).2.2.2.2.2.2.2.2.2.2.2.2.2.2.2.2.2.2.2.2.2.2.2.1 (obyR o j S).2.2.2.2.2.2.2.2.2.2.2.2.2.2.2.2.2.2.2.2.2.2.2.2.1 (obyR o j S).2.2.2.2.2.2.2.2.2.2.2.2.2.2.2.2.2.2.2.2.2.2.2.2.2)
def X_note (x : XS) : XS := (x.1, x.2.1, noteV x.1 x.2.2.1, x.2.2.2)
def X_keep (x : XS) : XS := (x.1, (keepX x.2.1 x.2.2.1).1, (keepX x.2.1 x.2.2.1).2, x.2.2.2)
def X_obey (o j : Int32) (x : XS) : Int32 × XS := ((oby o j x.1).1, (oby o j x.1).2, x.2)
def goK : Nat → XS → Int32 × XS
  | 0, x => (-5, x)
  | k + 1, x => (nI k, (x.2.2.1 k, k, x.2.2))
def X_goBack (x : XS) : Int32 × XS := goK x.2.1 x
def X_fill0 (x : XS) : XS := (x.1, x.2.1, x.2.2.1, f2 1 (x.2.2.2.1 1), g2 x.1 (x.2.2.2.2.1 1), x.2.2.2.2.2)
def X_become0 (x : XS) : XS := (x.2.2.2.2.1 0, x.2)
def X_fill1 (x : XS) : XS := (x.1, x.2.1, x.2.2.1, f2 (x.2.2.2.1 0) 1, g2 (x.2.2.2.2.1 0) x.1, x.2.2.2.2.2)
def X_become1 (x : XS) : XS := (x.2.2.2.2.1 1, x.2)
def X_clear (x : XS) : XS := (x.1, x.2.1, x.2.2.1, x.2.2.2.1, x.2.2.2.2.1, 0, x.2.2.2.2.2.2)
def obpR (x : XS) := F_TC_obeyPad (x.1.1 0) (x.1.1 1) (x.1.2.1 0) (x.1.2.1 1) (x.1.2.1 2) (x.1.2.2 0) (x.1.2.2 1) (x.1.1 2) (x.1.1 3) (x.1.1 4) (x.1.1 5) (x.1.1 6) (x.1.1 7) (x.1.1 8) (x.1.1 9) (x.1.2.2 2) (x.1.1 10) (x.1.1 11) (x.1.1 12) (x.1.1 13) (x.1.1 14) (x.1.1 15) (x.1.1 16) (x.1.1 17) (x.1.2.2 3) x.2.2.2.2.2.1 x.2.2.2.2.2.2
def X_obeyPad (x : XS) : Int32 × XS := ((obpR x).1, (mkGS (obpR x).2.1 (obpR x).2.2.1 (obpR x).2.2.2.1 (obpR x).2.2.2.2.1 (obpR x).2.2.2.2.2.1 (obpR x).2.2.2.2.2.2.1 (obpR x).2.2.2.2.2.2.2.1 (obpR x).2.2.2.2.2.2.2.2.1 (obpR x).2.2.2.2.2.2.2.2.2.1 (obpR x).2.2.2.2.2.2.2.2.2.2.1 (obpR x).2.2.2.2.2.2.2.2.2.2.2.1 (obpR x).2.2.2.2.2.2.2.2.2.2.2.2.1 (obpR x).2.2.2.2.2.2.2.2.2.2.2.2.2.1 (obpR x).2.2.2.2.2.2.2.2.2.2.2.2.2.2.1 (obpR x).2.2.2.2.2.2.2.2.2.2.2.2.2.2.2.1 (obpR x).2.2.2.2.2.2.2.2.2.2.2.2.2.2.2.2.1 (obpR x).2.2.2.2.2.2.2.2.2.2.2.2.2.2.2.2.2.1 (obpR x).2.2.2.2.2.2.2.2.2.2.2.2.2.2.2.2.2.2.1 (obpR x).2.2.2.2.2.2.2.2.2.2.2.2.2.2.2.2.2.2.2.1 (obpR x).2.2.2.2.2.2.2.2.2.2.2.2.2.2.2.2.2.2.2.2.1 (obpR x).2.2.2.2.2.2.2.2.2.2.2.2.2.2.2.2.2.2.2.2.2.1 (obpR x).2.2.2.2.2.2.2.2.2.2.2.2.2.2.2.2.2.2.2.2.2.2.1 (obpR x).2.2.2.2.2.2.2.2.2.2.2.2.2.2.2.2.2.2.2.2.2.2.2.1 (obpR x).2.2.2.2.2.2.2.2.2.2.2.2.2.2.2.2.2.2.2.2.2.2.2.2.1 (obpR x).2.2.2.2.2.2.2.2.2.2.2.2.2.2.2.2.2.2.2.2.2.2.2.2.2, x.2))
