def hf6 (a b c d e f : Option Nat) : Nat → Option Nat
  | 0 => a
  | 1 => b
  | 2 => c
  | 3 => d
  | 4 => e
  | _ => f
theorem rq_at {D : va_G} {cl : List vw_C} {ws : va_W} {H : Heap} {k a n : Nat} {cA : ClassId} {f g : Nat → Option Nat} (hP : va_P D cl ws H) (hk : ws[k]? = some (a, .inl (cA, n, .inr (.inr (.inr (.inr f)))))) (h : ∀ j, j < n → f j = g j) : va_P D cl (ws.set k (a, .inl (cA, n, .inr (.inr (.inr (.inr g)))))) H := by
  have hl := (List.getElem?_eq_some_iff.mp hk).1
  intro i q hq
  by_cases hi : i = k
  · subst hi
    rw [List.getElem?_set_self hl] at hq
    cases hq
    show H[a]? = some (vp_cell _ _)
    rw [show vp_cell cA (n, .inr (.inr (.inr (.inr g)))) = arrV cA n (fun j => va_rf (g j)) from rfl, ← rw_arr (f := fun j => va_rf (f j)) (fun j hj => by rw [h j hj])]
    exact hP i _ hk
  · rw [List.getElem?_set_ne (Ne.symm hi)] at hq
    exact hP i q hq
theorem pad_room {r ln : Int32} {mm L0 : Nat} (e1 : r = nI mm) (h1 : mm ≤ 8) (e2 : ln = nI L0) (h2 : L0 ≤ 80) (c : r ≤ 80 - ln) : L0 + mm ≤ 80 := by
  rw [e1, e2, show (80 : Int32) - nI L0 = nI (80 - L0) from pk_sub (a := 80) h2] at c
  have := (nI_leI (by omega) (by omega)).mp c
  omega
/-- a counter that goes down to 0 -/
theorem dn_lt {x : Int32} {mm k : Nat} (e : x = nI (mm - k) - 1) (hk : k ≤ mm) (hm : mm < 2 ^ 30) (c : ¬ x < 0) : k < mm := by
  rcases Nat.lt_or_ge k mm with h | h
  · exact h
  · have h0 : mm - k = 0 := by omega
    rw [h0] at e
    exact absurd (by rw [e]; decide) c
theorem dn_step {x : Int32} {mm k : Nat} (e : x = nI (mm - k) - 1) (hk : k < mm) : x + (-1) = nI (mm - (k + 1)) - 1 := by
  rw [e, show mm - k = (mm - (k + 1)) + 1 by omega, nI_pred, Int32.sub_eq_add_neg]
theorem va_same {s : State} {c1 c2 : ClassId} {ty : FieldType} (h1 : va_RA s c1 ty) (h2 : va_RA s c2 ty) : c1 = c2 := by
  cases ty with
  | object C =>
    obtain ⟨_, _, _, _, _, h3⟩ := h1
    obtain ⟨_, _, _, _, _, h4⟩ := h2
    exact Option.some.inj (h3.symm.trans h4)
  | _ => exact Option.some.inj (Eq.trans (Eq.symm h1) h2)
