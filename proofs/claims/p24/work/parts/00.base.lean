-- my own rows over the kit: read-only contracts (the heap stays), writing contracts (the same cells, other contents), calls of both
/-- no cell may change -/
def ro_F : Nat → Prop := fun _ => False
def ro_P (D : va_G) (cl : List vw_C) (tys : List (ClassId × FieldType)) (ws : va_W) : State → Prop := fun U => va_P D cl ws U.heap ∧ va_K D cl tys U
/-- the cells of a world may change, nothing else -/
def wr_A (ws : va_W) : Nat → Prop := fun q => ∃ (k : Nat) (e : va_E), ws[k]? = some (q, e)
def wr_P (D : va_G) (cl : List vw_C) (tys : List (ClassId × FieldType)) (ws : va_W) : State → Prop := fun U => va_P D cl ws U.heap ∧ va_K D cl tys U ∧ va_D (fun _ => True) ws
theorem wr_self {ws : va_W} {A : Nat → Prop} (h : va_D A ws) : va_D (wr_A ws) ws := ⟨h.1, fun k q hk => ⟨k, q.2, hk⟩⟩
theorem wr_top {ws : va_W} {A : Nat → Prop} (h : va_D A ws) : va_D (fun _ => True) ws := ⟨h.1, fun _ _ _ => trivial⟩
theorem ro_preS {s : State} {H : Heap} {D : va_G} {cl : List vw_C} {tys : List (ClassId × FieldType)} {ws : va_W} {av : List Value} (hP : va_P D cl ws H) (hK : va_K D cl tys s) : PreS s H (va_Pc av (ro_P D cl tys ws)) av :=
  ⟨fun a U g mk q => ⟨q.1, q.2.1, va_K.moved (u := U) (U := U.calling g mk a) (Vm.Alike.refl U.vm) q.2.2⟩, fun U hU hW => ⟨rfl, by rw [hU]; exact hP, va_K.moved hW.alike hK⟩⟩
theorem wr_preS {s : State} {H : Heap} {D : va_G} {cl : List vw_C} {tys : List (ClassId × FieldType)} {ws : va_W} {av : List Value} {A : Nat → Prop} (hP : va_P D cl ws H) (hK : va_K D cl tys s) (hD : va_D A ws) : PreS s H (va_Pc av (wr_P D cl tys ws)) av :=
  ⟨fun a U g mk q => ⟨q.1, q.2.1, va_K.moved (u := U) (U := U.calling g mk a) (Vm.Alike.refl U.vm) q.2.2.1, q.2.2.2⟩, fun U hU hW => ⟨rfl, by rw [hU]; exact hP, va_K.moved hW.alike hK, wr_top hD⟩⟩
theorem ro_preV {s : State} {H : Heap} {D : va_G} {cl : List vw_C} {tys : List (ClassId × FieldType)} {ws : va_W} {b : Nat} {As : List Value} {ci q0 : Nat} {q : vw_C} {fs : List Value} (hP : va_P D cl ws H) (hK : va_K D cl tys s) (hc : cl[ci]? = some q) (he : ws[q0]? = some (b, .inr (ci, fs))) : PreV s H q.1 b (va_Pc (.ref b :: As) (ro_P D cl tys ws)) As :=
  ⟨fun a U g mk q => ⟨q.1, q.2.1, va_K.moved (u := U) (U := U.calling g mk a) (Vm.Alike.refl U.vm) q.2.2⟩, va_recv hK hP hc he, fun U hU hW => ⟨rfl, by rw [hU]; exact hP, va_K.moved hW.alike hK⟩⟩
theorem wr_preV {s : State} {H : Heap} {D : va_G} {cl : List vw_C} {tys : List (ClassId × FieldType)} {ws : va_W} {b : Nat} {As : List Value} {A : Nat → Prop} {ci q0 : Nat} {q : vw_C} {fs : List Value} (hP : va_P D cl ws H) (hK : va_K D cl tys s) (hD : va_D A ws) (hc : cl[ci]? = some q) (he : ws[q0]? = some (b, .inr (ci, fs))) : PreV s H q.1 b (va_Pc (.ref b :: As) (wr_P D cl tys ws)) As :=
  ⟨fun a U g mk q => ⟨q.1, q.2.1, va_K.moved (u := U) (U := U.calling g mk a) (Vm.Alike.refl U.vm) q.2.2.1, q.2.2.2⟩, va_recv hK hP hc he, fun U hU hW => ⟨rfl, by rw [hU]; exact hP, va_K.moved hW.alike hK, wr_top hD⟩⟩
/-- the cells of w1 put at the places of a world -/
def pl_put (ws : va_W) : List Nat → va_W → va_W
  | i :: is, q :: qs => pl_put (ws.set i q) is qs
  | _, _ => ws
theorem pl_put_spec : ∀ (is : List Nat) (w1 ws : va_W) (k : Nat) (q : Nat × va_E), (pl_put ws is w1)[k]? = some q → (∃ j : Nat, is[j]? = some k ∧ w1[j]? = some q) ∨ (ws[k]? = some q ∧ (is.length = w1.length → k ∉ is))
  | [], w1, ws, k, q, h => Or.inr ⟨by simpa [pl_put] using h, fun _ => List.not_mem_nil⟩
  | i :: is, [], ws, k, q, h => Or.inr ⟨by simpa [pl_put] using h, fun hl => by simp at hl⟩
  | i :: is, a :: w1, ws, k, q, h => by
    have h : (pl_put (ws.set i a) is w1)[k]? = some q := h
    rcases pl_put_spec is w1 (ws.set i a) k q h with ⟨j, h1, h2⟩ | ⟨h1, h2⟩
    · exact Or.inl ⟨j + 1, by simpa using h1, by simpa using h2⟩
    · by_cases hk : i = k
      · subst hk
        have hl : i < ws.length := by
          have := (List.getElem?_eq_some_iff.mp h1).1
          simpa using this
        rw [List.getElem?_set_self hl] at h1
        exact Or.inl ⟨0, rfl, by simpa using h1⟩
      · rw [List.getElem?_set_ne hk] at h1
        refine Or.inr ⟨h1, fun hl hm => ?_⟩
        rcases List.mem_cons.mp hm with e | hm
        · exact hk e.symm
        · exact h2 (by simpa using hl) hm
theorem va_D_fst {A : Nat → Prop} {ws ws' : va_W} (hD : va_D A ws) (h : ws'.map Prod.fst = ws.map Prod.fst) : va_D A ws' := by
  have key : ∀ (k : Nat) (q : Nat × va_E), ws'[k]? = some q → ∃ q0, ws[k]? = some q0 ∧ q0.1 = q.1 := by
    intro k q hk
    have h1 : (ws.map Prod.fst)[k]? = some q.1 := by rw [← h, List.getElem?_map, hk]; rfl
    rw [List.getElem?_map] at h1
    cases hw : ws[k]? with
    | none => rw [hw] at h1; cases h1
    | some q0 => rw [hw] at h1; exact ⟨q0, rfl, Option.some.inj h1⟩
  refine ⟨fun i j x y hi hj hxy => ?_, fun k q hk => ?_⟩
  · obtain ⟨x0, h1, h2⟩ := key i x hi
    obtain ⟨y0, h3, h4⟩ := key j y hj
    exact hD.1 i j x0 y0 h1 h3 (h2.trans (hxy.trans h4.symm))
  · obtain ⟨q0, h1, h2⟩ := key k q hk
    rw [← h2]
    exact hD.2 k q0 h1
theorem wr_in {A0 : Nat → Prop} {wsC ws : va_W} {is : List Nat} (hD : va_D A0 wsC) (hC : is.map (fun i => wsC[i]?) = ws.map some) : ∀ q, wr_A ws q → ∃ i : Nat, ∃ e, i ∈ is ∧ wsC[i]? = some (q, e) := by
  rintro q ⟨k, e, h⟩
  have h1 : (is.map (fun i => wsC[i]?))[k]? = some (some (q, e)) := by rw [hC, List.getElem?_map, h]; rfl
  rw [List.getElem?_map] at h1
  cases hi : is[k]? with
  | none => rw [hi] at h1; cases h1
  | some i => rw [hi] at h1; exact ⟨i, e, List.mem_of_getElem? hi, Option.some.inj h1⟩
theorem wr_join {A0 : Nat → Prop} {D : va_G} {cl : List vw_C} {wsC ws w1 : va_W} {H H1 : Heap} {is : List Nat} (hP : va_P D cl wsC H) (hD : va_D A0 wsC) (hC : is.map (fun i => wsC[i]?) = ws.map some) (hl : is.length = w1.length)
    (hk : ∀ q : Nat, q < H.size → ¬ wr_A ws q → H1[q]? = H[q]?) (hP1 : va_P D cl w1 H1) : va_P D cl (pl_put wsC is w1) H1 := by
  intro k q hq
  rcases pl_put_spec is w1 wsC k q hq with ⟨j, h1, h2⟩ | ⟨h1, h2⟩
  · exact hP1 j q h2
  · refine (hP k q h1).kept (hk q.1 (hP k q h1).lt (fun h => ?_))
    obtain ⟨i, e, hi, he⟩ := wr_in hD hC q.1 h
    have := hD.1 k i q (q.1, e) h1 he rfl
    subst this
    exact h2 hl hi
section RW
variable {p : Program} {l : Launch} {e : Env} {R : Room} {s : State} {m : MethodId} {args : Array Value} {below : List Frame} {meth : Method} {c : Code} {H : Heap} {locs : List Loc} {cells slots : Nat} {Q : State → Prop}
variable {pc : Nat} {ls : Array Slot} {rest st0 : List Value} {a : Array Value} {A0 : Nat → Prop} {H0 : Heap} {D : va_G} {cl : List vw_C} {ws w1 wsC : va_W}
theorem ro_calli {res : Int32} (hr : va_Run p l e R s m args below meth c H locs cells slots 0 0 (F0 m pc ls st0) rest (va_Qi (fun r (_ : Unit) => r = res) (fun _ _ => True) ro_F a) ro_F) (hP : va_P D cl wsC H) (hS : va_S A0 H0 H locs)
    (kk : ∀ (H1 : Heap) (locs1 : List Loc), va_P D cl wsC H1 → va_S A0 H0 H1 locs1 → W p l e R s m args below meth c H1 locs1 cells slots Q (F0 m (pc + 3) ls (.int res :: rest))) : W p l e R s m args below meth c H locs cells slots Q (F0 m pc ls st0) :=
  va_calli hr hS (fun q _ h => False.elim h) (fun q h => False.elim h) (fun r u t H1 locs1 ht hvm hw hB hz hk hS1 => by subst hw; exact kk H1 locs1 (hP.kept (fun k q hq => hk q.1 (hP k q hq).lt (fun h => h))) hS1)
theorem ro_calll {res : Int64} (hr : va_Run p l e R s m args below meth c H locs cells slots 0 0 (F0 m pc ls st0) rest (va_Ql (fun r (_ : Unit) => r = res) (fun _ _ => True) ro_F a) ro_F) (hP : va_P D cl wsC H) (hS : va_S A0 H0 H locs)
    (kk : ∀ (H1 : Heap) (locs1 : List Loc), va_P D cl wsC H1 → va_S A0 H0 H1 locs1 → W p l e R s m args below meth c H1 locs1 cells slots Q (F0 m (pc + 3) ls (.long res :: rest))) : W p l e R s m args below meth c H locs cells slots Q (F0 m pc ls st0) :=
  va_calll hr hS (fun q _ h => False.elim h) (fun q h => False.elim h) (fun r u t H1 locs1 ht hvm hw hB hz hk hS1 => by subst hw; exact kk H1 locs1 (hP.kept (fun k q hq => hk q.1 (hP k q hq).lt (fun h => h))) hS1)
theorem ro_callr {res : Nat} (hr : va_Run p l e R s m args below meth c H locs cells slots 0 0 (F0 m pc ls st0) rest (va_Qr (fun (_ : Unit) => True) (fun _ b _ => b = res) ro_F a) ro_F) (hP : va_P D cl wsC H) (hS : va_S A0 H0 H locs)
    (kk : ∀ (H1 : Heap) (locs1 : List Loc), va_P D cl wsC H1 → va_S A0 H0 H1 locs1 → W p l e R s m args below meth c H1 locs1 cells slots Q (F0 m (pc + 3) ls (.ref res :: rest))) : W p l e R s m args below meth c H locs cells slots Q (F0 m pc ls st0) :=
  va_callr hr hS (fun q _ h => False.elim h) (fun q h => False.elim h) (fun u ra t H1 locs1 ht hvm hw hB hz hk hS1 => by subst hB; exact kk H1 locs1 (hP.kept (fun k q hq => hk q.1 (hP k q hq).lt (fun h => h))) hS1)
theorem wr_calli {res : Int32} {is : List Nat} (hr : va_Run p l e R s m args below meth c H locs cells slots 0 0 (F0 m pc ls st0) rest (va_Qi (fun r (_ : Unit) => r = res) (fun _ t => va_P D cl w1 t.heap) (wr_A ws) a) (wr_A ws)) (hP : va_P D cl wsC H) (hD : va_D A0 wsC) (hS : va_S A0 H0 H locs)
    (hC : is.map (fun i => wsC[i]?) = ws.map some) (hl : is.length = w1.length) (hf : (pl_put wsC is w1).map Prod.fst = wsC.map Prod.fst)
    (kk : ∀ (H1 : Heap) (locs1 : List Loc), va_P D cl (pl_put wsC is w1) H1 → va_D A0 (pl_put wsC is w1) → va_S A0 H0 H1 locs1 → W p l e R s m args below meth c H1 locs1 cells slots Q (F0 m (pc + 3) ls (.int res :: rest))) : W p l e R s m args below meth c H locs cells slots Q (F0 m pc ls st0) := by
  have hin : ∀ q, wr_A ws q → A0 q := fun q h => by
    obtain ⟨i, e, -, he⟩ := wr_in hD hC q h
    exact hD.2 i (q, e) he
  refine va_calli hr hS (fun q _ h => hin q h) hin (fun r u t H1 locs1 ht hvm hw hB hz hk hS1 => ?_)
  subst hw
  exact kk H1 locs1 (wr_join hP hD hC hl hk (by rw [ht] at hB; exact hB)) (va_D_fst hD hf) hS1
theorem wr_calll {res : Int64} {is : List Nat} (hr : va_Run p l e R s m args below meth c H locs cells slots 0 0 (F0 m pc ls st0) rest (va_Ql (fun r (_ : Unit) => r = res) (fun _ t => va_P D cl w1 t.heap) (wr_A ws) a) (wr_A ws)) (hP : va_P D cl wsC H) (hD : va_D A0 wsC) (hS : va_S A0 H0 H locs)
    (hC : is.map (fun i => wsC[i]?) = ws.map some) (hl : is.length = w1.length) (hf : (pl_put wsC is w1).map Prod.fst = wsC.map Prod.fst)
    (kk : ∀ (H1 : Heap) (locs1 : List Loc), va_P D cl (pl_put wsC is w1) H1 → va_D A0 (pl_put wsC is w1) → va_S A0 H0 H1 locs1 → W p l e R s m args below meth c H1 locs1 cells slots Q (F0 m (pc + 3) ls (.long res :: rest))) : W p l e R s m args below meth c H locs cells slots Q (F0 m pc ls st0) := by
  have hin : ∀ q, wr_A ws q → A0 q := fun q h => by
    obtain ⟨i, e, -, he⟩ := wr_in hD hC q h
    exact hD.2 i (q, e) he
  refine va_calll hr hS (fun q _ h => hin q h) hin (fun r u t H1 locs1 ht hvm hw hB hz hk hS1 => ?_)
  subst hw
  exact kk H1 locs1 (wr_join hP hD hC hl hk (by rw [ht] at hB; exact hB)) (va_D_fst hD hf) hS1
theorem wr_callv {is : List Nat} (hr : va_Run p l e R s m args below meth c H locs cells slots 0 0 (F0 m pc ls st0) rest (va_Qv (fun (_ : Unit) => True) (fun _ t => va_P D cl w1 t.heap) (wr_A ws) a) (wr_A ws)) (hP : va_P D cl wsC H) (hD : va_D A0 wsC) (hS : va_S A0 H0 H locs)
    (hC : is.map (fun i => wsC[i]?) = ws.map some) (hl : is.length = w1.length) (hf : (pl_put wsC is w1).map Prod.fst = wsC.map Prod.fst)
    (kk : ∀ (H1 : Heap) (locs1 : List Loc), va_P D cl (pl_put wsC is w1) H1 → va_D A0 (pl_put wsC is w1) → va_S A0 H0 H1 locs1 → W p l e R s m args below meth c H1 locs1 cells slots Q (F0 m (pc + 3) ls rest)) : W p l e R s m args below meth c H locs cells slots Q (F0 m pc ls st0) := by
  have hin : ∀ q, wr_A ws q → A0 q := fun q h => by
    obtain ⟨i, e, -, he⟩ := wr_in hD hC q h
    exact hD.2 i (q, e) he
  refine va_callv hr hS (fun q _ h => hin q h) hin (fun u t H1 locs1 ht hvm hw hB hz hk hS1 => ?_)
  exact kk H1 locs1 (wr_join hP hD hC hl hk (by rw [ht] at hB; exact hB)) (va_D_fst hD hf) hS1
end RW
/-- an array may be told by any function that agrees below its length -/
theorem rw_arr {cI : ClassId} {n : Nat} {f g : Nat → Value} (h : ∀ j, j < n → f j = g j) : arrV cI n f = arrV cI n g := by
  have e : (fun j : Fin n => f j.val) = (fun j : Fin n => g j.val) := funext fun j => h j.val j.isLt
  unfold arrV
  rw [e]
theorem rw_vpi {cA : ClassId} {n : Nat} {f g : Nat → Int32} (h : ∀ j, j < n → f j = g j) : vp_cell cA (n, .inl f) = vp_cell cA (n, .inl g) := by
  rw [vp_cell_i, vp_cell_i]
  exact rw_arr (fun j hj => by rw [h j hj])
/-- a world's int array told anew -/
theorem rw_at {D : va_G} {cl : List vw_C} {ws : va_W} {H : Heap} {k a n : Nat} {cA : ClassId} {f g : Nat → Int32} (hP : va_P D cl ws H) (hk : ws[k]? = some (a, .inl (cA, n, .inl f))) (h : ∀ j, j < n → f j = g j) : va_P D cl (ws.set k (a, .inl (cA, n, .inl g))) H := by
  have hl := (List.getElem?_eq_some_iff.mp hk).1
  intro i q hq
  by_cases hi : i = k
  · subst hi
    rw [List.getElem?_set_self hl] at hq
    cases hq
    show H[a]? = some (vp_cell _ _)
    rw [← rw_vpi h]
    exact hP i _ hk
  · rw [List.getElem?_set_ne (Ne.symm hi)] at hq
    exact hP i q hq
theorem vp_rng {x N : Int32} {n : Nat} (hN : N.toInt = n) (h0 : ¬ x < 0) (h1 : ¬ N ≤ x) : vp_in x n := by
  rw [vp_in_iff]
  rw [Int32.lt_iff_toInt_lt] at h0
  rw [Int32.le_iff_toInt_le] at h1
  have : (0 : Int32).toInt = 0 := rfl
  omega
def bnd {α β : Type} (x : α) (f : α → β) : β := f x
theorem bnd_e {α β : Type} {x z : α} {f : α → β} (h : z = x) : bnd x f = f z := by rw [h]; rfl
theorem zb_nar {v : Int32} (h : v = 0 ∨ v = 1) : narrow .boolean (.int v) = .int v := by
  rcases h with rfl | rfl <;> rfl
theorem lp_lt {x N : Int32} {k n : Nat} (hN : N = nI n) (ex : x = nI k) (hk : k ≤ n) (c : ¬ N ≤ x) : k < n := by
  rcases Nat.lt_or_ge k n with h | h
  · exact h
  · have : k = n := Nat.le_antisymm hk h
    subst this
    exact absurd (by rw [hN, ex]; exact Int32.le_refl _) c
/-- a counter that lags behind another -/
def kq (x : Int32) (k : Nat) : Prop := ∃ q : Nat, q ≤ k ∧ x = nI q
theorem kq_0 : kq 0 0 := ⟨0, Nat.le_refl _, nI_0.symm⟩
theorem kq_keep {x : Int32} {k : Nat} (h : kq x k) : kq x (k + 1) := by
  obtain ⟨q, h1, h2⟩ := h
  exact ⟨q, by omega, h2⟩
theorem kq_up {x : Int32} {k : Nat} (h : kq x k) : kq (x + 1) (k + 1) := by
  obtain ⟨q, h1, h2⟩ := h
  exact ⟨q + 1, by omega, by rw [h2]; exact nI_1 _⟩
theorem kq_in {x : Int32} {k n : Nat} (h : kq x k) (hk : k < n) (hn : n < 2 ^ 31) : vp_in x n := by
  obtain ⟨q, h1, h2⟩ := h
  rw [h2]
  exact vp_in_nI (by omega) hn
/-- a number that is no more than n -/
def tm_ok (n : Nat) (x : Int32) : Prop := ∃ q : Nat, q ≤ n ∧ x = nI q
theorem lp_lt2 {x N : Int32} {k n : Nat} (hN : N = nI n) (ex : x = nI k) (hk : k ≤ n) (c : x < N) : k < n := by
  rcases Nat.lt_or_ge k n with h | h
  · exact h
  · have : k = n := Nat.le_antisymm hk h
    subst this
    exact absurd c (by rw [hN, ex]; exact Int32.lt_irrefl)
theorem tm_in {x y : Int32} {n : Nat} (h : tm_ok n y) (h0 : ¬ x < 0) (h1 : ¬ y ≤ x) (hn : n < 2 ^ 31) : vp_in x n := by
  obtain ⟨q, hq, rfl⟩ := h
  rw [vp_in_iff]
  rw [Int32.lt_iff_toInt_lt] at h0
  rw [Int32.le_iff_toInt_le, nI_toInt (by omega)] at h1
  have : (0 : Int32).toInt = 0 := rfl
  omega
theorem tm_in2 {x : Int32} (h : tm_ok 8 x) (c : x < 8) : vp_in x 8 := by
  obtain ⟨q, hq, rfl⟩ := h
  have : nI q < nI 8 := c
  rw [nI_ltI (by omega) (by decide)] at this
  exact vp_in_nI this (by decide)
theorem vp_addc {x c : Int32} {q n m : Nat} (hc : c = nI q) (hx : vp_in x n) (h : q + n ≤ m) (hm : m < 2 ^ 31) : vp_in (c + x) m := by
  obtain ⟨j, hj, rfl⟩ := vp_in_of hx (by omega)
  rw [hc, nI_add]
  exact vp_in_nI (by omega) hm
theorem tm_in3 {x : Int32} (h : tm_ok 8 x) (c : ¬ x = 8) : vp_in x 8 := by
  obtain ⟨q, hq, rfl⟩ := h
  have : q ≠ 8 := fun e => c (by rw [e]; rfl)
  exact vp_in_nI (by omega) (by decide)
/-- a player -/
def p01 (p : Int32) : Prop := p = 0 ∨ p = 1
theorem p01_0 : p01 0 := Or.inl rfl
theorem p01_1 : p01 1 := Or.inr rfl
theorem p01_sub {p : Int32} (h : p01 p) : p01 (1 - p) := by
  rcases h with rfl | rfl
  · exact Or.inr rfl
  · exact Or.inl rfl
/-- the reference's state: the player who is next is 0 or 1, and no player has more than 8 chalks -/
def MI (vs : Nat → Int32) : Prop := p01 (vs 245) ∧ tm_ok 8 (vs 214) ∧ tm_ok 8 (vs 230)
theorem mi_next {vs : Nat → Int32} (h : MI vs) : p01 (vs (245 : Int32).toNatClampNeg) := h.1
abbrev tyL (cI cC cG cZ : ClassId) : List (ClassId × FieldType) := [(cI, .int), (cC, .char), (cG, .object "TailorChalks$Game"), (cZ, .boolean)]
