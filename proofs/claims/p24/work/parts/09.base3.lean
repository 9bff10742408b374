theorem kq_le {x : Int32} {k n : Nat} (h : kq x k) (hk : k ≤ n) : kq x n := by
  obtain ⟨q, h1, h2⟩ := h
  exact ⟨q, by omega, h2⟩
theorem pad_room2 {x ln : Int32} {mm L0 : Nat} (e1 : x = nI mm) (h1 : mm ≤ 8) (e2 : ln = nI L0) (h2 : L0 ≤ 80) (c : ln + x ≤ 80) : L0 + mm ≤ 80 := by
  rw [e1, e2, nI_add] at c
  exact (nI_leI (by omega) (by decide)).mp c
theorem put_in {ln x y : Int32} {L0 mm k : Nat} (e1 : ln = nI L0) (e2 : x = nI mm) (e3 : y = nI k) (hk : k < mm) (hs : L0 + mm ≤ 80) : vp_in (ln + x - 1 - y) 80 := by
  obtain ⟨m, rfl⟩ : ∃ m, mm = m + 1 := ⟨mm - 1, by omega⟩
  rw [e1, e2, e3, nI_add, show L0 + (m + 1) = (L0 + m) + 1 by omega, nI_pred, pk_sub (by omega)]
  exact vp_in_nI (by omega) (by decide)
/-- a place in a text -/
def sm (x : Int32) : Prop := 0 ≤ x.toInt ∧ x.toInt ≤ 1000
def sm9 (x : Int32) : Prop := 0 ≤ x.toInt ∧ x.toInt ≤ 900
theorem sm_of {x : Int32} (h : sm9 x) : sm x := ⟨h.1, by have := h.2; omega⟩
theorem sm_nat {x : Int32} (h : sm9 x) : ∃ a : Nat, a ≤ 900 ∧ x = nI a := by
  refine ⟨x.toInt.toNat, ?_, ?_⟩
  · have := h.1; have := h.2; omega
  · apply Int32.toInt_inj.mp
    rw [nI_toInt (by have := h.1; have := h.2; omega)]
    have := h.1; omega
theorem sm_up {x c : Int32} {q : Nat} (h : sm9 x) (hc : c = nI q) (hq : q ≤ 100) : sm (x + c) := by
  obtain ⟨a, ha, rfl⟩ := sm_nat h
  rw [hc, nI_add]
  exact ⟨by rw [nI_toInt (by omega)]; omega, by rw [nI_toInt (by omega)]; omega⟩
theorem sm9_0 : sm9 0 := ⟨by decide, by decide⟩
theorem sm_in {x ln : Int32} {n : Nat} (h : 0 ≤ x.toInt) (hl : tm_ok n ln) (hn : n < 2 ^ 31) (c : ¬ ln ≤ x) : vp_in x n := by
  obtain ⟨q, hq, rfl⟩ := hl
  rw [vp_in_iff]
  rw [Int32.le_iff_toInt_le, nI_toInt (by omega)] at c
  omega
theorem nn_of {x : Int32} (c : ¬ x < 0) : 0 ≤ x.toInt := by
  rw [Int32.lt_iff_toInt_lt] at c
  have e1 : (0 : Int32).toInt = 0 := rfl
  omega
theorem sm9_up {x ln : Int32} (h : 0 ≤ x.toInt) (hl : tm_ok 80 ln) (c : ¬ ln ≤ x) : sm9 (x + 1) := by
  obtain ⟨q, hq, rfl⟩ := hl
  rw [Int32.le_iff_toInt_le, nI_toInt (by omega)] at c
  have h9 : sm9 x := ⟨h, by omega⟩
  obtain ⟨a, ha, rfl⟩ := sm_nat h9
  rw [nI_toInt (by omega)] at c
  rw [nI_1]
  exact ⟨by rw [nI_toInt (by omega)]; omega, by rw [nI_toInt (by omega)]; omega⟩
theorem slot_in {s x : Int32} {k : Nat} (hs : p01 s) (ex : x = nI k) (hk : k < 246) : vp_in ((246 : Int32) * s + x) 492 := by
  rcases hs with rfl | rfl
  · rw [ex, show (246 : Int32) * 0 = nI 0 from rfl, nI_add]; exact vp_in_nI (by omega) (by decide)
  · rw [ex, show (246 : Int32) * 1 = nI 246 from rfl, nI_add]; exact vp_in_nI (by omega) (by decide)
theorem p01_in {s : Int32} (hs : p01 s) : vp_in s 2 := by
  rcases hs with rfl | rfl <;> exact vp_in_iff.mpr (by decide)
section EN
variable {p : Program} {l : Launch} {e : Env} {R : Room} {s : State} {m : MethodId} {args : Array Value} {below : List Frame} {meth : Method} {c : Code} {H : Heap} {locs : List Loc} {cells slots : Nat} {Q : State → Prop}
variable {pc : Nat} {ls : Array Slot} {rest st0 : List Value} {a : Array Value} {A0 : Nat → Prop} {H0 : Heap} {D : va_G} {cl : List vw_C} {ws wr wsC : va_W}
/-- a call behind which nothing is said of the callee's cells -/
theorem en_calli {res : Int32} {is isR : List Nat} (hr : va_Run p l e R s m args below meth c H locs cells slots 0 0 (F0 m pc ls st0) rest (va_Qi (fun r (_ : Unit) => r = res) (fun _ _ => True) (wr_A ws) a) (wr_A ws)) (hP : va_P D cl wsC H) (hD : va_D A0 wsC) (hS : va_S A0 H0 H locs)
    (hC : is.map (fun i => wsC[i]?) = ws.map some) (hR : isR.map (fun i => wsC[i]?) = wr.map some) (hn : va_nd isR = true) (hdis : ∀ i ∈ isR, i ∉ is)
    (kk : ∀ (H1 : Heap) (locs1 : List Loc), va_P D cl wr H1 → va_D A0 wr → va_S A0 H0 H1 locs1 → W p l e R s m args below meth c H1 locs1 cells slots Q (F0 m (pc + 3) ls (.int res :: rest))) : W p l e R s m args below meth c H locs cells slots Q (F0 m pc ls st0) := by
  have hin : ∀ q, wr_A ws q → A0 q := fun q h => by
    obtain ⟨i, e, -, he⟩ := wr_in hD hC q h
    exact hD.2 i (q, e) he
  refine va_calli hr hS (fun q _ h => hin q h) hin (fun r u t H1 locs1 ht hvm hw hB hz hk hS1 => ?_)
  subst hw
  refine kk H1 locs1 ?_ (hD.sub isR hn hR) hS1
  intro k q hq
  have h1 : (isR.map (fun i => wsC[i]?))[k]? = some (some q) := by rw [hR, List.getElem?_map, hq]; rfl
  rw [List.getElem?_map] at h1
  cases hi : isR[k]? with
  | none => rw [hi] at h1; cases h1
  | some i =>
    rw [hi] at h1
    have h2 : wsC[i]? = some q := Option.some.inj h1
    refine (hP i q h2).kept (hk q.1 (hP i q h2).lt (fun h => ?_))
    obtain ⟨j, e, hj, he⟩ := wr_in hD hC q.1 h
    have := hD.1 i j q (q.1, e) h2 he rfl
    subst this
    exact hdis i (List.mem_of_getElem? hi) hj
end EN
theorem nn_of2 {x : Int32} (c : (0 : Int32) ≤ x) : 0 ≤ x.toInt := by
  rw [Int32.le_iff_toInt_le] at c
  exact c
theorem in_preS {C : String} {s : State} {H : Heap} {D : va_G} {cl : List vw_C} {tys : List (ClassId × FieldType)} {ws : va_W} {b : Nat} {A : Nat → Prop} (hP : va_P D cl ws H) (hK : va_K D cl tys s) (hO : va_AO C s) (hD : va_D A ws) : PreS s H (va_Pc [.ref b] (fun U => U.heap.size = H.size ∧ va_P D cl ws U.heap ∧ va_K D cl tys U ∧ va_AO C U ∧ va_D (fun _ => True) ws)) [.ref b] :=
  ⟨fun a U g mk q => by
    obtain ⟨q0, q1, qP, qK, qO, qD⟩ := q
    exact ⟨q0, q1, qP, va_K.moved (u := U) (U := U.calling g mk a) (Vm.Alike.refl U.vm) qK, va_AO.moved (u := U) (U := U.calling g mk a) (Vm.Alike.refl U.vm) qO, qD⟩, fun U hU hW => ⟨rfl, by rw [hU], by rw [hU]; exact hP, va_K.moved hW.alike hK, va_AO.moved hW.alike hO, wr_top hD⟩⟩
