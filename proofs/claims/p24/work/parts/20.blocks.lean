-- worlds in blocks: a world is a list of lists of cells; calls take some of the blocks
def bP (D : va_G) (cl : List vw_C) (Bs : List va_W) (H : Heap) : Prop := ∀ (i : Nat) (B : va_W), Bs[i]? = some B → va_P D cl B H
def bD (A : Nat → Prop) (Bs : List va_W) : Prop := (∀ (i : Nat) (B : va_W), Bs[i]? = some B → va_D A B) ∧ ∀ (i j : Nat) (B C : va_W) (p q : Nat × va_E), Bs[i]? = some B → Bs[j]? = some C → p ∈ B → q ∈ C → p.1 = q.1 → i = j
def bA (Bs : List va_W) : Nat → Prop := fun q => ∃ (i : Nat) (B : va_W) (e : va_E), Bs[i]? = some B ∧ (q, e) ∈ B
theorem b_at {α : Type} {Bs Cs : List α} {is : List Nat} (h : is.map (fun i => Bs[i]?) = Cs.map some) {k : Nat} {C : α} (hk : Cs[k]? = some C) : ∃ i, is[k]? = some i ∧ Bs[i]? = some C := by
  have h1 : (is.map (fun i => Bs[i]?))[k]? = some (some C) := by rw [h, List.getElem?_map, hk]; rfl
  rw [List.getElem?_map] at h1
  cases hi : is[k]? with
  | none => rw [hi] at h1; cases h1
  | some i => rw [hi] at h1; exact ⟨i, rfl, Option.some.inj h1⟩
theorem bP.kept {D : va_G} {cl : List vw_C} {Bs : List va_W} {H H1 : Heap} (h : bP D cl Bs H) (hq : ∀ (q : Nat), q < H.size → H1[q]? = H[q]?) : bP D cl Bs H1 := fun i B hB => (h i B hB).kept (fun k q hk => hq q.1 (h i B hB k q hk).lt)
theorem bP.sub {D : va_G} {cl : List vw_C} {Bs Cs : List va_W} {H : Heap} (h : bP D cl Bs H) (is : List Nat) (hs : is.map (fun i => Bs[i]?) = Cs.map some) : bP D cl Cs H := fun k C hk => by
  obtain ⟨i, -, hi⟩ := b_at hs hk
  exact h i C hi
theorem bD.sub {A : Nat → Prop} {Bs Cs : List va_W} (h : bD A Bs) (is : List Nat) (hn : va_nd is = true) (hs : is.map (fun i => Bs[i]?) = Cs.map some) : bD A Cs := by
  refine ⟨fun k C hk => ?_, fun i j B C p q hi hj hp hq e => ?_⟩
  · obtain ⟨i, -, hi⟩ := b_at hs hk
    exact h.1 i C hi
  · obtain ⟨a, h1, h2⟩ := b_at hs hi
    obtain ⟨b, h3, h4⟩ := b_at hs hj
    have := h.2 a b B C p q h2 h4 hp hq e
    subst this
    exact va_nd_inj is hn i j a h1 h3
theorem bD.top {A : Nat → Prop} {Bs : List va_W} (h : bD A Bs) : bD (fun _ => True) Bs := ⟨fun i B hB => wr_top (h.1 i B hB), h.2⟩
theorem bD.self {A : Nat → Prop} {Bs : List va_W} (h : bD A Bs) : bD (bA Bs) Bs := ⟨fun i B hB => ⟨(h.1 i B hB).1, fun _ q hk => ⟨i, B, q.2, hB, List.mem_of_getElem? hk⟩⟩, h.2⟩
theorem bP.flat {D : va_G} {cl : List vw_C} {Cs : List va_W} {H : Heap} (h : bP D cl Cs H) : va_P D cl Cs.flatten H := by
  intro k q hk
  obtain ⟨C, hC, hq⟩ := List.mem_flatten.mp (List.mem_of_getElem? hk)
  obtain ⟨i, hi⟩ := List.getElem?_of_mem hC
  obtain ⟨j, hj⟩ := List.getElem?_of_mem hq
  exact h i C hi j q hj
theorem bP.of {D : va_G} {cl : List vw_C} {Cs : List va_W} {H : Heap} (h : va_P D cl Cs.flatten H) : bP D cl Cs H := fun i B hB k q hk => by
  have hm : q ∈ Cs.flatten := List.mem_flatten.mpr ⟨B, List.mem_of_getElem? hB, List.mem_of_getElem? hk⟩
  obtain ⟨j, hj⟩ := List.getElem?_of_mem hm
  exact h j q hj
theorem bD.flat {A : Nat → Prop} : ∀ {Cs : List va_W}, bD A Cs → va_D A Cs.flatten
  | [], _ => ⟨fun i j p q hi => by simp at hi, fun k q hk => by simp at hk⟩
  | C :: Cs, h => by
    have h2 : bD A Cs := ⟨fun i B hB => h.1 (i + 1) B hB, fun i j B C p q hi hj hp hq e => by
      have := h.2 (i + 1) (j + 1) B C p q hi hj hp hq e
      omega⟩
    rw [List.flatten_cons]
    refine va_D.app (h.1 0 C rfl) (bD.flat h2) (fun i j p q hi hj e => ?_)
    obtain ⟨B, hB, hq⟩ := List.mem_flatten.mp (List.mem_of_getElem? hj)
    obtain ⟨k, hk⟩ := List.getElem?_of_mem hB
    have := h.2 0 (k + 1) C B p q rfl hk (List.mem_of_getElem? hi) hq e
    omega
theorem bD.of {A : Nat → Prop} : ∀ {Cs : List va_W}, va_D A Cs.flatten → bD A Cs
  | [], _ => ⟨fun i B hB => by simp at hB, fun i j B C p q hi => by simp at hi⟩
  | C :: Cs, h => by
    rw [List.flatten_cons] at h
    have hF : va_D A Cs.flatten := ⟨fun i j p q hi hj e => by
      have := h.1 (C.length + i) (C.length + j) p q (by rw [List.getElem?_append_right (by omega)]; simpa using hi) (by rw [List.getElem?_append_right (by omega)]; simpa using hj) e
      omega, fun k q hk => h.2 (C.length + k) q (by rw [List.getElem?_append_right (by omega)]; simpa using hk)⟩
    have ih := bD.of hF
    have lf : ∀ (k : Nat) (q : Nat × va_E), C[k]? = some q → (C ++ Cs.flatten)[k]? = some q := fun k q hk => by
      rw [List.getElem?_append_left (List.getElem?_eq_some_iff.mp hk).1]; exact hk
    have hC : va_D A C := ⟨fun i j p q hi hj e => h.1 i j p q (lf i p hi) (lf j q hj) e, fun k q hk => h.2 k q (lf k q hk)⟩
    have hx : ∀ (k : Nat) (B : va_W) (p q : Nat × va_E), Cs[k]? = some B → p ∈ C → q ∈ B → p.1 ≠ q.1 := fun k B p q hk hp hq e => by
      obtain ⟨i, hi⟩ := List.getElem?_of_mem hp
      have hm : q ∈ Cs.flatten := List.mem_flatten.mpr ⟨B, List.mem_of_getElem? hk, hq⟩
      obtain ⟨j, hj⟩ := List.getElem?_of_mem hm
      have := h.1 i (C.length + j) p q (lf i p hi) (by rw [List.getElem?_append_right (by omega)]; simpa using hj) e
      have := (List.getElem?_eq_some_iff.mp hi).1
      omega
    refine ⟨fun i B hB => ?_, fun i j B B' p q hi hj hp hq e => ?_⟩
    · cases i with
      | zero => cases hB; exact hC
      | succ i => exact ih.1 i B hB
    · cases i with
      | zero =>
        cases hi
        cases j with
        | zero => rfl
        | succ j => exact absurd e (hx j B' p q hj hp hq)
      | succ i =>
        cases j with
        | zero => cases hj; exact absurd e.symm (hx i B q p hi hq hp)
        | succ j =>
          have := ih.2 i j B B' p q hi hj hp hq e
          omega
theorem wr_b {Cs : List va_W} {q : Nat} (h : wr_A Cs.flatten q) : ∃ (k : Nat) (C : va_W) (e : va_E), Cs[k]? = some C ∧ (q, e) ∈ C := by
  obtain ⟨k, e, h⟩ := h
  obtain ⟨C, hC, hq⟩ := List.mem_flatten.mp (List.mem_of_getElem? h)
  obtain ⟨i, hi⟩ := List.getElem?_of_mem hC
  exact ⟨i, C, e, hi, hq⟩
theorem b_inA {A0 : Nat → Prop} {Bs Cs : List va_W} {is : List Nat} (hD : bD A0 Bs) (hs : is.map (fun i => Bs[i]?) = Cs.map some) : ∀ q, bA Cs q → A0 q := fun q h => by
  obtain ⟨k, C, e, hk, hq⟩ := h
  obtain ⟨i, -, hi⟩ := b_at hs hk
  obtain ⟨j, hj⟩ := List.getElem?_of_mem hq
  exact (hD.1 i C hi).2 j (q, e) hj
theorem b_in {A0 : Nat → Prop} {Bs Cs : List va_W} {is : List Nat} (hD : bD A0 Bs) (hs : is.map (fun i => Bs[i]?) = Cs.map some) : ∀ q, wr_A Cs.flatten q → A0 q := fun q h => b_inA hD hs q (wr_b h)
/-- blocks put at places -/
def b_put (Bs : List va_W) : List Nat → List va_W → List va_W
  | i :: is, q :: qs => b_put (Bs.set i q) is qs
  | _, _ => Bs
theorem b_put_spec : ∀ (is : List Nat) (w1 ws : List va_W) (k : Nat) (q : va_W), (b_put ws is w1)[k]? = some q → (∃ j : Nat, is[j]? = some k ∧ w1[j]? = some q) ∨ (ws[k]? = some q ∧ (is.length = w1.length → k ∉ is))
  | [], w1, ws, k, q, h => Or.inr ⟨by simpa [b_put] using h, fun _ => List.not_mem_nil⟩
  | i :: is, [], ws, k, q, h => Or.inr ⟨by simpa [b_put] using h, fun hl => by simp at hl⟩
  | i :: is, a :: w1, ws, k, q, h => by
    have h : (b_put (ws.set i a) is w1)[k]? = some q := h
    rcases b_put_spec is w1 (ws.set i a) k q h with ⟨j, h1, h2⟩ | ⟨h1, h2⟩
    · exact Or.inl ⟨j + 1, by simpa using h1, by simpa using h2⟩
    · by_cases hk : i = k
      · subst hk
        have hl : i < ws.length := by
          have := (List.getElem?_eq_some_iff.mp h1).1
          simpa using this
        rw [List.getElem?_set_self hl] at h1
        exact Or.inl ⟨0, rfl, by simpa using h1⟩
      · rw [List.getElem?_set_ne hk] at h1
        refine Or.inr ⟨h1, fun hl hm => ?_⟩
        rcases List.mem_cons.mp hm with e | hm
        · exact hk e.symm
        · exact h2 (by simpa using hl) hm
theorem b_off {A0 : Nat → Prop} {Bs Cs : List va_W} {is : List Nat} (hD : bD A0 Bs) (hs : is.map (fun i => Bs[i]?) = Cs.map some) {k : Nat} {B : va_W} (hk : Bs[k]? = some B) (hn : k ∉ is) {q : Nat × va_E} (hq : q ∈ B) : ¬ bA Cs q.1 := fun h => by
  obtain ⟨j, C, e, hj, hm⟩ := h
  obtain ⟨i, h1, h2⟩ := b_at hs hj
  have := hD.2 k i B C q (q.1, e) hk h2 hq hm rfl
  subst this
  exact hn (List.mem_of_getElem? h1)
theorem b_join {A0 : Nat → Prop} {D : va_G} {cl : List vw_C} {Bs Cs Cs1 : List va_W} {H H1 : Heap} {is : List Nat} (hP : bP D cl Bs H) (hD : bD A0 Bs) (hs : is.map (fun i => Bs[i]?) = Cs.map some) (hl : is.length = Cs1.length)
    (hk : ∀ q : Nat, q < H.size → ¬ wr_A Cs.flatten q → H1[q]? = H[q]?) (hP1 : va_P D cl Cs1.flatten H1) : bP D cl (b_put Bs is Cs1) H1 := by
  intro k B hB
  rcases b_put_spec is Cs1 Bs k B hB with ⟨j, -, h1⟩ | ⟨h1, h2⟩
  · exact bP.of hP1 j B h1
  · exact (hP k B h1).kept (fun i q hq => hk q.1 (hP k B h1 i q hq).lt (fun h => b_off hD hs h1 (h2 hl) (List.mem_of_getElem? hq) (wr_b h)))
theorem bD_fst {A : Nat → Prop} {Bs Bs2 : List va_W} (hD : bD A Bs) (h : Bs2.map (fun B => B.map Prod.fst) = Bs.map (fun B => B.map Prod.fst)) : bD A Bs2 := by
  have key : ∀ (k : Nat) (B : va_W), Bs2[k]? = some B → ∃ B0, Bs[k]? = some B0 ∧ B.map Prod.fst = B0.map Prod.fst := by
    intro k B hk
    have h1 : (Bs.map (fun B => B.map Prod.fst))[k]? = some (B.map Prod.fst) := by rw [← h, List.getElem?_map, hk]; rfl
    rw [List.getElem?_map] at h1
    cases hw : Bs[k]? with
    | none => rw [hw] at h1; cases h1
    | some B0 => rw [hw] at h1; exact ⟨B0, rfl, (Option.some.inj h1).symm⟩
  have mem : ∀ {B B0 : va_W} {p : Nat × va_E}, B.map Prod.fst = B0.map Prod.fst → p ∈ B → ∃ p0 ∈ B0, p0.1 = p.1 := by
    intro B B0 p e hp
    have h1 : p.1 ∈ B.map Prod.fst := List.mem_map_of_mem hp
    rw [e] at h1
    obtain ⟨p0, h2, h3⟩ := List.mem_map.mp h1
    exact ⟨p0, h2, h3⟩
  refine ⟨fun i B hB => ?_, fun i j B C p q hi hj hp hq e => ?_⟩
  · obtain ⟨B0, h1, h2⟩ := key i B hB
    exact va_D_fst (hD.1 i B0 h1) h2
  · obtain ⟨B0, h1, h2⟩ := key i B hi
    obtain ⟨C0, h3, h4⟩ := key j C hj
    obtain ⟨p0, h5, h6⟩ := mem h2 hp
    obtain ⟨q0, h7, h8⟩ := mem h4 hq
    exact hD.2 i j B0 C0 p0 q0 h1 h3 h5 h7 (h6.trans (e.trans h8.symm))
/-- blocks that came back in place of others, at addresses of theirs -/
theorem b_ex {A0 : Nat → Prop} {D : va_G} {cl : List vw_C} {Bs Cs Cs1 Rs : List va_W} {H H1 : Heap} {is isR : List Nat} (hP : bP D cl Bs H) (hD : bD A0 Bs) (hs : is.map (fun i => Bs[i]?) = Cs.map some) (hR : isR.map (fun i => Bs[i]?) = Rs.map some) (hn : va_nd isR = true) (hdis : ∀ i ∈ isR, i ∉ is)
    (hk : ∀ q : Nat, q < H.size → ¬ bA Cs q → H1[q]? = H[q]?) (hP1 : bP D cl Cs1 H1) (hD1 : bD (bA Cs) Cs1) : bP D cl (Cs1 ++ Rs) H1 ∧ bD A0 (Cs1 ++ Rs) := by
  have off : ∀ (k : Nat) (B : va_W) (q : Nat × va_E), Rs[k]? = some B → q ∈ B → ¬ bA Cs q.1 := fun k B q hB hq => by
    obtain ⟨i, h1, h2⟩ := b_at hR hB
    exact b_off hD hs h2 (hdis i (List.mem_of_getElem? h1)) hq
  have hPR : bP D cl Rs H := hP.sub isR hR
  have hDR : bD A0 Rs := hD.sub isR hn hR
  have key : ∀ (k : Nat) (B : va_W), (Cs1 ++ Rs)[k]? = some B → (k < Cs1.length ∧ Cs1[k]? = some B) ∨ (Cs1.length ≤ k ∧ Rs[k - Cs1.length]? = some B) := by
    intro k q hk
    by_cases hl : k < Cs1.length
    · rw [List.getElem?_append_left hl] at hk
      exact Or.inl ⟨hl, hk⟩
    · rw [List.getElem?_append_right (by omega)] at hk
      exact Or.inr ⟨by omega, hk⟩
  refine ⟨fun k B hB => ?_, fun k B hB => ?_, fun i j B C p q hi hj hp hq e => ?_⟩
  · rcases key k B hB with ⟨-, h⟩ | ⟨-, h⟩
    · exact hP1 k B h
    · exact (hPR _ B h).kept (fun i q hq => hk q.1 (hPR _ B h i q hq).lt (off _ B q h (List.mem_of_getElem? hq)))
  · rcases key k B hB with ⟨-, h⟩ | ⟨-, h⟩
    · exact (hD1.1 k B h).weaken (fun _ _ _ h => b_inA hD hs _ h)
    · exact hDR.1 _ B h
  · have inC : ∀ {k : Nat} {B : va_W} {q : Nat × va_E}, Cs1[k]? = some B → q ∈ B → bA Cs q.1 := fun hB hq => by
      obtain ⟨j, hj⟩ := List.getElem?_of_mem hq
      exact (hD1.1 _ _ hB).2 j _ hj
    rcases key i B hi with ⟨l1, a1⟩ | ⟨l1, a1⟩ <;> rcases key j C hj with ⟨l2, a2⟩ | ⟨l2, a2⟩
    · exact hD1.2 i j B C p q a1 a2 hp hq e
    · exact absurd (by rw [← e]; exact inC a1 hp) (off _ C q a2 hq)
    · exact absurd (by rw [e]; exact inC a2 hq) (off _ B p a1 hp)
    · have := hDR.2 _ _ B C p q a1 a2 hp hq e
      omega
/-- a start in blocks -/
def b_Pre (D : va_G) (cl : List vw_C) (tys : List (ClassId × FieldType)) (Bs : List va_W) : State → Prop := fun U => bP D cl Bs U.heap ∧ va_K D cl tys U ∧ bD (fun _ => True) Bs
theorem b_preV {s : State} {H : Heap} {D : va_G} {cl : List vw_C} {tys : List (ClassId × FieldType)} {Cs : List va_W} {b : Nat} {As : List Value} {A : Nat → Prop} {ci : Nat} {q : vw_C} {fs : List Value} {B : va_W} (hP : bP D cl Cs H) (hK : va_K D cl tys s) (hD : bD A Cs) (hc : cl[ci]? = some q) {i0 q0 : Nat} (hB : Cs[i0]? = some B) (he : B[q0]? = some (b, .inr (ci, fs))) : PreV s H q.1 b (va_Pc (.ref b :: As) (b_Pre D cl tys Cs)) As :=
  ⟨fun a U g mk q => ⟨q.1, q.2.1, va_K.moved (u := U) (U := U.calling g mk a) (Vm.Alike.refl U.vm) q.2.2.1, q.2.2.2⟩, va_recv hK (hP i0 B hB) hc he, fun U hU hW => ⟨rfl, by rw [hU]; exact hP, va_K.moved hW.alike hK, hD.top⟩⟩
section BRW
variable {p : Program} {l : Launch} {e : Env} {R : Room} {s : State} {m : MethodId} {args : Array Value} {below : List Frame} {meth : Method} {c : Code} {H : Heap} {locs : List Loc} {cells slots : Nat} {Q : State → Prop}
variable {pc : Nat} {ls : Array Slot} {rest st0 : List Value} {a : Array Value} {A0 : Nat → Prop} {H0 : Heap} {D : va_G} {cl : List vw_C} {ws w1 : va_W} {Bs Cs Cs1 Rs : List va_W}
theorem b_roi {res : Int32} (hr : va_Run p l e R s m args below meth c H locs cells slots 0 0 (F0 m pc ls st0) rest (va_Qi (fun r (_ : Unit) => r = res) (fun _ _ => True) ro_F a) ro_F) (hP : bP D cl Bs H) (hS : va_S A0 H0 H locs)
    (kk : ∀ (H1 : Heap) (locs1 : List Loc), bP D cl Bs H1 → va_S A0 H0 H1 locs1 → W p l e R s m args below meth c H1 locs1 cells slots Q (F0 m (pc + 3) ls (.int res :: rest))) : W p l e R s m args below meth c H locs cells slots Q (F0 m pc ls st0) :=
  va_calli hr hS (fun q _ h => False.elim h) (fun q h => False.elim h) (fun r u t H1 locs1 ht hvm hw hB hz hk hS1 => by subst hw; exact kk H1 locs1 (hP.kept (fun q hq => hk q hq (fun h => h))) hS1)
theorem b_ror {res : Nat} (hr : va_Run p l e R s m args below meth c H locs cells slots 0 0 (F0 m pc ls st0) rest (va_Qr (fun (_ : Unit) => True) (fun _ b _ => b = res) ro_F a) ro_F) (hP : bP D cl Bs H) (hS : va_S A0 H0 H locs)
    (kk : ∀ (H1 : Heap) (locs1 : List Loc), bP D cl Bs H1 → va_S A0 H0 H1 locs1 → W p l e R s m args below meth c H1 locs1 cells slots Q (F0 m (pc + 3) ls (.ref res :: rest))) : W p l e R s m args below meth c H locs cells slots Q (F0 m pc ls st0) :=
  va_callr hr hS (fun q _ h => False.elim h) (fun q h => False.elim h) (fun u ra t H1 locs1 ht hvm hw hB hz hk hS1 => by subst hB; exact kk H1 locs1 (hP.kept (fun q hq => hk q hq (fun h => h))) hS1)
theorem b_wri {Bs2 : List va_W} {res : Int32} {is : List Nat} (hr : va_Run p l e R s m args below meth c H locs cells slots 0 0 (F0 m pc ls st0) rest (va_Qi (fun r (_ : Unit) => r = res) (fun _ t => va_P D cl w1 t.heap) (wr_A ws) a) (wr_A ws)) (hP : bP D cl Bs H) (hD : bD A0 Bs) (hS : va_S A0 H0 H locs)
    (Cs Cs1 : List va_W) (hw : Cs.flatten = ws) (hw1 : Cs1.flatten = w1) (hs : is.map (fun i => Bs[i]?) = Cs.map some) (hl : is.length = Cs1.length) (he : b_put Bs is Cs1 = Bs2) (hf : Bs2.map (fun B => B.map Prod.fst) = Bs.map (fun B => B.map Prod.fst))
    (kk : ∀ (H1 : Heap) (locs1 : List Loc), bP D cl Bs2 H1 → bD A0 Bs2 → va_S A0 H0 H1 locs1 → W p l e R s m args below meth c H1 locs1 cells slots Q (F0 m (pc + 3) ls (.int res :: rest))) : W p l e R s m args below meth c H locs cells slots Q (F0 m pc ls st0) := by
  subst hw; subst hw1; subst he
  have hin := b_in hD hs
  refine va_calli hr hS (fun q _ h => hin q h) hin (fun r u t H1 locs1 ht hvm hw hB hz hk hS1 => ?_)
  subst hw
  exact kk H1 locs1 (b_join hP hD hs hl hk (by rw [ht] at hB; exact hB)) (bD_fst hD hf) hS1
theorem b_wrv {Bs2 : List va_W} {is : List Nat} (hr : va_Run p l e R s m args below meth c H locs cells slots 0 0 (F0 m pc ls st0) rest (va_Qv (fun (_ : Unit) => True) (fun _ t => va_P D cl w1 t.heap) (wr_A ws) a) (wr_A ws)) (hP : bP D cl Bs H) (hD : bD A0 Bs) (hS : va_S A0 H0 H locs)
    (Cs Cs1 : List va_W) (hw : Cs.flatten = ws) (hw1 : Cs1.flatten = w1) (hs : is.map (fun i => Bs[i]?) = Cs.map some) (hl : is.length = Cs1.length) (he : b_put Bs is Cs1 = Bs2) (hf : Bs2.map (fun B => B.map Prod.fst) = Bs.map (fun B => B.map Prod.fst))
    (kk : ∀ (H1 : Heap) (locs1 : List Loc), bP D cl Bs2 H1 → bD A0 Bs2 → va_S A0 H0 H1 locs1 → W p l e R s m args below meth c H1 locs1 cells slots Q (F0 m (pc + 3) ls rest)) : W p l e R s m args below meth c H locs cells slots Q (F0 m pc ls st0) := by
  subst hw; subst hw1; subst he
  have hin := b_in hD hs
  refine va_callv hr hS (fun q _ h => hin q h) hin (fun u t H1 locs1 ht hvm hw hB hz hk hS1 => ?_)
  exact kk H1 locs1 (b_join hP hD hs hl hk (by rw [ht] at hB; exact hB)) (bD_fst hD hf) hS1
end BRW
-- contracts over blocks, from contracts over a part of them
theorem b_imp {l : Launch} {y : MethodName} {ws : List Cond} {rm : Room} {Pc Pc2 : Array Value → State → Prop} {Qc Qc2 : Array Value → State → Outcome → State → Prop} {mc ms : Nat} {fr fr2 : Addr → Prop} (h : Met l y ws rm Pc Qc mc ms fr) (hp : ∀ a s, Pc2 a s → Pc a s) (hq : ∀ a s o t, Pc2 a s → Qc a s o t → Qc2 a s o t) (hf : ∀ q, fr q → fr2 q) : Met l y ws rm Pc2 Qc2 mc ms fr2 := by
  intro p e h1 h2 h3 s m args below h4 h5 h6 h7
  obtain ⟨n, o, g1, g2, g3, g4, L, g5, g6⟩ := h p e h1 h2 h3 s m args below h4 h5 (hp _ _ h6) h7
  exact ⟨n, o, g1, g2, g3, hq _ _ _ _ h6 g4, L, g5, fun q hq => hf _ (g6 q hq)⟩
/-- ends in blocks: the addresses behind are told by pa -/
def bQi (D : va_G) (cl : List vw_C) (res : Int32) (W1 : (Nat → Nat → Nat) → List va_W) (A : Nat → Prop) : Array Value → State → Outcome → State → Prop := va_Qi (fun r (_ : Unit) => r = res) (fun _ t => ∃ pa : Nat → Nat → Nat, bP D cl (W1 pa) t.heap ∧ bD A (W1 pa)) A
def bQv (D : va_G) (cl : List vw_C) (W1 : (Nat → Nat → Nat) → List va_W) (A : Nat → Prop) : Array Value → State → Outcome → State → Prop := va_Qv (fun (_ : Unit) => True) (fun _ t => ∃ pa : Nat → Nat → Nat, bP D cl (W1 pa) t.heap ∧ bD A (W1 pa)) A
theorem b_mro {l : Launch} {y : MethodName} {yw : List Cond} {rm : Room} {av : List Value} {D : va_G} {cl : List vw_C} {tys : List (ClassId × FieldType)} {w : va_W} {res : Int32} (h : Met l y yw rm (va_Pc av (ro_P D cl tys w)) (va_Qi (fun r (_ : Unit) => r = res) (fun _ _ => True) ro_F) 0 0 ro_F) (Bs : List va_W) (W1 : (Nat → Nat → Nat) → List va_W) (pa : Nat → Nat → Nat) (he : W1 pa = Bs) (hsub : ∀ H, bP D cl Bs H → va_P D cl w H) : Met l y yw rm (va_Pc av (b_Pre D cl tys Bs)) (bQi D cl res W1 (bA Bs)) 0 0 (bA Bs) := by
  subst he
  refine b_imp h (fun a s hq => ⟨hq.1, hsub _ hq.2.1, hq.2.2.1⟩) (fun a s o t hq hz => ?_) (fun q hq => False.elim hq)
  obtain ⟨-, hP, -, hD⟩ := hq
  obtain ⟨⟨r, u, h1, h2, -⟩, h3, h4⟩ := hz
  exact ⟨⟨r, u, h1, h2, pa, hP.kept (fun q hq => h4 q hq (fun z => z)), hD.self⟩, h3, fun q h5 _ => h4 q h5 (fun z => z)⟩
theorem b_inB {Bs Cs : List va_W} {is : List Nat} (hs : is.map (fun i => Bs[i]?) = Cs.map some) : ∀ q, wr_A Cs.flatten q → bA Bs q := fun q h => by
  obtain ⟨k, C, e, hk, hq⟩ := wr_b h
  obtain ⟨i, -, hi⟩ := b_at hs hk
  exact ⟨i, C, e, hi, hq⟩
theorem b_mwi {l : Launch} {y : MethodName} {yw : List Cond} {rm : Room} {av : List Value} {D : va_G} {cl : List vw_C} {tys : List (ClassId × FieldType)} {w w1 : va_W} {res : Int32} (h : Met l y yw rm (va_Pc av (wr_P D cl tys w)) (va_Qi (fun r (_ : Unit) => r = res) (fun _ t => va_P D cl w1 t.heap) (wr_A w)) 0 0 (wr_A w)) {Bs : List va_W} (is : List Nat) (Cs Cs1 Bs1 : List va_W) (js : List Nat) (W1 : (Nat → Nat → Nat) → List va_W) (pa : Nat → Nat → Nat)
    (hw : Cs.flatten = w) (hw1 : Cs1.flatten = w1) (hs : is.map (fun i => Bs[i]?) = Cs.map some) (hn : va_nd is = true) (hl : is.length = Cs1.length) (he : b_put Bs is Cs1 = Bs1) (hf : Bs1.map (fun B => B.map Prod.fst) = Bs.map (fun B => B.map Prod.fst)) (hj : va_nd js = true) (hp : js.map (fun i => Bs1[i]?) = (W1 pa).map some) : Met l y yw rm (va_Pc av (b_Pre D cl tys Bs)) (bQi D cl res W1 (bA Bs)) 0 0 (bA Bs) := by
  subst hw; subst hw1; subst he
  refine b_imp h (fun a s hq => ⟨hq.1, (hq.2.1.sub is hs).flat, hq.2.2.1, (hq.2.2.2.sub is hn hs).flat⟩) (fun a s o t hq hz => ?_) (b_inB hs)
  obtain ⟨⟨r, u, h1, h2, hB⟩, h3, h4⟩ := hz
  have hJ := b_join hq.2.1 hq.2.2.2 hs hl h4 hB
  exact ⟨⟨r, u, h1, h2, pa, hJ.sub js hp, (bD_fst hq.2.2.2.self hf).sub js hj hp⟩, h3, fun q h5 h6 => h4 q h5 (fun z => h6 (b_inB hs q z))⟩
theorem b_mwv {l : Launch} {y : MethodName} {yw : List Cond} {rm : Room} {av : List Value} {D : va_G} {cl : List vw_C} {tys : List (ClassId × FieldType)} {w w1 : va_W} (h : Met l y yw rm (va_Pc av (wr_P D cl tys w)) (va_Qv (fun (_ : Unit) => True) (fun _ t => va_P D cl w1 t.heap) (wr_A w)) 0 0 (wr_A w)) {Bs : List va_W} (is : List Nat) (Cs Cs1 Bs1 : List va_W) (js : List Nat) (W1 : (Nat → Nat → Nat) → List va_W) (pa : Nat → Nat → Nat)
    (hw : Cs.flatten = w) (hw1 : Cs1.flatten = w1) (hs : is.map (fun i => Bs[i]?) = Cs.map some) (hn : va_nd is = true) (hl : is.length = Cs1.length) (he : b_put Bs is Cs1 = Bs1) (hf : Bs1.map (fun B => B.map Prod.fst) = Bs.map (fun B => B.map Prod.fst)) (hj : va_nd js = true) (hp : js.map (fun i => Bs1[i]?) = (W1 pa).map some) : Met l y yw rm (va_Pc av (b_Pre D cl tys Bs)) (bQv D cl W1 (bA Bs)) 0 0 (bA Bs) := by
  subst hw; subst hw1; subst he
  refine b_imp h (fun a s hq => ⟨hq.1, (hq.2.1.sub is hs).flat, hq.2.2.1, (hq.2.2.2.sub is hn hs).flat⟩) (fun a s o t hq hz => ?_) (b_inB hs)
  obtain ⟨⟨u, h1, h2, hB⟩, h3, h4⟩ := hz
  have hJ := b_join hq.2.1 hq.2.2.2 hs hl h4 hB
  exact ⟨⟨u, h1, h2, pa, hJ.sub js hp, (bD_fst hq.2.2.2.self hf).sub js hj hp⟩, h3, fun q h5 h6 => h4 q h5 (fun z => h6 (b_inB hs q z))⟩
section BRX
variable {p : Program} {l : Launch} {e : Env} {R : Room} {s : State} {m : MethodId} {args : Array Value} {below : List Frame} {meth : Method} {c : Code} {H : Heap} {locs : List Loc} {cells slots : Nat} {Q : State → Prop}
variable {pc : Nat} {ls : Array Slot} {rest st0 : List Value} {a : Array Value} {A0 : Nat → Prop} {H0 : Heap} {D : va_G} {cl : List vw_C} {Bs Rs : List va_W} {W1 : (Nat → Nat → Nat) → List va_W}
theorem b_inS {A0 : Nat → Prop} {Bs : List va_W} (hD : bD A0 Bs) : ∀ q, bA Bs q → A0 q := fun q h => by
  obtain ⟨i, B, e, hi, hq⟩ := h
  obtain ⟨j, hj⟩ := List.getElem?_of_mem hq
  exact (hD.1 i B hi).2 j (q, e) hj
theorem bD.wk {A A2 : Nat → Prop} {Bs : List va_W} (hD : bD A Bs) (h : ∀ q, A q → A2 q) : bD A2 Bs := ⟨fun i B hB => (hD.1 i B hB).weaken (fun _ _ _ z => h _ z), hD.2⟩
/-- a call that takes the whole world -/
theorem b_alli {res : Int32} (hr : va_Run p l e R s m args below meth c H locs cells slots 0 0 (F0 m pc ls st0) rest (bQi D cl res W1 (bA Bs) a) (bA Bs)) (hD : bD A0 Bs) (hS : va_S A0 H0 H locs)
    (kk : ∀ (H1 : Heap) (locs1 : List Loc) (pa : Nat → Nat → Nat), bP D cl (W1 pa) H1 → bD A0 (W1 pa) → va_S A0 H0 H1 locs1 → W p l e R s m args below meth c H1 locs1 cells slots Q (F0 m (pc + 3) ls (.int res :: rest))) : W p l e R s m args below meth c H locs cells slots Q (F0 m pc ls st0) := by
  refine va_calli hr hS (fun q _ h => b_inS hD q h) (b_inS hD) (fun r u t H1 locs1 ht hvm hw hB hz hk hS1 => ?_)
  subst hw
  obtain ⟨pa, hP1, hD1⟩ := hB
  rw [ht] at hP1
  exact kk H1 locs1 pa hP1 (hD1.wk (b_inS hD)) hS1
theorem b_allv (hr : va_Run p l e R s m args below meth c H locs cells slots 0 0 (F0 m pc ls st0) rest (bQv D cl W1 (bA Bs) a) (bA Bs)) (hD : bD A0 Bs) (hS : va_S A0 H0 H locs)
    (kk : ∀ (H1 : Heap) (locs1 : List Loc) (pa : Nat → Nat → Nat), bP D cl (W1 pa) H1 → bD A0 (W1 pa) → va_S A0 H0 H1 locs1 → W p l e R s m args below meth c H1 locs1 cells slots Q (F0 m (pc + 3) ls rest)) : W p l e R s m args below meth c H locs cells slots Q (F0 m pc ls st0) := by
  refine va_callv hr hS (fun q _ h => b_inS hD q h) (b_inS hD) (fun u t H1 locs1 ht hvm hw hB hz hk hS1 => ?_)
  obtain ⟨pa, hP1, hD1⟩ := hB
  rw [ht] at hP1
  exact kk H1 locs1 pa hP1 (hD1.wk (b_inS hD)) hS1
/-- a call that takes some blocks, the rest staying behind them -/
theorem b_parti {Cs : List va_W} {res : Int32} {is isR : List Nat} (hr : va_Run p l e R s m args below meth c H locs cells slots 0 0 (F0 m pc ls st0) rest (bQi D cl res W1 (bA Cs) a) (bA Cs)) (hP : bP D cl Bs H) (hD : bD A0 Bs) (hS : va_S A0 H0 H locs)
    (hs : is.map (fun i => Bs[i]?) = Cs.map some) (hR : isR.map (fun i => Bs[i]?) = Rs.map some) (hn : va_nd isR = true) (hdis : ∀ i ∈ isR, i ∉ is)
    (kk : ∀ (H1 : Heap) (locs1 : List Loc) (pa : Nat → Nat → Nat), bP D cl (W1 pa ++ Rs) H1 → bD A0 (W1 pa ++ Rs) → va_S A0 H0 H1 locs1 → W p l e R s m args below meth c H1 locs1 cells slots Q (F0 m (pc + 3) ls (.int res :: rest))) : W p l e R s m args below meth c H locs cells slots Q (F0 m pc ls st0) := by
  have hin := b_inA hD hs
  refine va_calli hr hS (fun q _ h => hin q h) hin (fun r u t H1 locs1 ht hvm hw hB hz hk hS1 => ?_)
  subst hw
  obtain ⟨pa, hP1, hD1⟩ := hB
  rw [ht] at hP1
  obtain ⟨h1, h2⟩ := b_ex hP hD hs hR hn hdis hk hP1 hD1
  exact kk H1 locs1 pa h1 h2 hS1
end BRX
