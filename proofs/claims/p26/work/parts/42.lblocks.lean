-- blocks: calls of the law's own methods
theorem b_preS {s : State} {H : Heap} {D : va_G} {cl : List vw_C} {tys : List (ClassId × FieldType)} {Cs : List va_W} {av : List Value} {A : Nat → Prop} (hP : bP D cl Cs H) (hK : va_K D cl tys s) (hD : bD A Cs) : PreS s H (va_Pc av (b_Pre D cl tys Cs)) av :=
  ⟨fun a U g mk q => ⟨q.1, q.2.1, va_K.moved (u := U) (U := U.calling g mk a) (Vm.Alike.refl U.vm) q.2.2.1, q.2.2.2⟩, fun U hU hW => ⟨rfl, by rw [hU]; exact hP, va_K.moved hW.alike hK, hD.top⟩⟩
theorem b_preSA {s : State} {H : Heap} {D : va_G} {cl : List vw_C} {tys : List (ClassId × FieldType)} {Cs : List va_W} {av : List Value} {A : Nat → Prop} (hP : bP D cl Cs H) (hK : va_K D cl tys s) (hD : bD A Cs) : PreS s H (va_Pc av (fun U => U.heap.size = H.size ∧ b_Pre D cl tys Cs U)) av :=
  ⟨fun a U g mk q => ⟨q.1, q.2.1, q.2.2.1, va_K.moved (u := U) (U := U.calling g mk a) (Vm.Alike.refl U.vm) q.2.2.2.1, q.2.2.2.2⟩, fun U hU hW => ⟨rfl, by rw [hU], by rw [hU]; exact hP, va_K.moved hW.alike hK, hD.top⟩⟩
/-- the blocks, and what comes -/
def bZ (Bs : List va_W) (sz : Nat) : Nat → Prop := fun q => bA Bs q ∨ sz ≤ q
theorem b_mwiA {l : Launch} {y : MethodName} {yw : List Cond} {rm : Room} {av : List Value} {D : va_G} {cl : List vw_C} {tys : List (ClassId × FieldType)} {w w1 : va_W} {res : Int32} {sz mc ms : Nat} (h : Met l y yw rm (va_Pc av (fun U => U.heap.size = sz ∧ va_P D cl w U.heap ∧ va_K D cl tys U ∧ va_D (fun _ => True) w)) (va_Qi (fun r (_ : Unit) => r = res) (fun _ t => va_P D cl w1 t.heap) (va_A w sz)) mc ms (va_A w sz)) {Bs : List va_W} (is : List Nat) (Cs Cs1 Bs1 : List va_W) (js : List Nat) (W1 : (Nat → Nat → Nat) → List va_W) (pa : Nat → Nat → Nat)
    (hw : Cs.flatten = w) (hw1 : Cs1.flatten = w1) (hs : is.map (fun i => Bs[i]?) = Cs.map some) (hn : va_nd is = true) (hl : is.length = Cs1.length) (he : b_put Bs is Cs1 = Bs1) (hf : Bs1.map (fun B => B.map Prod.fst) = Bs.map (fun B => B.map Prod.fst)) (hj : va_nd js = true) (hp : js.map (fun i => Bs1[i]?) = (W1 pa).map some) : Met l y yw rm (va_Pc av (fun U => U.heap.size = sz ∧ b_Pre D cl tys Bs U)) (bQi D cl res W1 (bZ Bs sz)) mc ms (bZ Bs sz) := by
  subst hw; subst hw1; subst he
  refine b_imp h (fun a s hq => ⟨hq.1, hq.2.1, (hq.2.2.1.sub is hs).flat, hq.2.2.2.1, (hq.2.2.2.2.sub is hn hs).flat⟩) (fun a s o t hq hz => ?_) (fun q z => z.elim (fun z => Or.inl (b_inB hs q z)) Or.inr)
  obtain ⟨⟨r, u, h1, h2, hB⟩, h3, h4⟩ := hz
  have hsz : s.heap.size = sz := hq.2.1
  have hJ := b_join hq.2.2.1 hq.2.2.2.2 hs hl (fun q h5 h6 => h4 q h5 (fun z => z.elim (fun z => h6 z) (fun z => by omega))) hB
  exact ⟨⟨r, u, h1, h2, pa, hJ.sub js hp, ((bD_fst hq.2.2.2.2.self hf).sub js hj hp).wk (fun q z => Or.inl z)⟩, h3, fun q h5 h6 => h4 q h5 (fun z => h6 (z.elim (fun z => Or.inl (b_inB hs q z)) Or.inr))⟩
section BRA
variable {p : Program} {l : Launch} {e : Env} {R : Room} {s : State} {m : MethodId} {args : Array Value} {below : List Frame} {meth : Method} {c : Code} {H : Heap} {locs : List Loc} {cells slots : Nat} {Q : State → Prop}
variable {pc : Nat} {ls : Array Slot} {rest st0 : List Value} {a : Array Value} {A0 : Nat → Prop} {H0 : Heap} {D : va_G} {cl : List vw_C} {Bs : List va_W} {W1 : (Nat → Nat → Nat) → List va_W}
theorem b_alle {r res : Int32} (he : r = res) (hr : va_Run p l e R s m args below meth c H locs cells slots 0 0 (F0 m pc ls st0) rest (bQi D cl res W1 (bA Bs) a) (bA Bs)) (hD : bD A0 Bs) (hS : va_S A0 H0 H locs)
    (kk : ∀ (H1 : Heap) (locs1 : List Loc) (pa : Nat → Nat → Nat), bP D cl (W1 pa) H1 → bD A0 (W1 pa) → va_S A0 H0 H1 locs1 → W p l e R s m args below meth c H1 locs1 cells slots Q (F0 m (pc + 3) ls (.int r :: rest))) : W p l e R s m args below meth c H locs cells slots Q (F0 m pc ls st0) := by
  subst he
  exact b_alli hr hD hS kk
theorem b_allA {r res : Int32} {mc ms : Nat} (he : r = res) (hr : va_Run p l e R s m args below meth c H locs cells slots mc ms (F0 m pc ls st0) rest (bQi D cl res W1 (bZ Bs H.size) a) (bZ Bs H.size)) (hD : bD A0 Bs) (hS : va_S A0 H0 H locs) (hA : ∀ q : Nat, H0.size ≤ q → A0 q)
    (kk : ∀ (H1 : Heap) (locs1 : List Loc) (pa : Nat → Nat → Nat), bP D cl (W1 pa) H1 → bD A0 (W1 pa) → va_S A0 H0 H1 locs1 → W p l e R s m args below meth c H1 locs1 (cells + mc) (slots + ms) Q (F0 m (pc + 3) ls (.int r :: rest))) : W p l e R s m args below meth c H locs cells slots Q (F0 m pc ls st0) := by
  subst he
  have hin : ∀ q, bZ Bs H.size q → A0 q := fun q z => z.elim (fun z => b_inS hD q z) (fun z => hA q (Nat.le_trans hS.1 z))
  refine va_calli hr hS (fun q _ h => hin q h) hin (fun r u t H1 locs1 ht hvm hw hB hz hk hS1 => ?_)
  subst hw
  obtain ⟨pa, hP1, hD1⟩ := hB
  rw [ht] at hP1
  exact kk H1 locs1 pa hP1 (hD1.wk hin) hS1
end BRA
