-- calls that write, with the world behind them said outright
section RW2
variable {p : Program} {l : Launch} {e : Env} {R : Room} {s : State} {m : MethodId} {args : Array Value} {below : List Frame} {meth : Method} {c : Code} {H : Heap} {locs : List Loc} {cells slots : Nat} {Q : State → Prop}
variable {pc : Nat} {ls : Array Slot} {rest st0 : List Value} {a : Array Value} {A0 : Nat → Prop} {H0 : Heap} {D : va_G} {cl : List vw_C} {ws w1 wsC : va_W}
theorem wr_calli2 {ws2 : va_W} {res : Int32} {is : List Nat} (hr : va_Run p l e R s m args below meth c H locs cells slots 0 0 (F0 m pc ls st0) rest (va_Qi (fun r (_ : Unit) => r = res) (fun _ t => va_P D cl w1 t.heap) (wr_A ws) a) (wr_A ws)) (hP : va_P D cl wsC H) (hD : va_D A0 wsC) (hS : va_S A0 H0 H locs)
    (hC : is.map (fun i => wsC[i]?) = ws.map some) (hl : is.length = w1.length) (he : pl_put wsC is w1 = ws2) (hf : ws2.map Prod.fst = wsC.map Prod.fst)
    (kk : ∀ (H1 : Heap) (locs1 : List Loc), va_P D cl ws2 H1 → va_D A0 ws2 → va_S A0 H0 H1 locs1 → W p l e R s m args below meth c H1 locs1 cells slots Q (F0 m (pc + 3) ls (.int res :: rest))) : W p l e R s m args below meth c H locs cells slots Q (F0 m pc ls st0) := by
  subst he
  exact wr_calli hr hP hD hS hC hl hf kk
theorem wr_calll2 {ws2 : va_W} {res : Int64} {is : List Nat} (hr : va_Run p l e R s m args below meth c H locs cells slots 0 0 (F0 m pc ls st0) rest (va_Ql (fun r (_ : Unit) => r = res) (fun _ t => va_P D cl w1 t.heap) (wr_A ws) a) (wr_A ws)) (hP : va_P D cl wsC H) (hD : va_D A0 wsC) (hS : va_S A0 H0 H locs)
    (hC : is.map (fun i => wsC[i]?) = ws.map some) (hl : is.length = w1.length) (he : pl_put wsC is w1 = ws2) (hf : ws2.map Prod.fst = wsC.map Prod.fst)
    (kk : ∀ (H1 : Heap) (locs1 : List Loc), va_P D cl ws2 H1 → va_D A0 ws2 → va_S A0 H0 H1 locs1 → W p l e R s m args below meth c H1 locs1 cells slots Q (F0 m (pc + 3) ls (.long res :: rest))) : W p l e R s m args below meth c H locs cells slots Q (F0 m pc ls st0) := by
  subst he
  exact wr_calll hr hP hD hS hC hl hf kk
theorem wr_callv2 {ws2 : va_W} {is : List Nat} (hr : va_Run p l e R s m args below meth c H locs cells slots 0 0 (F0 m pc ls st0) rest (va_Qv (fun (_ : Unit) => True) (fun _ t => va_P D cl w1 t.heap) (wr_A ws) a) (wr_A ws)) (hP : va_P D cl wsC H) (hD : va_D A0 wsC) (hS : va_S A0 H0 H locs)
    (hC : is.map (fun i => wsC[i]?) = ws.map some) (hl : is.length = w1.length) (he : pl_put wsC is w1 = ws2) (hf : ws2.map Prod.fst = wsC.map Prod.fst)
    (kk : ∀ (H1 : Heap) (locs1 : List Loc), va_P D cl ws2 H1 → va_D A0 ws2 → va_S A0 H0 H1 locs1 → W p l e R s m args below meth c H1 locs1 cells slots Q (F0 m (pc + 3) ls rest)) : W p l e R s m args below meth c H locs cells slots Q (F0 m pc ls st0) := by
  subst he
  exact wr_callv hr hP hD hS hC hl hf kk
end RW2
