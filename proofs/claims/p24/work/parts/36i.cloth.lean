-- what a seam, a cut and a rag do to the cloth
theorem jF_cc {c : Nat} (a : c < 48) (b : c % 8 < 7) : jF (7 * (c / 8) + c % 8) = c := (jF_c ⟨c, a⟩ b).1
theorem CR_ext {gn ac dn : Int64} {fs fm vs vs' : Nat → Int32} (h : CR gn ac dn fs fm vs) (e : ∀ i, i < 212 → vs' i = vs i) : CR gn ac dn fs fm vs' := by
  have hvd : ∀ j, j < 82 → (vd vs' j ↔ vd vs j) := fun j hj => by
    have := jF_lt hj
    have := jS_lt hj
    unfold vd
    rw [e _ (by omega), e _ (by omega)]
  have hho : ∀ j, j < 82 → (hold vs' j ↔ hold vs j) := fun j hj => by
    unfold hold
    rw [hvd j hj, e j (by omega)]
  refine ⟨fun c hc => by rw [e _ (by omega)]; exact h.1 c hc, h.2.1, fun j hj => by rw [e _ (by omega)]; exact h.2.2.1 j hj, fun j hj => by rw [e _ (by omega)]; exact h.2.2.2.1 j hj, fun c => (h.2.2.2.2.1 c).trans ?_, fun c => (h.2.2.2.2.2 c).trans ?_⟩
  · exact ⟨fun z => ⟨z.1, z.2.1, (hho _ (by omega)).mpr z.2.2⟩, fun z => ⟨z.1, z.2.1, (hho _ (by omega)).mp z.2.2⟩⟩
  · exact ⟨fun z => ⟨z.1, (hho _ (by omega)).mpr z.2⟩, fun z => ⟨z.1, (hho _ (by omega)).mp z.2⟩⟩
def mkB (s : Int32) (j : Nat) (x : Int64) : Int64 := if s = 0 then (x &&& (own j ^^^ (-1))) ||| own j else if s = 2 then (x &&& (own j ^^^ (-1))) ||| own j else (x &&& (own j ^^^ (-1))) ||| 0
theorem b6_mkB {s : Int32} {j : Nat} (hj : j < 82) (x : Int64) (i : Nat) : b6 (mkB s j x) i = true ↔ if i = jF j then (s = 0 ∨ s = 2) else b6 x i = true := by
  unfold mkB
  have on : b6 ((x &&& (own j ^^^ (-1))) ||| own j) i = true ↔ (i = jF j ∨ b6 x i = true) := by
    rw [b6_or, Bool.or_eq_true, b6_off hj, b6_own hj, decide_eq_true_iff]
    exact ⟨fun z => z.elim (fun q => Or.inr q.1) Or.inl, fun z => by
      by_cases q : i = jF j
      · exact Or.inr q
      · exact Or.inl ⟨z.resolve_left q, q⟩⟩
  have off : b6 ((x &&& (own j ^^^ (-1))) ||| 0) i = true ↔ (b6 x i = true ∧ i ≠ jF j) := by
    rw [b6_or, Bool.or_eq_true, b6_off hj, b6_zero]
    exact ⟨fun z => z.elim (fun q => q) (fun q => absurd q Bool.false_ne_true), Or.inl⟩
  by_cases e0 : s = 0
  · rw [if_pos e0, on]
    by_cases q : i = jF j
    · rw [if_pos q]; exact ⟨fun _ => Or.inl e0, fun _ => Or.inl q⟩
    · rw [if_neg q]; exact ⟨fun z => z.resolve_left q, Or.inr⟩
  · rw [if_neg e0]
    by_cases e2 : s = 2
    · rw [if_pos e2, on]
      by_cases q : i = jF j
      · rw [if_pos q]; exact ⟨fun _ => Or.inr e2, fun _ => Or.inl q⟩
      · rw [if_neg q]; exact ⟨fun z => z.resolve_left q, Or.inr⟩
    · rw [if_neg e2, off]
      by_cases q : i = jF j
      · rw [if_pos q]; exact ⟨fun z => absurd q z.2, fun z => z.elim (fun w => absurd w e0) (fun w => absurd w e2)⟩
      · rw [if_neg q]; exact ⟨fun z => z.1, fun z => ⟨z, q⟩⟩
theorem make_f {j : Nat} (hj : j < 82) (s m : Int32) (ac dn : Int64) (fs fm : Nat → Int32) : F_Cloth_make (nI j) s m ac dn fs fm = (upd fs j s, upd fm j m, if j < 42 then mkB s j ac else ac, if j < 42 then dn else mkB s j dn) := by
  have t := j_tab ⟨j, hj⟩
  dsimp only at t
  unfold F_Cloth_make mkB own
  dsimp only [bnd]
  rw [t.2.2.2.2.2.2.2.1, if_neg (by decide), t.1, t.2.2.2.2.1, nI_clamp (by omega)]
  by_cases c : j < 42
  · rw [if_pos c, if_pos c, if_pos c, if_pos rfl, if_pos rfl]
    by_cases a : s = 0
    · rw [if_pos a, if_pos a]
    · rw [if_neg a, if_neg a]
      by_cases b : s = 2
      · rw [if_pos b, if_pos b]
      · rw [if_neg b, if_neg b]
  · have d : ¬ (1 : Int32) = 0 := by decide
    rw [if_neg c, if_neg c, if_neg c, if_neg d, if_neg d]
    by_cases a : s = 0
    · rw [if_pos a, if_pos a]
    · rw [if_neg a, if_neg a]
      by_cases b : s = 2
      · rw [if_pos b, if_pos b]
      · rw [if_neg b, if_neg b]
theorem make_CR {gn ac dn : Int64} {fs fm vs vs' : Nat → Int32} (h : CR gn ac dn fs fm vs) {j : Nat} (hj : j < 82) (hv : ¬ vd vs j) {s m : Int32} (e : ∀ i, i < 212 → vs' i = if i = j then s else if i = 82 + j then m else vs i) : CR gn (if j < 42 then mkB s j ac else ac) (if j < 42 then dn else mkB s j dn) (upd fs j s) (upd fm j m) vs' := by
  have hvd : ∀ k, k < 82 → (vd vs' k ↔ vd vs k) := fun k hk => by
    have := jF_lt hk
    have := jS_lt hk
    unfold vd
    rw [e _ (by omega), e _ (by omega), if_neg (by omega), if_neg (by omega), if_neg (by omega), if_neg (by omega)]
  have hho : ∀ k, k < 82 → (hold vs' k ↔ if k = j then (s = 0 ∨ s = 2) else hold vs k) := fun k hk => by
    unfold hold
    rw [hvd k hk, e k (by omega)]
    by_cases q : k = j
    · subst q
      rw [if_pos rfl, if_pos rfl]
      exact ⟨fun z => z.2, fun z => ⟨hv, z⟩⟩
    · rw [if_neg q, if_neg q, if_neg (by omega)]
  refine ⟨fun c hc => by rw [e _ (by omega), if_neg (by omega), if_neg (by omega)]; exact h.1 c hc, h.2.1, fun k hk => ?_, fun k hk => ?_, fun c => ?_, fun c => ?_⟩
  · rw [e _ (by omega)]
    by_cases q : k = j
    · subst q; rw [if_pos rfl, pk_us]
    · rw [if_neg q, if_neg (by omega), pk_un q]; exact h.2.2.1 k hk
  · rw [e _ (by omega), if_neg (by omega)]
    by_cases q : k = j
    · subst q; rw [if_pos rfl, pk_us]
    · rw [if_neg (by omega), pk_un q]; exact h.2.2.2.1 k hk
  · by_cases c42 : j < 42
    · rw [if_pos c42, b6_mkB hj]
      by_cases q : c = jF j
      · subst q
        have t := jF_a ⟨j, c42⟩
        dsimp only at t
        rw [if_pos rfl, t.1, hho j hj, if_pos rfl]
        exact ⟨fun z => ⟨jF_lt hj, t.2, z⟩, fun z => z.2.2⟩
      · rw [if_neg q, h.2.2.2.2.1]
        constructor
        · rintro ⟨a, b, d⟩
          refine ⟨a, b, (hho _ (by omega)).mpr ?_⟩
          rw [if_neg (fun z => q ((jF_cc a b).symm.trans (congrArg jF z)))]
          exact d
        · rintro ⟨a, b, d⟩
          have := (hho _ (by omega)).mp d
          rw [if_neg (fun z => q ((jF_cc a b).symm.trans (congrArg jF z)))] at this
          exact ⟨a, b, this⟩
    · rw [if_neg c42, h.2.2.2.2.1]
      constructor
      · rintro ⟨a, b, d⟩
        refine ⟨a, b, (hho _ (by omega)).mpr ?_⟩
        rw [if_neg (by omega)]
        exact d
      · rintro ⟨a, b, d⟩
        have := (hho _ (by omega)).mp d
        rw [if_neg (by omega)] at this
        exact ⟨a, b, this⟩
  · by_cases c42 : j < 42
    · rw [if_pos c42, h.2.2.2.2.2]
      constructor
      · rintro ⟨a, d⟩
        refine ⟨a, (hho _ (by omega)).mpr ?_⟩
        rw [if_neg (by omega)]
        exact d
      · rintro ⟨a, d⟩
        have := (hho _ (by omega)).mp d
        rw [if_neg (by omega)] at this
        exact ⟨a, this⟩
    · rw [if_neg c42, b6_mkB hj]
      have ej := jF_d (j := j) (by omega)
      by_cases q : c = jF j
      · rw [if_pos q, q, ej, show 42 + (j - 42) = j by omega, hho j hj, if_pos rfl]
        exact ⟨fun z => ⟨by omega, z⟩, fun z => z.2⟩
      · rw [if_neg q, h.2.2.2.2.2]
        constructor
        · rintro ⟨a, d⟩
          refine ⟨a, (hho _ (by omega)).mpr ?_⟩
          rw [if_neg (by omega)]
          exact d
        · rintro ⟨a, d⟩
          have := (hho _ (by omega)).mp d
          rw [if_neg (by omega)] at this
          exact ⟨a, this⟩
theorem tear_CR {gn ac dn rag : Int64} {fs fm vs vs' : Nat → Int32} (h : CR gn ac dn fs fm vs) (hd : Dm rag) (e0 : ∀ i, i < 164 → vs' i = vs i) (e1 : ∀ c, c < 48 → (vs' (164 + c) = 1 ↔ b6 rag c = true ∨ vs (164 + c) = 1)) : CR (F_Cloth_tearOff rag gn ac dn).1 (F_Cloth_tearOff rag gn ac dn).2.1 (F_Cloth_tearOff rag gn ac dn).2.2 fs fm vs' := by
  have e : F_Cloth_tearOff rag gn ac dn = (gn ||| rag, ac &&& (((gn ||| rag) ||| ((gn ||| rag).toUInt64 >>> ((1 : Int32).toInt64.toUInt64 &&& Int64.toUInt64 63)).toInt64) ^^^ (-1)), dn &&& (((gn ||| rag) ||| ((gn ||| rag).toUInt64 >>> ((8 : Int32).toInt64.toUInt64 &&& Int64.toUInt64 63)).toInt64) ^^^ (-1))) := rfl
  rw [e]
  dsimp only
  have hg : ∀ c, c < 48 → (b6 (gn ||| rag) c = true ↔ vs' (164 + c) = 1) := fun c hc => by
    rw [b6_or, Bool.or_eq_true, h.1 c hc, e1 c hc]
    exact Or.comm
  have hg2 : ∀ c, 48 ≤ c → b6 (gn ||| rag) c = false := fun c hc => by rw [b6_or, h.2.1 c hc, hd c hc]; rfl
  have mono : ∀ c, c < 48 → vs (164 + c) = 1 → vs' (164 + c) = 1 := fun c hc z => (e1 c hc).mpr (Or.inr z)
  generalize gn ||| rag = g at hg hg2
  have hho : ∀ j, j < 82 → (hold vs' j ↔ hold vs j ∧ ¬ vd vs' j) := fun j hj => by
    have := jF_lt hj
    have := jS_lt hj
    unfold hold
    rw [e0 j (by omega)]
    constructor
    · rintro ⟨a, b⟩
      refine ⟨⟨fun z => a ?_, b⟩, a⟩
      rcases z with z | z
      · exact Or.inl (mono _ (by omega) z)
      · exact Or.inr (mono _ (by omega) z)
    · rintro ⟨⟨-, b⟩, a⟩
      exact ⟨a, b⟩
  refine ⟨hg, hg2, fun j hj => by rw [e0 _ (by omega)]; exact h.2.2.1 j hj, fun j hj => by rw [e0 _ (by omega)]; exact h.2.2.2.1 j hj, fun c => ?_, fun c => ?_⟩
  · rw [b6_and, Bool.and_eq_true, b6_not, b6_or, b6_shr1, h.2.2.2.2.1]
    simp only [Bool.and_eq_true, decide_eq_true_eq, Bool.not_eq_true', Bool.or_eq_false_iff]
    constructor
    · rintro ⟨⟨a, b, d⟩, -, f1, f2⟩
      have t := jF_c ⟨c, a⟩ b
      dsimp only at t
      refine ⟨a, b, (hho _ (by omega)).mpr ⟨d, ?_⟩⟩
      unfold vd
      rw [jS_of, if_pos t.2, t.1]
      rintro (z | z)
      · rw [(hg c a).mpr z] at f1; exact Bool.false_ne_true f1.symm
      · rw [Nat.add_comm 1 c, (hg (c + 1) (by omega)).mpr z] at f2; exact Bool.false_ne_true f2.symm
    · rintro ⟨a, b, d⟩
      have t := jF_c ⟨c, a⟩ b
      dsimp only at t
      obtain ⟨d1, d2⟩ := (hho _ (by omega)).mp d
      unfold vd at d2
      rw [jS_of, if_pos t.2, t.1] at d2
      refine ⟨⟨a, b, d1⟩, by omega, not_true_false.mpr (fun z => d2 (Or.inl ((hg c a).mp z))), not_true_false.mpr (fun z => d2 (Or.inr ?_))⟩
      rw [Nat.add_comm 1 c] at z
      exact (hg (c + 1) (by omega)).mp z
  · rw [b6_and, Bool.and_eq_true, b6_not, b6_or, b6_shr8, h.2.2.2.2.2]
    simp only [Bool.and_eq_true, decide_eq_true_eq, Bool.not_eq_true', Bool.or_eq_false_iff]
    have ej : jF (42 + c) = c := by rw [jF_d (by omega)]; omega
    constructor
    · rintro ⟨⟨a, d⟩, -, f1, f2⟩
      refine ⟨a, (hho _ (by omega)).mpr ⟨d, ?_⟩⟩
      unfold vd
      rw [jS_of, if_neg (by omega), ej]
      rintro (z | z)
      · rw [(hg c (by omega)).mpr z] at f1; exact Bool.false_ne_true f1.symm
      · rw [Nat.add_comm 8 c, (hg (c + 8) (by omega)).mpr z] at f2; exact Bool.false_ne_true f2.symm
    · rintro ⟨a, d⟩
      obtain ⟨d1, d2⟩ := (hho _ (by omega)).mp d
      unfold vd at d2
      rw [jS_of, if_neg (by omega), ej] at d2
      refine ⟨⟨a, d1⟩, by omega, not_true_false.mpr (fun z => d2 (Or.inl ((hg c (by omega)).mp z))), not_true_false.mpr (fun z => d2 (Or.inr ?_))⟩
      rw [Nat.add_comm 8 c] at z
      exact (hg (c + 8) (by omega)).mp z
