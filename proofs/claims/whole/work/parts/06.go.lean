/-! ===== the walk's judgement over pictures of the memory ===== -/
def wsY (y : GY) : List Cond := Cond.code y.1 y.2.1 y.2.2.1 y.2.2.2 :: gw
def MR (g : GX) (M : GM) (H : Heap) : Prop := H.size = xs0 g + M.1 ∧ ∀ k : Nat, (k < M.1 → va_at (xD g) clz (xs0 g + k, ce g (M.2 k)) H ∧ okC (M.2 k)) ∧ (M.1 ≤ k → M.2 k = gBad)
abbrev xA (g : GX) : Nat → Prop := fun q => xs0 g ≤ q
def EV (g : GX) (U : State) : Prop :=
  va_K (xD g) clz (tys g) U ∧
  (∀ q ∈ nestM, va_Nw (.methodLinkNest q.1 q.2.1 q.2.2.1 q.2.2.2) U) ∧
  (∀ q ∈ nestF, va_Nw (.fieldLinkNest q.1 q.2.1 q.2.2.1 q.2.2.2.1 q.2.2.2.2.1 q.2.2.2.2.2) U) ∧
  (∀ C ∈ aoL, va_AO C U) ∧
  (∀ (i : Nat) (q : String × List Int), stT[i]? = some q → va_Z "GooseCounty" q.1 "[I" (.ref (xsa g i)) (xA g) U U.heap ∧ va_T .int (xsa g i) q.2.length (fun j => .int (Int32.ofInt (q.2.getD j 0))) (xA g) U U.heap) ∧
  va_Z "java/lang/String" "COMPACT_STRINGS" "Z" (.int 1) (xA g) U U.heap ∧
  vk_S 6 srL srB (fun i => xsa g (8 + i)) (fun i => xsa g (16 + i)) (xA g) U U.heap ∧
  (∀ (i : Nat) (q : Nat × String), srT[i]? = some q → vk_R "GooseCounty$Reader" q.1 q.2 (xsa g (8 + i)) U) ∧
  va_T .int (xsa g 30) (xL g) (fun j => .int (Int32.ofInt (xX g j))) (xA g) U U.heap ∧ (∀ j, inR (xX g j)) ∧
  (va_Z "jdk/internal/util/Preconditions" "SIOOBE_FORMATTER" "Ljava/util/function/BiFunction;" .null (xA g) U U.heap ∨ va_Z "jdk/internal/util/Preconditions" "SIOOBE_FORMATTER" "Ljava/util/function/BiFunction;" (.ref (xsa g 40)) (xA g) U U.heap) ∧
  xs0 g ≤ U.heap.size
theorem EV.moved {g : GX} {s U : State} (h : EV g s) (hW : s.WarmedH U.vm) (hz : xs0 g ≤ U.heap.size) (hq : ∀ q : Nat, q < xs0 g → U.heap[q]? = s.heap[q]?) : EV g U := by
  obtain ⟨h1, h2, h3, h4, h5, h6, h7, h8, h9, h10, h11, h12⟩ := h
  have hA : ∀ a : Nat, a < s.heap.size → ¬ xA g a → U.heap[a]? = s.heap[a]? := fun a _ h => hq a (Nat.not_le.mp h)
  refine ⟨va_K.moved hW.alike h1, fun q m => va_Nw.warmM hW (h2 q m), fun q m => va_Nw.warmF hW (h3 q m), fun C m => va_AO.moved hW.alike (h4 C m), fun i q e => ⟨((h5 i q e).1.moved hW.alike).kept hA, ((h5 i q e).2.moved hW.alike).kept hA⟩, (h6.moved hW.alike).kept hA, (h7.moved hW.alike).kept hA, fun i q e => (h8 i q e).warm hW, (h9.moved hW.alike).kept hA, h10, ?_, hz⟩
  rcases h11 with h | h
  · exact Or.inl ((h.moved hW.alike).kept hA)
  · exact Or.inr ((h.moved hW.alike).kept hA)
theorem EV.calling {g : GX} {U : State} (h : EV g U) (f : JFrame) (mk : MethodId) (a : Array Value) : EV g (U.calling f mk a) :=
  h.moved (U := U.calling f mk a) (State.WarmedH.refl U) h.2.2.2.2.2.2.2.2.2.2.2 (fun _ _ => rfl)
def CX (g : GX) (y : GY) (p : Program) (s : State) (m : MethodId) (args : Array Value) (meth : Method) (c : Code) : Prop :=
  p.tables.exec = Jvm.exec ∧ c.code = y.2.1 ∧ c.maxLocals = y.2.2.1 ∧ s.vm.findClass y.1.cls = some m.cls ∧ (∀ w ∈ gw, w.before args s = true) ∧ meth.locks = false ∧ meth.name = y.1.name ∧ meth.sig.returnType = y.2.2.2 ∧ EV g s
/-- a return of the method at pc: what it answers, what lies on the stack -/
def RI (y : GY) (pc : Nat) (r : GV) (st : List GV) : Prop :=
  (∃ (x : Int) (ty : FieldType), decode y.2.1 pc = .ok (.ireturn, 1) ∧ y.2.2.2 = some ty ∧ narrow ty (.int (Int32.ofInt x)) = .int (Int32.ofInt x) ∧ inR x ∧ r = gI x ∧ st = [gI x]) ∨
  (decode y.2.1 pc = .ok (.return_, 1) ∧ y.2.2.2 = none ∧ r = gU ∧ st = []) ∨
  (∃ (o : Option Nat) (rt : FieldType), decode y.2.1 pc = .ok (.areturn, 1) ∧ y.2.2.2 = some rt ∧ ((∃ n, rt = .object n) ∨ ∃ t, rt = .array t) ∧ r = gO o ∧ st = [gO o])
def RT (g : GX) (y : GY) (Q : GV → GM → Prop) (p : Program) (e : Env) (R : Room) (s : State) (m : MethodId) (args : Array Value) (below : List Frame) (meth : Method) (c : Code) (Z : State → Prop) : Prop :=
  ∀ (r : GV) (M : GM) (H : Heap) (locs : List Loc) (cells slots pc : Nat) (ls : Array Slot) (st : List GV), RI y pc r st → Q r M → MR g M H → va_S (xA g) s.heap H locs → cells ≤ R.cells → slots ≤ R.slots → W p g.1 e R s m args below meth c H locs cells slots Z (F0 m pc ls (st.map (rv g)))
def LH (g : GX) (ls : Array Slot) (n : Nat) (L : List GV) : Prop := ls.size = n ∧ lv_wf ls ∧ (∀ (i : Nat) (v : GV), L[i]? = some v → v ≠ gU → ls[i]? = some (.val (rv g v))) ∧ ∀ v ∈ L, okV v
/-- from pc, with these locals, this stack and this memory, the method comes to its end with Q; at most bc cells of bs slots come, at most d frames -/
def Go (g : GX) (y : GY) (d bc bs pc : Nat) (L st : List GV) (M : GM) (Q : GV → GM → Prop) : Prop :=
  ∀ (p : Program) (e : Env) (R : Room) (s : State) (m : MethodId) (args : Array Value) (below : List Frame) (meth : Method) (c : Code) (H : Heap) (locs : List Loc) (cells slots : Nat) (ls : Array Slot) (Z : State → Prop),
    CX g y p s m args meth c → RT g y Q p e R s m args below meth c Z → (d ≤ R.frames ∧ 64 * d ≤ R.locals ∧ cells + bc ≤ R.cells ∧ slots + bs ≤ R.slots) → (MR g M H ∧ va_S (xA g) s.heap H locs) → LH g ls y.2.2.1 L → (∀ v ∈ st, okV v) →
    W p g.1 e R s m args below meth c H locs cells slots Z (F0 m pc ls (st.map (rv g)))
theorem Go.use {g : GX} {y : GY} {d bc bs pc : Nat} {L st : List GV} {M : GM} {Q : GV → GM → Prop} (k : Go g y d bc bs pc L st M Q) {p : Program} {e : Env} {R : Room} {s : State} {m : MethodId} {args : Array Value} {below : List Frame} {meth : Method} {c : Code} {H : Heap} {locs : List Loc} {cells slots : Nat} {ls : Array Slot} {Z : State → Prop}
    (C : CX g y p s m args meth c) (hRT : RT g y Q p e R s m args below meth c Z) (hr : d ≤ R.frames ∧ 64 * d ≤ R.locals ∧ cells + bc ≤ R.cells ∧ slots + bs ≤ R.slots) (hM : MR g M H ∧ va_S (xA g) s.heap H locs) (hl : LH g ls y.2.2.1 L) (hs : ∀ v ∈ st, okV v) :
    W p g.1 e R s m args below meth c H locs cells slots Z (F0 m pc ls (st.map (rv g))) := k p e R s m args below meth c H locs cells slots ls Z C hRT hr hM hl hs
theorem okc {v : GV} {st : List GV} (h : okV v) (hs : ∀ x ∈ st, okV x) : ∀ x ∈ v :: st, okV x := List.forall_mem_cons.mpr ⟨h, hs⟩
theorem okt {v : GV} {st : List GV} (hs : ∀ x ∈ v :: st, okV x) : ∀ x ∈ st, okV x := (List.forall_mem_cons.mp hs).2
theorem okh {v : GV} {st : List GV} (hs : ∀ x ∈ v :: st, okV x) : okV v := (List.forall_mem_cons.mp hs).1
theorem LH.at {g : GX} {ls : Array Slot} {n : Nat} {L : List GV} (h : LH g ls n L) {i : Nat} {v : GV} (hi : L[i]? = some v) (hv : v ≠ gU) : ls[i]? = some (.val (rv g v)) := h.2.2.1 i v hi hv
theorem LH.ok {g : GX} {ls : Array Slot} {n : Nat} {L : List GV} (h : LH g ls n L) {i : Nat} {v : GV} (hi : L[i]? = some v) : okV v := h.2.2.2 v (List.mem_of_getElem? hi)
/-- the listed locals for the kit's rows -/
def lvl (g : GX) : Nat → List GV → List (Nat × Value)
  | _, [] => []
  | i, (.inr (.inr (.inr none))) :: L => lvl g (i + 1) L
  | i, v :: L => (i, rv g v) :: lvl g (i + 1) L
theorem lvl_mem {g : GX} : ∀ (L : List GV) (b : Nat) (q : Nat × Value), q ∈ lvl g b L ↔ ∃ (i : Nat) (v : GV), L[i]? = some v ∧ v ≠ gU ∧ q = (b + i, rv g v) := by
  intro L
  induction L with
  | nil => intro b q; simp [lvl]
  | cons a L ih =>
    intro b q
    have step : (∃ (i : Nat) (v : GV), (a :: L)[i]? = some v ∧ v ≠ gU ∧ q = (b + i, rv g v)) ↔ ((a ≠ gU ∧ q = (b, rv g a)) ∨ ∃ (i : Nat) (v : GV), L[i]? = some v ∧ v ≠ gU ∧ q = (b + 1 + i, rv g v)) := by
      constructor
      · rintro ⟨i, v, h1, h2, h3⟩
        cases i with
        | zero => simp at h1; subst h1; exact Or.inl ⟨h2, by simpa using h3⟩
        | succ i => simp at h1; exact Or.inr ⟨i, v, h1, h2, by rw [h3]; congr 1; omega⟩
      · rintro (⟨h1, h2⟩ | ⟨i, v, h1, h2, h3⟩)
        · exact ⟨0, a, by simp, h1, by simpa using h2⟩
        · exact ⟨i + 1, v, by simpa using h1, h2, by rw [h3]; congr 1; omega⟩
    rw [step, ← ih]
    match a with
    | .inl x => simp [lvl]
    | .inr (.inl x) => simp [lvl]
    | .inr (.inr (.inl x)) => simp [lvl]
    | .inr (.inr (.inr none)) => simp [lvl]
    | .inr (.inr (.inr (some x))) => simp [lvl]
theorem LH.has {g : GX} {ls : Array Slot} {n : Nat} {L : List GV} (h : LH g ls n L) : lv_has ls n (lvl g 0 L) := by
  refine ⟨h.1, h.2.1, fun q hq => ?_⟩
  obtain ⟨i, v, h1, h2, rfl⟩ := (lvl_mem L 0 q).mp hq
  rw [Nat.zero_add]
  exact h.at h1 h2
/-- a local of one slot is stored; no long ends there -/
def noL (L : List GV) (i : Nat) : Prop := ∀ x, L[i - 1]? ≠ some (gL x)
theorem LH.store {g : GX} {ls' : Array Slot} {n : Nat} {L : List GV} {i : Nat} {v : GV} (hk : ∀ v ∈ L, okV v) (hl : noL L i) (hv : okV v) (hi : i < L.length)
    (h' : lv_has ls' n ((i, rv g v) :: (lvl g 0 L).filter (fun q => !(q.1 == i) && !(q.1 + 1 == i && q.2.category == 2)))) : LH g ls' n (L.set i v) := by
  refine ⟨h'.1, h'.2.1, fun j w hj hw => ?_, fun w hw => ?_⟩
  · by_cases e : j = i
    · subst e
      rw [List.getElem?_set_self hi] at hj
      cases hj
      exact h'.2.2 (j, rv g v) List.mem_cons_self
    · rw [List.getElem?_set_ne (Ne.symm e)] at hj
      refine h'.2.2 (j, rv g w) (List.mem_cons_of_mem _ (List.mem_filter.mpr ⟨(lvl_mem L 0 _).mpr ⟨j, w, hj, hw, by rw [Nat.zero_add]⟩, ?_⟩))
      simp only [Bool.and_eq_true, Bool.not_eq_true', beq_eq_false_iff_ne, Bool.and_eq_false_iff]
      refine ⟨e, ?_⟩
      by_cases e2 : j + 1 = i
      · right
        have hj' : L[i - 1]? = some w := by rw [← e2]; simpa using hj
        match w, hj' with
        | .inl x, _ => simp [rv, Value.category]
        | .inr (.inl x), hj' => exact absurd hj' (hl x)
        | .inr (.inr (.inl none)), _ => simp [rv, Value.category]
        | .inr (.inr (.inl (some x))), _ => simp [rv, Value.category]
        | .inr (.inr (.inr none)), _ => simp [rv, Value.category]
        | .inr (.inr (.inr (some x))), _ => simp [rv, Value.category]
      · left; exact e2
  · rcases List.mem_or_eq_of_mem_set hw with h | h
    · exact hk w h
    · subst h; exact hv
section GOROWS
variable {g : GX} {y : GY} {d bc bs pc : Nat} {L st : List GV} {M : GM} {Q : GV → GM → Prop}
/-- what the walk knows of its numbers -/
theorem go_ok (k : (∀ v ∈ L, okV v) → (∀ v ∈ st, okV v) → (∀ j, okC (M.2 j)) → Go g y d bc bs pc L st M Q) : Go g y d bc bs pc L st M Q := by
  intro p e R s m args below meth c H locs cells slots ls Z C hRT hr hM hl hs
  refine (k hl.2.2.2 hs (fun j => ?_)).use C hRT hr hM hl hs
  by_cases hj : j < M.1
  · exact ((hM.1.2 j).1 hj).2
  · rw [(hM.1.2 j).2 (by omega)]
    intro v hv
    cases hv
theorem go_cast {pc' : Nat} {L' st' : List GV} {M' : GM} (h1 : pc = pc') (h2 : L = L') (h3 : st = st') (h4 : M = M') (k : Go g y d bc bs pc' L' st' M' Q) : Go g y d bc bs pc L st M Q := by
  subst h1 h2 h3 h4; exact k
theorem go_mono {Q' : GV → GM → Prop} (h : ∀ r M', Q' r M' → Q r M') (k : Go g y d bc bs pc L st M Q') : Go g y d bc bs pc L st M Q := by
  intro p e R s m args below meth c H locs cells slots ls Z C hRT hr hM hl hs
  exact k.use C (fun r M' H' locs' cells' slots' pc' ls' st' h1 h2 => hRT r M' H' locs' cells' slots' pc' ls' st' h1 (h r M' h2)) hr hM hl hs

theorem go_iconst {n : Int} (hd : decode y.2.1 pc = .ok (.iconst n, 1)) (hn : inR n) (k : Go g y d bc bs (pc + 1) L (gI n :: st) M Q) : Go g y d bc bs pc L st M Q := by
  intro p e R s m args below meth c H locs cells slots ls Z C hRT hr hM hl hs
  exact lv_iconst C.1 C.2.1 hd rfl (k.use C hRT hr hM hl (okc hn hs))
theorem go_bipush {n : Int} (hd : decode y.2.1 pc = .ok (.bipush n, 2)) (hn : inR n) (hv : (Int8.ofInt n).toInt32 = Int32.ofInt n) (k : Go g y d bc bs (pc + 2) L (gI n :: st) M Q) : Go g y d bc bs pc L st M Q := by
  intro p e R s m args below meth c H locs cells slots ls Z C hRT hr hM hl hs
  exact lv_bipush C.1 C.2.1 hd hv (k.use C hRT hr hM hl (okc hn hs))
theorem go_sipush {n : Int} (hd : decode y.2.1 pc = .ok (.sipush n, 3)) (hn : inR n) (hv : (Int16.ofInt n).toInt32 = Int32.ofInt n) (k : Go g y d bc bs (pc + 3) L (gI n :: st) M Q) : Go g y d bc bs pc L st M Q := by
  intro p e R s m args below meth c H locs cells slots ls Z C hRT hr hM hl hs
  exact lv_sipush C.1 C.2.1 hd hv (k.use C hRT hr hM hl (okc hn hs))
theorem go_lconst {n : Fin 2} {x : Int} (hd : decode y.2.1 pc = .ok (.lconst n, 1)) (hn : inL x) (hv : Int64.ofNat (n : Nat) = Int64.ofInt x) (k : Go g y d bc bs (pc + 1) L (gL x :: st) M Q) : Go g y d bc bs pc L st M Q := by
  intro p e R s m args below meth c H locs cells slots ls Z C hRT hr hM hl hs
  exact lv_lconst C.1 C.2.1 hd hv (k.use C hRT hr hM hl (okc hn hs))
theorem go_ldc {i : Nat} {x : Int} (hd : decode y.2.1 pc = .ok (.ldc i, 2)) (hw : Cond.constant y.1.cls i (Int32.ofInt x) ∈ gw) (hn : inR x) (k : Go g y d bc bs (pc + 2) L (gI x :: st) M Q) : Go g y d bc bs pc L st M Q := by
  intro p e R s m args below meth c H locs cells slots ls Z C hRT hr hM hl hs
  exact lv_ldc C.1 C.2.1 C.2.2.2.1 (C.2.2.2.2.1 _ hw) hd (k.use C hRT hr hM hl (okc hn hs))
theorem go_ldcw {i : Nat} {x : Int} (hd : decode y.2.1 pc = .ok (.ldc_w i, 3)) (hw : Cond.constant y.1.cls i (Int32.ofInt x) ∈ gw) (hn : inR x) (k : Go g y d bc bs (pc + 3) L (gI x :: st) M Q) : Go g y d bc bs pc L st M Q := by
  intro p e R s m args below meth c H locs cells slots ls Z C hRT hr hM hl hs
  exact lv_ldcw C.1 C.2.1 C.2.2.2.1 (C.2.2.2.2.1 _ hw) hd (k.use C hRT hr hM hl (okc hn hs))
theorem go_ldc2 {i : Nat} {x : Int} (hd : decode y.2.1 pc = .ok (.ldc2_w i, 3)) (hw : Cond.constantLong y.1.cls i (Int64.ofInt x) ∈ gw) (hn : inL x) (k : Go g y d bc bs (pc + 3) L (gL x :: st) M Q) : Go g y d bc bs pc L st M Q := by
  intro p e R s m args below meth c H locs cells slots ls Z C hRT hr hM hl hs
  exact lv_ldc2 C.1 C.2.1 C.2.2.2.1 (C.2.2.2.2.1 _ hw) hd (k.use C hRT hr hM hl (okc hn hs))
theorem go_null (hd : decode y.2.1 pc = .ok (.aconst_null, 1)) (k : Go g y d bc bs (pc + 1) L (gN :: st) M Q) : Go g y d bc bs pc L st M Q := by
  intro p e R s m args below meth c H locs cells slots ls Z C hRT hr hM hl hs
  exact lv_null C.1 C.2.1 hd (k.use C hRT hr hM hl (okc trivial hs))
theorem go_iload_n {n : Fin 4} {i : Nat} {x : Int} (hd : decode y.2.1 pc = .ok (.iload_n n, 1)) (hi : (n : Nat) = i) (hv : L[i]? = some (gI x)) (k : Go g y d bc bs (pc + 1) L (gI x :: st) M Q) : Go g y d bc bs pc L st M Q := by
  intro p e R s m args below meth c H locs cells slots ls Z C hRT hr hM hl hs
  exact lv_iload_n C.1 C.2.1 hd hi (hl.at hv (fun h => by cases h)) (k.use C hRT hr hM hl (okc (hl.ok hv) hs))
theorem go_iload {i : Nat} {x : Int} (hd : decode y.2.1 pc = .ok (.iload i, 2)) (hv : L[i]? = some (gI x)) (k : Go g y d bc bs (pc + 2) L (gI x :: st) M Q) : Go g y d bc bs pc L st M Q := by
  intro p e R s m args below meth c H locs cells slots ls Z C hRT hr hM hl hs
  exact lv_iload C.1 C.2.1 hd (hl.at hv (fun h => by cases h)) (k.use C hRT hr hM hl (okc (hl.ok hv) hs))
theorem go_lload_n {n : Fin 4} {i : Nat} {x : Int} (hd : decode y.2.1 pc = .ok (.lload_n n, 1)) (hi : (n : Nat) = i) (hv : L[i]? = some (gL x)) (k : Go g y d bc bs (pc + 1) L (gL x :: st) M Q) : Go g y d bc bs pc L st M Q := by
  intro p e R s m args below meth c H locs cells slots ls Z C hRT hr hM hl hs
  exact lv_lload_n C.1 C.2.1 hd hi (hl.at hv (fun h => by cases h)) (k.use C hRT hr hM hl (okc (hl.ok hv) hs))
theorem go_lload {i : Nat} {x : Int} (hd : decode y.2.1 pc = .ok (.lload i, 2)) (hv : L[i]? = some (gL x)) (k : Go g y d bc bs (pc + 2) L (gL x :: st) M Q) : Go g y d bc bs pc L st M Q := by
  intro p e R s m args below meth c H locs cells slots ls Z C hRT hr hM hl hs
  exact lv_lload C.1 C.2.1 hd (hl.at hv (fun h => by cases h)) (k.use C hRT hr hM hl (okc (hl.ok hv) hs))
/-- a reference: into the memory, null, or a constant's -/
def isA : GV → Prop
  | .inr (.inr (.inl _)) => True
  | .inr (.inr (.inr (some _))) => True
  | _ => False
theorem isA_ok {v : GV} (h : isA v) : okV v := by
  match v, h with
  | .inr (.inr (.inl _)), _ => trivial
  | .inr (.inr (.inr (some _))), _ => trivial
theorem go_aload_n {n : Fin 4} {i : Nat} {v : GV} (hd : decode y.2.1 pc = .ok (.aload_n n, 1)) (hi : (n : Nat) = i) (hv : L[i]? = some v) (ha : isA v) (k : Go g y d bc bs (pc + 1) L (v :: st) M Q) : Go g y d bc bs pc L st M Q := by
  intro p e R s m args below meth c H locs cells slots ls Z C hRT hr hM hl hs
  have hk := k.use C hRT hr hM hl (okc (isA_ok ha) hs)
  match v, ha, hv, hk with
  | .inr (.inr (.inl none)), _, hv, hk => exact lv_aload_nN C.1 C.2.1 hd hi (hl.at hv (fun h => by cases h)) hk
  | .inr (.inr (.inl (some a))), _, hv, hk => exact lv_aload_n C.1 C.2.1 hd hi (hl.at hv (fun h => by cases h)) hk
  | .inr (.inr (.inr (some a))), _, hv, hk => exact lv_aload_n C.1 C.2.1 hd hi (hl.at hv (fun h => by cases h)) hk
theorem go_aload {i : Nat} {v : GV} (hd : decode y.2.1 pc = .ok (.aload i, 2)) (hv : L[i]? = some v) (ha : isA v) (k : Go g y d bc bs (pc + 2) L (v :: st) M Q) : Go g y d bc bs pc L st M Q := by
  intro p e R s m args below meth c H locs cells slots ls Z C hRT hr hM hl hs
  have hk := k.use C hRT hr hM hl (okc (isA_ok ha) hs)
  match v, ha, hv, hk with
  | .inr (.inr (.inl none)), _, hv, hk => exact lv_aloadN C.1 C.2.1 hd (hl.at hv (fun h => by cases h)) hk
  | .inr (.inr (.inl (some a))), _, hv, hk => exact lv_aload C.1 C.2.1 hd (hl.at hv (fun h => by cases h)) hk
  | .inr (.inr (.inr (some a))), _, hv, hk => exact lv_aload C.1 C.2.1 hd (hl.at hv (fun h => by cases h)) hk
theorem go_istore_n {n : Fin 4} {i : Nat} {x : Int} (hd : decode y.2.1 pc = .ok (.istore_n n, 1)) (hi : (n : Nat) = i) (hn : i < y.2.2.1) (hi2 : i < L.length) (hlo : noL L i) (k : Go g y d bc bs (pc + 1) (L.set i (gI x)) st M Q) : Go g y d bc bs pc L (gI x :: st) M Q := by
  intro p e R s m args below meth c H locs cells slots ls Z C hRT hr hM hl hs
  exact lv_istore_n C.1 C.2.1 hd hi hl.has hn rfl (fun ls' h' => k.use C hRT hr hM (LH.store hl.2.2.2 hlo (okh hs) hi2 h') (okt hs))
theorem go_istore {i : Nat} {x : Int} (hd : decode y.2.1 pc = .ok (.istore i, 2)) (hn : i < y.2.2.1) (hi2 : i < L.length) (hlo : noL L i) (k : Go g y d bc bs (pc + 2) (L.set i (gI x)) st M Q) : Go g y d bc bs pc L (gI x :: st) M Q := by
  intro p e R s m args below meth c H locs cells slots ls Z C hRT hr hM hl hs
  exact lv_istore C.1 C.2.1 hd hl.has hn rfl (fun ls' h' => k.use C hRT hr hM (LH.store hl.2.2.2 hlo (okh hs) hi2 h') (okt hs))
theorem go_iinc {i : Nat} {n x : Int} (hd : decode y.2.1 pc = .ok (.iinc i n, 3)) (hv : L[i]? = some (gI x)) (hn : i < y.2.2.1) (hlo : noL L i) (k : Go g y d bc bs (pc + 3) (L.set i (gI (w32 (x + n)))) st M Q) : Go g y d bc bs pc L st M Q := by
  intro p e R s m args below meth c H locs cells slots ls Z C hRT hr hM hl hs
  have hi2 : i < L.length := (List.getElem?_eq_some_iff.mp hv).1
  have hq : (i, Value.int (Int32.ofInt x)) ∈ lvl g 0 L := (lvl_mem L 0 _).mpr ⟨i, gI x, hv, (fun h => by cases h), by rw [Nat.zero_add]; rfl⟩
  obtain ⟨j, hj⟩ := List.getElem?_of_mem hq
  exact lv_iinc (k := j) C.1 C.2.1 hd hl.has hj (gi_add x n) hn rfl (fun ls' h' => k.use C hRT hr hM (LH.store hl.2.2.2 hlo (w32_in _) hi2 h') hs)
theorem go_astore_n {n : Fin 4} {i : Nat} {v : GV} (hd : decode y.2.1 pc = .ok (.astore_n n, 1)) (hi : (n : Nat) = i) (ha : isA v) (hn : i < y.2.2.1) (hi2 : i < L.length) (hlo : noL L i) (k : Go g y d bc bs (pc + 1) (L.set i v) st M Q) : Go g y d bc bs pc L (v :: st) M Q := by
  intro p e R s m args below meth c H locs cells slots ls Z C hRT hr hM hl hs
  have hk := fun (ls' : Array Slot) (h' : LH g ls' y.2.2.1 (L.set i v)) => k.use (ls := ls') C hRT hr hM h' (okt hs)
  have hv := okh hs
  match v, ha, hk, hv with
  | .inr (.inr (.inl none)), _, hk, hv => exact lv_astore_nN C.1 C.2.1 hd hi hl.has hn rfl (fun ls' h' => hk ls' (LH.store hl.2.2.2 hlo hv hi2 h'))
  | .inr (.inr (.inl (some a))), _, hk, hv => exact lv_astore_n C.1 C.2.1 hd hi hl.has hn rfl (fun ls' h' => hk ls' (LH.store hl.2.2.2 hlo hv hi2 h'))
  | .inr (.inr (.inr (some a))), _, hk, hv => exact lv_astore_n C.1 C.2.1 hd hi hl.has hn rfl (fun ls' h' => hk ls' (LH.store hl.2.2.2 hlo hv hi2 h'))
theorem go_astore {i : Nat} {v : GV} (hd : decode y.2.1 pc = .ok (.astore i, 2)) (ha : isA v) (hn : i < y.2.2.1) (hi2 : i < L.length) (hlo : noL L i) (k : Go g y d bc bs (pc + 2) (L.set i v) st M Q) : Go g y d bc bs pc L (v :: st) M Q := by
  intro p e R s m args below meth c H locs cells slots ls Z C hRT hr hM hl hs
  have hk := fun (ls' : Array Slot) (h' : LH g ls' y.2.2.1 (L.set i v)) => k.use (ls := ls') C hRT hr hM h' (okt hs)
  have hv := okh hs
  match v, ha, hk, hv with
  | .inr (.inr (.inl none)), _, hk, hv => exact lv_astoreN C.1 C.2.1 hd hl.has hn rfl (fun ls' h' => hk ls' (LH.store hl.2.2.2 hlo hv hi2 h'))
  | .inr (.inr (.inl (some a))), _, hk, hv => exact lv_astore C.1 C.2.1 hd hl.has hn rfl (fun ls' h' => hk ls' (LH.store hl.2.2.2 hlo hv hi2 h'))
  | .inr (.inr (.inr (some a))), _, hk, hv => exact lv_astore C.1 C.2.1 hd hl.has hn rfl (fun ls' h' => hk ls' (LH.store hl.2.2.2 hlo hv hi2 h'))
theorem go_iadd {a b : Int} (hd : decode y.2.1 pc = .ok (.iadd, 1)) (k : Go g y d bc bs (pc + 1) L (gI (w32 (a + b)) :: st) M Q) : Go g y d bc bs pc L (gI b :: gI a :: st) M Q := by
  intro p e R s m args below meth c H locs cells slots ls Z C hRT hr hM hl hs
  have hk := k.use C hRT hr hM hl (okc (w32_in _) (okt (okt hs)))
  refine lv_iadd C.1 C.2.1 hd ?_
  rw [gi_add]
  exact hk
theorem go_isub {a b : Int} (hd : decode y.2.1 pc = .ok (.isub, 1)) (k : Go g y d bc bs (pc + 1) L (gI (w32 (a - b)) :: st) M Q) : Go g y d bc bs pc L (gI b :: gI a :: st) M Q := by
  intro p e R s m args below meth c H locs cells slots ls Z C hRT hr hM hl hs
  have hk := k.use C hRT hr hM hl (okc (w32_in _) (okt (okt hs)))
  refine lv_isub C.1 C.2.1 hd ?_
  rw [gi_sub]
  exact hk
theorem go_imul {a b : Int} (hd : decode y.2.1 pc = .ok (.imul, 1)) (k : Go g y d bc bs (pc + 1) L (gI (w32 (a * b)) :: st) M Q) : Go g y d bc bs pc L (gI b :: gI a :: st) M Q := by
  intro p e R s m args below meth c H locs cells slots ls Z C hRT hr hM hl hs
  have hk := k.use C hRT hr hM hl (okc (w32_in _) (okt (okt hs)))
  refine lv_imul C.1 C.2.1 hd ?_
  rw [gi_mul]
  exact hk
theorem go_iand {a b : Int} (hd : decode y.2.1 pc = .ok (.iand, 1)) (k : Go g y d bc bs (pc + 1) L (gI (iAnd a b) :: st) M Q) : Go g y d bc bs pc L (gI b :: gI a :: st) M Q := by
  intro p e R s m args below meth c H locs cells slots ls Z C hRT hr hM hl hs
  have hk := k.use C hRT hr hM hl (okc (gi_in _) (okt (okt hs)))
  refine lv_iand C.1 C.2.1 hd ?_
  have e1 : Int32.ofInt (iAnd a b) = Int32.ofInt a &&& Int32.ofInt b := Int32.ofInt_toInt _
  rw [← e1]
  exact hk
theorem go_ior {a b : Int} (hd : decode y.2.1 pc = .ok (.ior, 1)) (k : Go g y d bc bs (pc + 1) L (gI (iOr a b) :: st) M Q) : Go g y d bc bs pc L (gI b :: gI a :: st) M Q := by
  intro p e R s m args below meth c H locs cells slots ls Z C hRT hr hM hl hs
  have hk := k.use C hRT hr hM hl (okc (gi_in _) (okt (okt hs)))
  refine lv_ior C.1 C.2.1 hd ?_
  have e1 : Int32.ofInt (iOr a b) = Int32.ofInt a ||| Int32.ofInt b := Int32.ofInt_toInt _
  rw [← e1]
  exact hk
theorem go_ixor {a b : Int} (hd : decode y.2.1 pc = .ok (.ixor, 1)) (k : Go g y d bc bs (pc + 1) L (gI (iXor a b) :: st) M Q) : Go g y d bc bs pc L (gI b :: gI a :: st) M Q := by
  intro p e R s m args below meth c H locs cells slots ls Z C hRT hr hM hl hs
  have hk := k.use C hRT hr hM hl (okc (gi_in _) (okt (okt hs)))
  refine lv_ixor C.1 C.2.1 hd ?_
  have e1 : Int32.ofInt (iXor a b) = Int32.ofInt a ^^^ Int32.ofInt b := Int32.ofInt_toInt _
  rw [← e1]
  exact hk
theorem go_ishl {a b : Int} (hd : decode y.2.1 pc = .ok (.ishl, 1)) (k : Go g y d bc bs (pc + 1) L (gI (iShl a b) :: st) M Q) : Go g y d bc bs pc L (gI b :: gI a :: st) M Q := by
  intro p e R s m args below meth c H locs cells slots ls Z C hRT hr hM hl hs
  have hk := k.use C hRT hr hM hl (okc (gi_in _) (okt (okt hs)))
  refine lv_ishl C.1 C.2.1 hd ?_
  have e1 : Int32.ofInt (iShl a b) = Int32.ofInt a <<< (Int32.ofInt b &&& 31) := Int32.ofInt_toInt _
  rw [← e1]
  exact hk
theorem go_ishr {a b : Int} (hd : decode y.2.1 pc = .ok (.ishr, 1)) (k : Go g y d bc bs (pc + 1) L (gI (iShr a b) :: st) M Q) : Go g y d bc bs pc L (gI b :: gI a :: st) M Q := by
  intro p e R s m args below meth c H locs cells slots ls Z C hRT hr hM hl hs
  have hk := k.use C hRT hr hM hl (okc (gi_in _) (okt (okt hs)))
  refine lv_ishr C.1 C.2.1 hd ?_
  have e1 : Int32.ofInt (iShr a b) = Int32.ofInt a >>> (Int32.ofInt b &&& 31) := Int32.ofInt_toInt _
  rw [← e1]
  exact hk
theorem go_iushr {a b : Int} (hd : decode y.2.1 pc = .ok (.iushr, 1)) (k : Go g y d bc bs (pc + 1) L (gI (iUshr a b) :: st) M Q) : Go g y d bc bs pc L (gI b :: gI a :: st) M Q := by
  intro p e R s m args below meth c H locs cells slots ls Z C hRT hr hM hl hs
  exact lv_iushr C.1 C.2.1 hd (Int32.ofInt_toInt _).symm (k.use C hRT hr hM hl (okc (gi_in _) (okt (okt hs))))
theorem go_i2s {a : Int} (hd : decode y.2.1 pc = .ok (.i2s, 1)) (k : Go g y d bc bs (pc + 1) L (gI (iI2s a) :: st) M Q) : Go g y d bc bs pc L (gI a :: st) M Q := by
  intro p e R s m args below meth c H locs cells slots ls Z C hRT hr hM hl hs
  exact lv_i2s C.1 C.2.1 hd (Int32.ofInt_toInt _).symm (k.use C hRT hr hM hl (okc (gi_in _) (okt hs)))
theorem go_i2b {a : Int} (hd : decode y.2.1 pc = .ok (.i2b, 1)) (k : Go g y d bc bs (pc + 1) L (gI (iI2b a) :: st) M Q) : Go g y d bc bs pc L (gI a :: st) M Q := by
  intro p e R s m args below meth c H locs cells slots ls Z C hRT hr hM hl hs
  exact lv_i2b C.1 C.2.1 hd (Int32.ofInt_toInt _).symm (k.use C hRT hr hM hl (okc (gi_in _) (okt hs)))
theorem go_i2c {a : Int} (hd : decode y.2.1 pc = .ok (.i2c, 1)) (k : Go g y d bc bs (pc + 1) L (gI (iI2c a) :: st) M Q) : Go g y d bc bs pc L (gI a :: st) M Q := by
  intro p e R s m args below meth c H locs cells slots ls Z C hRT hr hM hl hs
  exact lv_i2c C.1 C.2.1 hd (Int32.ofInt_toInt _).symm (k.use C hRT hr hM hl (okc (gi_in _) (okt hs)))
theorem go_i2l {a : Int} (hd : decode y.2.1 pc = .ok (.i2l, 1)) (k : Go g y d bc bs (pc + 1) L (gL a :: st) M Q) : Go g y d bc bs pc L (gI a :: st) M Q := by
  intro p e R s m args below meth c H locs cells slots ls Z C hRT hr hM hl hs
  exact lv_i2l C.1 C.2.1 hd (gl_i2l (okh hs)) (k.use C hRT hr hM hl (okc (inL_of (okh hs)) (okt hs)))
theorem go_ineg {a : Int} (hd : decode y.2.1 pc = .ok (.ineg, 1)) (k : Go g y d bc bs (pc + 1) L (gI (w32 (-a)) :: st) M Q) : Go g y d bc bs pc L (gI a :: st) M Q := by
  intro p e R s m args below meth c H locs cells slots ls Z C hRT hr hM hl hs
  have hk := k.use C hRT hr hM hl (okc (w32_in _) (okt hs))
  refine lv_ineg C.1 C.2.1 hd ?_
  rw [gi_neg]
  exact hk
theorem go_idiv {a b : Int} (hd : decode y.2.1 pc = .ok (.idiv, 1)) (h0 : b ≠ 0) (k : Go g y d bc bs (pc + 1) L (gI (w32 (a.tdiv b)) :: st) M Q) : Go g y d bc bs pc L (gI b :: gI a :: st) M Q := by
  intro p e R s m args below meth c H locs cells slots ls Z C hRT hr hM hl hs
  have hk := k.use C hRT hr hM hl (okc (w32_in _) (okt (okt hs)))
  refine lv_idiv C.1 C.2.1 hd (fun h => h0 ((gi_eq0 (okh hs)).mp h)) ?_
  rw [gi_div (okh (okt hs)) (okh hs)]
  exact hk
theorem go_irem {a b : Int} (hd : decode y.2.1 pc = .ok (.irem, 1)) (h0 : b ≠ 0) (k : Go g y d bc bs (pc + 1) L (gI (a.tmod b) :: st) M Q) : Go g y d bc bs pc L (gI b :: gI a :: st) M Q := by
  intro p e R s m args below meth c H locs cells slots ls Z C hRT hr hM hl hs
  have hk := k.use C hRT hr hM hl (okc (inR_tmod (okh (okt hs)) (okh hs) h0) (okt (okt hs)))
  refine lv_irem C.1 C.2.1 hd (fun h => h0 ((gi_eq0 (okh hs)).mp h)) ?_
  rw [gi_rem (okh (okt hs)) (okh hs)]
  exact hk
theorem go_lcmp {a b : Int} (hd : decode y.2.1 pc = .ok (.lcmp, 1)) (k : Go g y d bc bs (pc + 1) L (gI (iCmp a b) :: st) M Q) : Go g y d bc bs pc L (gL b :: gL a :: st) M Q := by
  intro p e R s m args below meth c H locs cells slots ls Z C hRT hr hM hl hs
  have hk := k.use C hRT hr hM hl (okc (inR_cmp a b) (okt (okt hs)))
  refine W.lcmp C.1 C.2.1 hd ?_
  rw [gl_cmp (okh (okt hs)) (okh hs)]
  exact hk
def c1 : GV → Prop
  | .inr (.inl _) => False
  | _ => True
theorem c1_cat {g : GX} {v : GV} (h : c1 v) : (rv g v).category = 1 := by
  match v, h with
  | .inl _, _ => rfl
  | .inr (.inr (.inl none)), _ => rfl
  | .inr (.inr (.inl (some _))), _ => rfl
  | .inr (.inr (.inr none)), _ => rfl
  | .inr (.inr (.inr (some _))), _ => rfl
theorem go_dup {v : GV} (hd : decode y.2.1 pc = .ok (.dup, 1)) (h1 : c1 v) (k : Go g y d bc bs (pc + 1) L (v :: v :: st) M Q) : Go g y d bc bs pc L (v :: st) M Q := by
  intro p e R s m args below meth c H locs cells slots ls Z C hRT hr hM hl hs
  exact lv_dup C.1 C.2.1 hd (c1_cat h1) (k.use C hRT hr hM hl (okc (okh hs) hs))
theorem go_pop {v : GV} (hd : decode y.2.1 pc = .ok (.pop, 1)) (h1 : c1 v) (k : Go g y d bc bs (pc + 1) L st M Q) : Go g y d bc bs pc L (v :: st) M Q := by
  intro p e R s m args below meth c H locs cells slots ls Z C hRT hr hM hl hs
  exact lv_pop C.1 C.2.1 hd (c1_cat h1) (k.use C hRT hr hM hl (okt hs))
theorem go_dup2 {v w : GV} (hd : decode y.2.1 pc = .ok (.dup2, 1)) (h1 : c1 v) (h2 : c1 w) (k : Go g y d bc bs (pc + 1) L (v :: w :: v :: w :: st) M Q) : Go g y d bc bs pc L (v :: w :: st) M Q := by
  intro p e R s m args below meth c H locs cells slots ls Z C hRT hr hM hl hs
  exact lv_dup2_11 C.1 C.2.1 hd (c1_cat h1) (c1_cat h2) (k.use C hRT hr hM hl (okc (okh hs) (okc (okh (okt hs)) hs)))
theorem go_if_eq {a off : Int} (tgt : Nat) (hd : decode y.2.1 pc = .ok (.ifCond .eq off, 3)) (ht : (pc : Int) + off = (tgt : Int)) (kt : a = 0 → Go g y d bc bs tgt L st M Q) (kf : ¬ a = 0 → Go g y d bc bs (pc + 3) L st M Q) : Go g y d bc bs pc L (gI a :: st) M Q := by
  intro p e R s m args below meth c H locs cells slots ls Z C hRT hr hM hl hs
  have ha : inR a := okh hs
  refine lv_if_eq (tgt := tgt) C.1 C.2.1 hd ht (fun h => ?_) (fun h => ?_)
  · exact (kt (by simpa only [gi_eq0 ha] using h)).use C hRT hr hM hl (okt hs)
  · exact (kf (by simpa only [gi_eq0 ha, Classical.not_not] using h)).use C hRT hr hM hl (okt hs)
theorem go_if_ne {a off : Int} (tgt : Nat) (hd : decode y.2.1 pc = .ok (.ifCond .ne off, 3)) (ht : (pc : Int) + off = (tgt : Int)) (kt : ¬ a = 0 → Go g y d bc bs tgt L st M Q) (kf : a = 0 → Go g y d bc bs (pc + 3) L st M Q) : Go g y d bc bs pc L (gI a :: st) M Q := by
  intro p e R s m args below meth c H locs cells slots ls Z C hRT hr hM hl hs
  have ha : inR a := okh hs
  refine lv_if_ne (tgt := tgt) C.1 C.2.1 hd ht (fun h => ?_) (fun h => ?_)
  · exact (kt (by simpa only [gi_eq0 ha] using h)).use C hRT hr hM hl (okt hs)
  · exact (kf (by simpa only [gi_eq0 ha, Classical.not_not] using h)).use C hRT hr hM hl (okt hs)
theorem go_if_lt {a off : Int} (tgt : Nat) (hd : decode y.2.1 pc = .ok (.ifCond .lt off, 3)) (ht : (pc : Int) + off = (tgt : Int)) (kt : a < 0 → Go g y d bc bs tgt L st M Q) (kf : ¬ a < 0 → Go g y d bc bs (pc + 3) L st M Q) : Go g y d bc bs pc L (gI a :: st) M Q := by
  intro p e R s m args below meth c H locs cells slots ls Z C hRT hr hM hl hs
  have ha : inR a := okh hs
  refine lv_if_lt (tgt := tgt) C.1 C.2.1 hd ht (fun h => ?_) (fun h => ?_)
  · exact (kt (by simpa only [gi_lt0 ha] using h)).use C hRT hr hM hl (okt hs)
  · exact (kf (by simpa only [gi_lt0 ha, Classical.not_not] using h)).use C hRT hr hM hl (okt hs)
theorem go_if_ge {a off : Int} (tgt : Nat) (hd : decode y.2.1 pc = .ok (.ifCond .ge off, 3)) (ht : (pc : Int) + off = (tgt : Int)) (kt : 0 ≤ a → Go g y d bc bs tgt L st M Q) (kf : ¬ 0 ≤ a → Go g y d bc bs (pc + 3) L st M Q) : Go g y d bc bs pc L (gI a :: st) M Q := by
  intro p e R s m args below meth c H locs cells slots ls Z C hRT hr hM hl hs
  have ha : inR a := okh hs
  refine lv_if_ge (tgt := tgt) C.1 C.2.1 hd ht (fun h => ?_) (fun h => ?_)
  · exact (kt (by simpa only [gi_ge0 ha] using h)).use C hRT hr hM hl (okt hs)
  · exact (kf (by simpa only [gi_ge0 ha, Classical.not_not] using h)).use C hRT hr hM hl (okt hs)
theorem go_if_gt {a off : Int} (tgt : Nat) (hd : decode y.2.1 pc = .ok (.ifCond .gt off, 3)) (ht : (pc : Int) + off = (tgt : Int)) (kt : 0 < a → Go g y d bc bs tgt L st M Q) (kf : ¬ 0 < a → Go g y d bc bs (pc + 3) L st M Q) : Go g y d bc bs pc L (gI a :: st) M Q := by
  intro p e R s m args below meth c H locs cells slots ls Z C hRT hr hM hl hs
  have ha : inR a := okh hs
  refine lv_if_gt (tgt := tgt) C.1 C.2.1 hd ht (fun h => ?_) (fun h => ?_)
  · exact (kt (by simpa only [gi_gt0 ha] using h)).use C hRT hr hM hl (okt hs)
  · exact (kf (by simpa only [gi_gt0 ha, Classical.not_not] using h)).use C hRT hr hM hl (okt hs)
theorem go_if_le {a off : Int} (tgt : Nat) (hd : decode y.2.1 pc = .ok (.ifCond .le off, 3)) (ht : (pc : Int) + off = (tgt : Int)) (kt : a ≤ 0 → Go g y d bc bs tgt L st M Q) (kf : ¬ a ≤ 0 → Go g y d bc bs (pc + 3) L st M Q) : Go g y d bc bs pc L (gI a :: st) M Q := by
  intro p e R s m args below meth c H locs cells slots ls Z C hRT hr hM hl hs
  have ha : inR a := okh hs
  refine lv_if_le (tgt := tgt) C.1 C.2.1 hd ht (fun h => ?_) (fun h => ?_)
  · exact (kt (by simpa only [gi_le0 ha] using h)).use C hRT hr hM hl (okt hs)
  · exact (kf (by simpa only [gi_le0 ha, Classical.not_not] using h)).use C hRT hr hM hl (okt hs)
theorem go_ic_eq {a b off : Int} (tgt : Nat) (hd : decode y.2.1 pc = .ok (.if_icmp .eq off, 3)) (ht : (pc : Int) + off = (tgt : Int)) (kt : a = b → Go g y d bc bs tgt L st M Q) (kf : ¬ a = b → Go g y d bc bs (pc + 3) L st M Q) : Go g y d bc bs pc L (gI b :: gI a :: st) M Q := by
  intro p e R s m args below meth c H locs cells slots ls Z C hRT hr hM hl hs
  have hb : inR b := okh hs
  have ha : inR a := okh (okt hs)
  refine lv_icmp_eq (tgt := tgt) C.1 C.2.1 hd ht (fun h => ?_) (fun h => ?_)
  · exact (kt (by simpa only [gi_eq ha hb] using h)).use C hRT hr hM hl (okt (okt hs))
  · exact (kf (by simpa only [gi_eq ha hb, Classical.not_not] using h)).use C hRT hr hM hl (okt (okt hs))
theorem go_ic_ne {a b off : Int} (tgt : Nat) (hd : decode y.2.1 pc = .ok (.if_icmp .ne off, 3)) (ht : (pc : Int) + off = (tgt : Int)) (kt : ¬ a = b → Go g y d bc bs tgt L st M Q) (kf : a = b → Go g y d bc bs (pc + 3) L st M Q) : Go g y d bc bs pc L (gI b :: gI a :: st) M Q := by
  intro p e R s m args below meth c H locs cells slots ls Z C hRT hr hM hl hs
  have hb : inR b := okh hs
  have ha : inR a := okh (okt hs)
  refine lv_icmp_ne (tgt := tgt) C.1 C.2.1 hd ht (fun h => ?_) (fun h => ?_)
  · exact (kt (by simpa only [gi_eq ha hb] using h)).use C hRT hr hM hl (okt (okt hs))
  · exact (kf (by simpa only [gi_eq ha hb, Classical.not_not] using h)).use C hRT hr hM hl (okt (okt hs))
theorem go_ic_lt {a b off : Int} (tgt : Nat) (hd : decode y.2.1 pc = .ok (.if_icmp .lt off, 3)) (ht : (pc : Int) + off = (tgt : Int)) (kt : a < b → Go g y d bc bs tgt L st M Q) (kf : ¬ a < b → Go g y d bc bs (pc + 3) L st M Q) : Go g y d bc bs pc L (gI b :: gI a :: st) M Q := by
  intro p e R s m args below meth c H locs cells slots ls Z C hRT hr hM hl hs
  have hb : inR b := okh hs
  have ha : inR a := okh (okt hs)
  refine lv_icmp_lt (tgt := tgt) C.1 C.2.1 hd ht (fun h => ?_) (fun h => ?_)
  · exact (kt (by simpa only [gi_lt ha hb] using h)).use C hRT hr hM hl (okt (okt hs))
  · exact (kf (by simpa only [gi_lt ha hb, Classical.not_not] using h)).use C hRT hr hM hl (okt (okt hs))
theorem go_ic_ge {a b off : Int} (tgt : Nat) (hd : decode y.2.1 pc = .ok (.if_icmp .ge off, 3)) (ht : (pc : Int) + off = (tgt : Int)) (kt : b ≤ a → Go g y d bc bs tgt L st M Q) (kf : ¬ b ≤ a → Go g y d bc bs (pc + 3) L st M Q) : Go g y d bc bs pc L (gI b :: gI a :: st) M Q := by
  intro p e R s m args below meth c H locs cells slots ls Z C hRT hr hM hl hs
  have hb : inR b := okh hs
  have ha : inR a := okh (okt hs)
  refine lv_icmp_ge (tgt := tgt) C.1 C.2.1 hd ht (fun h => ?_) (fun h => ?_)
  · exact (kt (by simpa only [gi_le hb ha] using h)).use C hRT hr hM hl (okt (okt hs))
  · exact (kf (by simpa only [gi_le hb ha, Classical.not_not] using h)).use C hRT hr hM hl (okt (okt hs))
theorem go_ic_gt {a b off : Int} (tgt : Nat) (hd : decode y.2.1 pc = .ok (.if_icmp .gt off, 3)) (ht : (pc : Int) + off = (tgt : Int)) (kt : b < a → Go g y d bc bs tgt L st M Q) (kf : ¬ b < a → Go g y d bc bs (pc + 3) L st M Q) : Go g y d bc bs pc L (gI b :: gI a :: st) M Q := by
  intro p e R s m args below meth c H locs cells slots ls Z C hRT hr hM hl hs
  have hb : inR b := okh hs
  have ha : inR a := okh (okt hs)
  refine lv_icmp_gt (tgt := tgt) C.1 C.2.1 hd ht (fun h => ?_) (fun h => ?_)
  · exact (kt (by simpa only [gi_lt hb ha] using h)).use C hRT hr hM hl (okt (okt hs))
  · exact (kf (by simpa only [gi_lt hb ha, Classical.not_not] using h)).use C hRT hr hM hl (okt (okt hs))
theorem go_ic_le {a b off : Int} (tgt : Nat) (hd : decode y.2.1 pc = .ok (.if_icmp .le off, 3)) (ht : (pc : Int) + off = (tgt : Int)) (kt : a ≤ b → Go g y d bc bs tgt L st M Q) (kf : ¬ a ≤ b → Go g y d bc bs (pc + 3) L st M Q) : Go g y d bc bs pc L (gI b :: gI a :: st) M Q := by
  intro p e R s m args below meth c H locs cells slots ls Z C hRT hr hM hl hs
  have hb : inR b := okh hs
  have ha : inR a := okh (okt hs)
  refine lv_icmp_le (tgt := tgt) C.1 C.2.1 hd ht (fun h => ?_) (fun h => ?_)
  · exact (kt (by simpa only [gi_le ha hb] using h)).use C hRT hr hM hl (okt (okt hs))
  · exact (kf (by simpa only [gi_le ha hb, Classical.not_not] using h)).use C hRT hr hM hl (okt (okt hs))
theorem go_goto {off : Int} (tgt : Nat) (hd : decode y.2.1 pc = .ok (.goto off, 3)) (ht : (pc : Int) + off = (tgt : Int)) (k : Go g y d bc bs tgt L st M Q) : Go g y d bc bs pc L st M Q := by
  intro p e R s m args below meth c H locs cells slots ls Z C hRT hr hM hl hs
  exact lv_goto (tgt := tgt) C.1 C.2.1 hd ht (k.use C hRT hr hM hl hs)
theorem go_nonnullR {a : Nat} {off : Int} (tgt : Nat) (hd : decode y.2.1 pc = .ok (.ifnonnull off, 3)) (ht : (pc : Int) + off = (tgt : Int)) (k : Go g y d bc bs tgt L st M Q) : Go g y d bc bs pc L (gR a :: st) M Q := by
  intro p e R s m args below meth c H locs cells slots ls Z C hRT hr hM hl hs
  exact lv_ifnonnull (tgt := tgt) C.1 C.2.1 hd ht (k.use C hRT hr hM hl (okt hs))
theorem go_nonnullN {off : Int} (hd : decode y.2.1 pc = .ok (.ifnonnull off, 3)) (k : Go g y d bc bs (pc + 3) L st M Q) : Go g y d bc bs pc L (gN :: st) M Q := by
  intro p e R s m args below meth c H locs cells slots ls Z C hRT hr hM hl hs
  exact lv_ifnonnullN C.1 C.2.1 hd (k.use C hRT hr hM hl (okt hs))
theorem go_tabOut {a dflt lo hi : Int} {offs : Array Int} {len : Nat} (tgt : Nat) (hd : decode y.2.1 pc = .ok (.tableswitch dflt lo hi offs, len)) (h : a < lo ∨ hi < a) (ht : (pc : Int) + dflt = (tgt : Int)) (k : Go g y d bc bs tgt L st M Q) : Go g y d bc bs pc L (gI a :: st) M Q := by
  intro p e R s m args below meth c H locs cells slots ls Z C hRT hr hM hl hs
  exact lv_tableOut (tgt := tgt) C.1 C.2.1 hd (by rw [gi_to (okh hs)]; exact h) ht (k.use C hRT hr hM hl (okt hs))
theorem go_tabIn {a dflt lo hi off : Int} {offs : Array Int} {len : Nat} (tgt : Nat) (hd : decode y.2.1 pc = .ok (.tableswitch dflt lo hi offs, len)) (h1 : lo ≤ a) (h2 : a ≤ hi) (ho : offs[(a - lo).toNat]? = some off) (ht : (pc : Int) + off = (tgt : Int)) (k : Go g y d bc bs tgt L st M Q) : Go g y d bc bs pc L (gI a :: st) M Q := by
  intro p e R s m args below meth c H locs cells slots ls Z C hRT hr hM hl hs
  exact lv_tableIn (tgt := tgt) C.1 C.2.1 hd (by rw [gi_to (okh hs)]; omega) (by rw [gi_to (okh hs)]; omega) (by rw [gi_to (okh hs)]; exact ho) ht (k.use C hRT hr hM hl (okt hs))
theorem go_lookup {a dflt off : Int} {ps : Array (Int × Int)} {len : Nat} (tgt : Nat) (hd : decode y.2.1 pc = .ok (.lookupswitch dflt ps, len)) (hp : (ps.toList.zip (ps.toList.drop 1)).all (fun (a, next) => a.1 < next.1) = true) (ho : Op.lookupswitch.offset ps.toList dflt a = off) (ht : (pc : Int) + off = (tgt : Int)) (k : Go g y d bc bs tgt L st M Q) : Go g y d bc bs pc L (gI a :: st) M Q := by
  intro p e R s m args below meth c H locs cells slots ls Z C hRT hr hM hl hs
  exact lv_lookup (tgt := tgt) C.1 C.2.1 hd hp (by rw [gi_to (okh hs)]; exact ho) ht (k.use C hRT hr hM hl (okt hs))
theorem go_iret {x : Int} {ty : FieldType} (hd : decode y.2.1 pc = .ok (.ireturn, 1)) (hr0 : y.2.2.2 = some ty) (hn : narrow ty (.int (Int32.ofInt x)) = .int (Int32.ofInt x)) (hq : Q (gI x) M) : Go g y d bc bs pc L [gI x] M Q := by
  intro p e R s m args below meth c H locs cells slots ls Z C hRT hr hM hl hs
  exact hRT (gI x) M H locs cells slots pc ls [gI x] (Or.inl ⟨x, ty, hd, hr0, hn, okh hs, rfl, rfl⟩) hq hM.1 hM.2 (by omega) (by omega)
theorem go_vret (hd : decode y.2.1 pc = .ok (.return_, 1)) (hr0 : y.2.2.2 = none) (hq : Q gU M) : Go g y d bc bs pc L [] M Q := by
  intro p e R s m args below meth c H locs cells slots ls Z C hRT hr hM hl hs
  exact hRT gU M H locs cells slots pc ls [] (Or.inr (Or.inl ⟨hd, hr0, rfl, rfl⟩)) hq hM.1 hM.2 (by omega) (by omega)
theorem go_aret {o : Option Nat} {rt : FieldType} (hd : decode y.2.1 pc = .ok (.areturn, 1)) (hr0 : y.2.2.2 = some rt) (hrt : (∃ n, rt = .object n) ∨ ∃ t, rt = .array t) (hq : Q (gO o) M) : Go g y d bc bs pc L [gO o] M Q := by
  intro p e R s m args below meth c H locs cells slots ls Z C hRT hr hM hl hs
  exact hRT (gO o) M H locs cells slots pc ls [gO o] (Or.inr (Or.inr ⟨o, rt, hd, hr0, hrt, rfl, rfl⟩)) hq hM.1 hM.2 (by omega) (by omega)
end GOROWS
