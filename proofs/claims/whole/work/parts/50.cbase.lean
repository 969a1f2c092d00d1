/-! ===== the component's memory: what may change beside the cells of P are the laws' stacks ===== -/
def stk (k : Nat) : Prop := 103 ≤ k ∧ (k - 103) % 3 = 2
def FK (P : Nat → Prop) (F F' : Nat → GC) : Prop := ∀ k : Nat, ¬ P k → (¬ stk k → F' k = F k) ∧ ∀ (n : Nat) (f : Nat → Int), F k = cI n f → ∃ f', F' k = cI n f'
theorem FK.rf {P : Nat → Prop} {F : Nat → GC} : FK P F F := fun _ _ => ⟨fun _ => rfl, fun _ f h => ⟨f, h⟩⟩
theorem FK.tr {P : Nat → Prop} {F F1 F2 : Nat → GC} (h1 : FK P F F1) (h2 : FK P F1 F2) : FK P F F2 := fun k hk => ⟨fun hs => ((h2 k hk).1 hs).trans ((h1 k hk).1 hs), fun n f e => by
  obtain ⟨f1, e1⟩ := (h1 k hk).2 n f e
  exact (h2 k hk).2 n f1 e1⟩
theorem FK.mono {P P' : Nat → Prop} {F F' : Nat → GC} (h : FK P F F') (hp : ∀ k, P k → P' k) : FK P' F F' := fun k hk => h k (fun q => hk (hp k q))
theorem FK.put {P : Nat → Prop} {F F1 : Nat → GC} {a : Nat} {c : GC} (h : FK P F F1) (ha : P a) : FK P F (va_up F1 a c) := by
  intro k hk
  have : k ≠ a := fun e => hk (by rw [e]; exact ha)
  rw [va_up_ne _ _ this]
  exact h k hk
theorem FK.stack {P : Nat → Prop} {F F1 : Nat → GC} {a n : Nat} {f f' : Nat → Int} (h : FK P F F1) (ha : stk a) (e : F1 a = cI n f) : FK P F (va_up F1 a (cI n f')) := by
  intro k hk
  by_cases q : k = a
  · subst q
    refine ⟨fun hs => absurd ha hs, fun n1 f1 e1 => ?_⟩
    obtain ⟨f2, e2⟩ := (h k hk).2 n1 f1 e1
    rw [e] at e2
    injection e2 with e2; injection e2 with e2 e3
    subst e2
    exact ⟨f', va_up_self _ _ _⟩
  · rw [va_up_ne _ _ q]; exact h k hk
abbrev pN : Nat → Prop := fun _ => False
abbrev inC (b : Nat) : Nat → Prop := fun k => b ≤ k ∧ k < b + 16
abbrev FS (F F' : Nat → GC) : Prop := FK pN F F'
theorem FS.at {F F' : Nat → GC} (h : FS F F') {k : Nat} (hk : k < 103) : F' k = F k := (h k (fun q => q)).1 (fun q => by unfold stk at q; omega)
theorem FK.at {P : Nat → Prop} {F F' : Nat → GC} (h : FK P F F') {k : Nat} (hk : k < 103) (hp : ¬ P k) : F' k = F k := (h k hp).1 (fun q => by unfold stk at q; omega)
/-- the component's words for the model's -/
def zwm (c : Int) : Int := if -10 < c then c else if c = -43 then -10 else if c = -52 then -11 else if c = -57 then -12 else if c = -53 then -13 else if c = -55 then -14 else if c = -70 then -15 else if c = -71 then -16 else if c = -72 then -17 else if c = -48 then -18 else -19
/-- the law at a is the text t of s -/
def LAWP (F : Nat → GC) (a : Nat) (s : Nat → Int) (t : Nat) : Prop := (103 ≤ a ∧ (a - 103) % 3 = 0) ∧ F a = cO 3 [gI (s (68 + t)), gI (s (96 + t)), gR (a + 1), gR (a + 2)] ∧ (∃ code, F (a + 1) = cI (s (82 + t)).toNat code ∧ ∀ k : Nat, k < (s (82 + t)).toNat → code k = zwm (s (110 + 100 * t + k))) ∧ ∃ f, F (a + 2) = cI (max 1 (s (96 + t)).toNat) f
def LWS (F : Nat → GC) (L : Nat → Option Nat) (s : Nat → Int) : Prop := (∀ t : Nat, t < 14 → ∀ a : Nat, L t = some a → (103 ≤ a ∧ (a - 103) % 3 = 0) ∧ ∃ fs : List GV, fs ≠ [] ∧ F a = cO 3 fs) ∧ ∀ t : Nat, (t : Int) < s 64 → ∃ a : Nat, L t = some a ∧ LAWP F a s t
theorem LAWP.fk {P : Nat → Prop} {F F' : Nat → GC} {a t : Nat} {s : Nat → Int} (h : LAWP F a s t) (hF : FK P F F') (hP : ∀ k, 103 ≤ k → ¬ P k) : LAWP F' a s t := by
  obtain ⟨h0, h1, ⟨code, h2, h3⟩, f, h4⟩ := h
  refine ⟨h0, ?_, ⟨code, ?_, h3⟩, (hF (a + 2) (hP _ (by omega))).2 _ f h4⟩
  · rw [(hF a (hP _ (by omega))).1 (by unfold stk; omega)]; exact h1
  · rw [(hF (a + 1) (hP _ (by omega))).1 (by unfold stk; omega)]; exact h2
theorem LAWP.cong {F : Nat → GC} {a t : Nat} {s s' : Nat → Int} (h : LAWP F a s t) (e : ∀ k : Nat, 64 ≤ k → s' k = s k) : LAWP F a s' t := by
  unfold LAWP
  rw [e (68 + t) (by omega), e (96 + t) (by omega), e (82 + t) (by omega)]
  obtain ⟨h0, h1, ⟨code, h2, h3⟩, h4⟩ := h
  exact ⟨h0, h1, ⟨code, h2, fun k hk => by rw [e _ (by omega)]; exact h3 k hk⟩, h4⟩
theorem LWS.fk {P : Nat → Prop} {F F' : Nat → GC} {L : Nat → Option Nat} {s : Nat → Int} (h : LWS F L s) (hF : FK P F F') (hP : ∀ k, 103 ≤ k → ¬ P k) : LWS F' L s := by
  refine ⟨fun t ht a ha => ?_, fun t ht => ?_⟩
  · obtain ⟨q, fs, h1, h2⟩ := h.1 t ht a ha
    exact ⟨q, fs, h1, by rw [(hF a (hP _ q.1)).1 (by unfold stk; omega)]; exact h2⟩
  · obtain ⟨a, h1, h2⟩ := h.2 t ht
    exact ⟨a, h1, h2.fk hF hP⟩
theorem LWS.cong {F : Nat → GC} {L : Nat → Option Nat} {s s' : Nat → Int} (h : LWS F L s) (e : ∀ k : Nat, 64 ≤ k → s' k = s k) : LWS F L s' := by
  refine ⟨h.1, fun t ht => ?_⟩
  rw [e 64 (by omega)] at ht
  obtain ⟨a, h1, h2⟩ := h.2 t ht
  exact ⟨a, h1, h2.cong e⟩
def cFld (b : Nat) (s : Nat → Int) : List GV := [gR (b + 1), gR (b + 2), gR (b + 3), gR (b + 4), gR (b + 5), gI (s 0), gI (s 64), gI (s 1), gI (s 2), gI (s 3), gI (s 4), gI (s 5), gI (s 6), gI (s 7)]
abbrev g5 (f : Nat → Int) : List GV := [gI (f 0), gI (f 1), gI (f 2), gI (f 3), gI (f 4)]
def gRow (b i : Nat) : Option Nat := if i < 10 then some (b + 6 + i) else none
theorem gRow_at {b i : Nat} (h : i < 10) : gRow b i = some (b + 6 + i) := if_pos h
def zct (s : Nat → Int) (w : Nat) : Int := if s (65 + w) < 0 then NONE else s (65 + w)
/-- the county at b is s, as far as its geese and its texts go -/
def CTY (F : Nat → GC) (b : Nat) (s : Nat → Int) : Prop :=
  F b = cO 1 (cFld b s) ∧ F (b + 1) = cR 2 10 (gRow b) ∧ (∃ f, F (b + 2) = cI 6 f ∧ ∀ y : Nat, y < 6 → f y = s (8 + y)) ∧ (∃ L, F (b + 3) = cR 3 14 L ∧ LWS F L s) ∧ (∃ f, F (b + 4) = cI 3 f ∧ ∀ w : Nat, w < 3 → f w = zct s w) ∧ (∃ f, F (b + 5) = cI 100 f) ∧ ∀ i : Nat, i < 10 → ∃ f, F (b + 6 + i) = cO 2 (g5 f) ∧ ((i : Int) < s 0 → ∀ w : Nat, w < 5 → f w = s (14 + 5 * i + w))
section CTYS
variable {F F' : Nat → GC} {b : Nat} {s s' : Nat → Int}
theorem CTY.fk {P : Nat → Prop} (h : CTY F b s) (hF : FK P F F') (hP : ∀ k, 103 ≤ k → ¬ P k) (hb : ∀ k, b ≤ k → k < b + 16 → ¬ P k) (h103 : b + 16 ≤ 103) : CTY F' b s := by
  obtain ⟨h0, h1, ⟨f2, h2, e2⟩, ⟨L, h3, e3⟩, ⟨f4, h4, e4⟩, ⟨f5, h5⟩, h6⟩ := h
  have at' : ∀ k, b ≤ k → k < b + 16 → F' k = F k := fun k k1 k2 => hF.at (by omega) (hb k k1 k2)
  refine ⟨by rw [at' b (by omega) (by omega)]; exact h0, by rw [at' (b + 1) (by omega) (by omega)]; exact h1, ⟨f2, by rw [at' (b + 2) (by omega) (by omega)]; exact h2, e2⟩, ⟨L, by rw [at' (b + 3) (by omega) (by omega)]; exact h3, e3.fk hF hP⟩, ⟨f4, by rw [at' (b + 4) (by omega) (by omega)]; exact h4, e4⟩, ⟨f5, by rw [at' (b + 5) (by omega) (by omega)]; exact h5⟩, fun i hi => ?_⟩
  obtain ⟨f, e, r⟩ := h6 i hi
  exact ⟨f, by rw [at' (b + 6 + i) (by omega) (by omega)]; exact e, r⟩
theorem CTY.fs (h : CTY F b s) (hF : FS F F') (h103 : b + 16 ≤ 103) : CTY F' b s := h.fk hF (fun _ _ q => q) (fun _ _ _ q => q) h103
theorem CTY.gs (h : CTY F b s) {i : Nat} (hi : (i : Int) < s 0) (h10 : i < 10) : F (b + 6 + i) = cO 2 [gI (zk s i 0), gI (zk s i 1), gI (zk s i 2), gI (zk s i 3), gI (zk s i 4)] := by
  obtain ⟨f, e, r⟩ := h.2.2.2.2.2.2 i h10
  have r := r hi
  have z : ∀ w : Nat, w < 5 → zk s i w = f w := fun w hw => by rw [r w hw]; exact zk_nat s i w
  rw [e]
  have z0 := z 0 (by omega); have z1 := z 1 (by omega); have z2 := z 2 (by omega); have z3 := z 3 (by omega); have z4 := z 4 (by omega)
  rw [show zk s i 0 = f 0 from z0, show zk s i 1 = f 1 from z1, show zk s i 2 = f 2 from z2, show zk s i 3 = f 3 from z3, show zk s i 4 = f 4 from z4]
/-- the parts of a county that a store leaves alone -/
theorem CTY.with (h : CTY F b s) (h103 : b + 16 ≤ 103) {a : Nat} {c : GC} (ha : b ≤ a ∧ a < b + 16)
    (e0 : va_up F a c b = cO 1 (cFld b s')) (e1 : a ≠ b + 1) (e2 : ∀ f, F (b + 2) = cI 6 f → (∀ y : Nat, y < 6 → f y = s (8 + y)) → ∃ f, va_up F a c (b + 2) = cI 6 f ∧ ∀ y : Nat, y < 6 → f y = s' (8 + y)) (e3 : a ≠ b + 3) (e4 : a ≠ b + 4) (e5 : a = b + 5 → ∃ f, c = cI 100 f) (e64 : ∀ k : Nat, 64 ≤ k → s' k = s k)
    (e6 : ∀ i : Nat, i < 10 → ∀ f, F (b + 6 + i) = cO 2 (g5 f) → ((i : Int) < s 0 → ∀ w : Nat, w < 5 → f w = s (14 + 5 * i + w)) → ∃ f, va_up F a c (b + 6 + i) = cO 2 (g5 f) ∧ ((i : Int) < s' 0 → ∀ w : Nat, w < 5 → f w = s' (14 + 5 * i + w))) : CTY (va_up F a c) b s' := by
  obtain ⟨h0, h1, ⟨f2, h2, q2⟩, ⟨L, h3, q3⟩, ⟨f4, h4, q4⟩, ⟨f5, h5⟩, h6⟩ := h
  have hfk : FK (inC b) F (va_up F a c) := FK.rf.put ha
  refine ⟨e0, by rw [va_up_ne _ _ (Ne.symm e1)]; exact h1, e2 f2 h2 q2, ⟨L, by rw [va_up_ne _ _ (Ne.symm e3)]; exact h3, (q3.fk hfk (fun k hk q => by have := q.2; omega)).cong e64⟩, ⟨f4, by rw [va_up_ne _ _ (Ne.symm e4)]; exact h4, fun w hw => by rw [q4 w hw]; unfold zct; rw [e64 _ (by omega)]⟩, ?_, fun i hi => ?_⟩
  · by_cases e : a = b + 5
    · obtain ⟨f, hf⟩ := e5 e
      subst e
      exact ⟨f, by rw [va_up_self]; exact hf⟩
    · exact ⟨f5, by rw [va_up_ne _ _ (Ne.symm e)]; exact h5⟩
  · obtain ⟨f, e, r⟩ := h6 i hi
    exact e6 i hi f e r
theorem CTY.num (h : CTY F b s) (h103 : b + 16 ≤ 103) {k : Nat} {x : Int} (hk : 1 ≤ k ∧ k ≤ 7) : CTY (va_up F b (cO 1 (cFld b (va_up s k x)))) b (va_up s k x) := by
  refine h.with h103 (by omega) (va_up_self _ _ _) (by omega) (fun f e r => ⟨f, by rw [va_up_ne _ _ (by omega)]; exact e, fun y hy => by rw [va_up_ne _ _ (by omega)]; exact r y hy⟩) (by omega) (by omega) (by omega) (fun j hj => va_up_ne _ _ (by omega)) (fun i hi f e r => ⟨f, by rw [va_up_ne _ _ (by omega)]; exact e, fun q w hw => ?_⟩)
  rw [va_up_ne _ _ (by omega)] at q
  rw [va_up_ne _ _ (by omega)]
  exact r q w hw
theorem g5_set (f : Nat → Int) (w : Nat) (hw : w < 5) (x : Int) : (g5 f).set w (gI x) = g5 (va_up f w x) := by
  match w, hw with
  | 0, _ => rfl
  | 1, _ => rfl
  | 2, _ => rfl
  | 3, _ => rfl
  | 4, _ => rfl
theorem CTY.goose (h : CTY F b s) (h103 : b + 16 ≤ 103) {i w : Nat} {x : Int} (hi : i < 10) (hw : w < 5) {f : Nat → Int} (hf : F (b + 6 + i) = cO 2 (g5 f)) : CTY (va_up F (b + 6 + i) (cO 2 ((g5 f).set w (gI x)))) b (va_up s (14 + 5 * i + w) x) := by
  rw [g5_set f w hw x]
  refine h.with h103 (by omega) ?_ (by omega) (fun f e r => ⟨f, by rw [va_up_ne _ _ (by omega)]; exact e, fun y hy => by rw [va_up_ne _ _ (by omega)]; exact r y hy⟩) (by omega) (by omega) (by omega) (fun j hj => va_up_ne _ _ (by omega)) (fun j hj f1 e r => ?_)
  · rw [va_up_ne _ _ (by omega), h.1]
    unfold cFld
    rw [va_up_ne _ _ (by omega), va_up_ne _ _ (by omega), va_up_ne _ _ (by omega), va_up_ne _ _ (by omega), va_up_ne _ _ (by omega), va_up_ne _ _ (by omega), va_up_ne _ _ (by omega), va_up_ne _ _ (by omega), va_up_ne _ _ (by omega)]
  · by_cases q : j = i
    · subst q
      rw [hf] at e
      injection e with e; injection e with e; injection e with _ e
      injection e with e0 e; injection e with e1 e; injection e with e2 e; injection e with e3 e; injection e with e4 _
      injection e0 with e0; injection e1 with e1; injection e2 with e2; injection e3 with e3; injection e4 with e4
      refine ⟨va_up f w x, va_up_self _ _ _, fun q v hv => ?_⟩
      rw [va_up_ne _ _ (by omega)] at q
      have r := r q v hv
      by_cases ev : v = w
      · subst ev; rw [va_up_self, va_up_self]
      · rw [va_up_ne _ _ ev, va_up_ne _ _ (by omega), ← r]
        match v, hv with
        | 0, _ => exact e0
        | 1, _ => exact e1
        | 2, _ => exact e2
        | 3, _ => exact e3
        | 4, _ => exact e4
    · refine ⟨f1, by rw [va_up_ne _ _ (by omega)]; exact e, fun q v hv => ?_⟩
      rw [va_up_ne _ _ (by omega)] at q
      rw [va_up_ne _ _ (by omega)]
      exact r q v hv
theorem CTY.need (h : CTY F b s) (h103 : b + 16 ≤ 103) {y : Nat} {x : Int} (hy : y < 6) {f : Nat → Int} (hf : F (b + 2) = cI 6 f) : CTY (va_up F (b + 2) (cI 6 (va_up f y x))) b (va_up s (8 + y) x) := by
  refine h.with h103 (by omega) ?_ (by omega) (fun f1 e r => ⟨va_up f y x, va_up_self _ _ _, fun j hj => ?_⟩) (by omega) (by omega) (by omega) (fun j hj => va_up_ne _ _ (by omega)) (fun j hj f1 e r => ⟨f1, by rw [va_up_ne _ _ (by omega)]; exact e, fun q v hv => ?_⟩)
  · rw [va_up_ne _ _ (by omega), h.1]
    unfold cFld
    rw [va_up_ne _ _ (by omega), va_up_ne _ _ (by omega), va_up_ne _ _ (by omega), va_up_ne _ _ (by omega), va_up_ne _ _ (by omega), va_up_ne _ _ (by omega), va_up_ne _ _ (by omega), va_up_ne _ _ (by omega), va_up_ne _ _ (by omega)]
  · rw [hf] at e
    injection e with e; injection e with _ e
    subst e
    by_cases ev : j = y
    · subst ev; rw [va_up_self, va_up_self]
    · rw [va_up_ne _ _ ev, va_up_ne _ _ (by omega)]; exact r j hj
  · rw [va_up_ne _ _ (by omega)] at q
    rw [va_up_ne _ _ (by omega)]
    exact r q v hv
theorem CTY.tally (h : CTY F b s) (h103 : b + 16 ≤ 103) {f : Nat → Int} : CTY (va_up F (b + 5) (cI 100 f)) b s :=
  h.with h103 (by omega) (by rw [va_up_ne _ _ (by omega)]; exact h.1) (by omega) (fun f1 e r => ⟨f1, by rw [va_up_ne _ _ (by omega)]; exact e, r⟩) (by omega) (by omega) (fun _ => ⟨f, rfl⟩) (fun _ _ => rfl) (fun j hj f1 e r => ⟨f1, by rw [va_up_ne _ _ (by omega)]; exact e, r⟩)
end CTYS
section GOCTY
variable {g : GX} {y : GY} {d bc bs pc : Nat} {L st : List GV} {N b : Nat} {F : Nat → GC} {s : Nat → Int} {Q : GV → GM → Prop}
theorem go_cpf {idx j k : Nat} {x : Int} (h : CTY F b s) (h103 : b + 16 ≤ 103) (hk : 1 ≤ k ∧ k ≤ 7) (hd : decode y.2.1 pc = .ok (.putfield idx, 3)) (hf : FL y.1.cls idx 1 j .int false) (hj : j < 14) (he : (cFld b s).set j (gI x) = cFld b (va_up s k x)) (kk : ∀ F1, CTY F1 b (va_up s k x) → FK (inC b) F F1 → Go g y d bc bs (pc + 3) L st (N, F1) Q) : Go g y d bc bs pc L (gI x :: gR b :: st) (N, F) Q := by
  refine go_putf hd hf h.1 hj rfl rfl ?_
  rw [he]
  exact kk _ (h.num h103 hk) (FK.rf.put (by omega))
theorem go_cgf {idx i w a : Nat} {x : Int} (h : CTY F b s) (h103 : b + 16 ≤ 103) (hi : i < 10) (ha : a = b + 6 + i) (hw : w < 5) (hd : decode y.2.1 pc = .ok (.putfield idx, 3)) (hf : FL y.1.cls idx 2 w .int false) (kk : ∀ F1, CTY F1 b (va_up s (14 + 5 * i + w) x) → FK (inC b) F F1 → Go g y d bc bs (pc + 3) L st (N, F1) Q) : Go g y d bc bs pc L (gI x :: gR a :: st) (N, F) Q := by
  subst ha
  obtain ⟨f, e, -⟩ := h.2.2.2.2.2.2 i hi
  exact go_putf hd hf e hw rfl rfl (kk _ (h.goose h103 hi hw e) (FK.rf.put (by omega)))
theorem go_stald' {i : Nat} {q : String × List Int} {j : Int} (x : Int) (hd : decode y.2.1 pc = .ok (.iaload, 1)) (hi : stT[i]? = some q) (h0 : 0 ≤ j ∧ j < q.2.length ∧ q.2.getD j.toNat 0 = x) (kk : Go g y d bc bs (pc + 1) L (gI x :: st) (N, F) Q) : Go g y d bc bs pc L (gI j :: gS i :: st) (N, F) Q :=
  go_stald hd hi h0.1 h0.2.1 (by rw [h0.2.2]; exact kk)
end GOCTY
