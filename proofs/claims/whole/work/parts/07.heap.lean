/-! ===== the memory's rows ===== -/
theorem MR.lt {g : GX} {M : GM} {H : Heap} (hM : MR g M H) {a : Nat} (h : M.2 a ≠ gBad) : a < M.1 := by
  by_cases hj : a < M.1
  · exact hj
  · exact absurd ((hM.2 a).2 (by omega)) h
theorem MR.at {g : GX} {M : GM} {H : Heap} (hM : MR g M H) {a : Nat} {c : GC} (h : M.2 a = c) (hc : c ≠ gBad) : va_at (xD g) clz (xs0 g + a, ce g c) H ∧ okC c := by
  have h1 := (hM.2 a).1 (hM.lt (by rw [h]; exact hc))
  rw [h] at h1
  exact h1
theorem MR.set {g : GX} {M : GM} {H H1 : Heap} (hM : MR g M H) {a : Nat} {c c0 : GC} (h : M.2 a = c0) (hc : c0 ≠ gBad) (hat : va_at (xD g) clz (xs0 g + a, ce g c) H1) (hok : okC c) (hz : H1.size = H.size) (ho : ∀ q : Nat, q ≠ xs0 g + a → H1[q]? = H[q]?) : MR g (M.1, va_up M.2 a c) H1 := by
  have ha : a < M.1 := hM.lt (by rw [h]; exact hc)
  refine ⟨hz.trans hM.1, fun k => ⟨fun hk => ?_, fun hk => ?_⟩⟩
  · show va_at _ _ (_, ce g (va_up M.2 a c k)) H1 ∧ okC (va_up M.2 a c k)
    by_cases e : k = a
    · subst e
      rw [va_up_self]
      exact ⟨hat, hok⟩
    · rw [va_up_ne _ _ e]
      have h1 := (hM.2 k).1 hk
      exact ⟨h1.1.kept (ho _ (by show xs0 g + k ≠ _; omega)), h1.2⟩
  · show va_up M.2 a c k = gBad
    have hk' : M.1 ≤ k := hk
    rw [va_up_ne _ _ (by omega)]
    exact (hM.2 k).2 hk
theorem MR.push {g : GX} {M : GM} {H H1 : Heap} (hM : MR g M H) {c : GC} (hat : va_at (xD g) clz (H.size, ce g c) H1) (hok : okC c) (hz : H1.size = H.size + 1) (ho : ∀ q : Nat, q < H.size → H1[q]? = H[q]?) : MR g (M.1 + 1, va_up M.2 M.1 c) H1 := by
  refine ⟨by rw [hz, hM.1]; show _ = xs0 g + (M.1 + 1); omega, fun k => ⟨fun hk => ?_, fun hk => ?_⟩⟩
  · show va_at _ _ (_, ce g (va_up M.2 M.1 c k)) H1 ∧ okC (va_up M.2 M.1 c k)
    have hk' : k < M.1 + 1 := hk
    by_cases e : k = M.1
    · subst e
      rw [va_up_self, ← hM.1]
      exact ⟨hat, hok⟩
    · rw [va_up_ne _ _ e]
      have h1 := (hM.2 k).1 (by omega)
      exact ⟨h1.1.kept (ho _ (by show xs0 g + k < _; rw [hM.1]; omega)), h1.2⟩
  · show va_up M.2 M.1 c k = gBad
    have hk' : M.1 + 1 ≤ k := hk
    rw [va_up_ne _ _ (by omega)]
    exact (hM.2 k).2 (by omega)
theorem va_P1 {D : va_G} {cl : List vw_C} {q : Nat × va_E} {H : Heap} (h : va_at D cl q H) : va_P D cl [q] H := by
  intro k q' hk
  cases k with
  | zero => simp at hk; subst hk; exact h
  | succ k => simp at hk
theorem va_S.new {A : Nat → Prop} {H0 H H1 : Heap} {locs : List Loc} (h : va_S A H0 H locs) (z : H.size ≤ H1.size) (ho : ∀ q : Nat, q < H.size → H1[q]? = H[q]?) : va_S A H0 H1 locs :=
  ⟨Nat.le_trans h.1 z, fun x h1 h2 => (ho x (Nat.lt_of_lt_of_le h1 h.1)).trans (h.2.1 x h1 h2), h.2.2⟩
/-- the field k of class ci, of that type, final or not, by the pool's entry idx of the class 'own' -/
def FL (own : String) (idx ci k : Nat) (ty : FieldType) (fin : Bool) : Prop := ∃ (C : String) (T : u_T) (N : Nat) (tf : Nat → FieldType), CLS ci C T N tf ∧ k < N ∧ Cond.fieldLink own idx (T k).1 (T k).2.1 (T k).2.2.1 ∈ gw ∧ tf k = ty ∧ (T k).2.2.2 = fin ∧ (T k).1 = C
theorem neO {ci : Nat} {fs : List GV} {v : GV} {k : Nat} (h : fs[k]? = some v) : cO ci fs ≠ gBad := by
  intro e
  injection e with e; injection e with e; injection e with e1 e2
  subst e2
  simp at h
theorem neOl {ci : Nat} {fs : List GV} {k : Nat} (h : k < fs.length) : cO ci fs ≠ gBad := by
  intro e
  injection e with e; injection e with e; injection e with e1 e2
  subst e2
  simp at h
theorem neI {n : Nat} {f : Nat → Int} : cI n f ≠ gBad := fun e => by injection e
theorem neR {ci n : Nat} {f : Nat → Option Nat} : cR ci n f ≠ gBad := fun e => by injection e with e; injection e
section GOHEAP
variable {g : GX} {y : GY} {d bc bs pc : Nat} {L st : List GV} {N : Nat} {F : Nat → GC} {Q : GV → GM → Prop}
theorem go_getf {idx ci k a : Nat} {ty : FieldType} {fin : Bool} {fs : List GV} {v : GV} (hd : decode y.2.1 pc = .ok (.getfield idx, 3)) (hf : FL y.1.cls idx ci k ty fin) (hm : F a = cO ci fs) (hv : fs[k]? = some v) (kk : Go g y d bc bs (pc + 3) L (v :: st) (N, F) Q) : Go g y d bc bs pc L (gR a :: st) (N, F) Q := by
  intro p e R s m args below meth c H locs cells slots ls Z C hRT hr hM hl hs
  obtain ⟨K, T, n, tf, ⟨c1, c2, c3, c4⟩, f1, f2, f3, f4, f5⟩ := hf
  obtain ⟨hat, hok⟩ := hM.1.at (a := a) hm (neO hv)
  exact va_get (ws := [(xs0 g + a, .inr (ci, fs.map (rv g)))]) C.1 C.2.1 C.2.2.2.2.1 c2 C.2.2.2.1 C.2.2.2.2.2.2.2.2.1 (va_P1 hat) 0 rfl c1 k f1 (C.2.2.2.2.1 _ f2) (fun _ h => h) (v := rv g v) (by rw [List.getElem?_map, hv]; rfl) hd (kk.use C hRT hr hM hl (okc (hok v (List.mem_of_getElem? hv)) (okt hs)))
theorem go_putf {idx ci k a : Nat} {ty : FieldType} {fs : List GV} {v : GV} (hd : decode y.2.1 pc = .ok (.putfield idx, 3)) (hf : FL y.1.cls idx ci k ty false) (hm : F a = cO ci fs) (hk : k < fs.length) (hn : narrow ty (rv g v) = rv g v) (hfit : fits ty (rv g v) = true) (kk : Go g y d bc bs (pc + 3) L st (N, va_up F a (cO ci (fs.set k v))) Q) : Go g y d bc bs pc L (v :: gR a :: st) (N, F) Q := by
  intro p e R s m args below meth c H locs cells slots ls Z C hRT hr hM hl hs
  obtain ⟨K, T, n, tf, ⟨c1, c2, c3, c4⟩, f1, f2, f3, f4, f5⟩ := hf
  obtain ⟨hat, hok⟩ := hM.1.at (a := a) hm (neOl hk)
  have hts := C.2.2.2.2.1
  have hK := C.2.2.2.2.2.2.2.2.1
  have hown := C.2.2.2.1
  have hap := va_apart (own := y.1.cls) hts c2 tf c3 c4 hK c1
  obtain ⟨r, h1, cell, q1, q2, q3, q4⟩ := hat
  have hre : r = (K, T, n) := Option.some.inj (h1.symm.trans c1)
  subst hre
  obtain ⟨hS, hfc, kC, hkC, hkind⟩ := hK.1 ci _ c1
  obtain ⟨cf, kf, fi, fd, hi, hsl⟩ := hS k f1
  have hlay := hts _ (c2 _ (u_in_lay f1))
  unfold u_lay at hlay
  rw [if_neg (by rw [f4]; decide)] at hlay
  have hst := (u_facts hfc hkC (u_lays hts c2 f1) hi).1
  have h6 := u_store hfc hkC hkind hlay hi (by rw [c3 k f1, f3]) hn hfit
  refine W.putK C.1 C.2.1 (f := fd) ⟨hown, hts _ f2, ⟨_, _, _, hi⟩, hst⟩ (by rw [q2]; exact h6) q1 q3 (by rw [hsl]; exact k2_hasslot (q4 k f1)) rfl rfl hd fun H' e1 e2 e3 => ?_
  rw [hsl] at e1 ⊢
  refine kk.use C hRT hr ⟨hM.1.set hm (neOl hk) ⟨_, c1, t_OB.to (V := updV (vp_V (fs.map (rv g))) k (rv g v)) ⟨_, e1, q2, q3, t_set q4 hap f1 _⟩ (fun j _ => ?_)⟩ ?_ e2 e3, hM.2.put e2 e3 (by show xs0 g ≤ _; omega)⟩ hl (okt (okt hs))
  · rw [vp_updV_set (by rw [List.length_map]; exact hk), ← List.map_set]
  · intro w hw
    rcases List.mem_or_eq_of_mem_set hw with h | h
    · exact hok w h
    · subst h; exact okh hs
theorem go_putF {idx ci k a : Nat} {ty : FieldType} {fs : List GV} {v : GV} (hd : decode y.2.1 pc = .ok (.putfield idx, 3)) (hf : FL y.1.cls idx ci k ty true) (hin : y.1.name = "<init>") (hcl : clz[ci]?.map (fun q => q.1) = some y.1.cls) (hm : F a = cO ci fs) (hk : k < fs.length) (hn : narrow ty (rv g v) = rv g v) (hfit : fits ty (rv g v) = true) (kk : Go g y d bc bs (pc + 3) L st (N, va_up F a (cO ci (fs.set k v))) Q) : Go g y d bc bs pc L (v :: gR a :: st) (N, F) Q := by
  intro p e R s m args below meth c H locs cells slots ls Z C hRT hr hM hl hs
  obtain ⟨K, T, n, tf, ⟨c1, c2, c3, c4⟩, f1, f2, f3, f4, f5⟩ := hf
  obtain ⟨hat, hok⟩ := hM.1.at (a := a) hm (neOl hk)
  have hts := C.2.2.2.2.1
  have hK := C.2.2.2.2.2.2.2.2.1
  have hown := C.2.2.2.1
  have hap := va_apart (own := y.1.cls) hts c2 tf c3 c4 hK c1
  have hdecl : (T k).1 = y.1.cls := by
    rw [f5]
    rw [c1] at hcl
    exact Option.some.inj hcl
  obtain ⟨r, h1, cell, q1, q2, q3, q4⟩ := hat
  have hre : r = (K, T, n) := Option.some.inj (h1.symm.trans c1)
  subst hre
  obtain ⟨hS, hfc, kC, hkC, hkind⟩ := hK.1 ci _ c1
  obtain ⟨cf, kf, fi, fd, hi, hsl⟩ := hS k f1
  have hlay := hts _ (c2 _ (u_in_lay f1))
  unfold u_lay at hlay
  rw [if_pos f4] at hlay
  have hst := (u_facts hfc hkC (u_lays hts c2 f1) hi).1
  have hcf : m.cls = cf := by
    obtain ⟨_, _, c', _, _, _, -, -, hf', -, -, -, hown2, -⟩ := Cond.laysFinal_spec hlay
    have e1 : c' = cf := by have := hi.symm.trans hf'; simp at this; exact this.1.symm
    rw [hdecl] at hown2
    rw [← e1]; exact Option.some.inj (hown.symm.trans hown2)
  have h6 := u_fits hfc hkC hkind (Or.inr hlay) hi (by rw [c3 k f1, f3]) hn hfit
  refine W.putFinK C.1 C.2.1 hown (hts _ f2) hi hst hcf (C.2.2.2.2.2.2.1.trans hin) (by rw [q2]; exact h6) q1 q3 (by rw [hsl]; exact k2_hasslot (q4 k f1)) rfl rfl hd fun H' e1 e2 e3 => ?_
  rw [hsl] at e1 ⊢
  refine kk.use C hRT hr ⟨hM.1.set hm (neOl hk) ⟨_, c1, t_OB.to (V := updV (vp_V (fs.map (rv g))) k (rv g v)) ⟨_, e1, q2, q3, t_set q4 hap f1 _⟩ (fun j _ => ?_)⟩ ?_ e2 e3, hM.2.put e2 e3 (by show xs0 g ≤ _; omega)⟩ hl (okt (okt hs))
  · rw [vp_updV_set (by rw [List.length_map]; exact hk), ← List.map_set]
  · intro w hw
    rcases List.mem_or_eq_of_mem_set hw with h | h
    · exact hok w h
    · subst h; exact okh hs
theorem go_iald {a n : Nat} {f : Nat → Int} {i : Int} (hd : decode y.2.1 pc = .ok (.iaload, 1)) (hm : F a = cI n f) (h0 : 0 ≤ i) (h1 : i < n) (kk : Go g y d bc bs (pc + 1) L (gI (f i.toNat) :: st) (N, F) Q) : Go g y d bc bs pc L (gI i :: gR a :: st) (N, F) Q := by
  intro p e R s m args below meth c H locs cells slots ls Z C hRT hr hM hl hs
  obtain ⟨hat, hok⟩ := hM.1.at (a := a) hm neI
  have hk := kk.use C hRT hr hM hl (okc (hok.2 _) (okt (okt hs)))
  refine va_iald (ws := [(xs0 g + a, ce g (cI n f))]) C.1 C.2.1 C.2.2.2.2.2.2.2.2.1 (va_P1 hat) 0 0 rfl rfl (gi_vp (okh hs) h0 h1) hd ?_
  rw [gi_cl (okh hs)]
  exact hk
theorem go_iast {a n : Nat} {f : Nat → Int} {i x : Int} (hd : decode y.2.1 pc = .ok (.iastore, 1)) (hm : F a = cI n f) (h0 : 0 ≤ i) (h1 : i < n) (kk : Go g y d bc bs (pc + 1) L st (N, va_up F a (cI n (va_up f i.toNat x))) Q) : Go g y d bc bs pc L (gI x :: gI i :: gR a :: st) (N, F) Q := by
  intro p e R s m args below meth c H locs cells slots ls Z C hRT hr hM hl hs
  obtain ⟨hat, hok⟩ := hM.1.at (a := a) hm neI
  have hi : inR i := okh (okt hs)
  have hcell : H[xs0 g + a]? = some (arrV (xaI g) n (fun j => .int (Int32.ofInt (f j)))) := hat
  refine W.iast C.1 C.2.1 hcell ((C.2.2.2.2.2.2.2.2.1.2 0 _ rfl).1 n (fun j => .int (Int32.ofInt (f j)))) (fun q => by cases q) (by rw [arrV_size]; exact gi_vp hi h0 h1) rfl rfl hd fun H1 e z oq => ?_
  refine kk.use C hRT hr ⟨hM.1.set hm neI ?_ ⟨hok.1, fun j => ?_⟩ z oq, hM.2.put z oq (by show xs0 g ≤ _; omega)⟩ hl (okt (okt (okt hs)))
  · show H1[xs0 g + a]? = some (arrV (xaI g) n (fun j => .int (Int32.ofInt (va_up f i.toNat x j))))
    rw [e, arrV_store, gi_cl hi]
    congr 2
    funext q
    by_cases hq : q = i.toNat
    · subst hq
      simp [updV, va_up]
    · simp [updV, va_up, hq]
  · by_cases hj : j = i.toNat
    · subst hj; rw [va_up_self]; exact okh hs
    · rw [va_up_ne _ _ hj]; exact hok.2 j
theorem go_aald {a n ci : Nat} {f : Nat → Option Nat} {i : Int} (t : Nat) (K : String) (hd : decode y.2.1 pc = .ok (.aaload, 1)) (hm : F a = cR ci n f) (ht : (tys g)[t]? = some (xaR g ci, .object K)) (h0 : 0 ≤ i) (h1 : i < n) (kk : Go g y d bc bs (pc + 1) L (gO (f i.toNat) :: st) (N, F) Q) : Go g y d bc bs pc L (gI i :: gR a :: st) (N, F) Q := by
  intro p e R s m args below meth c H locs cells slots ls Z C hRT hr hM hl hs
  obtain ⟨hat, hok⟩ := hM.1.at (a := a) hm neR
  have hk := kk.use C hRT hr hM hl (okc trivial (okt (okt hs)))
  refine va_aldq (ws := [(xs0 g + a, ce g (cR ci n f))]) C.1 C.2.1 C.2.2.2.2.2.2.2.2.1 (va_P1 hat) 0 t rfl ht (gi_vp (okh hs) h0 h1) hd ?_
  rw [gi_cl (okh hs)]
  show W p g.1 e R s m args below meth c H locs cells slots Z (F0 m (pc + 1) ls (va_rf ((f i.toNat).map _) :: _))
  cases hf : f i.toNat with
  | none => rw [hf] at hk; exact hk
  | some b => rw [hf] at hk; exact hk
theorem go_aast {a n ci b : Nat} {f : Nat → Option Nat} {fs : List GV} {i : Int} (t : Nat) (K : String) (hd : decode y.2.1 pc = .ok (.aastore, 1)) (hm : F a = cR ci n f) (hb : F b = cO ci fs) (hne : fs ≠ []) (ht : (tys g)[t]? = some (xaR g ci, .object K)) (hci : clz[ci]?.map (fun q => q.1) = some K) (h0 : 0 ≤ i) (h1 : i < n) (kk : Go g y d bc bs (pc + 1) L st (N, va_up F a (cR ci n (va_up f i.toNat (some b)))) Q) : Go g y d bc bs pc L (gR b :: gI i :: gR a :: st) (N, F) Q := by
  intro p e R s m args below meth c H locs cells slots ls Z C hRT hr hM hl hs
  obtain ⟨hat, hok⟩ := hM.1.at (a := a) hm neR
  have hnb : cO ci fs ≠ gBad := by
    intro e
    injection e with e; injection e with e; injection e with e1 e2
    exact hne e2
  obtain ⟨hatb, -⟩ := hM.1.at (a := b) hb hnb
  have hi : inR i := okh (okt hs)
  have hK := C.2.2.2.2.2.2.2.2.1
  have hcell : H[xs0 g + a]? = some (arrV (xaR g ci) n (fun j => va_rf ((f j).map (fun a => xs0 g + a)))) := hat
  obtain ⟨r, hr', cellV, g1, g2, g3, -⟩ := hatb
  have hr' : clz[ci]? = some r := hr'
  have hrK : r.1 = K := by rw [hr'] at hci; exact Option.some.inj hci
  have hcls := (hK.1 ci r hr').2
  rw [hrK] at hcls
  obtain ⟨kA, comp, k1, k2, k3, -⟩ := (hK.2 t _ ht).2
  have hcomp : comp = (xD g).1 ci := Option.some.inj (k3.symm.trans hcls.1)
  subst hcomp
  obtain ⟨kC, hkC, -⟩ := hcls.2
  have hin := gi_vp (n := n) hi h0 h1
  have hlt : (Int32.ofInt i).toNatClampNeg < n := Nat.not_le.mp fun q => hin (Or.inr q)
  have hneg : ¬ Int32.ofInt i < 0 := fun q => hin (Or.inl q)
  refine W.aast C.1 C.2.1 hcell (fun q h => by cases h) (fun h => by cases h) k1 k2 rfl hkC ⟨hneg, by show _ < (arrV _ _ _).slots.size; rw [arrV_size]; exact hlt⟩ g1 (fun q h => by rw [g3] at h; cases h) (by rw [g2]; exact hkC) (by rw [g2]; exact va_assign hcls) rfl rfl hd fun H1 e z oq => ?_
  refine kk.use C hRT hr ⟨hM.1.set hm neR ?_ hok z oq, hM.2.put z oq (by show xs0 g ≤ _; omega)⟩ hl (okt (okt (okt hs)))
  show H1[xs0 g + a]? = some (arrV (xaR g ci) n (fun j => va_rf ((va_up f i.toNat (some b) j).map (fun a => xs0 g + a))))
  rw [e, arrV_store, gi_cl hi]
  congr 2
  funext q
  by_cases hq : q = i.toNat
  · subst hq
    simp [updV, va_up, va_rf]
  · simp [updV, va_up, hq]
theorem go_alenI {a n : Nat} {f : Nat → Int} (hd : decode y.2.1 pc = .ok (.arraylength, 1)) (hm : F a = cI n f) (kk : Go g y d bc bs (pc + 1) L (gI n :: st) (N, F) Q) : Go g y d bc bs pc L (gR a :: st) (N, F) Q := by
  intro p e R s m args below meth c H locs cells slots ls Z C hRT hr hM hl hs
  obtain ⟨hat, hok⟩ := hM.1.at (a := a) hm neI
  have hn : inR (n : Int) := by have := hok.1; unfold inR; omega
  exact va_alen (ws := [(xs0 g + a, ce g (cI n f))]) C.1 C.2.1 C.2.2.2.2.2.2.2.2.1 (va_P1 hat) 0 0 rfl (ty := .int) rfl (v := Int32.ofInt n) (Int32.ofInt_eq_ofNat).symm hd (kk.use C hRT hr hM hl (okc hn (okt hs)))
theorem go_newI {n : Int} (hd : decode y.2.1 pc = .ok (.newarray .int, 2)) (hw : Cond.arrayClass .int ∈ gw) (h0 : 0 ≤ n) (h1 : n < 100000) (hbc : 1 ≤ bc) (hbs : n.toNat ≤ bs) (kk : Go g y d (bc - 1) (bs - n.toNat) (pc + 2) L (gR N :: st) (N + 1, va_up F N (cI n.toNat (fun _ => 0))) Q) : Go g y d bc bs pc L (gI n :: st) (N, F) Q := by
  intro p e R s m args below meth c H locs cells slots ls Z C hRT hr hM hl hs
  have hn : inR n := okh hs
  refine va_newaK (atype := .int) (N := n.toNat) C.1 C.2.1 (C.2.2.2.2.1 _ hw) rfl hd rfl (by rw [gi_lt0 hn]; omega) (gi_cl hn) (by show n.toNat * 4 ≤ _; omega) (by omega) (by omega) rfl fun H1 cA e1 z1 o1 hAr hNm => ?_
  have hcA : cA = xaI g := by
    have h2 : s.vm.findClass ("[" ++ (FieldType.int).toString) = some (xaI g) := (C.2.2.2.2.2.2.2.2.1.2 0 _ rfl).2
    exact Option.some.inj (hNm.symm.trans h2)
  subst hcA
  have hk := kk.use (H := H1) (locs := locs) (cells := cells + 1) (slots := slots + n.toNat) C hRT ⟨hr.1, hr.2.1, by omega, by omega⟩ ⟨hM.1.push (by exact e1) ⟨by omega, fun _ => inR_0⟩ z1 o1, hM.2.new (by omega) o1⟩ hl (okc trivial (okt hs))
  have hH : H.size = xs0 g + N := hM.1.1
  rw [hH]
  exact hk
theorem go_newR {n : Int} {idx ci : Nat} (t : Nat) (K : String) (hd : decode y.2.1 pc = .ok (.anewarray idx, 3)) (hw : Cond.classLink y.1.cls idx K ∈ gw) (hao : K ∈ aoL) (ht : (tys g)[t]? = some (xaR g ci, .object K)) (h0 : 0 ≤ n) (h1 : n < 100000) (hbc : 1 ≤ bc) (hbs : n.toNat ≤ bs) (kk : Go g y d (bc - 1) (bs - n.toNat) (pc + 3) L (gR N :: st) (N + 1, va_up F N (cR ci n.toNat (fun _ => none))) Q) : Go g y d bc bs pc L (gI n :: st) (N, F) Q := by
  intro p e R s m args below meth c H locs cells slots ls Z C hRT hr hM hl hs
  have hn : inR n := okh hs
  have hover := C.2.2.2.2.2.2.2.2.2.2.2.1 K hao
  refine W.anew C.1 C.2.1 C.2.2.2.1 (C.2.2.2.2.1 _ hw) (va_AO.use hover) rfl hd rfl (by rw [gi_lt0 hn]; omega) (by rw [gi_cl hn]; omega) (by omega) (by rw [gi_cl hn]; omega) fun cA kA comp f1 f2 f3 f4 => ?_
  rw [gi_cl hn]
  generalize hH1 : H.push ({ cls := cA, slots := Array.replicate n.toNat .null, vm := .none } : Cell) = H1
  have z1 : H1.size = H.size + 1 := by rw [← hH1, Array.size_push]
  have e1 : H1[H.size]? = some (arrV cA n.toNat (fun _ => .null)) := by rw [← hH1, Array.getElem?_push_size, ← arrV_new]
  have o1 : ∀ q : Nat, q < H.size → H1[q]? = H[q]? := fun q hq => by rw [← hH1, Array.getElem?_push, if_neg (Nat.ne_of_lt hq)]
  have hcA : cA = xaR g ci := by
    obtain ⟨kA', comp', -, -, -, h2⟩ := (C.2.2.2.2.2.2.2.2.1.2 t _ ht).2
    exact Option.some.inj (f1.symm.trans h2)
  subst hcA
  have hk := kk.use (H := H1) (locs := locs) (cells := cells + 1) (slots := slots + n.toNat) C hRT ⟨hr.1, hr.2.1, by omega, by omega⟩ ⟨hM.1.push (by exact e1) (by show n.toNat < 2147483648; omega) z1 o1, hM.2.new (by omega) o1⟩ hl (okc trivial (okt hs))
  have hH : H.size = xs0 g + N := hM.1.1
  rw [hH]
  exact hk
theorem go_new {idx ci n : Nat} {K : String} {T : u_T} {tf : Nat → FieldType} {fs : List GV} (hd : decode y.2.1 pc = .ok (.new idx, 3)) (hc : CLS ci K T n tf) (hw : Cond.classLink y.1.cls idx K ∈ gw) (hw2 : Cond.instantiable K n ∈ gw) (hw3 : Cond.initialized K ∈ gw) (hfs : ∀ g : GX, ∀ j, j < n → defaultValue (tf j) = vp_V (fs.map (rv g)) j) (hne : fs ≠ []) (hok : ∀ v ∈ fs, okV v) (hbc : 1 ≤ bc) (hbs : n ≤ bs) (kk : Go g y d (bc - 1) (bs - n) (pc + 3) L (gR N :: st) (N + 1, va_up F N (cO ci fs)) Q) : Go g y d bc bs pc L st (N, F) Q := by
  intro p e R s m args below meth c H locs cells slots ls Z C hRT hr hM hl hs
  obtain ⟨c1, c2, c3, c4⟩ := hc
  have hts := C.2.2.2.2.1
  have hKn := C.2.2.2.2.2.2.2.2.1.1 ci _ c1
  refine W.newcK C.1 C.2.1 C.2.2.2.1 (hts _ hw) (hts _ hw2) (hts _ hw3) rfl hd (by omega) (by omega) hKn.2.1 rfl fun H1 kC hkC e1 z1 o1 => ?_
  have hk := kk.use (H := H1) (locs := locs) (cells := cells + 1) (slots := slots + n) C hRT ⟨hr.1, hr.2.1, by omega, by omega⟩ ⟨hM.1.push ⟨_, c1, (u_born tf hts c2 hKn hkC e1 c3).to (hfs g)⟩ hok z1 o1, hM.2.new (by omega) o1⟩ hl (okc trivial hs)
  have hH : H.size = xs0 g + N := hM.1.1
  rw [hH]
  exact hk
theorem go_objInit {idx a : Nat} (hd : decode y.2.1 pc = .ok (.invokespecial idx, 3)) (hw : Cond.methodLink y.1.cls idx Lib.objectInit ∈ gw) (hw2 : Cond.instanceMethod Lib.objectInit ∈ gw) (hw3 : Cond.code Lib.objectInit ⟨#[0xb1]⟩ 1 none ∈ gw) (hst : ((st.map (rv g)).map fun v => v.category).sum ≤ 8) (hdd : 1 ≤ d) (kk : Go g y d bc bs (pc + 3) L st (N, F) Q) : Go g y d bc bs pc L (gR a :: st) (N, F) Q := by
  intro p e R s m args below meth c H locs cells slots ls Z C hRT hr hM hl hs
  have hts := C.2.2.2.2.1
  refine W.objInit C.1 C.2.1 C.2.2.2.1 (hts _ hw) (hts _ hw2) (hts _ hw3) rfl (by rw [C.2.2.1]; exact hl.1) rfl hd (by omega) (by show 2 * 0 + _ + 12 ≤ _; omega) ?_
  exact kk.use C hRT hr hM hl (okt hs)
end GOHEAP
