/-! ===== constants, copies, calls ===== -/
section GOCONST
variable {g : GX} {y : GY} {d bc bs pc : Nat} {L st : List GV} {N : Nat} {F : Nat → GC} {Q : GV → GM → Prop}
theorem go_gets {idx i : Nat} {q : String × List Int} (hd : decode y.2.1 pc = .ok (.getstatic idx, 3)) (hw : Cond.fieldLink y.1.cls idx "GooseCounty" q.1 "[I" ∈ gw) (hi : stT[i]? = some q) (kk : Go g y d bc bs (pc + 3) L (gS i :: st) (N, F) Q) : Go g y d bc bs pc L st (N, F) Q := by
  intro p e R s m args below meth c H locs cells slots ls Z C hRT hr hM hl hs
  have hE := C.2.2.2.2.2.2.2.2
  exact va_gets C.1 C.2.1 (hE.2.2.2.2.1 i q hi).1 hM.2 C.2.2.2.1 (C.2.2.2.2.1 _ hw) (fun _ h => h) hd (kk.use C hRT hr hM hl (okc trivial hs))
theorem go_getsN {idx i j : Nat} {q : String × List Int} {w : String × Nat × String × String × String × String} (hd : decode y.2.1 pc = .ok (.getstatic idx, 3)) (hj : nestF[j]? = some w) (hw : w = (y.1.cls, idx, "GooseCounty", q.1, "[I", w.2.2.2.2.2)) (hi : stT[i]? = some q) (kk : Go g y d bc bs (pc + 3) L (gS i :: st) (N, F) Q) : Go g y d bc bs pc L st (N, F) Q := by
  intro p e R s m args below meth c H locs cells slots ls Z C hRT hr hM hl hs
  have hE := C.2.2.2.2.2.2.2.2
  have h1 := hE.2.2.1 w (List.mem_of_getElem? hj)
  rw [hw] at h1
  exact va_getsN C.1 C.2.1 (hE.2.2.2.2.1 i q hi).1 hM.2 C.2.2.2.1 (va_Nw.use rfl h1) (fun _ h => h) hd (kk.use C hRT hr hM hl (okc trivial hs))
theorem go_getcs {idx : Nat} (hd : decode y.2.1 pc = .ok (.getstatic idx, 3)) (hw : Cond.fieldLink y.1.cls idx "java/lang/String" "COMPACT_STRINGS" "Z" ∈ gw) (kk : Go g y d bc bs (pc + 3) L (gI 1 :: st) (N, F) Q) : Go g y d bc bs pc L st (N, F) Q := by
  intro p e R s m args below meth c H locs cells slots ls Z C hRT hr hM hl hs
  have hE := C.2.2.2.2.2.2.2.2
  exact va_gets C.1 C.2.1 hE.2.2.2.2.2.1 hM.2 C.2.2.2.1 (C.2.2.2.2.1 _ hw) (fun _ h => h) hd (kk.use C hRT hr hM hl (okc (by unfold okV inR; omega) hs))
theorem go_getsio {idx : Nat} (hd : decode y.2.1 pc = .ok (.getstatic idx, 3)) (hw : Cond.fieldLink y.1.cls idx "jdk/internal/util/Preconditions" "SIOOBE_FORMATTER" "Ljava/util/function/BiFunction;" ∈ gw) (k1 : Go g y d bc bs (pc + 3) L (gN :: st) (N, F) Q) (k2 : Go g y d bc bs (pc + 3) L (gS 40 :: st) (N, F) Q) : Go g y d bc bs pc L st (N, F) Q := by
  intro p e R s m args below meth c H locs cells slots ls Z C hRT hr hM hl hs
  have hE := C.2.2.2.2.2.2.2.2
  rcases hE.2.2.2.2.2.2.2.2.2.2.1 with h | h
  · exact va_gets C.1 C.2.1 h hM.2 C.2.2.2.1 (C.2.2.2.2.1 _ hw) (fun _ h => h) hd (k1.use C hRT hr hM hl (okc trivial hs))
  · exact va_gets C.1 C.2.1 h hM.2 C.2.2.2.1 (C.2.2.2.2.1 _ hw) (fun _ h => h) hd (k2.use C hRT hr hM hl (okc trivial hs))
theorem stT_in : ∀ q ∈ stT, ∀ x ∈ q.2, -2147483648 ≤ x ∧ x < 2147483648 := by decide +kernel
theorem go_stald {i : Nat} {q : String × List Int} {j : Int} (hd : decode y.2.1 pc = .ok (.iaload, 1)) (hi : stT[i]? = some q) (h0 : 0 ≤ j) (h1 : j < q.2.length) (kk : Go g y d bc bs (pc + 1) L (gI (q.2.getD j.toNat 0) :: st) (N, F) Q) : Go g y d bc bs pc L (gI j :: gS i :: st) (N, F) Q := by
  intro p e R s m args below meth c H locs cells slots ls Z C hRT hr hM hl hs
  have hE := C.2.2.2.2.2.2.2.2
  have hx : inR (q.2.getD j.toNat 0) := by
    rw [List.getD_eq_getElem?_getD, List.getElem?_eq_getElem (by omega)]
    exact stT_in q (List.mem_of_getElem? hi) _ (List.getElem_mem _)
  exact va_ti C.1 C.2.1 (hE.2.2.2.2.1 i q hi).2 hM.2 (gi_vp (okh hs) h0 h1) (by rw [gi_cl (okh hs)]; rfl) hd (kk.use C hRT hr hM hl (okc hx (okt (okt hs))))
theorem go_scld {j : Int} (hd : decode y.2.1 pc = .ok (.iaload, 1)) (h0 : 0 ≤ j) (h1 : j < xL g) (kk : Go g y d bc bs (pc + 1) L (gI (xX g j.toNat) :: st) (N, F) Q) : Go g y d bc bs pc L (gI j :: gS 30 :: st) (N, F) Q := by
  intro p e R s m args below meth c H locs cells slots ls Z C hRT hr hM hl hs
  have hE := C.2.2.2.2.2.2.2.2
  exact va_ti C.1 C.2.1 hE.2.2.2.2.2.2.2.2.1 hM.2 (gi_vp (okh hs) h0 h1) (by rw [gi_cl (okh hs)]; rfl) hd (kk.use C hRT hr hM hl (okc (hE.2.2.2.2.2.2.2.2.2.1 _) (okt (okt hs))))
theorem go_sclen (hd : decode y.2.1 pc = .ok (.arraylength, 1)) (h : xL g < 2147483648) (kk : Go g y d bc bs (pc + 1) L (gI (xL g) :: st) (N, F) Q) : Go g y d bc bs pc L (gS 30 :: st) (N, F) Q := by
  intro p e R s m args below meth c H locs cells slots ls Z C hRT hr hM hl hs
  have hE := C.2.2.2.2.2.2.2.2
  exact va_tlen C.1 C.2.1 hE.2.2.2.2.2.2.2.2.1 hM.2 (v := Int32.ofInt (xL g)) (Int32.ofInt_eq_ofNat).symm hd (kk.use C hRT hr hM hl (okc (by unfold okV inR; omega) (okt hs)))
theorem go_ldcS {idx i : Nat} {tx : String} (hd : decode y.2.1 pc = .ok (.ldc idx, 2)) (hy : y.1.cls = "GooseCounty$Reader") (hi : srT[i]? = some (idx, tx)) (kk : Go g y d bc bs (pc + 2) L (gS (8 + i) :: st) (N, F) Q) : Go g y d bc bs pc L st (N, F) Q := by
  intro p e R s m args below meth c H locs cells slots ls Z C hRT hr hM hl hs
  have hE := C.2.2.2.2.2.2.2.2
  exact va_ldcS C.1 C.2.1 (by rw [← hy]; exact C.2.2.2.1) (hE.2.2.2.2.2.2.2.1 i _ hi) hd (kk.use C hRT hr hM hl (okc trivial hs))
theorem go_sval {idx i : Nat} (hd : decode y.2.1 pc = .ok (.getfield idx, 3)) (hw : Cond.fieldLink y.1.cls idx "java/lang/String" "value" "[B" ∈ gw) (hi : i < 6) (kk : Go g y d bc bs (pc + 3) L (gS (16 + i) :: st) (N, F) Q) : Go g y d bc bs pc L (gS (8 + i) :: st) (N, F) Q := by
  intro p e R s m args below meth c H locs cells slots ls Z C hRT hr hM hl hs
  have hE := C.2.2.2.2.2.2.2.2
  exact vk_getf C.1 C.2.1 (hE.2.2.2.2.2.2.1.1 i hi).2.2.1 hM.2 C.2.2.2.1 (C.2.2.2.2.1 _ hw) (fun _ h => h) hd (kk.use C hRT hr hM hl (okc trivial (okt hs)))
theorem go_scod {idx i : Nat} (hd : decode y.2.1 pc = .ok (.getfield idx, 3)) (hw : Cond.fieldLink y.1.cls idx "java/lang/String" "coder" "B" ∈ gw) (hi : i < 6) (kk : Go g y d bc bs (pc + 3) L (gI 0 :: st) (N, F) Q) : Go g y d bc bs pc L (gS (8 + i) :: st) (N, F) Q := by
  intro p e R s m args below meth c H locs cells slots ls Z C hRT hr hM hl hs
  have hE := C.2.2.2.2.2.2.2.2
  exact vk_getf C.1 C.2.1 (hE.2.2.2.2.2.2.1.1 i hi).2.1 hM.2 C.2.2.2.1 (C.2.2.2.2.1 _ hw) (fun _ h => h) hd (kk.use C hRT hr hM hl (okc inR_0 (okt hs)))
theorem go_slen {i : Nat} (hd : decode y.2.1 pc = .ok (.arraylength, 1)) (hi : i < 6) (hx : srL.getD i 0 < 100) (kk : Go g y d bc bs (pc + 1) L (gI ((srL.getD i 0 : Nat) : Int) :: st) (N, F) Q) : Go g y d bc bs pc L (gS (16 + i) :: st) (N, F) Q := by
  intro p e R s m args below meth c H locs cells slots ls Z C hRT hr hM hl hs
  have hE := C.2.2.2.2.2.2.2.2
  exact va_tlen C.1 C.2.1 (hE.2.2.2.2.2.2.1.1 i hi).2.2.2 hM.2 (v := Int32.ofInt ((srL.getD i 0 : Nat) : Int)) (Int32.ofInt_eq_ofNat).symm hd (kk.use C hRT hr hM hl (okc (by show inR _; unfold inR; omega) (okt hs)))
theorem go_sbald {i : Nat} {j : Int} (hd : decode y.2.1 pc = .ok (.baload, 1)) (hi : i < 6) (h0 : 0 ≤ j) (h1 : j < ((srL.getD i 0 : Nat) : Int)) (kk : Go g y d bc bs (pc + 1) L (gI (((srB.getD i []).getD j.toNat 0).toInt) :: st) (N, F) Q) : Go g y d bc bs pc L (gI j :: gS (16 + i) :: st) (N, F) Q := by
  intro p e R s m args below meth c H locs cells slots ls Z C hRT hr hM hl hs
  have hE := C.2.2.2.2.2.2.2.2
  refine va_tb C.1 C.2.1 (hE.2.2.2.2.2.2.1.1 i hi).2.2.2 hM.2 (gi_vp (okh hs) h0 h1) (v := .int (Int32.ofInt ((srB.getD i []).getD j.toNat 0).toInt)) (by rw [gi_cl (okh hs), Int32.ofInt_toInt]) hd (kk.use C hRT hr hM hl (okc (gi_in _) (okt (okt hs))))
end GOCONST
section GOCOPY
variable {g : GX} {y : GY} {d bc bs pc : Nat} {L st : List GV} {N : Nat} {F : Nat → GC} {Q : GV → GM → Prop}
theorem gi_nn {z : Int} (hz : inR z) (h : 0 ≤ z) : (Int32.ofInt z).toInt = ((Int32.ofInt z).toNatClampNeg : Int) := by
  rw [gi_cl hz, gi_to hz]; omega
def acWords (y : GY) (idx : Nat) : Prop := Cond.methodLink y.1.cls idx arraycopyName ∈ gw ∧ Cond.native arraycopyName ∈ gw ∧ Cond.static arraycopyName ∈ gw ∧ Cond.initialized "java/lang/System" ∈ gw
theorem go_acI {idx a b n0 n1 : Nat} {f h : Nat → Int} {sp dp n : Int} (hd : decode y.2.1 pc = .ok (.invokestatic idx, 3)) (hw : acWords y idx) (hm0 : F a = cI n0 f) (hm1 : F b = cI n1 h) (h1 : 0 ≤ sp) (h2 : 0 ≤ dp) (h3 : 0 ≤ n) (h4 : sp + n ≤ n0) (h5 : dp + n ≤ n1) (hst : ((st.map (rv g)).map fun v => v.category).sum ≤ 8) (hdd : 1 ≤ d)
    (kk : Go g y d bc bs (pc + 3) L st (N, va_up F b (cI n1 (va_cpy f h sp.toNat dp.toNat n.toNat))) Q) : Go g y d bc bs pc L (gI n :: gI dp :: gR b :: gI sp :: gR a :: st) (N, F) Q := by
  intro p e R s m args below meth c H locs cells slots ls Z C hRT hr hM hl hs
  obtain ⟨hlink, hnat, hstat, hini⟩ := hw
  have hts := C.2.2.2.2.1
  have hK := C.2.2.2.2.2.2.2.2.1
  obtain ⟨hat0, hok0⟩ := hM.1.at (a := a) hm0 neI
  obtain ⟨hat1, hok1⟩ := hM.1.at (a := b) hm1 neI
  have hn : inR n := okh hs
  have hdp : inR dp := okh (okt hs)
  have hsp : inR sp := okh (okt (okt (okt hs)))
  have hnf : nativeFrameWords "java/lang/System" "arraycopy" 5 ≤ 40 := by decide +kernel
  have hloc : 2 * 0 + ((st.map (rv g)).map fun v => v.category).sum + (nativeFrameWords "java/lang/System" "arraycopy" 5 + 11) ≤ R.locals := by
    have h1 := hr.2.1
    omega
  intro T hT X
  have hc0 : H[xs0 g + a]? = some (arrV (xaI g) n0 (fun j => .int (Int32.ofInt (f j)))) := hat0
  have hc1 : H[xs0 g + b]? = some (arrV (xaI g) n1 (fun j => .int (Int32.ofInt (h j)))) := hat1
  obtain ⟨-, k0, hk0, cm0, hkk0⟩ := (hK.2 0 _ rfl).1 n0 (fun j => .int (Int32.ofInt (f j)))
  obtain ⟨-, k1, hk1, cm1, hkk1⟩ := (hK.2 0 _ rfl).1 n1 (fun j => .int (Int32.ofInt (h j)))
  obtain ⟨vm', X', step⟩ := X.arraycopy C.1 C.2.2.2.1 (hts _ hlink) (hts _ hnat) (hts _ hstat) (hts _ hini) (src := xs0 g + a) (dst := xs0 g + b) (cs := arrV (xaI g) n0 (fun j => .int (Int32.ofInt (f j)))) (cd := arrV (xaI g) n1 (fun j => .int (Int32.ofInt (h j)))) (srcPos := Int32.ofInt sp) (destPos := Int32.ofInt dp) (n := Int32.ofInt n) (by rw [hT]; exact hc0) (by rw [hT]; exact hc1)
    (fun _ h => by cases h) (fun _ h => by cases h) (fun h => by cases h) (fun h => by cases h) hk0 hk1 hkk0 hkk1 rfl (by rw [gi_lt0 hsp]; omega) (by rw [gi_lt0 hdp]; omega) (by rw [gi_lt0 hn]; omega)
    (by rw [gi_to hsp, gi_to hn, arrV_size]; omega)
    (by rw [gi_to hdp, gi_to hn, arrV_size]; omega)
    (fun vm₁ _ i hi => by
      rw [gi_cl hn] at hi
      have e : (arrV (xaI g) n0 (fun j => .int (Int32.ofInt (f j)))).slots.getD ((Int32.ofInt sp).toNatClampNeg + i) .null = .int (Int32.ofInt (f ((Int32.ofInt sp).toNatClampNeg + i))) := by
        rw [Array.getD_eq_getD_getElem?, arrV_read _ _ (by rw [gi_cl hsp]; omega)]
        rfl
      refine ⟨?_, ?_⟩
      · rw [e]; rfl
      · rw [e]; exact trivial)
    (g := F0 m pc ls (.int (Int32.ofInt n) :: .int (Int32.ofInt dp) :: .ref (xs0 g + b) :: .int (Int32.ofInt sp) :: .ref (xs0 g + a) :: st.map (rv g))) rfl (by show ls.size = _; rw [C.2.2.1]; exact hl.1) (rest := st.map (rv g)) rfl (by rw [C.2.1]; exact hd) (by omega) hloc
  have e1 : copied (arrV (xaI g) n0 (fun j => .int (Int32.ofInt (f j)))) (arrV (xaI g) n1 (fun j => .int (Int32.ofInt (h j)))) (Int32.ofInt sp) (Int32.ofInt dp) (Int32.ofInt n) = arrV (xaI g) n1 (fun j => .int (Int32.ofInt (va_cpy f h sp.toNat dp.toNat n.toNat j))) := by
    have := va_copied (fun z : Int => .int (Int32.ofInt z)) (xaI g) (xaI g) (n0 := n0) (n1 := n1) (sp := sp.toNat) (dp := dp.toNat) (n := n.toNat) f h (by omega)
    rw [← this, ← gi_cl hsp, ← gi_cl hdp, ← gi_cl hn]
  rw [e1] at X' step
  have hl1 : xs0 g + b < H.size := (Array.getElem?_eq_some_iff.mp hc1).1
  generalize hcell : arrV (xaI g) n1 (fun j => .int (Int32.ofInt (va_cpy f h sp.toNat dp.toNat n.toNat j))) = cell at X' step e1
  have hheap : ((T.setVm vm').setCell (xs0 g + b) cell).heap = H.setIfInBounds (xs0 g + b) cell := by rw [← hT]; rfl
  have oq : ∀ q : Nat, q ≠ xs0 g + b → (H.setIfInBounds (xs0 g + b) cell)[q]? = H[q]? := fun q hq => by simp [Array.getElem?_setIfInBounds, Ne.symm hq]
  obtain ⟨t, a1, b1⟩ := kk.use C hRT hr ⟨hM.1.set (H1 := H.setIfInBounds (xs0 g + b) cell) hm1 neI (show (H.setIfInBounds (xs0 g + b) cell)[xs0 g + b]? = some (arrV (xaI g) n1 (fun j => .int (Int32.ofInt (va_cpy f h sp.toNat dp.toNat n.toNat j)))) by rw [hcell]; simp [Array.getElem?_setIfInBounds, hl1]) ⟨hok1.1, fun j => by
      unfold va_cpy
      split
      · exact hok0.2 _
      · exact hok1.2 _⟩ (by simp) oq, ⟨by simp; exact hM.2.1, fun q g1 g2 => by
      rw [oq q (fun e => g2 (by rw [e]; show xs0 g ≤ _; omega))]
      exact hM.2.2.1 q g1 g2, fun q hq => by
      rcases List.mem_append.mp hq with h | h
      · exact hM.2.2.2 q h
      · obtain ⟨z, -, hz⟩ := List.mem_map.mp h
        rw [← hz]
        show xs0 g ≤ xs0 g + b
        omega⟩⟩ hl (okt (okt (okt (okt (okt hs))))) _ hheap X'
  exact ⟨t, step t a1, b1⟩
/-- the cells that such a row names are objects of the class -/
def okR (F : Nat → GC) (ci : Nat) (f : Nat → Option Nat) (lo n : Nat) : Prop := ∀ i : Nat, i < n → ∀ b : Nat, f (lo + i) = some b → ∃ fs : List GV, fs ≠ [] ∧ F b = cO ci fs
theorem neOn {ci : Nat} {fs : List GV} (h : fs ≠ []) : cO ci fs ≠ gBad := by
  intro e
  injection e with e; injection e with e; injection e with e1 e2
  exact h e2
theorem go_acR {idx a b ci n0 n1 : Nat} {f h : Nat → Option Nat} {sp dp n : Int} (t : Nat) (K : String) (hd : decode y.2.1 pc = .ok (.invokestatic idx, 3)) (hw : acWords y idx) (hm0 : F a = cR ci n0 f) (hm1 : F b = cR ci n1 h) (ht : (tys g)[t]? = some (xaR g ci, .object K)) (hci : clz[ci]?.map (fun q => q.1) = some K) (h1 : 0 ≤ sp) (h2 : 0 ≤ dp) (h3 : 0 ≤ n) (h4 : sp + n ≤ n0) (h5 : dp + n ≤ n1) (hel : okR F ci f sp.toNat n.toNat) (hst : ((st.map (rv g)).map fun v => v.category).sum ≤ 8) (hdd : 1 ≤ d)
    (kk : Go g y d bc bs (pc + 3) L st (N, va_up F b (cR ci n1 (va_cpy f h sp.toNat dp.toNat n.toNat))) Q) : Go g y d bc bs pc L (gI n :: gI dp :: gR b :: gI sp :: gR a :: st) (N, F) Q := by
  intro p e R s m args below meth c H locs cells slots ls Z C hRT hr hM hl hs
  obtain ⟨hlink, hnat, hstat, hini⟩ := hw
  have hts := C.2.2.2.2.1
  have hK := C.2.2.2.2.2.2.2.2.1
  obtain ⟨hat0, hok0⟩ := hM.1.at (a := a) hm0 neR
  obtain ⟨hat1, hok1⟩ := hM.1.at (a := b) hm1 neR
  have hn : inR n := okh hs
  have hdp : inR dp := okh (okt hs)
  have hsp : inR sp := okh (okt (okt (okt hs)))
  have hnf : nativeFrameWords "java/lang/System" "arraycopy" 5 ≤ 40 := by decide +kernel
  have hloc : 2 * 0 + ((st.map (rv g)).map fun v => v.category).sum + (nativeFrameWords "java/lang/System" "arraycopy" 5 + 11) ≤ R.locals := by
    have h1 := hr.2.1
    omega
  intro T hT X
  have hc0 : H[xs0 g + a]? = some (arrV (xaR g ci) n0 (fun j => va_rf ((f j).map (fun a => xs0 g + a)))) := hat0
  have hc1 : H[xs0 g + b]? = some (arrV (xaR g ci) n1 (fun j => va_rf ((h j).map (fun a => xs0 g + a)))) := hat1
  obtain ⟨-, k0, hk0, cm0, hkk0⟩ := (hK.2 t _ ht).1 n0 (fun j => va_rf ((f j).map (fun a => xs0 g + a)))
  obtain ⟨-, k1, hk1, cm1, hkk1⟩ := (hK.2 t _ ht).1 n1 (fun j => va_rf ((h j).map (fun a => xs0 g + a)))
  obtain ⟨vm', X', step⟩ := X.arraycopy C.1 C.2.2.2.1 (hts _ hlink) (hts _ hnat) (hts _ hstat) (hts _ hini) (src := xs0 g + a) (dst := xs0 g + b) (cs := arrV (xaR g ci) n0 (fun j => va_rf ((f j).map (fun a => xs0 g + a)))) (cd := arrV (xaR g ci) n1 (fun j => va_rf ((h j).map (fun a => xs0 g + a)))) (srcPos := Int32.ofInt sp) (destPos := Int32.ofInt dp) (n := Int32.ofInt n) (by rw [hT]; exact hc0) (by rw [hT]; exact hc1)
    (fun _ h => by cases h) (fun _ h => by cases h) (fun h => by cases h) (fun h => by cases h) hk0 hk1 hkk0 hkk1 rfl (by rw [gi_lt0 hsp]; omega) (by rw [gi_lt0 hdp]; omega) (by rw [gi_lt0 hn]; omega)
    (by rw [gi_to hsp, gi_to hn, arrV_size]; omega)
    (by rw [gi_to hdp, gi_to hn, arrV_size]; omega)
    (fun vm₁ hal i hi => by
      rw [gi_cl hn] at hi
      have e : (arrV (xaR g ci) n0 (fun j => va_rf ((f j).map (fun a => xs0 g + a)))).slots.getD ((Int32.ofInt sp).toNatClampNeg + i) .null = va_rf ((f (sp.toNat + i)).map (fun a => xs0 g + a)) := by
        rw [Array.getD_eq_getD_getElem?, arrV_read _ _ (by rw [gi_cl hsp]; omega), gi_cl hsp]
        rfl
      rw [e]
      cases hy : f (sp.toNat + i) with
      | none => exact ⟨rfl, trivial⟩
      | some z =>
        obtain ⟨fs, hfs, hz⟩ := hel i hi z hy
        obtain ⟨⟨r, hr', cellV, g1, g2, g3, -⟩, -⟩ := hM.1.at (a := z) hz (neOn hfs)
        have hr' : clz[ci]? = some r := hr'
        have hrK : r.1 = K := by rw [hr'] at hci; exact Option.some.inj hci
        have hcls := (hK.1 ci r hr').2
        rw [hrK] at hcls
        obtain ⟨kA, comp, r1, r2, r3, -⟩ := (hK.2 t _ ht).2
        have hk1' : s.vm.classes[xaR g ci]? = some k1 := hk1
        have hkk1' : k1.kind = .array cm1 (.object K) := hkk1
        cases hk1'.symm.trans r1
        cases hkk1'.symm.trans r2
        have hcomp : cm1 = (xD g).1 ci := Option.some.inj (r3.symm.trans hcls.1)
        subst hcomp
        obtain ⟨kC, hkC, -⟩ := hcls.2
        obtain ⟨kC', hkC', -⟩ := hal.2.2 _ _ hkC
        refine ⟨rfl, cellV, (show T.heap[xs0 g + z]? = some cellV by rw [hT]; exact g1), (fun q h => by rw [g3] at h; cases h), ⟨kC', by rw [g2]; exact hkC'⟩, ⟨kC', hkC'⟩, ?_⟩
        show vm₁.assignable cellV.cls _ = true
        rw [hal.assignable, g2]
        exact va_assign hcls)
    (g := F0 m pc ls (.int (Int32.ofInt n) :: .int (Int32.ofInt dp) :: .ref (xs0 g + b) :: .int (Int32.ofInt sp) :: .ref (xs0 g + a) :: st.map (rv g))) rfl (by show ls.size = _; rw [C.2.2.1]; exact hl.1) (rest := st.map (rv g)) rfl (by rw [C.2.1]; exact hd) (by omega) hloc
  have e1 : copied (arrV (xaR g ci) n0 (fun j => va_rf ((f j).map (fun a => xs0 g + a)))) (arrV (xaR g ci) n1 (fun j => va_rf ((h j).map (fun a => xs0 g + a)))) (Int32.ofInt sp) (Int32.ofInt dp) (Int32.ofInt n) = arrV (xaR g ci) n1 (fun j => va_rf ((va_cpy f h sp.toNat dp.toNat n.toNat j).map (fun a => xs0 g + a))) := by
    have := va_copied (fun z : Option Nat => va_rf (z.map (fun a => xs0 g + a))) (xaR g ci) (xaR g ci) (n0 := n0) (n1 := n1) (sp := sp.toNat) (dp := dp.toNat) (n := n.toNat) f h (by omega)
    rw [← this, ← gi_cl hsp, ← gi_cl hdp, ← gi_cl hn]
  rw [e1] at X' step
  have hl1 : xs0 g + b < H.size := (Array.getElem?_eq_some_iff.mp hc1).1
  generalize hcell : arrV (xaR g ci) n1 (fun j => va_rf ((va_cpy f h sp.toNat dp.toNat n.toNat j).map (fun a => xs0 g + a))) = cell at X' step e1
  have hheap : ((T.setVm vm').setCell (xs0 g + b) cell).heap = H.setIfInBounds (xs0 g + b) cell := by rw [← hT]; rfl
  have oq : ∀ q : Nat, q ≠ xs0 g + b → (H.setIfInBounds (xs0 g + b) cell)[q]? = H[q]? := fun q hq => by simp [Array.getElem?_setIfInBounds, Ne.symm hq]
  obtain ⟨t, a1, b1⟩ := kk.use C hRT hr ⟨hM.1.set (H1 := H.setIfInBounds (xs0 g + b) cell) hm1 neR (show (H.setIfInBounds (xs0 g + b) cell)[xs0 g + b]? = some (arrV (xaR g ci) n1 (fun j => va_rf ((va_cpy f h sp.toNat dp.toNat n.toNat j).map (fun a => xs0 g + a)))) by rw [hcell]; simp [Array.getElem?_setIfInBounds, hl1]) hok1 (by simp) oq, ⟨by simp; exact hM.2.1, fun q g1 g2 => by
      rw [oq q (fun e => g2 (by rw [e]; show xs0 g ≤ _; omega))]
      exact hM.2.2.1 q g1 g2, fun q hq => by
      rcases List.mem_append.mp hq with h | h
      · exact hM.2.2.2 q h
      · obtain ⟨z, -, hz⟩ := List.mem_map.mp h
        rw [← hz]
        show xs0 g ≤ xs0 g + b
        omega⟩⟩ hl (okt (okt (okt (okt (okt hs))))) _ hheap X'
  exact ⟨t, step t a1, b1⟩
end GOCOPY
/-! ===== contracts ===== -/
def rmG (d bc bs : Nat) : Room := { frames := d, cells := bc, slots := bs, locals := 64 * d }
def PcG (g : GX) (as : List GV) (M : GM) : Array Value → State → Prop := fun v U => v = (as.map (rv g)).toArray ∧ EV g U ∧ MR g M U.heap
def QcG (g : GX) (Q : GV → GM → Prop) : Array Value → State → Outcome → State → Prop := fun _ st o t => ∃ (r : GV) (M : GM), o = .returned (ro g r) ∧ Q r M ∧ okV r ∧ MR g M t.heap ∧ ∀ q : Nat, q < xs0 g → t.heap[q]? = st.heap[q]?
/-- the method, called with these arguments over this memory, comes back with Q; at most bc cells of bs slots come, d frames are enough -/
def CT (g : GX) (y : GY) (d bc bs : Nat) (as : List GV) (M : GM) (Q : GV → GM → Prop) : Prop := (∀ v ∈ as, okV v) → Met g.1 y.1 (wsY y) (rmG d bc bs) (PcG g as M) (QcG g Q) bc bs (fun q => xs0 g ≤ q)
/-- the locals with which a method begins -/
def eL : List GV → List GV
  | [] => []
  | (.inr (.inl x)) :: as => gL x :: gU :: eL as
  | v :: as => v :: eL as
theorem eL_mem {g : GX} : ∀ (as : List GV) (b i : Nat) (v : GV), (eL as)[i]? = some v → v ≠ gU → (b + i, rv g v) ∈ lv_args b (as.map (rv g)) := by
  intro as
  induction as with
  | nil => intro b i v h; simp [eL] at h
  | cons a as ih =>
    intro b i v h hv
    have one : ∀ (hc : (rv g a).category = 1) (he : eL (a :: as) = a :: eL as), (b + i, rv g v) ∈ lv_args b ((a :: as).map (rv g)) := by
      intro hc he
      rw [he] at h
      show _ ∈ (b, rv g a) :: lv_args (if (rv g a).category = 2 then b + 2 else b + 1) (as.map (rv g))
      cases i with
      | zero => simp at h; subst h; exact List.mem_cons_self
      | succ i =>
        simp at h
        refine List.mem_cons_of_mem _ ?_
        rw [if_neg (by omega)]
        have := ih (b + 1) i v h hv
        rwa [show b + 1 + i = b + (i + 1) by omega] at this
    match a, one with
    | .inl x, one => exact one rfl rfl
    | .inr (.inr (.inl none)), one => exact one rfl rfl
    | .inr (.inr (.inl (some x))), one => exact one rfl rfl
    | .inr (.inr (.inr none)), one => exact one rfl rfl
    | .inr (.inr (.inr (some x))), one => exact one rfl rfl
    | .inr (.inl x), _ =>
      have h : (gL x :: gU :: eL as)[i]? = some v := h
      show _ ∈ (b, rv g (gL x)) :: lv_args (if (rv g (gL x)).category = 2 then b + 2 else b + 1) (as.map (rv g))
      match i, h with
      | 0, h => simp at h; subst h; exact List.mem_cons_self
      | 1, h => simp at h; exact absurd h.symm hv
      | i + 2, h =>
        simp at h
        refine List.mem_cons_of_mem _ ?_
        rw [if_pos (show (rv g (gL x)).category = 2 from rfl)]
        have := ih (b + 2) i v h hv
        rwa [show b + 2 + i = b + (i + 2) by omega] at this
theorem eL_ok : ∀ (as : List GV), (∀ v ∈ as, okV v) → ∀ v ∈ eL as, okV v := by
  intro as
  induction as with
  | nil => intro _ v h; cases h
  | cons a as ih =>
    intro h v hv
    have ht := ih (okt h)
    match a, h, hv with
    | .inl x, h, hv => exact okc (okh h) ht v hv
    | .inr (.inr (.inl x)), h, hv => exact okc (okh h) ht v hv
    | .inr (.inr (.inr x)), h, hv =>
      have hv : v ∈ (.inr (.inr (.inr x))) :: eL as := by
        cases x <;> exact hv
      exact okc (okh h) ht v hv
    | .inr (.inl x), h, hv => exact okc (okh h) (okc (v := gU) trivial ht) v hv
theorem ret_of {g : GX} {y : GY} {Q : GV → GM → Prop} {p : Program} {e : Env} {R : Room} {s : State} {m : MethodId} {args : Array Value} {below : List Frame} {meth : Method} {c : Code} (C : CX g y p s m args meth c) :
    RT g y Q p e R s m args below meth c (MQ below (QcG g Q) args s R.cells R.slots (fun q => xs0 g ≤ q)) := by
  intro r M H locs cells slots pc ls st hR hq hM hS hcl hsl
  refine W.widen hcl hsl ?_
  have hlocks := C.2.2.2.2.2.1
  have hz := C.2.2.2.2.2.2.2.2.2.2.2.2.2.2.2.2.2.2.2
  have fr : ∀ t : State, t.heap = H → ∀ q : Nat, q < xs0 g → t.heap[q]? = s.heap[q]? := fun t ht q h => by
    rw [ht]
    exact hS.2.1 q (by omega) (by show ¬ xs0 g ≤ q; omega)
  rcases hR with ⟨x, ty, hd, hr, hn, hx, rfl, rfl⟩ | ⟨hd, hr, rfl, rfl⟩ | ⟨o, rt, hd, hr, hrt, rfl, rfl⟩
  · exact W.zret (v := Int32.ofInt x) (ty := ty) C.1 C.2.1 (C.2.2.2.2.2.2.2.1.trans hr) hn (fun t ht hW => ⟨gI x, M, rfl, hq, hx, by rw [ht]; exact hM, fr t ht⟩) hS.2.2 hd hlocks
  · exact W.vret C.1 C.2.1 (C.2.2.2.2.2.2.2.1.trans hr) (fun t ht hW => ⟨gU, M, rfl, hq, trivial, by rw [ht]; exact hM, fr t ht⟩) hS.2.2 hd hlocks
  · have hv : rv g (gO o) = .null ∨ ∃ a, rv g (gO o) = .ref a := by
      cases o with
      | none => exact Or.inl rfl
      | some a => exact Or.inr ⟨_, rfl⟩
    exact W.aret (v := rv g (gO o)) (rt := rt) C.1 C.2.1 (C.2.2.2.2.2.2.2.1.trans hr) hrt hv (fun t ht hW => ⟨gO o, M, rfl, hq, trivial, by rw [ht]; exact hM, fr t ht⟩) hS.2.2 hd hlocks
/-- the contract out of the walk from 0 -/
theorem CT.of {g : GX} {y : GY} {d bc bs : Nat} {as : List GV} {M : GM} {Q : GV → GM → Prop} (hy : plainName y.1.cls = true) (hn : (lg_sl (as.map (rv g))).length ≤ y.2.2.1)
    (k : Go g y d bc bs 0 (eL as ++ List.replicate (y.2.2.1 - (eL as).length) gU) [] M Q) : CT g y d bc bs as M Q := by
  intro hok
  refine Met.ofW (cc := y.2.1) (maxL := y.2.2.1) (ret := y.2.2.2) hy rfl ?_
  intro p e s m args below meth c s₁ B hml hv
  obtain ⟨rfl, hE, hM⟩ := hv
  have hts := atoms_spec (ws := wsY y) B.pre
  have hown : s.vm.findClass y.1.cls = some m.cls := findClass_of_methodNamed B.named
  have C : CX g y p s m ((as.map (rv g)).toArray) meth c := ⟨B.exec, B.bytes, hml, hown, fun w hw => hts w (List.mem_cons_of_mem _ hw), B.notSynchronized, (name_of_methodNamed B.named B.method).1, B.returns, hE⟩
  have hl := lv_entry (as.map (rv g)) hn
  rw [lg_entry_eq]
  generalize (lg_sl (as.map (rv g)) ++ List.replicate (y.2.2.1 - (lg_sl (as.map (rv g))).length) Slot.unset).toArray = ls at hl ⊢
  have hR := ret_of (Q := Q) (e := e) (R := (headSpec (wsY y) (rmG d bc bs)).room) (below := below) C
  refine k.use C hR ⟨Nat.le_refl d, Nat.le_refl (64 * d), Nat.le_of_eq (Nat.zero_add bc), Nat.le_of_eq (Nat.zero_add bs)⟩ ⟨hM, va_S.rf⟩ ⟨hl.1, hl.2.1, fun i v hi hv => ?_, fun v hv => ?_⟩ (fun v hv => by cases hv)
  · by_cases hlt : i < (eL as).length
    · rw [List.getElem?_append_left hlt] at hi
      have := eL_mem (g := g) as 0 i v hi hv
      rw [Nat.zero_add] at this
      exact hl.2.2 _ this
    · rw [List.getElem?_append_right (by omega)] at hi
      have := List.mem_of_getElem? hi
      exact absurd (List.eq_of_mem_replicate this) hv
  · rcases List.mem_append.mp hv with h | h
    · exact eL_ok as hok v h
    · rw [List.eq_of_mem_replicate h]; trivial
theorem PcG.blind {g : GX} {as : List GV} {M : GM} : FrameBlind (PcG g as M) := fun a U f mk h => ⟨h.1, h.2.1.calling f mk a, h.2.2⟩
theorem CT.mono {g : GX} {y : GY} {d bc bs : Nat} {as : List GV} {M : GM} {Q Q' : GV → GM → Prop} (h : ∀ r M', Q r M' → Q' r M') (k : CT g y d bc bs as M Q) : CT g y d bc bs as M Q' := by
  intro hok
  refine MetFree.mono (k hok) (fun _ _ h => h) (fun _ _ _ _ _ h => h) (fun a st o t _ hq => ?_)
  obtain ⟨⟨r, M', h1, h2, h3⟩, h4⟩ := hq
  exact ⟨⟨r, M', h1, h r M' h2, h3⟩, h4⟩
/-! ===== calls ===== -/
/-- the words of a method that is called -/
def MW (z : GY) (n : Nat) : Prop := Cond.code z.1 z.2.1 z.2.2.1 z.2.2.2 ∈ gw ∧ Cond.initialized z.1.cls ∈ gw ∧ (z.1.cls ≠ "java/lang/invoke/MethodHandle" ∧ z.1.cls ≠ "java/lang/invoke/VarHandle") ∧ (parseMethodDescriptor z.1.desc).map (fun d => d.parameters.length) = some n ∧ z.2.2.1 ≤ 45
theorem gw_good {w : Cond} (h : w ∈ gw) : (w.onTables && w.keeps) = true ∨ ∃ ty, w = .arrayClass ty := good_of_word (List.mem_filter.mp h).2
theorem wsY_pay {g : GX} {y z : GY} {p : Program} {s : State} {m : MethodId} {args : Array Value} {meth : Method} {c : Code} {n : Nat} (C : CX g y p s m args meth c) (hz : MW z n) : ∀ w ∈ wsY z, ∀ (a' : Array Value) (U : State), s.WarmedH U.vm → w.before a' U = true := by
  intro w hw a' U hW
  rcases List.mem_cons.mp hw with rfl | h
  · exact word_at hW (gw_good hz.1) (C.2.2.2.2.1 _ hz.1)
  · exact word_at hW (gw_good h) (C.2.2.2.2.1 _ h)
theorem callB_ofG {g : GX} {y z : GY} {p : Program} {R : Room} {s : State} {m : MethodId} {args : Array Value} {meth : Method} {c : Code} {n d d' bc bs idx : Nat} (C : CX g y p s m args meth c) (hz : MW z n) (hl : Cond.methodLink y.1.cls idx z.1 ∈ gw) (hd : d' + 1 ≤ d) (hr : d ≤ R.frames ∧ 64 * d ≤ R.locals) :
    CallB R s args y.1.cls idx z.1 z.2.1 z.2.2.1 z.2.2.2 (wsY z) (rmG d' bc bs) bc bs n := by
  refine ⟨rfl, rfl, by show d' + 1 ≤ _; omega, by show 8 + (z.2.2.1 + 11) + 64 * d' ≤ _; have := hz.2.2.2.2; omega, wsY_pay C hz, List.mem_cons_self, C.2.2.2.2.1 _ hz.1, C.2.2.2.2.1 _ hz.2.1, hz.2.2.1, fun sig h => ?_, C.2.2.2.2.1 _ hl⟩
  have h2 := hz.2.2.2.1
  rw [h] at h2
  exact (Option.some.inj h2).symm
theorem callN_ofG {g : GX} {y z : GY} {p : Program} {R : Room} {s : State} {m : MethodId} {args : Array Value} {meth : Method} {c : Code} {n d d' bc bs idx : Nat} {host : String} (C : CX g y p s m args meth c) (hz : MW z n) (hl : (y.1.cls, idx, z.1, host) ∈ nestM) (hd : d' + 1 ≤ d) (hr : d ≤ R.frames ∧ 64 * d ≤ R.locals) :
    va_CN R s args y.1.cls idx z.1 host z.2.1 z.2.2.1 z.2.2.2 (wsY z) (rmG d' bc bs) bc bs n := by
  refine ⟨⟨rfl, rfl, by show d' + 1 ≤ _; omega, by show 8 + (z.2.2.1 + 11) + 64 * d' ≤ _; have := hz.2.2.2.2; omega, wsY_pay C hz, List.mem_cons_self⟩, C.2.2.2.2.1 _ hz.1, C.2.2.2.2.1 _ hz.2.1, hz.2.2.1, fun sig h => ?_, va_Nw.use rfl (C.2.2.2.2.2.2.2.2.2.1 _ hl)⟩
  have h2 := hz.2.2.2.1
  rw [h] at h2
  exact (Option.some.inj h2).symm
section GOCALL
variable {g : GX} {y z : GY} {d bc bs pc : Nat} {L st : List GV} {M : GM} {Q Q1 : GV → GM → Prop} {p : Program} {e : Env} {R : Room} {s : State} {m : MethodId} {args : Array Value} {below : List Frame} {meth : Method} {c : Code} {H : Heap} {locs : List Loc} {cells slots : Nat} {ls : Array Slot} {Z : State → Prop}
/-- behind any call -/
theorem go_behind {bc' bs' : Nat} {st0 : List Value} {a : Array Value} (hb1 : bc' ≤ bc) (hb2 : bs' ≤ bs) (C : CX g y p s m args meth c) (hRT : RT g y Q p e R s m args below meth c Z) (hr : d ≤ R.frames ∧ 64 * d ≤ R.locals ∧ cells + bc ≤ R.cells ∧ slots + bs ≤ R.slots) (hM : MR g M H ∧ va_S (xA g) s.heap H locs) (hl : LH g ls y.2.2.1 L) (hs : ∀ v ∈ st, okV v)
    (run : va_Run p g.1 e R s m args below meth c H locs cells slots bc' bs' (F0 m pc ls st0) (st.map (rv g)) (QcG g Q1 a) (fun q => xs0 g ≤ q))
    (k : ∀ r M', Q1 r M' → okV r → Go g y d (bc - bc') (bs - bs') (pc + 3) L (rp st r) M' Q) : W p g.1 e R s m args below meth c H locs cells slots Z (F0 m pc ls st0) := by
  intro T hT X
  obtain ⟨v, st₀, t, T', Lc, h0, X', hL, e1, e2, ⟨r, M', hv, hq, hok, hM', hlow⟩, step⟩ := run T hT X
  injection hv with hv
  have hz := C.2.2.2.2.2.2.2.2.2.2.2.2.2.2.2.2.2.2.2
  have hS' : va_S (xA g) s.heap T'.heap (locs ++ Lc) := by
    refine ⟨X'.same.2.1, fun q h1 h2 => ?_, fun q hq => ?_⟩
    · have h2' : q < xs0 g := Nat.not_le.mp h2
      rw [e1, hlow q h2', h0]
      exact hM.2.2.1 q h1 h2
    · rcases List.mem_append.mp hq with h | h
      · exact hM.2.2.2 q h
      · exact hL q h
  have hW := (k r M' hq hok).use (H := T'.heap) (locs := locs ++ Lc) (cells := cells + bc') (slots := slots + bs') C hRT ⟨hr.1, hr.2.1, by omega, by omega⟩ ⟨by rw [e1]; exact hM', hS'⟩ hl (by
    match r, hok with
    | .inl x, hok => exact okc hok hs
    | .inr (.inl x), hok => exact okc hok hs
    | .inr (.inr (.inl x)), hok => exact okc hok hs
    | .inr (.inr (.inr none)), hok => exact hs
    | .inr (.inr (.inr (some x))), hok => exact okc hok hs)
  obtain ⟨t2, a1, b1⟩ := hW T' rfl X'
  refine ⟨t2, step t2 ?_, b1⟩
  have hstk : v.toList ++ st.map (rv g) = (rp st r).map (rv g) := by
    rw [hv]
    match r with
    | .inl x => rfl
    | .inr (.inl x) => rfl
    | .inr (.inr (.inl none)) => rfl
    | .inr (.inr (.inl (some x))) => rfl
    | .inr (.inr (.inr none)) => rfl
    | .inr (.inr (.inr (some x))) => rfl
  show Steps _ _ _ (T'.setTop (F0 m (pc + 3) ls (v.toList ++ st.map (rv g)))) t2
  rw [hstk]
  exact a1
/-- what a callee needs to begin -/
theorem go_pre {as : List GV} (C : CX g y p s m args meth c) (hM : MR g M H ∧ va_S (xA g) s.heap H locs) {U : State} (hU : U.heap = H) (hW : s.WarmedH U.vm) : PcG g as M ((as.map (rv g)).toArray) U := by
  have hE := C.2.2.2.2.2.2.2.2
  have hz := hE.2.2.2.2.2.2.2.2.2.2.2
  refine ⟨rfl, hE.moved hW (by rw [hU, hM.1.1]; omega) (fun q hq => ?_), by rw [hU]; exact hM.1⟩
  rw [hU]
  exact hM.2.2.1 q (by omega) (by show ¬ xs0 g ≤ q; omega)
end GOCALL
section GOCALLS
variable {g : GX} {y z : GY} {d bc bs pc : Nat} {L st : List GV} {N : Nat} {F : Nat → GC} {Q Q1 : GV → GM → Prop}
def cat8 (st : List GV) : Prop := ∀ g : GX, ((st.map (rv g)).map fun v => v.category).sum ≤ 8
/-- static, of the own class or another -/
theorem go_callS {idx n d' bc' bs' : Nat} {stk as : List GV} (hd : decode y.2.1 pc = .ok (.invokestatic idx, 3)) (hz : MW z n) (hzs : Cond.static z.1 ∈ gw) (hl : Cond.methodLink y.1.cls idx z.1 ∈ gw) (hct : CT g z d' bc' bs' as (N, F) Q1) (hn : as.length = n) (hdd : d' + 1 ≤ d) (hb1 : bc' ≤ bc) (hb2 : bs' ≤ bs) (hst : stk = as.reverse ++ st) (h8 : cat8 st)
    (k : ∀ r M', Q1 r M' → okV r → Go g y d (bc - bc') (bs - bs') (pc + 3) L (rp st r) M' Q) : Go g y d bc bs pc L stk (N, F) Q := by
  intro p e R s m args below meth c H locs cells slots ls Z C hRT hr hM hl' hs
  subst hst
  have hs' : ∀ v ∈ st, okV v := fun v hv => hs v (List.mem_append_right _ hv)
  have hok : ∀ v ∈ as, okV v := fun v hv => hs v (List.mem_append_left _ (List.mem_reverse.mpr hv))
  refine go_behind hb1 hb2 C hRT hr hM hl' hs' (Q1 := Q1) (va_runS (cc := y.2.1) (nL := y.2.2.1) (Ts := gw) (As := as.map (rv g)) (bytes := z.2.1) (maxL := z.2.2.1) (ret := z.2.2.2) (n := n) (index := idx) (own := y.1.cls) ⟨C.1, C.2.1, C.2.2.1, C.2.2.2.1, C.2.2.2.2.1⟩ (hct hok) ⟨callB_ofG C hz hl hdd ⟨hr.1, hr.2.1⟩, C.2.2.2.2.1 _ hzs⟩ ⟨PcG.blind, fun U hU hW => go_pre C hM hU hW⟩ rfl (by rw [List.length_map]; exact hn) hl'.1 ?_ (lv_room (h8 g)) hd ⟨by omega, by omega⟩) k
  show (as.reverse ++ st).map (rv g) = _
  rw [List.map_append, List.map_reverse]
/-- static, private, a nest mate's -/
theorem go_callSN {idx n d' bc' bs' : Nat} {host : String} {stk as : List GV} (hd : decode y.2.1 pc = .ok (.invokestatic idx, 3)) (hz : MW z n) (hzs : Cond.static z.1 ∈ gw) (hl : (y.1.cls, idx, z.1, host) ∈ nestM) (hct : CT g z d' bc' bs' as (N, F) Q1) (hn : as.length = n) (hdd : d' + 1 ≤ d) (hb1 : bc' ≤ bc) (hb2 : bs' ≤ bs) (hst : stk = as.reverse ++ st) (h8 : cat8 st)
    (k : ∀ r M', Q1 r M' → okV r → Go g y d (bc - bc') (bs - bs') (pc + 3) L (rp st r) M' Q) : Go g y d bc bs pc L stk (N, F) Q := by
  intro p e R s m args below meth c H locs cells slots ls Z C hRT hr hM hl' hs
  subst hst
  have hs' : ∀ v ∈ st, okV v := fun v hv => hs v (List.mem_append_right _ hv)
  have hok : ∀ v ∈ as, okV v := fun v hv => hs v (List.mem_append_left _ (List.mem_reverse.mpr hv))
  refine go_behind hb1 hb2 C hRT hr hM hl' hs' (Q1 := Q1) (va_runSN (cc := y.2.1) (nL := y.2.2.1) (Ts := gw) (As := as.map (rv g)) (bytes := z.2.1) (maxL := z.2.2.1) (ret := z.2.2.2) (n := n) (index := idx) (own := y.1.cls) (host := host) ⟨C.1, C.2.1, C.2.2.1, C.2.2.2.1, C.2.2.2.2.1⟩ (hct hok) ⟨callN_ofG C hz hl hdd ⟨hr.1, hr.2.1⟩, C.2.2.2.2.1 _ hzs, trivial⟩ ⟨PcG.blind, fun U hU hW => go_pre C hM hU hW⟩ rfl (by rw [List.length_map]; exact hn) hl'.1 ?_ (lv_room (h8 g)) hd ⟨by omega, by omega⟩) k
  show (as.reverse ++ st).map (rv g) = _
  rw [List.map_append, List.map_reverse]
/-- of an object of the memory -/
theorem go_callV {idx n d' bc' bs' a ci : Nat} {fs stk as : List GV} (hd : decode y.2.1 pc = .ok (.invokevirtual idx, 3)) (hz : MW z n) (hzi : Cond.instanceMethod z.1 ∈ gw) (hzs : Cond.selects z.1.cls z.1 z.1 ∈ gw) (hl : Cond.methodLink y.1.cls idx z.1 ∈ gw) (hcl : clz[ci]?.map (fun q => q.1) = some z.1.cls) (hm : F a = cO ci fs) (hne : fs ≠ []) (hct : CT g z d' bc' bs' (gR a :: as) (N, F) Q1) (hn : as.length = n) (hdd : d' + 1 ≤ d) (hb1 : bc' ≤ bc) (hb2 : bs' ≤ bs) (hst : stk = as.reverse ++ gR a :: st) (h8 : cat8 st)
    (k : ∀ r M', Q1 r M' → okV r → Go g y d (bc - bc') (bs - bs') (pc + 3) L (rp st r) M' Q) : Go g y d bc bs pc L stk (N, F) Q := by
  intro p e R s m args below meth c H locs cells slots ls Z C hRT hr hM hl' hs
  subst hst
  have hs' : ∀ v ∈ st, okV v := fun v hv => hs v (List.mem_append_right _ (List.mem_cons_of_mem _ hv))
  have hok : ∀ v ∈ gR a :: as, okV v := fun v hv => by
    rcases List.mem_cons.mp hv with rfl | h
    · trivial
    · exact hs v (List.mem_append_left _ (List.mem_reverse.mpr h))
  obtain ⟨hat, -⟩ := hM.1.at (a := a) hm (neOn hne)
  obtain ⟨r, hr', cell, g1, g2, g3, -⟩ := hat
  have hr' : clz[ci]? = some r := hr'
  have hrK : r.1 = z.1.cls := by rw [hr'] at hcl; exact Option.some.inj hcl
  have hcls := (C.2.2.2.2.2.2.2.2.1.1 ci r hr').2
  rw [hrK] at hcls
  refine go_behind hb1 hb2 C hRT hr hM hl' hs' (Q1 := Q1) (va_runV (C := z.1.cls) (b := xs0 g + a) (cc := y.2.1) (nL := y.2.2.1) (Ts := gw) (As := as.map (rv g)) (bytes := z.2.1) (maxL := z.2.2.1) (ret := z.2.2.2) (n := n) (index := idx) (own := y.1.cls) ⟨C.1, C.2.1, C.2.2.1, C.2.2.2.1, C.2.2.2.2.1⟩ (hct hok) ⟨callB_ofG C hz hl hdd ⟨hr.1, hr.2.1⟩, C.2.2.2.2.1 _ hzi, C.2.2.2.2.1 _ hzs⟩ ⟨PcG.blind, ⟨cell, g1, by rw [g3]; rfl, by rw [g2]; exact hcls.1⟩, fun U hU hW => go_pre C hM hU hW⟩ rfl (by rw [List.length_map]; exact hn) hl'.1 ?_ (lv_room (h8 g)) hd ⟨by omega, by omega⟩) k
  show (as.reverse ++ gR a :: st).map (rv g) = _
  rw [List.map_append, List.map_reverse]
  rfl
/-- of a constant text -/
theorem go_callT {idx n d' bc' bs' i : Nat} {stk as : List GV} (hd : decode y.2.1 pc = .ok (.invokevirtual idx, 3)) (hz : MW z n) (hzi : Cond.instanceMethod z.1 ∈ gw) (hzs : Cond.selects z.1.cls z.1 z.1 ∈ gw) (hl : Cond.methodLink y.1.cls idx z.1 ∈ gw) (hcl : z.1.cls = "java/lang/String") (hi : i < 6) (hct : CT g z d' bc' bs' (gS (8 + i) :: as) (N, F) Q1) (hn : as.length = n) (hdd : d' + 1 ≤ d) (hb1 : bc' ≤ bc) (hb2 : bs' ≤ bs) (hst : stk = as.reverse ++ gS (8 + i) :: st) (h8 : cat8 st)
    (k : ∀ r M', Q1 r M' → okV r → Go g y d (bc - bc') (bs - bs') (pc + 3) L (rp st r) M' Q) : Go g y d bc bs pc L stk (N, F) Q := by
  intro p e R s m args below meth c H locs cells slots ls Z C hRT hr hM hl' hs
  subst hst
  have hs' : ∀ v ∈ st, okV v := fun v hv => hs v (List.mem_append_right _ (List.mem_cons_of_mem _ hv))
  have hok : ∀ v ∈ gS (8 + i) :: as, okV v := fun v hv => by
    rcases List.mem_cons.mp hv with rfl | h
    · trivial
    · exact hs v (List.mem_append_left _ (List.mem_reverse.mpr h))
  have hrec := vk_recv C.2.2.2.2.2.2.2.2.2.2.2.2.2.2.1 hi hM.2
  refine go_behind hb1 hb2 C hRT hr hM hl' hs' (Q1 := Q1) (va_runV (C := z.1.cls) (b := xsa g (8 + i)) (cc := y.2.1) (nL := y.2.2.1) (Ts := gw) (As := as.map (rv g)) (bytes := z.2.1) (maxL := z.2.2.1) (ret := z.2.2.2) (n := n) (index := idx) (own := y.1.cls) ⟨C.1, C.2.1, C.2.2.1, C.2.2.2.1, C.2.2.2.2.1⟩ (hct hok) ⟨callB_ofG C hz hl hdd ⟨hr.1, hr.2.1⟩, C.2.2.2.2.1 _ hzi, C.2.2.2.2.1 _ hzs⟩ ⟨PcG.blind, by rw [hcl]; exact hrec, fun U hU hW => go_pre C hM hU hW⟩ rfl (by rw [List.length_map]; exact hn) hl'.1 ?_ (lv_room (h8 g)) hd ⟨by omega, by omega⟩) k
  show (as.reverse ++ gS (8 + i) :: st).map (rv g) = _
  rw [List.map_append, List.map_reverse]
  rfl
/-- a constructor -/
theorem go_callI {idx n d' bc' bs' a : Nat} {stk as : List GV} (hd : decode y.2.1 pc = .ok (.invokespecial idx, 3)) (hz : MW z n) (hzi : Cond.instanceMethod z.1 ∈ gw) (hnm : z.1.name = "<init>") (hrt : z.2.2.2 = none) (hl : Cond.methodLink y.1.cls idx z.1 ∈ gw) (hct : CT g z d' bc' bs' (gR a :: as) (N, F) Q1) (hn : as.length = n) (hdd : d' + 1 ≤ d) (hb1 : bc' ≤ bc) (hb2 : bs' ≤ bs) (hst : stk = as.reverse ++ gR a :: st) (h8 : cat8 st)
    (k : ∀ r M', Q1 r M' → okV r → Go g y d (bc - bc') (bs - bs') (pc + 3) L (rp st r) M' Q) : Go g y d bc bs pc L stk (N, F) Q := by
  intro p e R s m args below meth c H locs cells slots ls Z C hRT hr hM hl' hs
  subst hst
  have hs' : ∀ v ∈ st, okV v := fun v hv => hs v (List.mem_append_right _ (List.mem_cons_of_mem _ hv))
  have hok : ∀ v ∈ gR a :: as, okV v := fun v hv => by
    rcases List.mem_cons.mp hv with rfl | h
    · trivial
    · exact hs v (List.mem_append_left _ (List.mem_reverse.mpr h))
  have hcb := callB_ofG (R := R) (d' := d') (bc := bc') (bs := bs') C hz hl hdd ⟨hr.1, hr.2.1⟩
  rw [hrt] at hcb
  refine go_behind hb1 hb2 C hRT hr hM hl' hs' (Q1 := Q1) (va_runI (b := xs0 g + a) (cc := y.2.1) (nL := y.2.2.1) (Ts := gw) (As := as.map (rv g)) (bytes := z.2.1) (maxL := z.2.2.1) (n := n) (index := idx) (own := y.1.cls) ⟨C.1, C.2.1, C.2.2.1, C.2.2.2.1, C.2.2.2.2.1⟩ (hct hok) ⟨hcb, hnm, C.2.2.2.2.1 _ hzi⟩ ⟨PcG.blind, fun U hU hW => go_pre C hM hU hW⟩ rfl (by rw [List.length_map]; exact hn) hl'.1 ?_ (lv_room (h8 g)) hd ⟨by omega, by omega⟩) k
  show (as.reverse ++ gR a :: st).map (rv g) = _
  rw [List.map_append, List.map_reverse]
  rfl
/-- a nest mate's private constructor -/
theorem go_callIN {idx n d' bc' bs' a : Nat} {host : String} {stk as : List GV} (hd : decode y.2.1 pc = .ok (.invokespecial idx, 3)) (hz : MW z n) (hzi : Cond.instanceMethod z.1 ∈ gw) (hnm : z.1.name = "<init>") (hrt : z.2.2.2 = none) (hl : (y.1.cls, idx, z.1, host) ∈ nestM) (hct : CT g z d' bc' bs' (gR a :: as) (N, F) Q1) (hn : as.length = n) (hdd : d' + 1 ≤ d) (hb1 : bc' ≤ bc) (hb2 : bs' ≤ bs) (hst : stk = as.reverse ++ gR a :: st) (h8 : cat8 st)
    (k : ∀ r M', Q1 r M' → okV r → Go g y d (bc - bc') (bs - bs') (pc + 3) L (rp st r) M' Q) : Go g y d bc bs pc L stk (N, F) Q := by
  intro p e R s m args below meth c H locs cells slots ls Z C hRT hr hM hl' hs
  subst hst
  have hs' : ∀ v ∈ st, okV v := fun v hv => hs v (List.mem_append_right _ (List.mem_cons_of_mem _ hv))
  have hok : ∀ v ∈ gR a :: as, okV v := fun v hv => by
    rcases List.mem_cons.mp hv with rfl | h
    · trivial
    · exact hs v (List.mem_append_left _ (List.mem_reverse.mpr h))
  have hcb := callN_ofG (R := R) (d' := d') (bc := bc') (bs := bs') C hz hl hdd ⟨hr.1, hr.2.1⟩
  rw [hrt] at hcb
  refine go_behind hb1 hb2 C hRT hr hM hl' hs' (Q1 := Q1) (va_runIN (b := xs0 g + a) (cc := y.2.1) (nL := y.2.2.1) (Ts := gw) (As := as.map (rv g)) (bytes := z.2.1) (maxL := z.2.2.1) (n := n) (index := idx) (own := y.1.cls) (host := host) ⟨C.1, C.2.1, C.2.2.1, C.2.2.2.1, C.2.2.2.2.1⟩ (hct hok) ⟨hcb, hnm, C.2.2.2.2.1 _ hzi⟩ ⟨PcG.blind, fun U hU hW => go_pre C hM hU hW⟩ rfl (by rw [List.length_map]; exact hn) hl'.1 ?_ (lv_room (h8 g)) hd ⟨by omega, by omega⟩) k
  show (as.reverse ++ gR a :: st).map (rv g) = _
  rw [List.map_append, List.map_reverse]
  rfl
end GOCALLS
