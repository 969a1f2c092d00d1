/-! ===== the component: a text is laid ===== -/
section GOFREE
variable {g : GX} {y : GY} {d bc bs pc : Nat} {L st : List GV} {N : Nat} {F : Nat → GC} {Q : GV → GM → Prop}
/-- beyond the cells there is nothing -/
theorem go_free (k : (∀ j : Nat, N ≤ j → F j = gBad) → Go g y d bc bs pc L st (N, F) Q) : Go g y d bc bs pc L st (N, F) Q := by
  intro p e R s m args below meth c H locs cells slots ls Z C hRT hr hM hl hs
  exact (k (fun j hj => (hM.1.2 j).2 hj)).use C hRT hr hM hl hs
end GOFREE
section GROW
variable {F F' : Nat → GC} {b : Nat} {s : Nat → Int}
theorem LAWP.grow {a t : Nat} (h : LAWP F a s t) (hF : ∀ k, F k ≠ gBad → F' k = F k) : LAWP F' a s t := by
  obtain ⟨h0, h1, ⟨code, h2, h3⟩, f, h4⟩ := h
  exact ⟨h0, by rw [hF _ (by rw [h1]; exact neOn (List.cons_ne_nil _ _))]; exact h1, ⟨code, by rw [hF _ (by rw [h2]; exact neI)]; exact h2, h3⟩, f, by rw [hF _ (by rw [h4]; exact neI)]; exact h4⟩
theorem LWS.grow {L : Nat → Option Nat} (h : LWS F L s) (hF : ∀ k, F k ≠ gBad → F' k = F k) : LWS F' L s := by
  refine ⟨fun t ht a ha => ?_, fun t ht => ?_⟩
  · obtain ⟨q, fs, h1, h2⟩ := h.1 t ht a ha
    exact ⟨q, fs, h1, by rw [hF _ (by rw [h2]; exact neOn h1)]; exact h2⟩
  · obtain ⟨a, h1, h2⟩ := h.2 t ht
    exact ⟨a, h1, h2.grow hF⟩
theorem CTY.grow (h : CTY F b s) (hF : ∀ k, F k ≠ gBad → F' k = F k) : CTY F' b s := by
  obtain ⟨h0, h1, ⟨f2, h2, q2⟩, ⟨L, h3, q3⟩, ⟨f4, h4, q4⟩, ⟨f5, h5⟩, h6⟩ := h
  refine ⟨by rw [hF _ (by rw [h0]; exact neOn (List.cons_ne_nil _ _))]; exact h0, by rw [hF _ (by rw [h1]; exact neR)]; exact h1, ⟨f2, by rw [hF _ (by rw [h2]; exact neI)]; exact h2, q2⟩, ⟨L, by rw [hF _ (by rw [h3]; exact neR)]; exact h3, q3.grow hF⟩, ⟨f4, by rw [hF _ (by rw [h4]; exact neI)]; exact h4, q4⟩, ⟨f5, by rw [hF _ (by rw [h5]; exact neI)]; exact h5⟩, fun i hi => ?_⟩
  obtain ⟨f, e, r⟩ := h6 i hi
  exact ⟨f, by rw [hF _ (by rw [e]; exact neOn (List.cons_ne_nil _ _))]; exact e, r⟩
end GROW
section ZLAYS
variable {s : Nat → Int} {key t : Nat} {R : ZR}
theorem zlay_64 (ht : s 64 = (t : Int)) : zlay s key R 64 = s 64 + 1 := by
  unfold zlay
  rw [zcpy_miss (by omega)]
  unfold zlay0
  rw [va_up_ne _ _ (by omega), va_up_ne _ _ (by omega), va_up_ne _ _ (by omega), va_up_ne _ _ (by omega), va_up_self]
theorem zlay_cnt (ht : s 64 = (t : Int)) (h14 : t < 14) (hk : key < 3) {w : Nat} (hw : w < 3) : zlay s key R (65 + w) = if w = key then s 64 else s (65 + w) := by
  unfold zlay
  rw [zcpy_miss (by omega)]
  unfold zlay0
  rw [va_up_ne _ _ (by omega), va_up_ne _ _ (by omega), va_up_ne _ _ (by omega)]
  by_cases c : w = key
  · subst c; rw [va_up_self, if_pos rfl]
  · rw [va_up_ne _ _ (by omega), va_up_ne _ _ (by omega), if_neg c]
theorem zlay_tx (ht : s 64 = (t : Int)) (h14 : t < 14) (hk : key < 3) {t' : Nat} (ht' : t' < 14) : zlay s key R (68 + t') = (if t' = t then (key : Int) else s (68 + t')) ∧ zlay s key R (82 + t') = (if t' = t then (R.out.length : Int) else s (82 + t')) ∧ zlay s key R (96 + t') = (if t' = t then (R.pcs : Int) else s (96 + t')) := by
  have et : (s 64).toNat = t := by omega
  unfold zlay
  rw [zcpy_miss (by omega), zcpy_miss (by omega), zcpy_miss (by omega)]
  unfold zlay0
  rw [et]
  by_cases c : t' = t
  · subst c
    rw [if_pos rfl, if_pos rfl, if_pos rfl]
    refine ⟨?_, ?_, va_up_self _ _ _⟩
    · rw [va_up_ne _ _ (by omega), va_up_ne _ _ (by omega), va_up_self]
    · rw [va_up_ne _ _ (by omega), va_up_self]
  · rw [if_neg c, if_neg c, if_neg c]
    refine ⟨?_, ?_, ?_⟩
    all_goals rw [va_up_ne _ _ (by omega), va_up_ne _ _ (by omega), va_up_ne _ _ (by omega), va_up_ne _ _ (by omega), va_up_ne _ _ (by omega)]
theorem zlay_cd (ht : s 64 = (t : Int)) (h14 : t < 14) (hk : key < 3) (hl : R.out.length ≤ 96) {t' k : Nat} (ht' : t' < 14) (hk' : k < 100) : (t' ≠ t → zlay s key R (110 + 100 * t' + k) = s (110 + 100 * t' + k)) ∧ (t' = t → k < R.out.length → zlay s key R (110 + 100 * t' + k) = R.out.getD k 0) := by
  have et : (s 64).toNat = t := by omega
  unfold zlay
  rw [et]
  refine ⟨fun c => ?_, fun c hc => ?_⟩
  · rw [zcpy_miss (by omega)]
    unfold zlay0
    rw [va_up_ne _ _ (by omega), va_up_ne _ _ (by omega), va_up_ne _ _ (by omega), va_up_ne _ _ (by omega), va_up_ne _ _ (by omega)]
  · subst c; exact zcpy_hit hc
end ZLAYS
section CTEXT
variable {g : GX} {N : Nat} {F : Nat → GC}
theorem qJ_copyOf {a sz : Nat} {f : Nat → Int} (h : F a = cI 96 f) (ha : a < N) (hs : sz < 96) : CT g yJA_copyOf 1 1 96 [gR a, gI (sz : Int)] (N, F) (fun rr M' => rr = gR N ∧ ∃ f', M' = (N + 1, va_up F N (cI sz f')) ∧ ∀ k : Nat, k < sz → f' k = f k) := by
  refine CT.of' (L0 := [gR a, gI (sz : Int), gU]) plJA (Nat.le_of_ble_eq_true rfl) rfl ?_
  refine go_iload_n (i := 1) dJA_copyOf_0 rfl rfl ?_
  refine go_aload_n (i := 0) dJA_copyOf_1 rfl rfl trivial ?_
  refine go_alenI dJA_copyOf_2 (by assumption) ?_
  refine go_ic_ne 14 dJA_copyOf_3 rfl (fun _ => ?_) (fun h8 => absurd h8 (by omega))
  refine go_iload_n (i := 1) dJA_copyOf_14 rfl rfl ?_
  refine go_newI dJA_copyOf_15 kaI (by omega) (by omega) (by omega) (by omega) ?_
  rw [Int.toNat_natCast]
  have h' : va_up F N (cI sz (fun _ => 0)) a = cI 96 f := by rw [va_up_ne _ _ (by omega)]; exact h
  refine go_as2 dJA_copyOf_17 (Nat.le_of_ble_eq_true rfl) trivial trivial ?_
  refine go_aload_n (i := 0) dJA_copyOf_18 rfl rfl trivial ?_
  refine go_iconst dJA_copyOf_19 (inR_of _ rfl) ?_
  refine go_aload_n (i := 2) dJA_copyOf_20 rfl rfl trivial ?_
  refine go_iconst dJA_copyOf_21 (inR_of _ rfl) ?_
  refine go_aload_n (i := 0) dJA_copyOf_22 rfl rfl trivial ?_
  refine go_alenI dJA_copyOf_23 h' ?_
  refine go_iload_n (i := 1) dJA_copyOf_24 rfl rfl ?_
  refine go_mmin dJA_copyOf_25 vkJA304 (fun _ => Nat.le_of_ble_eq_true rfl) (by omega) ?_
  refine go_top ((sz : Nat) : Int) (by unfold iMin; rw [if_pos (by omega)]) ?_
  refine go_acI dJA_copyOf_28 (acJA150 rfl) h' (va_up_self _ _ _) (by omega) (by omega) (by omega) (by omega) (by omega) (Nat.le_of_ble_eq_true rfl) (by omega) ?_
  refine go_aload_n (i := 2) dJA_copyOf_31 rfl rfl trivial ?_
  refine go_aret dJA_copyOf_32 rfl (Or.inr ⟨_, rfl⟩) ?_
  refine ⟨rfl, va_cpy f (fun _ => 0) 0 0 sz, ?_, fun k hk => ?_⟩
  · rw [va_up_up]; rfl
  · unfold va_cpy
    rw [if_pos (by omega)]
    congr 1
    omega
theorem qL_init {a r : Nat} {k op : Int} (h : F a = cO 3 [gI 0, gI 0, gN, gN]) (ha : a < N) (ho : 1 ≤ op ∧ op ≤ 96) : CT g yL_init 1 1 96 [gR a, gI k, gI op, gR r] (N, F) (fun rr M' => rr = gU ∧ M' = (N + 1, va_up (va_up F N (cI op.toNat (fun _ => 0))) a (cO 3 [gI k, gI op, gR r, gR N]))) := by
  refine CT.of' (L0 := [gR a, gI k, gI op, gR r]) plL (Nat.le_of_ble_eq_true rfl) rfl ?_
  refine go_aload_n (i := 0) dL_init_0 rfl rfl trivial ?_
  refine go_objInit dL_init_1 obL1 obI obC (Nat.le_of_ble_eq_true rfl) (by omega) ?_
  refine go_aload_n (i := 0) dL_init_4 rfl rfl trivial ?_
  refine go_iload_n (i := 1) dL_init_5 rfl rfl ?_
  refine go_putF dL_init_6 flL7 rfl rfl h (by show 0 < 4; omega) rfl rfl ?_
  refine go_aload_n (i := 0) dL_init_9 rfl rfl trivial ?_
  refine go_iload_n (i := 2) dL_init_10 rfl rfl ?_
  refine go_putF dL_init_11 flL13 rfl rfl (va_up_self _ _ _) (by show 1 < 4; omega) rfl rfl ?_
  rw [va_up_up]
  refine go_aload_n (i := 0) dL_init_14 rfl rfl trivial ?_
  refine go_aload_n (i := 3) dL_init_15 rfl rfl trivial ?_
  refine go_putF dL_init_16 flL16 rfl rfl (va_up_self _ _ _) (by show 2 < 4; omega) rfl rfl ?_
  rw [va_up_up]
  refine go_aload_n (i := 0) dL_init_19 rfl rfl trivial ?_
  refine go_iconst dL_init_20 (inR_of _ rfl) ?_
  refine go_iload_n (i := 2) dL_init_21 rfl rfl ?_
  refine go_mmax dL_init_22 vkL20 (fun _ => Nat.le_of_ble_eq_true rfl) (by omega) ?_
  refine go_top op (by unfold iMax; split <;> omega) ?_
  refine go_newI dL_init_25 kaI (by omega) (by omega) (by omega) (by omega) ?_
  rw [va_up_comm _ _ (by omega)]
  refine go_putF dL_init_27 flL26 rfl rfl (va_up_self _ _ _) (by show 3 < 4; omega) rfl rfl ?_
  rw [va_up_up]
  refine go_vret dL_init_30 rfl ?_
  exact ⟨rfl, rfl⟩
/-- the law that was understood last is made -/
theorem qR_written {row : Nat → Int} {n : Nat} {fr to so op key : Int} {sz : Nat} (h49 : F 49 = cO 4 (rF n fr to so sz op key)) (h51 : F 51 = cI 96 row) (hN : 103 ≤ N) (hs : sz < 96) (ho : 1 ≤ op ∧ op ≤ 96) : CT g yR_written 2 3 196 [gR 49] (N, F) (fun rr M' => rr = gR N ∧ ∃ F2 : Nat → GC, M' = (N + 3, F2) ∧ (∀ k : Nat, k < N → F2 k = F k) ∧ F2 N = cO 3 [gI key, gI op, gR (N + 1), gR (N + 2)] ∧ (∃ f', F2 (N + 1) = cI sz f' ∧ ∀ k : Nat, k < sz → f' k = row k) ∧ ∃ f', F2 (N + 2) = cI op.toNat f') := by
  refine CT.of' (L0 := [gR 49]) plR (Nat.le_of_ble_eq_true rfl) rfl ?_
  refine go_new (fs := [gI 0, gI 0, gN, gN]) dR_written_0 cls_3 klR25 ki3 kj3 (fun g j hj => by match j, hj with | 0, _ => rfl | 1, _ => rfl | 2, _ => rfl | 3, _ => rfl) (List.cons_ne_nil _ _) (fun v hv => by simp at hv; rcases hv with rfl | rfl <;> first | exact inR_0 | trivial) (by omega) (by omega) ?_
  have h49' : va_up F N (cO 3 [gI 0, gI 0, gN, gN]) 49 = cO 4 (rF n fr to so sz op key) := by rw [va_up_ne _ _ (by omega)]; exact h49
  have h51' : va_up F N (cO 3 [gI 0, gI 0, gN, gN]) 51 = cI 96 row := by rw [va_up_ne _ _ (by omega)]; exact h51
  refine go_dup dR_written_3 trivial ?_
  refine go_aload_n (i := 0) dR_written_4 rfl rfl trivial ?_
  refine go_getf dR_written_5 flR27 h49' rfl ?_
  refine go_aload_n (i := 0) dR_written_8 rfl rfl trivial ?_
  refine go_getf dR_written_9 flR30 h49' rfl ?_
  refine go_aload_n (i := 0) dR_written_12 rfl rfl trivial ?_
  refine go_getf dR_written_13 flR15 h49' rfl ?_
  refine go_aload_n (i := 0) dR_written_16 rfl rfl trivial ?_
  refine go_getf dR_written_17 flR33 h49' rfl ?_
  refine go_SX dR_written_20 vkR36 (qJ_copyOf h51' (by omega) hs) rfl (by omega) (by omega) (by omega) rfl (fun _ => Nat.le_of_ble_eq_true rfl) ?_
  rintro _ _ ⟨rfl, f', rfl, hf'⟩ -
  dsimp only [rp]
  have hN' : va_up (va_up F N (cO 3 [gI 0, gI 0, gN, gN])) (N + 1) (cI sz f') N = cO 3 [gI 0, gI 0, gN, gN] := by rw [va_up_ne _ _ (by omega), va_up_self]
  refine go_callI dR_written_23 vkR42.1 vkR42.2.1 vkR42.2.2.1 vkR42.2.2.2.1 vkR42.2.2.2.2 (qL_init (k := key) (r := N + 1) hN' (by omega) ho) rfl (by omega) (by omega) (by omega) rfl (fun _ => Nat.le_of_ble_eq_true rfl) ?_
  rintro _ _ ⟨rfl, rfl⟩ -
  dsimp only [rp]
  refine go_aret dR_written_26 rfl (Or.inl ⟨_, rfl⟩) ?_
  refine ⟨rfl, _, rfl, fun k hk => ?_, va_up_self _ _ _, ⟨f', ?_, hf'⟩, ⟨fun _ => 0, ?_⟩⟩
  · rw [va_up_ne _ _ (by omega), va_up_ne _ _ (by omega), va_up_ne _ _ (by omega), va_up_ne _ _ (by omega)]
  · rw [va_up_ne _ _ (by omega), va_up_ne _ _ (by omega), va_up_self]
  · rw [va_up_ne _ _ (by omega), va_up_self]
/-- a county with one text more -/
theorem qB_addLaw {s : Nat → Int} {key t a : Nat} {R : ZR} (h : CTY F 1 s) (ht : s 64 = (t : Int)) (h14 : t < 14) (hk : key < 3) (hl : R.out.length ≤ 96) (hp : 1 ≤ R.pcs) (ha : 103 ≤ a ∧ (a - 103) % 3 = 0) (h1 : F a = cO 3 [gI (key : Int), gI (R.pcs : Int), gR (a + 1), gR (a + 2)]) (h2 : ∃ f', F (a + 1) = cI R.out.length f' ∧ ∀ k : Nat, k < R.out.length → f' k = zwm (R.out.getD k 0)) (h3 : ∃ f', F (a + 2) = cI R.pcs f') (hT : zT s) : CT g yB_addLaw 0 0 0 [gR 1, gR a] (N, F) (CU N 1 F gU (zlay s key R)) := by
  have ho := h.1
  obtain ⟨q0, q1, ⟨f2, g2, q2⟩, ⟨L, g3, q3⟩, ⟨f4, g4, q4⟩, ⟨f5, g5⟩, g6⟩ := h
  refine CT.of' (L0 := [gR 1, gR a]) plB (Nat.le_of_ble_eq_true rfl) rfl ?_
  refine go_aload_n (i := 0) dB_addLaw_0 rfl rfl trivial ?_
  refine go_getf dB_addLaw_1 flB37 (by assumption) rfl ?_
  refine go_bipush dB_addLaw_4 (inR_of _ rfl) rfl ?_
  refine go_ic_ge 42 dB_addLaw_6 rfl (fun h6 => absurd h6 (by omega)) (fun h6 => ?_)
  refine go_aload_n (i := 0) dB_addLaw_9 rfl rfl trivial ?_
  refine go_getf dB_addLaw_10 flB23 (by assumption) rfl ?_
  refine go_aload_n (i := 0) dB_addLaw_13 rfl rfl trivial ?_
  refine go_getf dB_addLaw_14 flB37 (by assumption) rfl ?_
  refine go_aload_n (i := 1) dB_addLaw_17 rfl rfl trivial ?_
  refine go_aast 2 "GooseCounty$Law" dB_addLaw_18 g3 h1 (List.cons_ne_nil _ _) rfl rfl (by omega) (by omega) ?_
  generalize hF1 : va_up F (1 + 3) (cR 3 14 (va_up L (s 64).toNat (some a))) = F1
  have e1 : ∀ j : Nat, j ≠ 1 + 3 → F1 j = F j := fun j hj => by rw [← hF1, va_up_ne _ _ hj]
  have e1s : F1 (1 + 3) = cR 3 14 (va_up L (s 64).toNat (some a)) := by rw [← hF1, va_up_self]
  have ho1 : F1 1 = cO 1 (cFld 1 s) := by rw [e1 _ (by omega)]; exact q0
  have hoL : F1 a = cO 3 [gI (key : Int), gI (R.pcs : Int), gR (a + 1), gR (a + 2)] := by rw [e1 _ (by omega)]; exact h1
  have g4' : F1 (1 + 4) = cI 3 f4 := by rw [e1 _ (by omega)]; exact g4
  refine go_aload_n (i := 0) dB_addLaw_19 rfl rfl trivial ?_
  refine go_getf dB_addLaw_20 flB27 ho1 rfl ?_
  refine go_aload_n (i := 1) dB_addLaw_23 rfl rfl trivial ?_
  refine go_getf dB_addLaw_24 flB103 hoL rfl ?_
  refine go_aload_n (i := 0) dB_addLaw_27 rfl rfl trivial ?_
  refine go_getf dB_addLaw_28 flB37 ho1 rfl ?_
  refine go_iast' key dB_addLaw_31 g4' rfl hk ?_
  generalize hF2 : va_up F1 (1 + 4) (cI 3 (va_up f4 key (s 64))) = F2
  have e2 : ∀ j : Nat, j ≠ 1 + 4 → F2 j = F1 j := fun j hj => by rw [← hF2, va_up_ne _ _ hj]
  have e2s : F2 (1 + 4) = cI 3 (va_up f4 key (s 64)) := by rw [← hF2, va_up_self]
  have ho2 : F2 1 = cO 1 (cFld 1 s) := by rw [e2 _ (by omega)]; exact ho1
  refine go_aload_n (i := 0) dB_addLaw_32 rfl rfl trivial ?_
  refine go_dup dB_addLaw_33 trivial ?_
  refine go_getf dB_addLaw_34 flB37 ho2 rfl ?_
  refine go_iconst dB_addLaw_37 (inR_of _ rfl) ?_
  refine go_iadd dB_addLaw_38 ?_
  refine go_top (s 64 + 1) (by (try simp (discharger := (unfold inR; omega)) only [w32_id]) <;> omega) ?_
  refine go_putf dB_addLaw_39 flB37 ho2 (by show 6 < 14; omega) rfl rfl ?_
  refine go_vret dB_addLaw_42 rfl ?_
  have ee : ∀ j : Nat, j ≠ 1 → j ≠ 4 → j ≠ 5 → va_up F2 1 (cO 1 ((cFld 1 s).set 6 (gI (s 64 + 1)))) j = F j := fun j j1 j2 j3 => by rw [va_up_ne _ _ j1, e2 _ (by omega), e1 _ (by omega)]
  have hfk : FK (inC 1) F (va_up F2 1 (cO 1 ((cFld 1 s).set 6 (gI (s 64 + 1))))) := fun j hj => by
    have hj' : ¬ (1 ≤ j ∧ j < 1 + 16) := hj
    have e := ee j (by omega) (by omega) (by omega)
    exact ⟨fun _ => e, fun n f q => ⟨f, by rw [e]; exact q⟩⟩
  have lo : ∀ j : Nat, j < 64 → zlay s key R j = s j := fun j hj => zlay_lo hj
  have et : (s 64).toNat = t := by omega
  refine ⟨rfl, _, rfl, ⟨?_, by rw [ee _ (by omega) (by omega) (by omega)]; exact q1, ⟨f2, by rw [ee _ (by omega) (by omega) (by omega)]; exact g2, fun y hy => by rw [lo _ (by omega)]; exact q2 y hy⟩, ⟨_, by rw [va_up_ne _ _ (by omega), e2 _ (by omega)]; exact e1s, ?_⟩, ⟨_, by rw [va_up_ne _ _ (by omega)]; exact e2s, fun w hw => ?_⟩, ⟨f5, by rw [ee _ (by omega) (by omega) (by omega)]; exact g5⟩, fun i hi => ?_⟩, hfk⟩
  · rw [va_up_self]
    unfold cFld
    rw [zlay_64 ht, lo 0 (by omega), lo 1 (by omega), lo 2 (by omega), lo 3 (by omega), lo 4 (by omega), lo 5 (by omega), lo 6 (by omega), lo 7 (by omega)]
    rfl
  · rw [et]
    have hP : ∀ k, 103 ≤ k → ¬ inC 1 k := fun k hk q => by have := q.2; omega
    refine ⟨fun t' ht' a' ha' => ?_, fun t' ht' => ?_⟩
    · by_cases c : t' = t
      · subst c
        rw [va_up_self] at ha'
        injection ha' with ha'
        subst ha'
        exact ⟨ha, _, List.cons_ne_nil _ _, by rw [ee _ (by omega) (by omega) (by omega)]; exact h1⟩
      · rw [va_up_ne _ _ c] at ha'
        exact (q3.fk hfk hP).1 t' ht' a' ha'
    · rw [zlay_64 ht] at ht'
      by_cases c : t' = t
      · subst c
        obtain ⟨z1, z2, z3⟩ := zlay_tx (R := R) ht h14 hk h14
        rw [if_pos rfl] at z1 z2 z3
        refine ⟨a, va_up_self _ _ _, ha, ?_, ?_, ?_⟩
        · rw [ee _ (by omega) (by omega) (by omega), z1, z3]; exact h1
        · rw [z2]
          obtain ⟨f', y1, y2⟩ := h2
          refine ⟨f', by rw [ee _ (by omega) (by omega) (by omega)]; exact y1, fun k hk' => ?_⟩
          have hk' : k < R.out.length := hk'
          rw [(zlay_cd ht h14 hk hl h14 (by omega)).2 rfl hk']
          exact y2 k hk'
        · rw [z3]
          obtain ⟨f', y1⟩ := h3
          refine ⟨f', ?_⟩
          rw [ee _ (by omega) (by omega) (by omega), y1, show max 1 ((R.pcs : Nat) : Int).toNat = R.pcs by omega]
      · have hlt : (t' : Int) < s 64 := by omega
        obtain ⟨a', y1, y2⟩ := (q3.fk hfk hP).2 t' hlt
        have tl := (hT.2.2.2 t' hlt).2.1
        obtain ⟨z1, z2, z3⟩ := zlay_tx (R := R) ht h14 hk (t' := t') (by omega)
        rw [if_neg c] at z1 z2 z3
        refine ⟨a', by rw [va_up_ne _ _ c]; exact y1, ?_⟩
        unfold LAWP
        rw [z1, z2, z3]
        obtain ⟨p0, p1, ⟨code, p2, p3⟩, p4⟩ := y2
        exact ⟨p0, p1, ⟨code, p2, fun k hk' => by rw [p3 k hk', (zlay_cd ht h14 hk hl (by omega) (by omega)).1 c]⟩, p4⟩
  · unfold zct
    rw [zlay_cnt ht h14 hk hw]
    by_cases c : w = key
    · subst c; rw [va_up_self, if_pos rfl, if_neg (by omega)]
    · rw [va_up_ne _ _ c, if_neg c]; exact q4 w hw
  · obtain ⟨f, r1, r2⟩ := g6 i hi
    refine ⟨f, by rw [ee _ (by omega) (by omega) (by omega)]; exact r1, fun q w hw => ?_⟩
    rw [lo 0 (by omega)] at q
    rw [lo _ (by omega)]
    exact r2 q w hw
end CTEXT
