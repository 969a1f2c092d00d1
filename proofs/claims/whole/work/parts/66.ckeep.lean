/-! ===== the component's public calls: tell, keep, back, check ===== -/
theorem CTY.cong {F : Nat → GC} {b : Nat} {s s' : Nat → Int} (h : CTY F b s) (hw : zW s) (hT : zT s) (e : ∀ k : Nat, k < 1510 → s' k = s k) : CTY F b s' := by
  obtain ⟨h0, h1, ⟨f2, h2, q2⟩, ⟨L, h3, q3⟩, ⟨f4, h4, q4⟩, h5, h6⟩ := h
  have w0 := hw.1
  have t0 := hT.1
  refine ⟨?_, h1, ⟨f2, h2, fun y hy => by rw [q2 y hy, e _ (by omega)]⟩, ⟨L, h3, q3.1, fun t ht => ?_⟩, ⟨f4, h4, fun w hw => by rw [q4 w hw]; unfold zct; rw [e _ (by omega)]⟩, h5, fun i hi => ?_⟩
  · unfold cFld
    rw [e 0 (by omega), e 64 (by omega), e 1 (by omega), e 2 (by omega), e 3 (by omega), e 4 (by omega), e 5 (by omega), e 6 (by omega), e 7 (by omega)]
    exact h0
  · rw [e 64 (by omega)] at ht
    obtain ⟨a, a1, a2⟩ := q3.2 t ht
    have tl := (hT.2.2.2 t ht).2.1
    refine ⟨a, a1, ?_⟩
    unfold LAWP
    rw [e (68 + t) (by omega), e (96 + t) (by omega), e (82 + t) (by omega)]
    obtain ⟨p0, p1, ⟨code, p2, p3⟩, p4⟩ := a2
    exact ⟨p0, p1, ⟨code, p2, fun k hk => by rw [p3 k hk, e _ (by omega)]⟩, p4⟩
  · obtain ⟨f, r1, r2⟩ := h6 i hi
    refine ⟨f, r1, fun q w hw => ?_⟩
    rw [e 0 (by omega)] at q
    rw [e _ (by omega)]
    exact r2 q w hw
section CKEEP
variable {g : GX} {N : Nat} {F F2 : Nat → GC} {m U : Nat → Nat → Int}
theorem COMP.obj (h : COMP F m) (e : ∀ i : Nat, i ≠ 17 → U i = m i) (e11 : U 17 11 = m 17 11) (e6 : ¬ U 17 6 = 0 → CTY F 17 (m 1)) : COMP (va_up F 0 (cO 0 (aFld U))) U := by
  obtain ⟨a, b, ⟨⟨s1, c1⟩, c2⟩, ⟨s2, d⟩, r⟩ := h
  have hF : FK (fun k => k = 0) F (va_up F 0 (cO 0 (aFld U))) := FK.rf.put rfl
  have hQ : ∀ k, 103 ≤ k → ¬ (k = 0) := fun k hk q => by omega
  refine ⟨va_up_self _ _ _, ?_, ⟨⟨s1, c1.fk hF hQ (fun k k1 k2 q => by omega) (by omega)⟩, fun q => ?_⟩, ⟨s2, d.fk hF hQ (fun k k1 k2 q => by omega) (by omega)⟩, ?_⟩
  · rw [e 0 (by omega)]; exact b.fk hF hQ (fun k k1 k2 q => by omega) (by omega)
  · rw [e 1 (by omega)]; exact (e6 q).fk hF hQ (fun k k1 k2 q => by omega) (by omega)
  · have r2 := r.at (F2 := va_up F 0 (cO 0 (aFld U))) (fun j j1 j2 => va_up_ne _ _ (by omega))
    unfold RST RDR SLT SHT at r2 ⊢
    rw [e 3 (by omega), e 7 (by omega), e 9 (by omega), e 10 (by omega), e 11 (by omega), e 13 (by omega), e 14 (by omega), e 15 (by omega), e11]
    exact r2
theorem RST.w54 (h : RST F m) {f : Nat → Int} {p : Nat} {x : Int} (hf : ∀ j : Nat, j < 60 → f j = m 3 j) : RST (va_up F 54 (cI 60 (va_up f p x))) (va_up m 3 (va_up (m 3) p x)) := by
  obtain ⟨⟨a1, a2, a3⟩, b, c, d, e, y, s, t⟩ := h
  refine ⟨⟨a1, a2, a3⟩, b, c, ⟨_, va_up_self _ _ _, fun j hj => ?_⟩, e, y, fun k hk => (s k hk).at (va_up_ne _ _ (by omega)) (va_up_ne _ _ (by omega)), fun k hk => (t k hk).at (fun j j1 j2 => va_up_ne _ _ (by omega))⟩
  show va_up f p x j = va_up (m 3) p x j
  exact up_rel (hf j hj)
theorem bA_tell (h : COMP F m) (hJ : JV m) {v : Int} : CT g yA_tell 0 0 0 [gR 0, gI v] (N, F) (CB N F (gI (v_tell m)) (u_tell m v)) := by
  have ho := h.1
  have hq := hJ.1.2.2.2.2
  obtain ⟨f, h54, ef⟩ := h.2.2.2.2.2.2.2.1
  refine CT.of' (L0 := [gR 0, gI v]) plA (Nat.le_of_ble_eq_true rfl) rfl ?_
  refine go_aload_n (i := 0) dA_tell_0 rfl rfl trivial ?_
  refine go_getf dA_tell_1 flA51 (by assumption) rfl ?_
  refine go_bipush dA_tell_4 (inR_of _ rfl) rfl ?_
  refine go_ic_lt 12 dA_tell_6 rfl (fun h6 => ?_) (fun h6 => ?_)
  · have nb : ¬ m 17 7 = 60 := by omega
    have ho2 : ∀ c : GC, va_up F 54 c 0 = cO 0 (aFld m) := fun c => h.1
    refine go_aload_n (i := 0) dA_tell_12 rfl rfl trivial ?_
    refine go_getf dA_tell_13 flA41 (by assumption) rfl ?_
    refine go_aload_n (i := 0) dA_tell_16 rfl rfl trivial ?_
    refine go_getf dA_tell_17 flA51 (by assumption) rfl ?_
    refine go_iload_n (i := 1) dA_tell_20 rfl rfl ?_
    refine go_iast' (m 17 7).toNat dA_tell_21 h54 (by omega) (by omega) ?_
    refine go_aload_n (i := 0) dA_tell_22 rfl rfl trivial ?_
    refine go_dup dA_tell_23 trivial ?_
    refine go_getf dA_tell_24 flA51 (ho2 _) rfl ?_
    refine go_iconst dA_tell_27 (inR_of _ rfl) ?_
    refine go_iadd dA_tell_28 ?_
    refine go_top (m 17 7 + 1) (by (try simp (discharger := (unfold inR; omega)) only [w32_id]) <;> omega) ?_
    refine go_putf dA_tell_29 flA51 (ho2 _) (by show 9 < 11; omega) rfl rfl ?_
    refine go_aload_n (i := 0) dA_tell_32 rfl rfl trivial ?_
    refine go_getf dA_tell_33 flA51 (va_up_self _ _ _) rfl ?_
    refine go_iret dA_tell_36 rfl rfl ?_
    have eu : u_tell m v = va_up (va_up m 3 (va_up (m 3) (m 17 7).toNat v)) 17 (va_up (m 17) 7 (m 17 7 + 1)) := by unfold u_tell; exact if_neg nb
    rw [eu]
    have hC1 : COMP (va_up F 54 (cI 60 (va_up f (m 17 7).toNat v))) (va_up m 3 (va_up (m 3) (m 17 7).toNat v)) := h.rst (P := fun k => k = 54) (FK.rf.put rfl) (fun k q => by omega) (h.2.2.2.2.w54 ef) rfl rfl rfl rfl
    have hC2 := hC1.obj (U := va_up (va_up m 3 (va_up (m 3) (m 17 7).toNat v)) 17 (va_up (m 17) 7 (m 17 7 + 1))) (fun i hi => va_up_ne _ _ hi) rfl hC1.2.2.1.2
    exact ⟨by unfold v_tell; rw [if_neg nb], _, rfl, hC2, FK.put (P := pA) (FK.put (P := pA) FK.rf (by show (54 : Nat) < 85; omega)) (by show (0 : Nat) < 85; omega)⟩
  · refine go_ldc dA_tell_9 kcA73 (inR_of _ rfl) ?_
    refine go_iret dA_tell_11 rfl rfl ?_
    have nb : m 17 7 = 60 := by omega
    exact ⟨by unfold v_tell; rw [if_pos nb], F, rfl, by unfold u_tell; rw [if_pos nb]; exact h, FK.rf⟩
theorem COMP.img {S : Nat → Int} (h : COMP F m) (hC : CTY F2 17 S) (hF : FK (inC 17) F F2) (e : ¬ m 17 6 = 0 → CTY F2 17 (m 1)) : COMP F2 m := by
  obtain ⟨a, b, ⟨⟨s1, c1⟩, c2⟩, ⟨s2, d⟩, r⟩ := h
  have hP : ∀ k, 103 ≤ k → ¬ inC 17 k := fun k hk q => by have := q.2; omega
  exact ⟨by rw [hF.at (by omega) (fun q => by have := q.1; omega)]; exact a, b.fk hF hP (fun k k1 k2 q => by have := q.1; omega) (by omega), ⟨⟨S, hC⟩, e⟩, ⟨s2, d.fk hF hP (fun k k1 k2 q => by have := q.2; omega) (by omega)⟩, r.at (fun j j1 j2 => hF.at (by omega) (fun q => by have := q.2; omega))⟩
theorem bA_keep (h : COMP F m) (hJ : JV m) : CT g yA_keep 2 0 0 [gR 0] (N, F) (CB N F (gI (m 0 0)) (u_keep m)) := by
  have ho := h.1
  obtain ⟨s1, h17⟩ := h.2.2.1.1
  have hi := h17.1
  have hn := h.2.1.1
  have bec := qB_become (g := g) (N := N) h17 h.2.1 (by omega) (by omega) (by omega) hJ.zg.1 hJ.zg.2.1.1.2
  refine CT.of' (L0 := [gR 0]) plA (Nat.le_of_ble_eq_true rfl) rfl ?_
  refine go_aload_n (i := 0) dA_keep_0 rfl rfl trivial ?_
  refine go_getf dA_keep_1 flA16 (by assumption) rfl ?_
  refine go_aload_n (i := 0) dA_keep_4 rfl rfl trivial ?_
  refine go_getf dA_keep_5 flA10 (by assumption) rfl ?_
  refine go_VX dA_keep_8 vkA203 (by assumption) (List.cons_ne_nil _ _) (bec) rfl (by omega) (by omega) (by omega) rfl (fun _ => Nat.le_of_ble_eq_true rfl) ?_
  rintro _ _ ⟨rfl, F1, rfl, hC, hF⟩ -
  dsimp only [rp]
  have ho : F1 0 = cO 0 (aFld m) := by rw [hF.at (by omega) (fun q => by have := q.1; omega)]; exact h.1
  have hi := hC.1
  refine go_aload_n (i := 0) dA_keep_11 rfl rfl trivial ?_
  refine go_iconst dA_keep_12 (inR_of _ rfl) ?_
  refine go_putf dA_keep_13 flA55 ho (by show 10 < 11; omega) rfl rfl ?_
  refine go_aload_n (i := 0) dA_keep_16 rfl rfl trivial ?_
  refine go_getf dA_keep_17 flA16 (va_up_self _ _ _) rfl ?_
  refine go_getf dA_keep_20 flA70 (show _ = cO 1 (cFld 17 (m 0)) from by rw [va_up_ne _ _ (by omega)]; exact hi) rfl ?_
  refine go_iret dA_keep_23 rfl rfl ?_
  have hP : ∀ k, 103 ≤ k → ¬ inC 17 k := fun k hk q => by have := q.2; omega
  have ck : CTY F1 17 (zcp (m 1) 0 (m 0) 1510) := hC.cong hJ.zg.1 hJ.zg.2.1 (fun k hk => zcp0 _ _ hk)
  have hm' : COMP F1 (va_up m 1 (zcp (m 1) 0 (m 0) 1510)) := by
    obtain ⟨a, b, -, ⟨s2, d⟩, r⟩ := h
    refine ⟨ho, b.fk hF hP (fun k k1 k2 q => by have := q.1; omega) (by omega), ⟨⟨_, hC⟩, fun _ => ck⟩, ⟨s2, d.fk hF hP (fun k k1 k2 q => by have := q.2; omega) (by omega)⟩, r.at (fun j j1 j2 => hF.at (by omega) (fun q => by have := q.2; omega))⟩
  have hC2 := hm'.obj (U := u_keep m) (fun i hi => va_up_ne _ _ hi) rfl (fun _ => ck)
  exact ⟨rfl, _, rfl, hC2, FK.put (P := pA) (hF.mono (fun k q => by have := q.2; show k < 85; omega)) (by show (0 : Nat) < 85; omega)⟩
theorem bA_back (h : COMP F m) (hJ : JV m) : CT g yA_back 2 0 0 [gR 0] (N, F) (CB N F (gI (v_back m)) (u_back m)) := by
  have ho := h.1
  refine CT.of' (L0 := [gR 0]) plA (Nat.le_of_ble_eq_true rfl) rfl ?_
  refine go_aload_n (i := 0) dA_back_0 rfl rfl trivial ?_
  refine go_getf dA_back_1 flA55 (by assumption) rfl ?_
  refine go_if_ne 11 dA_back_4 rfl (fun h4 => ?_) (fun h4 => ?_)
  · have c : ¬ m 17 6 = 0 := h4
    obtain ⟨kw, kt, kd⟩ := hJ.1.2.1 c
    have h17 := h.2.2.1.2 c
    have hi := h17.1
    have hn := h.2.1.1
    have bec := qB_become (g := g) (N := N) h.2.1 h17 (by omega) (by omega) (by omega) kw kt.1.2
    refine go_aload_n (i := 0) dA_back_11 rfl rfl trivial ?_
    refine go_getf dA_back_12 flA10 (by assumption) rfl ?_
    refine go_aload_n (i := 0) dA_back_15 rfl rfl trivial ?_
    refine go_getf dA_back_16 flA16 (by assumption) rfl ?_
    refine go_VX dA_back_19 vkA203 (by assumption) (List.cons_ne_nil _ _) (bec) rfl (by omega) (by omega) (by omega) rfl (fun _ => Nat.le_of_ble_eq_true rfl) ?_
    rintro _ _ ⟨rfl, F1, rfl, hC, hF⟩ -
    dsimp only [rp]
    have ho : F1 0 = cO 0 (aFld m) := by rw [hF.at (by omega) (fun q => by have := q.1; omega)]; exact h.1
    have hn := hC.1
    refine go_aload_n (i := 0) dA_back_22 rfl rfl trivial ?_
    refine go_getf dA_back_23 flA10 (by assumption) rfl ?_
    refine go_getf dA_back_26 flA70 (by assumption) rfl ?_
    refine go_iret dA_back_29 rfl rfl ?_
    have ck : CTY F1 1 (zcp (m 0) 0 (m 1) 1510) := hC.cong kw kt (fun k hk => zcp0 _ _ hk)
    refine ⟨by unfold v_back; rw [if_neg c], F1, rfl, ?_, hF.c1⟩
    unfold u_back
    rw [if_neg c]
    exact h.now ck hF
  · refine go_ldcw dA_back_7 kcA335 (inR_of _ rfl) ?_
    refine go_iret dA_back_10 rfl rfl ?_
    have c : m 17 6 = 0 := by omega
    exact ⟨by unfold v_back; rw [if_pos c], F, rfl, by unfold u_back; rw [if_pos c]; exact h, FK.rf⟩
theorem bA_check (h : COMP F m) (hJ : JV m) {n : Int} : CT g yA_check 6 0 0 [gR 0, gI n] (N, F) (CB N F (gI (v_check m n)) (u_check m)) := by
  have ho := h.1
  have hq := hJ.1.2.2.2.2
  have z1 := zout_or n 1 30
  obtain ⟨M, hM⟩ : ∃ M : Nat, m 17 7 = (M : Int) := ⟨(m 17 7).toNat, by omega⟩
  have hC0 : COMP (va_up F 0 (cO 0 (aFld (u_check m)))) (u_check m) := h.obj (U := u_check m) (fun i hi => va_up_ne _ _ hi) rfl h.2.2.1.2
  have hF0 : FK pA F (va_up F 0 (cO 0 (aFld (u_check m)))) := FK.put (P := pA) FK.rf (by show (0 : Nat) < 85; omega)
  refine CT.of' (L0 := [gR 0, gI n, gU, gU, gU, gU, gU]) plA (Nat.le_of_ble_eq_true rfl) rfl ?_
  refine go_aload_n (i := 0) dA_check_0 rfl rfl trivial ?_
  refine go_getf dA_check_1 flA51 (by assumption) rfl ?_
  refine go_top (M : Int) hM ?_
  refine go_is2 dA_check_4 (Nat.le_of_ble_eq_true rfl) trivial ?_
  refine go_aload_n (i := 0) dA_check_5 rfl rfl trivial ?_
  refine go_iconst dA_check_6 (inR_of _ rfl) ?_
  refine go_putf dA_check_7 flA51 h.1 (by show 9 < 11; omega) rfl rfl ?_
  show Go g yA_check 6 0 0 _ _ _ (N, va_up F 0 (cO 0 (aFld (u_check m)))) _
  generalize va_up F 0 (cO 0 (aFld (u_check m))) = F1 at hC0 hF0
  have ho := hC0.1
  refine go_iload_n (i := 1) dA_check_10 rfl rfl ?_
  refine go_iconst dA_check_11 (inR_of _ rfl) ?_
  refine go_bipush dA_check_12 (inR_of _ rfl) rfl ?_
  refine go_SP dA_check_14 vkA61 (ct_outside _ _ _) rfl (by omega) rfl (fun _ => Nat.le_of_ble_eq_true rfl) ?_
  refine go_if_eq 23 dA_check_17 rfl (fun h17 => ?_) (fun h17 => ?_)
  · have hn : 1 ≤ n ∧ n ≤ 30 := by omega
    refine go_aload_n (i := 0) dA_check_23 rfl rfl trivial ?_
    refine go_getf dA_check_24 flA55 (by assumption) rfl ?_
    refine go_if_ne 34 dA_check_27 rfl (fun h27 => ?_) (fun h27 => ?_)
    · have c : ¬ m 17 6 = 0 := h27
      obtain ⟨kw, kt, kd⟩ := hJ.1.2.1 c
      have kp := hJ.2.2.1 c
      have h17 : CTY F1 17 (m 1) := hC0.2.2.1.2 c
      have hi := h17.1
      obtain ⟨s33, h33⟩ := hC0.2.2.2.1
      have ht := h33.1
      have bec := qB_become (g := g) (N := N) h33 h17 (by omega) (by omega) (by omega) kw kt.1.2
      have ZGk : ZG (mKp m) := ⟨zW_cong (fun k hk => mKp_eq m (by omega)) kw, zT_cong (fun k hk => mKp_eq m hk) kt, by
        intro t ht
        rw [mKp_eq m (by omega)] at ht
        have t14 := kt.1.2
        have tl := (kt.2.2.2 t ht).2.1
        obtain ⟨p1, p2⟩ := kp t ht
        have e2 : zops (fun k => mKp m (110 + 100 * t + k)) (m 1 (82 + t)).toNat = zops (fun k => m 1 (110 + 100 * t + k)) (m 1 (82 + t)).toNat := by
          have : ∀ j : Nat, j ≤ 96 → zops (fun k => mKp m (110 + 100 * t + k)) j = zops (fun k => m 1 (110 + 100 * t + k)) j := by
            intro j
            induction j with
            | zero => intro _; rfl
            | succ j ih => intro hj; show zops _ j + (if -10 < mKp m (110 + 100 * t + j) then 1 else 0) = zops _ j + (if -10 < m 1 (110 + 100 * t + j) then 1 else 0); rw [ih (by omega), mKp_eq m (by omega)]
          exact this _ (by omega)
        refine ⟨?_, fun k hk hk2 => ?_⟩
        · rw [mKp_eq m (by omega), mKp_eq m (by omega), e2]; exact p1
        · rw [mKp_eq m (by omega)] at hk
          rw [mKp_eq m (by omega)] at hk2 ⊢
          exact p2 k hk hk2⟩
      have e6 : mKp m 6 = m 1 6 := mKp_eq m (by omega)
      have hd6 := ZGk.1.2.2.1
      have hl : (z_left (mKp m) n : Int) = iMin n (9999 - m 1 6) := by
        unfold z_left iMin
        rw [e6]
        repeat' split
        all_goals omega
      have hl2 : mKp m 6 + (z_left (mKp m) n : Nat) ≤ 9999 ∧ (z_left (mKp m) n : Nat) ≤ 30 := by
        unfold z_left
        split <;> omega
      have ev : v_check m n = zfu (m 3) M (z_left (mKp m) n) (mKp m) 0 := by unfold v_check; rw [if_pos hn, if_neg c, show (m 17 7).toNat = M by omega]
      have loop : ∀ (D e : Nat), e + D = z_left (mKp m) n → ∀ (S : Nat → Int) (F2 : Nat → GC) (x5 x6 : GV), TH F F2 (u_check m) S → ZG S → S 6 = mKp m 6 + e → 2 * e ≤ M → v_check m n = zfu (m 3) M D S (2 * e) → c1 x5 → Go g yA_check 6 0 0 66 [gR 0, gI n, gI (M : Int), gI ((2 * z_left (mKp m) n : Nat) : Int), gI ((2 * e : Nat) : Int), x5, x6] [] (N, F2) (CB N F (gI (v_check m n)) (u_check m)) := by
        intro D
        induction D with
        | zero =>
          intro e he S F2 x5 x6 hT zg s6 hM2 ez hx5
          refine go_iload dA_check_66 rfl ?_
          refine go_iload_n (i := 3) dA_check_68 rfl rfl ?_
          refine go_ic_ge 152 dA_check_69 rfl (fun h69 => ?_) (fun h69 => absurd (by omega) h69)
          have ez' : v_check m n = if 2 * e = M then 0 else 1 + ((2 * e : Nat) : Int) := by rw [ez]; rfl
          refine go_iload_n (i := 2) dA_check_152 rfl rfl ?_
          refine go_iload_n (i := 3) dA_check_153 rfl rfl ?_
          refine go_ic_le 163 dA_check_154 rfl (fun h154 => ?_) (fun h154 => ?_)
          · refine go_iconst dA_check_163 (inR_of _ rfl) ?_
            refine go_iret dA_check_164 rfl rfl ?_
            exact hT.cb (by rw [ez', if_pos (by omega)])
          · refine go_iconst dA_check_157 (inR_of _ rfl) ?_
            refine go_iload_n (i := 3) dA_check_158 rfl rfl ?_
            refine go_iadd dA_check_159 ?_
            refine go_top (1 + ((2 * e : Nat) : Int)) (by (try simp (discharger := (unfold inR; omega)) only [w32_id]) <;> omega) ?_
            refine go_goto 164 dA_check_160 rfl ?_
            refine go_iret dA_check_164 rfl rfl ?_
            exact hT.cb (by rw [ez', if_neg (by omega)])
        | succ D ih =>
          intro e he S F2 x5 x6 hT zg s6 hM2 ez hx5
          have ez' : v_check m n = if 2 * e < M ∧ m 3 (2 * e) = zday S 3 then (if 2 * e + 1 < M ∧ m 3 (2 * e + 1) = ztog (zday S) then zfu (m 3) M D (zday S) (2 * e + 2) else 1 + ((2 * e + 1 : Nat) : Int)) else 1 + ((2 * e : Nat) : Int) := by rw [ez]; rfl
          have ho := hT.1.1
          have ht := hT.2.1.1
          have tm0 : ((2 * e : Nat) : Int).tmod 2 = 0 := by rw [Int.tmod_eq_emod_of_nonneg (by omega)]; omega
          have tm1 : ((2 * e + 1 : Nat) : Int).tmod 2 = 1 := by rw [Int.tmod_eq_emod_of_nonneg (by omega)]; omega
          obtain ⟨zg2, -, d6⟩ := zdays_G zg (n := 1) (by omega)
          have pass := qA_pass (g := g) (N := N) hT zg (n := 1) (by omega) (by omega)
          refine go_iload dA_check_66 rfl ?_
          refine go_iload_n (i := 3) dA_check_68 rfl rfl ?_
          refine go_ic_ge 152 dA_check_69 rfl (fun h69 => absurd h69 (by omega)) (fun h69 => ?_)
          refine go_iload dA_check_72 rfl ?_
          refine go_iconst dA_check_74 (inR_of _ rfl) ?_
          refine go_irem dA_check_75 (by omega) ?_
          rw [tm0]
          refine go_if_ne 83 dA_check_76 rfl (fun h8 => absurd rfl h8) (fun _ => ?_)
          refine go_iconst dA_check_79 (inR_of _ rfl) ?_
          refine go_goto 84 dA_check_80 rfl ?_
          refine go_is5 dA_check_84 (Nat.le_of_ble_eq_true rfl) trivial ?_
          refine go_iload dA_check_86 rfl ?_
          refine go_if_eq 99 dA_check_88 rfl (fun h88 => absurd h88 (by omega)) (fun h88 => ?_)
          refine go_aload_n (i := 0) dA_check_91 rfl rfl trivial ?_
          refine go_getf dA_check_92 flA19 (by assumption) rfl ?_
          refine go_iconst dA_check_95 (inR_of _ rfl) ?_
          refine go_VX dA_check_96 vkA177 (by assumption) (List.cons_ne_nil _ _) (pass) rfl (by omega) (by omega) (by omega) rfl (fun _ => Nat.le_of_ble_eq_true rfl) ?_
          rintro _ _ ⟨rfl, F3, rfl, hT3⟩ -
          dsimp only [rp]
          have ho := hT3.1.1
          have ht := hT3.2.1.1
          obtain ⟨fw, h54, ew⟩ := hT3.1.2.2.2.2.2.2.2.1
          have ew : ∀ j : Nat, j < 60 → fw j = m 3 j := ew
          refine go_iload dA_check_99 rfl ?_
          refine go_if_eq 114 dA_check_101 rfl (fun h101 => absurd h101 (by omega)) (fun h101 => ?_)
          refine go_aload_n (i := 0) dA_check_104 rfl rfl trivial ?_
          refine go_getf dA_check_105 flA19 (by assumption) rfl ?_
          refine go_getf dA_check_108 flA171 (by assumption) rfl ?_
          refine go_goto 121 dA_check_111 rfl ?_
          refine go_is6 dA_check_121 (Nat.le_of_ble_eq_true rfl) trivial ?_
          have fail1 : ¬ (2 * e < M ∧ m 3 (2 * e) = zday S 3) → ∀ x5 x6 : GV, Go g yA_check 6 0 0 141 [gR 0, gI n, gI (M : Int), gI ((2 * z_left (mKp m) n : Nat) : Int), gI ((2 * e : Nat) : Int), x5, x6] [] (N, F3) (CB N F (gI (v_check m n)) (u_check m)) := by
            intro hb x5 x6
            refine go_iconst dA_check_141 (inR_of _ rfl) ?_
            refine go_iload dA_check_142 rfl ?_
            refine go_iadd dA_check_144 ?_
            refine go_top (1 + ((2 * e : Nat) : Int)) (by (try simp (discharger := (unfold inR; omega)) only [w32_id]) <;> omega) ?_
            refine go_iret dA_check_145 rfl rfl ?_
            exact hT3.cb (by rw [ez', if_neg hb])
          have ez3 : zdays S 1 3 = zday S 3 := rfl
          rw [ez3]
          refine go_iload dA_check_123 rfl ?_
          refine go_iload_n (i := 2) dA_check_125 rfl rfl ?_
          refine go_ic_ge 141 dA_check_126 rfl (fun h126 => ?_) (fun h126 => ?_)
          · exact fail1 (by omega) _ _
          · refine go_aload_n (i := 0) dA_check_129 rfl rfl trivial ?_
            refine go_getf dA_check_130 flA41 (by assumption) rfl ?_
            refine go_iload dA_check_133 rfl ?_
            refine go_iald' (2 * e) _ dA_check_135 h54 rfl (by omega) (ew _ (by omega)) ?_
            refine go_iload dA_check_136 rfl ?_
            refine go_ic_eq 146 dA_check_138 rfl (fun h138 => ?_) (fun h138 => ?_)
            · have ok1 : 2 * e < M ∧ m 3 (2 * e) = zday S 3 := ⟨by omega, h138⟩
              rw [if_pos ok1] at ez'
              refine go_inc4 (((2 * e + 1 : Nat) : Int)) dA_check_146 (Nat.le_of_ble_eq_true rfl) trivial (by (try simp (discharger := (unfold inR; omega)) only [w32_id]) <;> omega) ?_
              refine go_goto 66 dA_check_149 rfl ?_
              have hD : 2 * e + 1 < 2 * z_left (mKp m) n := by omega
              have hwz := zg2.1
              have saw := qB_sawTogether (g := g) (N := N) hT3.2.1 hwz
              refine go_iload dA_check_66 rfl ?_
              refine go_iload_n (i := 3) dA_check_68 rfl rfl ?_
              refine go_ic_ge 152 dA_check_69 rfl (fun h69 => absurd h69 (by omega)) (fun h69 => ?_)
              refine go_iload dA_check_72 rfl ?_
              refine go_iconst dA_check_74 (inR_of _ rfl) ?_
              refine go_irem dA_check_75 (by omega) ?_
              rw [tm1]
              refine go_if_ne 83 dA_check_76 rfl (fun _ => ?_) (fun h8 => absurd h8 (by omega))
              refine go_iconst dA_check_83 (inR_of _ rfl) ?_
              refine go_is5 dA_check_84 (Nat.le_of_ble_eq_true rfl) trivial ?_
              refine go_iload dA_check_86 rfl ?_
              refine go_if_eq 99 dA_check_88 rfl (fun h88 => ?_) (fun h88 => absurd (by omega) h88)
              refine go_iload dA_check_99 rfl ?_
              refine go_if_eq 114 dA_check_101 rfl (fun h101 => ?_) (fun h101 => absurd (by omega) h101)
              refine go_aload_n (i := 0) dA_check_114 rfl rfl trivial ?_
              refine go_getf dA_check_115 flA19 (by assumption) rfl ?_
              refine go_VP dA_check_118 vkA181 (by assumption) (List.cons_ne_nil _ _) (saw) rfl (by omega) rfl (fun _ => Nat.le_of_ble_eq_true rfl) ?_
              refine go_is6 dA_check_121 (Nat.le_of_ble_eq_true rfl) trivial ?_
              have ezt : zsum (fun i => zk (zdays S 1) i 4) (zmany (zdays S 1)) = ztog (zday S) := rfl
              rw [ezt]
              have fail2 : ¬ (2 * e + 1 < M ∧ m 3 (2 * e + 1) = ztog (zday S)) → ∀ x5 x6 : GV, Go g yA_check 6 0 0 141 [gR 0, gI n, gI (M : Int), gI ((2 * z_left (mKp m) n : Nat) : Int), gI ((2 * e + 1 : Nat) : Int), x5, x6] [] (N, F3) (CB N F (gI (v_check m n)) (u_check m)) := by
                intro hb x5 x6
                refine go_iconst dA_check_141 (inR_of _ rfl) ?_
                refine go_iload dA_check_142 rfl ?_
                refine go_iadd dA_check_144 ?_
                refine go_top (1 + ((2 * e + 1 : Nat) : Int)) (by (try simp (discharger := (unfold inR; omega)) only [w32_id]) <;> omega) ?_
                refine go_iret dA_check_145 rfl rfl ?_
                exact hT3.cb (by rw [ez', if_neg hb])
              refine go_iload dA_check_123 rfl ?_
              refine go_iload_n (i := 2) dA_check_125 rfl rfl ?_
              refine go_ic_ge 141 dA_check_126 rfl (fun h126 => ?_) (fun h126 => ?_)
              · exact fail2 (by omega) _ _
              · refine go_aload_n (i := 0) dA_check_129 rfl rfl trivial ?_
                refine go_getf dA_check_130 flA41 (by assumption) rfl ?_
                refine go_iload dA_check_133 rfl ?_
                refine go_iald' (2 * e + 1) _ dA_check_135 h54 rfl (by omega) (ew _ (by omega)) ?_
                refine go_iload dA_check_136 rfl ?_
                refine go_ic_eq 146 dA_check_138 rfl (fun h138 => ?_) (fun h138 => ?_)
                · have ok2 : 2 * e + 1 < M ∧ m 3 (2 * e + 1) = ztog (zday S) := ⟨by omega, h138⟩
                  rw [if_pos ok2] at ez'
                  refine go_inc4 (((2 * (e + 1) : Nat) : Int)) dA_check_146 (Nat.le_of_ble_eq_true rfl) trivial (by (try simp (discharger := (unfold inR; omega)) only [w32_id]) <;> omega) ?_
                  refine go_goto 66 dA_check_149 rfl ?_
                  exact ih (e + 1) (by omega) (zday S) F3 _ _ hT3 zg2 (by have : zday S 6 = zdays S 1 6 := rfl; omega) (by omega) (by rw [ez']; congr 1) trivial
                · exact fail2 (fun q => h138 q.2) _ _
            · exact fail1 (fun q => h138 q.2) _ _
      refine go_aload_n (i := 0) dA_check_34 rfl rfl trivial ?_
      refine go_getf dA_check_35 flA19 ho rfl ?_
      refine go_aload_n (i := 0) dA_check_38 rfl rfl trivial ?_
      refine go_getf dA_check_39 flA16 ho rfl ?_
      refine go_VX dA_check_42 vkA203 ht (List.cons_ne_nil _ _) (bec) rfl (by omega) (by omega) (by omega) rfl (fun _ => Nat.le_of_ble_eq_true rfl) ?_
      rintro _ _ ⟨rfl, F2, rfl, hC2, hF2⟩ -
      dsimp only [rp]
      have ck : CTY F2 33 (mKp m) := hC2.cong kw kt (fun k hk => mKp_eq m hk)
      have hT : TH F F2 (u_check m) (mKp m) := ⟨hC0.tho ck hF2, ck, hF0.tr hF2.c33⟩
      have ho := hT.1.1
      have hi := (hT.1.2.2.1.2 c).1
      have hi : F2 17 = cO 1 (cFld 17 (m 1)) := hi
      refine go_iconst dA_check_45 (inR_of _ rfl) ?_
      refine go_iload_n (i := 1) dA_check_46 rfl rfl ?_
      refine go_sipush dA_check_47 (inR_of _ rfl) rfl ?_
      refine go_aload_n (i := 0) dA_check_50 rfl rfl trivial ?_
      refine go_getf dA_check_51 flA16 ho rfl ?_
      refine go_getf dA_check_54 flA174 hi rfl ?_
      refine go_isub dA_check_57 ?_
      refine go_top (9999 - m 1 6) (by (try simp (discharger := (unfold inR; omega)) only [w32_id]) <;> omega) ?_
      refine go_mmin dA_check_58 vkA147 (fun _ => Nat.le_of_ble_eq_true rfl) (by omega) ?_
      rw [← hl]
      refine go_imul dA_check_61 ?_
      refine go_top (((2 * z_left (mKp m) n : Nat) : Int)) (by (try simp (discharger := (unfold inR; omega)) only [w32_id]) <;> omega) ?_
      refine go_is3 dA_check_62 (Nat.le_of_ble_eq_true rfl) trivial ?_
      refine go_iconst dA_check_63 (inR_of _ rfl) ?_
      refine go_is4 dA_check_64 (Nat.le_of_ble_eq_true rfl) trivial ?_
      exact loop (z_left (mKp m) n) 0 (by omega) (mKp m) F2 _ _ hT ZGk (by omega) (by omega) ev trivial
    · refine go_ldcw dA_check_30 kcA335 (inR_of _ rfl) ?_
      refine go_iret dA_check_33 rfl rfl ?_
      have c : m 17 6 = 0 := by have h27 : m 17 6 = 0 := h27; exact h27
      exact ⟨by unfold v_check; rw [if_pos hn, if_pos c], F1, rfl, hC0, hF0⟩
  · refine go_ldc dA_check_20 kcA65 (inR_of _ rfl) ?_
    refine go_iret dA_check_22 rfl rfl ?_
    exact ⟨by unfold v_check; rw [if_neg (by omega)], F1, rfl, hC0, hF0⟩
end CKEEP
