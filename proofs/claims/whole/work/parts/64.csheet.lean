/-! ===== the component's public calls: sheets ===== -/
section CSHEET
variable {g : GX} {N a : Nat} {F F2 : Nat → GC} {m U : Nat → Nat → Int}
theorem SHT.cong {k : Nat} (h : SHT F a k m) (e9 : U 9 k = m 9 k) (e10 : U 10 k = m 10 k) (e11 : ∀ d : Nat, d < 24 → U 11 (24 * k + d) = m 11 (24 * k + d)) : SHT F a k U := by
  obtain ⟨h1, f, h2, h3⟩ := h
  refine ⟨by rw [e9, e10]; exact h1, f, h2, fun q d hd => ?_⟩
  rw [e9] at q
  rw [e11 d hd]; exact h3 q d hd
theorem RST.sl (h : RST F m) (hF : ∀ j : Nat, 49 ≤ j → j < 57 → F2 j = F j) (e3 : U 3 = m 3) (e7 : U 7 = m 7) (e11 : U 17 11 = m 17 11) (hS : ∀ k : Nat, k < 4 → SHT F2 (57 + 2 * k) k U) (hL : ∀ k : Nat, k < 5 → SLT F2 k U) : RST F2 U := by
  obtain ⟨⟨a1, a2, a3⟩, b, c, d, x, f, s, t⟩ := h
  refine ⟨⟨by rw [hF 49 (by omega) (by omega), e11]; exact a1, by rw [hF 50 (by omega) (by omega), e7]; exact a2, by rw [hF 51 (by omega) (by omega)]; exact a3⟩, by rw [hF 52 (by omega) (by omega)]; exact b, by rw [hF 53 (by omega) (by omega)]; exact c, by rw [hF 54 (by omega) (by omega), e3]; exact d, by rw [hF 55 (by omega) (by omega)]; exact x, by rw [hF 56 (by omega) (by omega)]; exact f, hS, hL⟩
/-- one sheet of the four becomes another -/
theorem COMP.sh {k : Nat} (h : COMP F m) (hk : k < 4) (hF : ∀ j : Nat, j ≠ 57 + 2 * k → j ≠ 58 + 2 * k → F2 j = F j) (hS : SHT F2 (57 + 2 * k) k U) (e0 : U 0 = m 0) (e1 : U 1 = m 1) (e3 : U 3 = m 3) (e7 : U 7 = m 7) (e13 : U 13 = m 13) (e14 : U 14 = m 14) (e15 : U 15 = m 15) (e17 : U 17 = m 17) (e9 : ∀ j : Nat, j ≠ k → U 9 j = m 9 j) (e10 : ∀ j : Nat, j ≠ k → U 10 j = m 10 j) (e11 : ∀ j d : Nat, j ≠ k → d < 24 → U 11 (24 * j + d) = m 11 (24 * j + d)) : COMP F2 U ∧ FK pA F F2 := by
  have hfk : FK (fun j => j = 57 + 2 * k ∨ j = 58 + 2 * k) F F2 := fun j hj => by
    have e := hF j (fun q => hj (Or.inl q)) (fun q => hj (Or.inr q))
    exact ⟨fun _ => e, fun n f q => ⟨f, by rw [e]; exact q⟩⟩
  refine ⟨h.rst hfk (fun j q => by omega) (h.2.2.2.2.sl (fun j j1 j2 => hF j (by omega) (by omega)) e3 e7 (by rw [e17]) (fun j hj => ?_) (fun j hj => ?_)) e0 e1 (by rw [e17]) (by rw [e17]), hfk.mono (fun j q => by show j < 85; omega)⟩
  · by_cases q : j = k
    · subst q; exact hS
    · exact ((h.2.2.2.2.2.2.2.2.2.2.1 j hj).at (hF _ (by omega) (by omega)) (hF _ (by omega) (by omega))).cong (e9 j q) (e10 j q) (fun d hd => e11 j d q hd)
  · obtain ⟨s1, s2, s3⟩ := (h.2.2.2.2.2.2.2.2.2.2.2 j hj).at (F2 := F2) (fun i i1 i2 => hF i (by omega) (by omega))
    exact ⟨by rw [e13, e14]; exact s1, by rw [e15]; exact s2, s3.cong (e9 _ (by omega)) (e10 _ (by omega)) (fun d hd => e11 _ d (by omega) hd)⟩
theorem qS_begin {so pl x n : Int} {f : Nat → Int} (h : F a = cO 5 [gI so, gI pl, gR (a + 1)]) (hf : F (a + 1) = cI 24 f) : CT g yS_begin 1 0 0 [gR a, gI x, gI n] (N, F) (fun rr M' => rr = gU ∧ ∃ (F2 : Nat → GC) (f' : Nat → Int), M' = (N, F2) ∧ (∀ j : Nat, j ≠ a → j ≠ a + 1 → F2 j = F j) ∧ F2 a = cO 5 [gI x, gI n, gR (a + 1)] ∧ F2 (a + 1) = cI 24 f' ∧ ∀ d : Nat, d < 24 → f' d = 0) := by
  refine CT.of' (L0 := [gR a, gI x, gI n]) plS (Nat.le_of_ble_eq_true rfl) rfl ?_
  refine go_aload_n (i := 0) dS_begin_0 rfl rfl trivial ?_
  refine go_iload_n (i := 1) dS_begin_1 rfl rfl ?_
  refine go_putf dS_begin_2 flS9 h (by show 0 < 3; omega) rfl rfl ?_
  refine go_aload_n (i := 0) dS_begin_5 rfl rfl trivial ?_
  refine go_iload_n (i := 2) dS_begin_6 rfl rfl ?_
  refine go_putf dS_begin_7 flS15 (va_up_self _ _ _) (by show 1 < 3; omega) rfl rfl ?_
  rw [va_up_up]
  refine go_aload_n (i := 0) dS_begin_10 rfl rfl trivial ?_
  refine go_getf dS_begin_11 flS18 (va_up_self _ _ _) rfl ?_
  have hf' : ∀ c : GC, va_up F a c (a + 1) = cI 24 f := fun c => by rw [va_up_ne _ _ (by omega)]; exact hf
  refine go_iconst dS_begin_14 (inR_of _ rfl) ?_
  refine go_SX dS_begin_15 vkS22 (qJ_fill (hf' _) (by omega)) rfl (by omega) (by omega) (by omega) rfl (fun _ => Nat.le_of_ble_eq_true rfl) ?_
  rintro _ _ ⟨rfl, f', rfl, hz⟩ -
  dsimp only [rp]
  refine go_vret dS_begin_18 rfl ?_
  exact ⟨rfl, _, f', rfl, fun j j1 j2 => by rw [va_up_ne _ _ j2, va_up_ne _ _ j1], by rw [va_up_ne _ _ (by omega), va_up_self]; rfl, va_up_self _ _ _, hz⟩
theorem bA_sheet (h : COMP F m) {k so n : Int} : CT g yA_sheet 2 0 0 [gR 0, gI k, gI so, gI n] (N, F) (CB N F (gI (v_sheet k so n)) (u_sheet m k so n)) := by
  have ho := h.1
  have h52 := h.2.2.2.2.2.1
  have z1 := zout_or k 0 3
  have z2 := zout_or so (-1) 1
  refine CT.of' (L0 := [gR 0, gI k, gI so, gI n]) plA (Nat.le_of_ble_eq_true rfl) rfl ?_
  have bad : ¬ ((0 ≤ k ∧ k ≤ 3) ∧ (-1 ≤ so ∧ so ≤ 1) ∧ (so < 0 ∨ n ≤ 24)) → CB N F (gI (v_sheet k so n)) (u_sheet m k so n) (gI BAD) (N, F) := fun hb =>
    ⟨by unfold v_sheet; rw [if_neg hb], F, rfl, by unfold u_sheet; rw [if_neg hb]; exact h, FK.rf⟩
  refine go_iload_n (i := 1) dA_sheet_0 rfl rfl ?_
  refine go_iconst dA_sheet_1 (inR_of _ rfl) ?_
  refine go_iconst dA_sheet_2 (inR_of _ rfl) ?_
  refine go_SP dA_sheet_3 vkA61 (ct_outside _ _ _) rfl (by omega) rfl (fun _ => Nat.le_of_ble_eq_true rfl) ?_
  refine go_if_ne 18 dA_sheet_6 rfl (fun h6 => ?_) (fun h6 => ?_)
  · refine go_ldc dA_sheet_18 kcA65 (inR_of _ rfl) ?_
    refine go_iret dA_sheet_20 rfl rfl ?_
    exact bad (by omega)
  · refine go_iload_n (i := 2) dA_sheet_9 rfl rfl ?_
    refine go_iconst dA_sheet_10 (inR_of _ rfl) ?_
    refine go_iconst dA_sheet_11 (inR_of _ rfl) ?_
    refine go_SP dA_sheet_12 vkA61 (ct_outside _ _ _) rfl (by omega) rfl (fun _ => Nat.le_of_ble_eq_true rfl) ?_
    refine go_if_eq 21 dA_sheet_15 rfl (fun h15 => ?_) (fun h15 => ?_)
    · obtain ⟨hs, f, hf, -⟩ := h.2.2.2.2.2.2.2.2.2.2.1 k.toNat (by omega)
      refine go_iload_n (i := 2) dA_sheet_21 rfl rfl ?_
      refine go_iconst dA_sheet_22 (inR_of _ rfl) ?_
      refine go_ic_ne 39 dA_sheet_23 rfl (fun h23 => ?_) (fun h23 => ?_)
      · refine go_iload_n (i := 3) dA_sheet_39 rfl rfl ?_
        refine go_bipush dA_sheet_40 (inR_of _ rfl) rfl ?_
        refine go_ic_le 48 dA_sheet_42 rfl (fun h42 => ?_) (fun h42 => ?_)
        · refine go_iload_n (i := 3) dA_sheet_48 rfl rfl ?_
          refine go_if_ge 56 dA_sheet_49 rfl (fun h49 => ?_) (fun h49 => ?_)
          · have ok : (0 ≤ k ∧ k ≤ 3) ∧ (-1 ≤ so ∧ so ≤ 1) ∧ (so < 0 ∨ n ≤ 24) := by omega
            refine go_aload_n (i := 0) dA_sheet_56 rfl rfl trivial ?_
            refine go_getf dA_sheet_57 flA31 (by assumption) rfl ?_
            refine go_iload_n (i := 1) dA_sheet_60 rfl rfl ?_
            refine go_aald' 3 "GooseCounty$Sheet" k.toNat (57 + 2 * k.toNat) dA_sheet_61 h52 rfl (by omega) (by omega) (shR_at (by omega)) ?_
            refine go_iload_n (i := 2) dA_sheet_62 rfl rfl ?_
            refine go_iload_n (i := 3) dA_sheet_63 rfl rfl ?_
            refine go_VX dA_sheet_64 vkA294 (by assumption) (List.cons_ne_nil _ _) (qS_begin hs hf) rfl (by omega) (by omega) (by omega) rfl (fun _ => Nat.le_of_ble_eq_true rfl) ?_
            rintro _ _ ⟨rfl, F2, f', rfl, hF, e1, e2, e3⟩ -
            dsimp only [rp]
            refine go_iload_n (i := 3) dA_sheet_67 rfl rfl ?_
            refine go_iret dA_sheet_68 rfl rfl ?_
            obtain ⟨c1, c2⟩ := h.sh (U := u_sheet m k so n) (F2 := F2) (k := k.toNat) (by omega) (fun j j1 j2 => hF j j1 (by omega)) (by
              unfold u_sheet
              rw [if_pos ok, if_neg (by omega), if_neg (by omega)]
              refine ⟨?_, f', e2, fun _ d hd => ?_⟩
              · show F2 _ = cO 5 [gI (va_up (m 9) k.toNat so k.toNat), gI (va_up (m 10) k.toNat n k.toNat), gR _]
                rw [va_up_self, va_up_self]; exact e1
              · show f' d = zcp (m 11) (24 * k.toNat) (fun _ => 0) 24 (24 * k.toNat + d)
                rw [zcp_hit hd]; exact e3 d hd) (by unfold u_sheet; rw [if_pos ok, if_neg (by omega), if_neg (by omega)]; rfl) (by unfold u_sheet; rw [if_pos ok, if_neg (by omega), if_neg (by omega)]; rfl) (by unfold u_sheet; rw [if_pos ok, if_neg (by omega), if_neg (by omega)]; rfl) (by unfold u_sheet; rw [if_pos ok, if_neg (by omega), if_neg (by omega)]; rfl) (by unfold u_sheet; rw [if_pos ok, if_neg (by omega), if_neg (by omega)]; rfl) (by unfold u_sheet; rw [if_pos ok, if_neg (by omega), if_neg (by omega)]; rfl) (by unfold u_sheet; rw [if_pos ok, if_neg (by omega), if_neg (by omega)]; rfl) (by unfold u_sheet; rw [if_pos ok, if_neg (by omega), if_neg (by omega)]; rfl)
              (fun j hj => by unfold u_sheet; rw [if_pos ok, if_neg (by omega), if_neg (by omega)]; exact va_up_ne _ _ hj) (fun j hj => by unfold u_sheet; rw [if_pos ok, if_neg (by omega), if_neg (by omega)]; exact va_up_ne _ _ hj) (fun j d hj hd => by unfold u_sheet; rw [if_pos ok, if_neg (by omega), if_neg (by omega)]; exact zcp_miss (by omega))
            exact ⟨by unfold v_sheet; rw [if_pos ok, if_neg (by omega), if_neg (by omega)], F2, rfl, c1, c2⟩
          · have ok : (0 ≤ k ∧ k ≤ 3) ∧ (-1 ≤ so ∧ so ≤ 1) ∧ (so < 0 ∨ n ≤ 24) := by omega
            refine go_ldcw dA_sheet_52 kcA297 (inR_of _ rfl) ?_
            refine go_iret dA_sheet_55 rfl rfl ?_
            exact ⟨by unfold v_sheet; rw [if_pos ok, if_neg (by omega), if_pos (by omega)], F, rfl, by unfold u_sheet; rw [if_pos ok, if_neg (by omega), if_pos (by omega)]; exact h, FK.rf⟩
        · refine go_ldc dA_sheet_45 kcA65 (inR_of _ rfl) ?_
          refine go_iret dA_sheet_47 rfl rfl ?_
          exact bad (by omega)
      · have ok : (0 ≤ k ∧ k ≤ 3) ∧ (-1 ≤ so ∧ so ≤ 1) ∧ (so < 0 ∨ n ≤ 24) := by omega
        refine go_aload_n (i := 0) dA_sheet_26 rfl rfl trivial ?_
        refine go_getf dA_sheet_27 flA31 (by assumption) rfl ?_
        refine go_iload_n (i := 1) dA_sheet_30 rfl rfl ?_
        refine go_aald' 3 "GooseCounty$Sheet" k.toNat (57 + 2 * k.toNat) dA_sheet_31 h52 rfl (by omega) (by omega) (shR_at (by omega)) ?_
        refine go_iconst dA_sheet_32 (inR_of _ rfl) ?_
        refine go_iconst dA_sheet_33 (inR_of _ rfl) ?_
        refine go_VX dA_sheet_34 vkA294 (by assumption) (List.cons_ne_nil _ _) (qS_begin hs hf) rfl (by omega) (by omega) (by omega) rfl (fun _ => Nat.le_of_ble_eq_true rfl) ?_
        rintro _ _ ⟨rfl, F2, f', rfl, hF, e1, e2, e3⟩ -
        dsimp only [rp]
        refine go_iconst dA_sheet_37 (inR_of _ rfl) ?_
        refine go_iret dA_sheet_38 rfl rfl ?_
        have eu : u_sheet m k so n = u_missing m k.toNat := by unfold u_sheet; rw [if_pos ok, if_pos (by omega)]
        rw [eu]
        obtain ⟨c1, c2⟩ := h.sh (U := u_missing m k.toNat) (F2 := F2) (k := k.toNat) (by omega) (fun j j1 j2 => hF j j1 (by omega)) (by
          refine ⟨?_, f', e2, fun q d hd => ?_⟩
          · show F2 _ = cO 5 [gI (va_up (m 9) k.toNat (-1) k.toNat), gI (va_up (m 10) k.toNat 0 k.toNat), gR _]
            rw [va_up_self, va_up_self]; exact e1
          · have q : ¬ va_up (m 9) k.toNat (-1) k.toNat < 0 := q
            rw [va_up_self] at q; omega) rfl rfl rfl rfl rfl rfl rfl rfl (fun j hj => va_up_ne _ _ hj) (fun j hj => va_up_ne _ _ hj) (fun j d hj hd => rfl)
        exact ⟨by unfold v_sheet; rw [if_pos ok, if_pos (by omega)], F2, rfl, c1, c2⟩
    · refine go_ldc dA_sheet_18 kcA65 (inR_of _ rfl) ?_
      refine go_iret dA_sheet_20 rfl rfl ?_
      exact bad (by omega)
theorem bA_mark (h : COMP F m) (hJ : JV m) {k p v : Int} : CT g yA_mark 1 0 0 [gR 0, gI k, gI p, gI v] (N, F) (CB N F (gI (v_mark m k p v)) (u_mark m k p v)) := by
  have ho := h.1
  have h52 := h.2.2.2.2.2.1
  have z1 := zout_or k 0 3
  have z3 := zout_or v (-99999) 99999
  have hNv : ¬ (-99999 ≤ NONE ∧ NONE ≤ 99999) := by decide
  refine CT.of' (L0 := [gR 0, gI k, gI p, gI v, gU]) plA (Nat.le_of_ble_eq_true rfl) rfl ?_
  have fail : ∀ x : Int, x ≠ 0 → v_wp m k p = x → CB N F (gI (v_mark m k p v)) (u_mark m k p v) (gI x) (N, F) := fun x hx e =>
    ⟨by unfold v_mark; rw [if_neg (by omega), e], F, rfl, by unfold u_mark; rw [if_neg (fun q => hx (by have := q.1; omega))]; exact h, FK.rf⟩
  have fail2 : ∀ x : Int, v_wp m k p = 0 → x ≠ 1 → c_mark m k v = x → CB N F (gI (v_mark m k p v)) (u_mark m k p v) (gI x) (N, F) := fun x e0 hx e =>
    ⟨by unfold v_mark; rw [if_pos e0, e], F, rfl, by unfold u_mark; rw [if_neg (fun q => hx (by have := q.2; omega))]; exact h, FK.rf⟩
  refine go_iload_n (i := 1) dA_mark_0 rfl rfl ?_
  refine go_iconst dA_mark_1 (inR_of _ rfl) ?_
  refine go_iconst dA_mark_2 (inR_of _ rfl) ?_
  refine go_SP dA_mark_3 vkA61 (ct_outside _ _ _) rfl (by omega) rfl (fun _ => Nat.le_of_ble_eq_true rfl) ?_
  refine go_if_eq 12 dA_mark_6 rfl (fun h6 => ?_) (fun h6 => ?_)
  · have hk : 0 ≤ k ∧ k ≤ 3 := by omega
    obtain ⟨hs, f, hf, ef⟩ := h.2.2.2.2.2.2.2.2.2.2.1 k.toNat (by omega)
    have hso := hJ.1.2.2.1 k.toNat (by omega)
    have z2 := zout_or p 0 (m 10 k.toNat - 1)
    refine go_aload_n (i := 0) dA_mark_12 rfl rfl trivial ?_
    refine go_getf dA_mark_13 flA31 (by assumption) rfl ?_
    refine go_iload_n (i := 1) dA_mark_16 rfl rfl ?_
    refine go_aald' 3 "GooseCounty$Sheet" k.toNat (57 + 2 * k.toNat) dA_mark_17 h52 rfl (by omega) (by omega) (shR_at (by omega)) ?_
    refine go_as4 dA_mark_18 (Nat.le_of_ble_eq_true rfl) trivial trivial ?_
    refine go_aload dA_mark_20 rfl trivial ?_
    refine go_VP dA_mark_22 vkA228 (by assumption) (List.cons_ne_nil _ _) (qS_isMissing hs) rfl (by omega) rfl (fun _ => Nat.le_of_ble_eq_true rfl) ?_
    by_cases c9 : m 9 k.toNat = -1
    · rw [if_pos c9]
      refine go_if_eq 31 dA_mark_25 rfl (fun h25 => absurd h25 (by omega)) (fun h25 => ?_)
      refine go_ldc dA_mark_28 kcA232 (inR_of _ rfl) ?_
      refine go_iret dA_mark_30 rfl rfl ?_
      exact fail _ (by decide) (by unfold v_wp; rw [if_pos hk, if_pos (by omega)])
    · rw [if_neg c9]
      refine go_if_eq 31 dA_mark_25 rfl (fun h25 => ?_) (fun h25 => absurd (by omega) h25)
      refine go_iload_n (i := 2) dA_mark_31 rfl rfl ?_
      refine go_iconst dA_mark_32 (inR_of _ rfl) ?_
      refine go_aload dA_mark_33 rfl trivial ?_
      refine go_getf dA_mark_35 flA237 (by assumption) rfl ?_
      refine go_iconst dA_mark_38 (inR_of _ rfl) ?_
      refine go_isub dA_mark_39 ?_
      refine go_top (m 10 k.toNat - 1) (by (try simp (discharger := (unfold inR; omega)) only [w32_id]) <;> omega) ?_
      refine go_SP dA_mark_40 vkA61 (ct_outside _ _ _) rfl (by omega) rfl (fun _ => Nat.le_of_ble_eq_true rfl) ?_
      refine go_if_eq 50 dA_mark_43 rfl (fun h43 => ?_) (fun h43 => ?_)
      · have hp : 0 ≤ p ∧ p < m 10 k.toNat := by omega
        have wp0 : v_wp m k p = 0 := by unfold v_wp; rw [if_pos hk, if_neg (by omega), if_pos hp]
        have done : c_mark m k v = 1 → CB N F (gI (v_mark m k p v)) (u_mark m k p v) (gI 1) (N, va_up F (57 + 2 * k.toNat + 1) (cI 24 (va_up f p.toNat (if m 9 k.toNat = 0 then iI2s v else v)))) := by
          intro e1
          have eu : u_mark m k p v = va_up m 11 (va_up (m 11) (24 * k.toNat + p.toNat) (if m 9 k.toNat = 0 then iI2s v else v)) := by unfold u_mark; exact if_pos ⟨wp0, e1⟩
          rw [eu]
          obtain ⟨c1, c2⟩ := h.sh (U := va_up m 11 (va_up (m 11) (24 * k.toNat + p.toNat) (if m 9 k.toNat = 0 then iI2s v else v))) (F2 := va_up F (57 + 2 * k.toNat + 1) (cI 24 (va_up f p.toNat (if m 9 k.toNat = 0 then iI2s v else v)))) (k := k.toNat) (by omega) (fun j j1 j2 => va_up_ne _ _ (by omega)) (by
            refine ⟨by rw [va_up_ne _ _ (by omega)]; exact hs, _, va_up_self _ _ _, fun q d hd => ?_⟩
            show va_up f p.toNat (if m 9 k.toNat = 0 then iI2s v else v) d = va_up (m 11) (24 * k.toNat + p.toNat) (if m 9 k.toNat = 0 then iI2s v else v) (24 * k.toNat + d)
            by_cases c : d = p.toNat
            · subst c; rw [va_up_self, va_up_self]
            · rw [va_up_ne _ _ c, va_up_ne _ _ (by omega)]; exact ef (by omega) d hd) rfl rfl rfl rfl rfl rfl rfl rfl (fun j hj => rfl) (fun j hj => rfl) (fun j d hj hd => va_up_ne _ _ (by omega))
          exact ⟨by unfold v_mark; rw [if_pos wp0, e1], _, rfl, c1, c2⟩
        refine go_aload dA_mark_50 rfl trivial ?_
        refine go_getf dA_mark_52 flA299 (by assumption) rfl ?_
        refine go_if_ne 78 dA_mark_55 rfl (fun h55 => ?_) (fun h55 => ?_)
        · have c0 : ¬ m 9 k.toNat = 0 := h55
          have fin : c_mark m k v = 1 → Go g yA_mark 1 0 0 99 [gR 0, gI k, gI p, gI v, gR (57 + 2 * k.toNat)] [] (N, F) (CB N F (gI (v_mark m k p v)) (u_mark m k p v)) := by
            intro e1
            have := done e1
            rw [if_neg c0] at this
            refine go_aload dA_mark_99 rfl trivial ?_
            refine go_getf dA_mark_101 flA243 (by assumption) rfl ?_
            refine go_iload_n (i := 2) dA_mark_104 rfl rfl ?_
            refine go_iload_n (i := 3) dA_mark_105 rfl rfl ?_
            refine go_iast' p.toNat dA_mark_106 hf (by omega) (by omega) ?_
            refine go_iconst dA_mark_107 (inR_of _ rfl) ?_
            refine go_iret dA_mark_108 rfl rfl ?_
            exact this
          refine go_iload_n (i := 3) dA_mark_78 rfl rfl ?_
          refine go_ldc dA_mark_79 kcA162 (inR_of _ rfl) ?_
          refine go_ic_eq 99 dA_mark_81 rfl (fun h81 => ?_) (fun h81 => ?_)
          · exact fin (by unfold c_mark; rw [if_neg (fun q => c0 q.1), if_neg (fun q => q.2.1 h81)])
          · refine go_iload_n (i := 3) dA_mark_84 rfl rfl ?_
            refine go_ldcw dA_mark_85 kcA302 (inR_of _ rfl) ?_
            refine go_ldc dA_mark_88 kcA217 (inR_of _ rfl) ?_
            refine go_SP dA_mark_90 vkA61 (ct_outside _ _ _) rfl (by omega) rfl (fun _ => Nat.le_of_ble_eq_true rfl) ?_
            refine go_if_eq 99 dA_mark_93 rfl (fun h93 => ?_) (fun h93 => ?_)
            · exact fin (by unfold c_mark; rw [if_neg (fun q => c0 q.1), if_neg (by omega)])
            · refine go_ldc dA_mark_96 kcA65 (inR_of _ rfl) ?_
              refine go_iret dA_mark_98 rfl rfl ?_
              exact fail2 _ wp0 (by decide) (by unfold c_mark; rw [if_neg (fun q => c0 q.1), if_pos ⟨by omega, h81, by omega⟩])
        · have c0 : m 9 k.toNat = 0 := by omega
          refine go_iload_n (i := 3) dA_mark_58 rfl rfl ?_
          refine go_ldc dA_mark_59 kcA162 (inR_of _ rfl) ?_
          refine go_ic_ne 67 dA_mark_61 rfl (fun h61 => ?_) (fun h61 => ?_)
          · have := done (by unfold c_mark; rw [if_neg (fun q => h61 q.2), if_neg (by omega)])
            rw [if_pos c0] at this
            refine go_aload dA_mark_67 rfl trivial ?_
            refine go_getf dA_mark_69 flA243 (by assumption) rfl ?_
            refine go_iload_n (i := 2) dA_mark_72 rfl rfl ?_
            refine go_iload_n (i := 3) dA_mark_73 rfl rfl ?_
            refine go_i2s dA_mark_74 ?_
            refine go_iast' p.toNat dA_mark_75 hf (by omega) (by omega) ?_
            refine go_iconst dA_mark_76 (inR_of _ rfl) ?_
            refine go_iret dA_mark_77 rfl rfl ?_
            exact this
          · refine go_ldc dA_mark_64 kcA114 (inR_of _ rfl) ?_
            refine go_iret dA_mark_66 rfl rfl ?_
            exact fail2 _ wp0 (by decide) (by unfold c_mark; rw [if_pos ⟨c0, h61⟩])
      · refine go_ldcw dA_mark_46 kcA298 (inR_of _ rfl) ?_
        refine go_iret dA_mark_49 rfl rfl ?_
        exact fail _ (by decide) (by unfold v_wp; rw [if_pos hk, if_neg (by omega), if_neg (by omega)])
  · refine go_ldc dA_mark_9 kcA65 (inR_of _ rfl) ?_
    refine go_iret dA_mark_11 rfl rfl ?_
    exact fail _ (by decide) (by unfold v_wp; rw [if_neg (by omega)])
theorem bA_pour (h : COMP F m) (hJ : JV m) {k : Int} : CT g yA_pour 1 0 0 [gR 0, gI k] (N, F) (CB N F (gI (v_pour m k)) (u_pour m k)) := by
  have ho := h.1
  have h52 := h.2.2.2.2.2.1
  have z1 := zout_or k 0 3
  have w0 := hJ.zg.1.1
  obtain ⟨hz1, hz⟩ := zmany_le hJ.zg.1
  refine CT.of' (L0 := [gR 0, gI k, gU, gU, gU, gU, gU]) plA (Nat.le_of_ble_eq_true rfl) rfl ?_
  refine go_iload_n (i := 1) dA_pour_0 rfl rfl ?_
  refine go_iconst dA_pour_1 (inR_of _ rfl) ?_
  refine go_iconst dA_pour_2 (inR_of _ rfl) ?_
  refine go_SP dA_pour_3 vkA61 (ct_outside _ _ _) rfl (by omega) rfl (fun _ => Nat.le_of_ble_eq_true rfl) ?_
  refine go_if_eq 12 dA_pour_6 rfl (fun h6 => ?_) (fun h6 => ?_)
  · have hk : 0 ≤ k ∧ k ≤ 3 := by omega
    obtain ⟨hs, f, hf, ef⟩ := h.2.2.2.2.2.2.2.2.2.2.1 k.toNat (by omega)
    have hso := hJ.1.2.2.1 k.toNat (by omega)
    refine go_aload_n (i := 0) dA_pour_12 rfl rfl trivial ?_
    refine go_getf dA_pour_13 flA31 (by assumption) rfl ?_
    refine go_iload_n (i := 1) dA_pour_16 rfl rfl ?_
    refine go_aald' 3 "GooseCounty$Sheet" k.toNat (57 + 2 * k.toNat) dA_pour_17 h52 rfl (by omega) (by omega) (shR_at (by omega)) ?_
    refine go_as2 dA_pour_18 (Nat.le_of_ble_eq_true rfl) trivial trivial ?_
    refine go_aload_n (i := 2) dA_pour_19 rfl rfl trivial ?_
    refine go_VP dA_pour_20 vkA228 (by assumption) (List.cons_ne_nil _ _) (qS_isMissing hs) rfl (by omega) rfl (fun _ => Nat.le_of_ble_eq_true rfl) ?_
    by_cases c9 : m 9 k.toNat = -1
    · rw [if_pos c9]
      refine go_if_eq 29 dA_pour_23 rfl (fun h23 => absurd h23 (by omega)) (fun h23 => ?_)
      refine go_ldc dA_pour_26 kcA232 (inR_of _ rfl) ?_
      refine go_iret dA_pour_28 rfl rfl ?_
      exact ⟨by unfold v_pour; rw [if_pos hk, if_pos (by omega)], F, rfl, by unfold u_pour; rw [if_neg (fun q => q.2 (by omega))]; exact h, FK.rf⟩
    · rw [if_neg c9]
      refine go_if_eq 29 dA_pour_23 rfl (fun h23 => ?_) (fun h23 => absurd (by omega) h23)
      generalize hnums : (fun d => m 11 (24 * k.toNat + d)) = nums
      have en : ∀ d : Nat, m 11 (24 * k.toNat + d) = nums d := fun d => by rw [← hnums]
      have hzm : zmn (m 0) (m 10 k.toNat) = min (zmany (m 0)) (m 10 k.toNat).toNat := rfl
      have loop : ∀ (j i : Nat), i + j = zmn (m 0) (m 10 k.toNat) → ∀ (F1 : Nat → GC) (x5 x6 : GV), CTY F1 1 (zset (m 0) 1 (zpo (m 0) nums) i) → FK (inC 1) F F1 → c1 x5 → Go g yA_pour 1 0 0 34 [gR 0, gI k, gR (57 + 2 * k.toNat), gI (zpc (m 0) nums i), gI (i : Int), x5, x6] [] (N, F1) (CB N F (gI (v_pour m k)) (u_pour m k)) := by
        intro j
        induction j with
        | zero =>
          intro i hi F1 x5 x6 hC hF hx5
          have ho : F1 0 = cO 0 (aFld m) := by rw [hF.at (by omega) (fun q => by have := q.1; omega)]; exact h.1
          have hn := hC.1
          have hs1 : F1 (57 + 2 * k.toNat) = cO 5 [gI (m 9 k.toNat), gI (m 10 k.toNat), gR (57 + 2 * k.toNat + 1)] := by rw [hF.at (by omega) (fun q => by have := q.2; omega)]; exact hs
          have e0 : zset (m 0) 1 (zpo (m 0) nums) i 0 = m 0 0 := zset_low (by omega) (by omega) (by omega)
          have fin : CB N F (gI (v_pour m k)) (u_pour m k) (gI (zpc (m 0) nums i)) (N, F1) := by
            have eu : u_pour m k = va_up m 0 (zset (m 0) 1 (zpo (m 0) nums) i) := by unfold u_pour; rw [if_pos ⟨hk, by omega⟩, hnums, ← show i = zmn (m 0) (m 10 k.toNat) by omega]
            have ev : v_pour m k = zpc (m 0) nums i := by unfold v_pour; rw [if_pos hk, if_neg (by omega), hnums, ← show i = zmn (m 0) (m 10 k.toNat) by omega]
            rw [eu, ev]
            exact CB.now h hC hF rfl rfl
          refine go_iload dA_pour_34 rfl ?_
          refine go_aload_n (i := 0) dA_pour_36 rfl rfl trivial ?_
          refine go_getf dA_pour_37 flA10 (by assumption) rfl ?_
          refine go_getf dA_pour_40 flA70 (by assumption) rfl ?_
          rw [e0]
          refine go_ic_ge 135 dA_pour_43 rfl (fun h43 => ?_) (fun h43 => ?_)
          · refine go_iload_n (i := 3) dA_pour_135 rfl rfl ?_
            refine go_iret dA_pour_136 rfl rfl ?_
            exact fin
          · refine go_iload dA_pour_46 rfl ?_
            refine go_aload_n (i := 2) dA_pour_48 rfl rfl trivial ?_
            refine go_getf dA_pour_49 flA237 (by assumption) rfl ?_
            refine go_ic_ge 135 dA_pour_52 rfl (fun h52 => ?_) (fun h52 => absurd (by omega) h52)
            refine go_iload_n (i := 3) dA_pour_135 rfl rfl ?_
            refine go_iret dA_pour_136 rfl rfl ?_
            exact fin
        | succ j ih =>
          intro i hi F1 x5 x6 hC hF hx5
          have ho : F1 0 = cO 0 (aFld m) := by rw [hF.at (by omega) (fun q => by have := q.1; omega)]; exact h.1
          have hn := hC.1
          have hr := hC.2.1
          have hs1 : F1 (57 + 2 * k.toNat) = cO 5 [gI (m 9 k.toNat), gI (m 10 k.toNat), gR (57 + 2 * k.toNat + 1)] := by rw [hF.at (by omega) (fun q => by have := q.2; omega)]; exact hs
          have hf1 : F1 (57 + 2 * k.toNat + 1) = cI 24 f := by rw [hF.at (by omega) (fun q => by have := q.2; omega)]; exact hf
          have efi := ef (by omega) i (by omega)
          rw [en] at efi
          have e0 : zset (m 0) 1 (zpo (m 0) nums) i 0 = m 0 0 := zset_low (by omega) (by omega) (by omega)
          have hg := hC.gs (i := i) (by rw [e0]; omega) (by omega)
          have k1 : zk (zset (m 0) 1 (zpo (m 0) nums) i) i 1 = zk (m 0) i 1 := zk_set 1 (by omega) (by omega)
          have hgo := (hJ.zg.1.goose (i := (i : Int)) (by omega) (by omega)).2.1
          have pc := zpc_in (m 0) nums i
          have es : zpc (m 0) nums (i + 1) = zpc (m 0) nums i + (if zk (m 0) i 1 = zpo (m 0) nums i then 0 else 1) := rfl
          have at97 : ∀ (x : Int) (x6 : GV), x = zpo (m 0) nums i → Go g yA_pour 1 0 0 97 [gR 0, gI k, gR (57 + 2 * k.toNat), gI (zpc (m 0) nums i), gI (i : Int), gI (zk (m 0) i 1), x6] [gI x] (N, F1) (CB N F (gI (v_pour m k)) (u_pour m k)) := by
            intro x x6 hx
            subst hx
            refine go_is6 dA_pour_97 (Nat.le_of_ble_eq_true rfl) trivial ?_
            refine go_aload_n (i := 0) dA_pour_99 rfl rfl trivial ?_
            refine go_getf dA_pour_100 flA10 (by assumption) rfl ?_
            refine go_getf dA_pour_103 flA78 (by assumption) rfl ?_
            refine go_iload dA_pour_106 rfl ?_
            refine go_aald' 1 "GooseCounty$Goose" (i) (1 + 6 + i) dA_pour_108 (by assumption) rfl (by omega) (by omega) (gRow_at (by omega)) ?_
            refine go_iload dA_pour_109 rfl ?_
            refine go_cgf hC (by omega) (i := i) (w := 1) (by omega) rfl (by omega) dA_pour_111 flA111 (fun F3 h3 hF3 => ?_)
            refine go_iload_n (i := 3) dA_pour_114 rfl rfl ?_
            refine go_iload dA_pour_115 rfl ?_
            refine go_iload dA_pour_117 rfl ?_
            refine go_ic_ne 126 dA_pour_119 rfl (fun h119 => ?_) (fun h119 => ?_)
            · rw [if_neg (fun q => h119 q.symm)] at es
              refine go_iconst dA_pour_126 (inR_of _ rfl) ?_
              refine go_iadd dA_pour_127 ?_
              refine go_top (zpc (m 0) nums (i + 1)) (by (try simp (discharger := (unfold inR; omega)) only [w32_id]) <;> omega) ?_
              refine go_is3 dA_pour_128 (Nat.le_of_ble_eq_true rfl) trivial ?_
              refine go_inc4 (((i + 1 : Nat) : Int)) dA_pour_129 (Nat.le_of_ble_eq_true rfl) trivial (by (try simp (discharger := (unfold inR; omega)) only [w32_id]) <;> omega) ?_
              refine go_goto 34 dA_pour_132 rfl ?_
              exact ih (i + 1) (by omega) F3 _ _ h3 (hF.tr hF3) trivial
            · rw [if_pos (Eq.symm h119)] at es
              refine go_iconst dA_pour_122 (inR_of _ rfl) ?_
              refine go_goto 127 dA_pour_123 rfl ?_
              refine go_iadd dA_pour_127 ?_
              refine go_top (zpc (m 0) nums (i + 1)) (by (try simp (discharger := (unfold inR; omega)) only [w32_id]) <;> omega) ?_
              refine go_is3 dA_pour_128 (Nat.le_of_ble_eq_true rfl) trivial ?_
              refine go_inc4 (((i + 1 : Nat) : Int)) dA_pour_129 (Nat.le_of_ble_eq_true rfl) trivial (by (try simp (discharger := (unfold inR; omega)) only [w32_id]) <;> omega) ?_
              refine go_goto 34 dA_pour_132 rfl ?_
              exact ih (i + 1) (by omega) F3 _ _ h3 (hF.tr hF3) trivial
          refine go_iload dA_pour_34 rfl ?_
          refine go_aload_n (i := 0) dA_pour_36 rfl rfl trivial ?_
          refine go_getf dA_pour_37 flA10 (by assumption) rfl ?_
          refine go_getf dA_pour_40 flA70 (by assumption) rfl ?_
          rw [e0]
          refine go_ic_ge 135 dA_pour_43 rfl (fun h43 => absurd h43 (by omega)) (fun h43 => ?_)
          refine go_iload dA_pour_46 rfl ?_
          refine go_aload_n (i := 2) dA_pour_48 rfl rfl trivial ?_
          refine go_getf dA_pour_49 flA237 (by assumption) rfl ?_
          refine go_ic_ge 135 dA_pour_52 rfl (fun h52 => absurd h52 (by omega)) (fun h52 => ?_)
          refine go_aload_n (i := 0) dA_pour_55 rfl rfl trivial ?_
          refine go_getf dA_pour_56 flA10 (by assumption) rfl ?_
          refine go_getf dA_pour_59 flA78 (by assumption) rfl ?_
          refine go_iload dA_pour_62 rfl ?_
          refine go_aald' 1 "GooseCounty$Goose" (i) (1 + 6 + i) dA_pour_64 (by assumption) rfl (by omega) (by omega) (gRow_at (by omega)) ?_
          refine go_getf dA_pour_65 flA111 (by assumption) rfl ?_
          rw [k1]
          refine go_is5 dA_pour_68 (Nat.le_of_ble_eq_true rfl) trivial ?_
          refine go_aload_n (i := 2) dA_pour_70 rfl rfl trivial ?_
          refine go_iload dA_pour_71 rfl ?_
          refine go_VP dA_pour_73 vkA240 (by assumption) (List.cons_ne_nil _ _) (qS_isNumber hs1 hf1 (p := i) (by omega)) rfl (by omega) rfl (fun _ => Nat.le_of_ble_eq_true rfl) ?_
          rw [efi]
          by_cases cn : nums i = NONE
          · rw [if_pos cn]
            refine go_if_eq 95 dA_pour_76 rfl (fun h76 => ?_) (fun h76 => absurd (by omega) h76)
            refine go_iload dA_pour_95 rfl ?_
            exact at97 _ _ (by unfold zpo; rw [if_pos cn])
          · rw [if_neg cn]
            refine go_if_eq 95 dA_pour_76 rfl (fun h76 => absurd h76 (by omega)) (fun h76 => ?_)
            refine go_aload_n (i := 2) dA_pour_79 rfl rfl trivial ?_
            refine go_getf dA_pour_80 flA243 (by assumption) rfl ?_
            refine go_iload dA_pour_83 rfl ?_
            refine go_iald' i _ dA_pour_85 hf1 rfl (by omega) efi ?_
            refine go_iconst dA_pour_86 (inR_of _ rfl) ?_
            refine go_bipush dA_pour_87 (inR_of _ rfl) rfl ?_
            refine go_SP dA_pour_89 vkA303 (ct_within _ _ _) rfl (by omega) rfl (fun _ => Nat.le_of_ble_eq_true rfl) ?_
            refine go_goto 97 dA_pour_92 rfl ?_
            exact at97 _ _ (by unfold zpo; rw [if_neg cn])
      refine go_iconst dA_pour_29 (inR_of _ rfl) ?_
      refine go_is3 dA_pour_30 (Nat.le_of_ble_eq_true rfl) trivial ?_
      refine go_iconst dA_pour_31 (inR_of _ rfl) ?_
      refine go_is4 dA_pour_32 (Nat.le_of_ble_eq_true rfl) trivial ?_
      exact loop (zmn (m 0) (m 10 k.toNat)) 0 (by omega) F _ _ h.2.1 FK.rf trivial
  · refine go_ldc dA_pour_9 kcA65 (inR_of _ rfl) ?_
    refine go_iret dA_pour_11 rfl rfl ?_
    exact ⟨by unfold v_pour; rw [if_neg (by omega)], F, rfl, by unfold u_pour; rw [if_neg (by omega)]; exact h, FK.rf⟩
theorem bA_reads (h : COMP F m) (hJ : JV m) {k : Int} : CT g yA_reads 1 0 0 [gR 0, gI k] (N, F) (CB N F (gI (v_reads m k)) m) := by
  have ho := h.1
  have hn := h.2.1.1
  have hr := h.2.1.2.1
  have h52 := h.2.2.2.2.2.1
  have z1 := zout_or k 0 3
  have w0 := hJ.zg.1.1
  refine CT.of' (L0 := [gR 0, gI k, gU, gU, gU]) plA (Nat.le_of_ble_eq_true rfl) rfl ?_
  refine go_iload_n (i := 1) dA_reads_0 rfl rfl ?_
  refine go_iconst dA_reads_1 (inR_of _ rfl) ?_
  refine go_iconst dA_reads_2 (inR_of _ rfl) ?_
  refine go_SP dA_reads_3 vkA61 (ct_outside _ _ _) rfl (by omega) rfl (fun _ => Nat.le_of_ble_eq_true rfl) ?_
  refine go_if_eq 12 dA_reads_6 rfl (fun h6 => ?_) (fun h6 => ?_)
  · have hk : 0 ≤ k ∧ k ≤ 3 := by omega
    obtain ⟨hs, f, hf, ef⟩ := h.2.2.2.2.2.2.2.2.2.2.1 k.toNat (by omega)
    have hso := hJ.1.2.2.1 k.toNat (by omega)
    refine go_aload_n (i := 0) dA_reads_12 rfl rfl trivial ?_
    refine go_getf dA_reads_13 flA31 (by assumption) rfl ?_
    refine go_iload_n (i := 1) dA_reads_16 rfl rfl ?_
    refine go_aald' 3 "GooseCounty$Sheet" k.toNat (57 + 2 * k.toNat) dA_reads_17 h52 rfl (by omega) (by omega) (shR_at (by omega)) ?_
    refine go_as2 dA_reads_18 (Nat.le_of_ble_eq_true rfl) trivial trivial ?_
    refine go_aload_n (i := 2) dA_reads_19 rfl rfl trivial ?_
    refine go_VP dA_reads_20 vkA228 (by assumption) (List.cons_ne_nil _ _) (qS_isMissing hs) rfl (by omega) rfl (fun _ => Nat.le_of_ble_eq_true rfl) ?_
    by_cases c9 : m 9 k.toNat = -1
    · rw [if_pos c9]
      refine go_if_eq 29 dA_reads_23 rfl (fun h23 => absurd h23 (by omega)) (fun h23 => ?_)
      refine go_ldc dA_reads_26 kcA232 (inR_of _ rfl) ?_
      refine go_iret dA_reads_28 rfl rfl ?_
      exact CB.same h (by unfold v_reads; rw [if_pos hk, if_pos (by omega)])
    · rw [if_neg c9]
      refine go_if_eq 29 dA_reads_23 rfl (fun h23 => ?_) (fun h23 => absurd (by omega) h23)
      generalize hnums : (fun d => m 11 (24 * k.toNat + d)) = nums
      have en : ∀ d : Nat, m 11 (24 * k.toNat + d) = nums d := fun d => by rw [← hnums]
      obtain ⟨pl, hpl⟩ : ∃ pl : Nat, m 10 k.toNat = (pl : Int) := ⟨(m 10 k.toNat).toNat, by omega⟩
      have ev : v_reads m k = if zfst (zrd (m 0) nums) pl 0 < pl then ((zfst (zrd (m 0) nums) pl 0 : Nat) : Int) else NONE := by
        unfold v_reads
        rw [if_pos hk, if_neg (by omega), hnums, hpl]
        rfl
      have loop : ∀ (j p : Nat), p + j = pl → zfst (zrd (m 0) nums) pl 0 = zfst (zrd (m 0) nums) j p → ∀ x4 : GV, Go g yA_reads 1 0 0 31 [gR 0, gI k, gR (57 + 2 * k.toNat), gI (p : Int), x4] [] (N, F) (CB N F (gI (v_reads m k)) m) := by
        intro j
        induction j with
        | zero =>
          intro p hp e x4
          refine go_iload_n (i := 3) dA_reads_31 rfl rfl ?_
          refine go_aload_n (i := 2) dA_reads_32 rfl rfl trivial ?_
          refine go_getf dA_reads_33 flA237 (by assumption) rfl ?_
          refine go_ic_ge 99 dA_reads_36 rfl (fun h36 => ?_) (fun h36 => absurd (by omega) h36)
          refine go_ldc dA_reads_99 kcA162 (inR_of _ rfl) ?_
          refine go_iret dA_reads_101 rfl rfl ?_
          refine CB.same h ?_
          rw [ev, e]
          show NONE = if p < pl then (p : Int) else NONE
          rw [if_neg (by omega)]
        | succ j ih =>
          intro p hp e x4
          have efi := ef (by omega) p (by omega)
          rw [en] at efi
          have e' : zfst (zrd (m 0) nums) (j + 1) p = if zrd (m 0) nums p = 1 then p else zfst (zrd (m 0) nums) j (p + 1) := rfl
          have at76 : ∀ (x : Int) (x4 : GV), x = (if (p : Int) < m 0 0 ∧ zk (m 0) p 3 = nums p then 1 else 0) → Go g yA_reads 1 0 0 76 [gR 0, gI k, gR (57 + 2 * k.toNat), gI (p : Int), x4] [gI x] (N, F) (CB N F (gI (v_reads m k)) m) := by
            intro x x4 hx
            have next : ¬ zrd (m 0) nums p = 1 → ∀ x4 : GV, Go g yA_reads 1 0 0 93 [gR 0, gI k, gR (57 + 2 * k.toNat), gI (p : Int), x4] [] (N, F) (CB N F (gI (v_reads m k)) m) := by
              intro hq x4
              rw [e', if_neg hq] at e
              refine go_inc3 (((p + 1 : Nat) : Int)) dA_reads_93 (Nat.le_of_ble_eq_true rfl) trivial (by (try simp (discharger := (unfold inR; omega)) only [w32_id]) <;> omega) ?_
              refine go_goto 31 dA_reads_96 rfl ?_
              exact ih (p + 1) (by omega) e x4
            refine go_is4 dA_reads_76 (Nat.le_of_ble_eq_true rfl) trivial ?_
            refine go_aload_n (i := 2) dA_reads_78 rfl rfl trivial ?_
            refine go_iload_n (i := 3) dA_reads_79 rfl rfl ?_
            refine go_VP dA_reads_80 vkA240 (by assumption) (List.cons_ne_nil _ _) (qS_isNumber hs hf (p := p) (by omega)) rfl (by omega) rfl (fun _ => Nat.le_of_ble_eq_true rfl) ?_
            rw [efi]
            by_cases cn : nums p = NONE
            · rw [if_pos cn]
              refine go_if_eq 93 dA_reads_83 rfl (fun h83 => ?_) (fun h83 => absurd (by omega) h83)
              exact next (by unfold zrd; rw [if_neg (fun q => q.1 cn)]; omega) _
            · rw [if_neg cn]
              refine go_if_eq 93 dA_reads_83 rfl (fun h83 => absurd h83 (by omega)) (fun h83 => ?_)
              refine go_iload dA_reads_86 rfl ?_
              refine go_if_ne 93 dA_reads_88 rfl (fun h88 => ?_) (fun h88 => ?_)
              · exact next (by unfold zrd; rw [if_neg (fun q => q.2 (by by_cases r : (p : Int) < m 0 0 ∧ zk (m 0) p 3 = nums p; exact r; exact absurd (by rw [hx, if_neg r]) h88))]; omega) _
              · have hz : zrd (m 0) nums p = 1 := by
                  unfold zrd
                  rw [if_pos ⟨cn, fun q => by rw [hx, if_pos q] at h88; omega⟩]
                rw [e', if_pos hz] at e
                refine go_iload_n (i := 3) dA_reads_91 rfl rfl ?_
                refine go_iret dA_reads_92 rfl rfl ?_
                refine CB.same h ?_
                rw [ev, e, if_pos (by omega)]
          refine go_iload_n (i := 3) dA_reads_31 rfl rfl ?_
          refine go_aload_n (i := 2) dA_reads_32 rfl rfl trivial ?_
          refine go_getf dA_reads_33 flA237 (by assumption) rfl ?_
          refine go_ic_ge 99 dA_reads_36 rfl (fun h36 => absurd h36 (by omega)) (fun h36 => ?_)
          refine go_iload_n (i := 3) dA_reads_39 rfl rfl ?_
          refine go_aload_n (i := 0) dA_reads_40 rfl rfl trivial ?_
          refine go_getf dA_reads_41 flA10 (by assumption) rfl ?_
          refine go_getf dA_reads_44 flA70 (by assumption) rfl ?_
          refine go_ic_ge 75 dA_reads_47 rfl (fun h47 => ?_) (fun h47 => ?_)
          · refine go_iconst dA_reads_75 (inR_of _ rfl) ?_
            exact at76 _ _ (by rw [if_neg (by omega)])
          · have hg := h.2.1.gs (i := p) (by omega) (by omega)
            refine go_aload_n (i := 2) dA_reads_50 rfl rfl trivial ?_
            refine go_getf dA_reads_51 flA243 (by assumption) rfl ?_
            refine go_iload_n (i := 3) dA_reads_54 rfl rfl ?_
            refine go_iald' p _ dA_reads_55 hf rfl (by omega) efi ?_
            refine go_aload_n (i := 0) dA_reads_56 rfl rfl trivial ?_
            refine go_getf dA_reads_57 flA10 (by assumption) rfl ?_
            refine go_getf dA_reads_60 flA78 (by assumption) rfl ?_
            refine go_iload_n (i := 3) dA_reads_63 rfl rfl ?_
            refine go_aald' 1 "GooseCounty$Goose" (p) (1 + 6 + p) dA_reads_64 (by assumption) rfl (by omega) (by omega) (gRow_at (by omega)) ?_
            refine go_getf dA_reads_65 flA88 (by assumption) rfl ?_
            refine go_ic_ne 75 dA_reads_68 rfl (fun h68 => ?_) (fun h68 => ?_)
            · refine go_iconst dA_reads_75 (inR_of _ rfl) ?_
              exact at76 _ _ (by rw [if_neg (fun q => h68 q.2.symm)])
            · refine go_iconst dA_reads_71 (inR_of _ rfl) ?_
              refine go_goto 76 dA_reads_72 rfl ?_
              exact at76 _ _ (by rw [if_pos ⟨by omega, h68.symm⟩])
      refine go_iconst dA_reads_29 (inR_of _ rfl) ?_
      refine go_is3 dA_reads_30 (Nat.le_of_ble_eq_true rfl) trivial ?_
      exact loop pl 0 (by omega) rfl _
  · refine go_ldc dA_reads_9 kcA65 (inR_of _ rfl) ?_
    refine go_iret dA_reads_11 rfl rfl ?_
    exact CB.same h (by unfold v_reads; rw [if_neg (by omega)])
theorem qS_hasPlaces {so pl p n : Int} {r : Nat} (h : F a = cO 5 [gI so, gI pl, gR r]) (hpl : 0 ≤ pl ∧ pl ≤ 24) (hn : 0 ≤ n) : CT g yS_hasPlaces 0 0 0 [gR a, gI p, gI n] (N, F) (RV (if decide (0 ≤ p ∧ 0 ≤ n ∧ n ≤ pl - p) = true then 1 else 0) (N, F)) := by
  refine CT.of' (L0 := [gR a, gI p, gI n]) plS (Nat.le_of_ble_eq_true rfl) rfl ?_
  refine go_iload_n (i := 1) dS_hasPlaces_0 rfl rfl ?_
  refine go_if_lt 26 dS_hasPlaces_1 rfl (fun h1 => ?_) (fun h1 => ?_)
  · refine go_iconst dS_hasPlaces_26 (inR_of _ rfl) ?_
    refine go_iret dS_hasPlaces_27 rfl (zb (by simp)) ?_
    exact ⟨by rw [if_neg (by simp; omega)], rfl⟩
  · refine go_iload_n (i := 1) dS_hasPlaces_4 rfl rfl ?_
    refine go_aload_n (i := 0) dS_hasPlaces_5 rfl rfl trivial ?_
    refine go_getf dS_hasPlaces_6 flS15 (by assumption) rfl ?_
    refine go_ic_gt 26 dS_hasPlaces_9 rfl (fun h9 => ?_) (fun h9 => ?_)
    · refine go_iconst dS_hasPlaces_26 (inR_of _ rfl) ?_
      refine go_iret dS_hasPlaces_27 rfl (zb (by simp)) ?_
      exact ⟨by rw [if_neg (by simp; omega)], rfl⟩
    · refine go_iload_n (i := 2) dS_hasPlaces_12 rfl rfl ?_
      refine go_aload_n (i := 0) dS_hasPlaces_13 rfl rfl trivial ?_
      refine go_getf dS_hasPlaces_14 flS15 (by assumption) rfl ?_
      refine go_iload_n (i := 1) dS_hasPlaces_17 rfl rfl ?_
      refine go_isub dS_hasPlaces_18 ?_
      refine go_top (pl - p) (by (try simp (discharger := (unfold inR; omega)) only [w32_id]) <;> omega) ?_
      refine go_ic_gt 26 dS_hasPlaces_19 rfl (fun h19 => ?_) (fun h19 => ?_)
      · refine go_iconst dS_hasPlaces_26 (inR_of _ rfl) ?_
        refine go_iret dS_hasPlaces_27 rfl (zb (by simp)) ?_
        exact ⟨by rw [if_neg (by simp; omega)], rfl⟩
      · refine go_iconst dS_hasPlaces_22 (inR_of _ rfl) ?_
        refine go_goto 27 dS_hasPlaces_23 rfl ?_
        refine go_iret dS_hasPlaces_27 rfl (zb (by simp)) ?_
        exact ⟨by rw [if_pos (by simp; omega)], rfl⟩
end CSHEET
