/-! ===== the component: a county becomes another, a goose comes ===== -/
theorem g5_eq {f f2 : Nat → Int} (h : (cO 2 (g5 f) : GC) = cO 2 (g5 f2)) : ∀ w : Nat, w < 5 → f w = f2 w := by
  injection h with e; injection e with e; injection e with _ e
  injection e with e0 e; injection e with e1 e; injection e with e2 e; injection e with e3 e; injection e with e4 _
  injection e0 with e0; injection e1 with e1; injection e2 with e2; injection e3 with e3; injection e4 with e4
  intro w hw
  match w, hw with
  | 0, _ => exact e0
  | 1, _ => exact e1
  | 2, _ => exact e2
  | 3, _ => exact e3
  | 4, _ => exact e4
theorem CTY.add {F : Nat → GC} {b : Nat} {s : Nat → Int} (h : CTY F b s) (h103 : b + 16 ≤ 103) (h0 : 0 ≤ s 0) (h10 : s 0 < 10) {k x a y : Int} : CTY (va_up (va_up F (b + 6 + (s 0).toNat) (cO 2 [gI k, gI x, gI a, gI y, gI 0])) b (cO 1 (cFld b (va_up s 0 (s 0 + 1))))) b (zadd s k x a y) := by
  obtain ⟨q0, q1, ⟨f2, h2, q2⟩, ⟨L, h3, q3⟩, ⟨f4, h4, q4⟩, ⟨f5, h5⟩, h6⟩ := h
  have hfk : FK (inC b) F (va_up (va_up F (b + 6 + (s 0).toNat) (cO 2 [gI k, gI x, gI a, gI y, gI 0])) b (cO 1 (cFld b (va_up s 0 (s 0 + 1))))) := (FK.rf.put (by omega)).put (by omega)
  have e64 : ∀ j : Nat, 64 ≤ j → zadd s k x a y j = s j := fun j hj => zadd_out _ _ _ _ _ (by omega) (by omega)
  have elo : ∀ j : Nat, 1 ≤ j → j < 14 → zadd s k x a y j = s j := fun j j1 j2 => zadd_out _ _ _ _ _ (by omega) (by omega)
  refine ⟨?_, by rw [va_up_ne _ _ (by omega), va_up_ne _ _ (by omega)]; exact q1, ⟨f2, by rw [va_up_ne _ _ (by omega), va_up_ne _ _ (by omega)]; exact h2, fun j hj => by rw [elo _ (by omega) (by omega)]; exact q2 j hj⟩, ⟨L, by rw [va_up_ne _ _ (by omega), va_up_ne _ _ (by omega)]; exact h3, (q3.fk hfk (fun k hk q => by have := q.2; omega)).cong e64⟩, ⟨f4, by rw [va_up_ne _ _ (by omega), va_up_ne _ _ (by omega)]; exact h4, fun w hw => by rw [q4 w hw]; unfold zct; rw [e64 _ (by omega)]⟩, ⟨f5, by rw [va_up_ne _ _ (by omega), va_up_ne _ _ (by omega)]; exact h5⟩, fun i hi => ?_⟩
  · rw [va_up_self]
    unfold cFld
    rw [zadd_0, e64 64 (by omega), elo 1 (by omega) (by omega), elo 2 (by omega) (by omega), elo 3 (by omega) (by omega), elo 4 (by omega) (by omega), elo 5 (by omega) (by omega), elo 6 (by omega) (by omega), elo 7 (by omega) (by omega)]
    rfl
  · rw [va_up_ne _ _ (by omega)]
    by_cases e : i = (s 0).toNat
    · subst e
      rw [va_up_self]
      obtain ⟨n0, n1, n2, n3, n4⟩ := zadd_new s k x a y
      refine ⟨fun w => match w with | 0 => k | 1 => x | 2 => a | 3 => y | _ => 0, rfl, fun _ w hw => ?_⟩
      match w, hw with
      | 0, _ => exact n0.symm
      | 1, _ => rw [show 14 + 5 * (s 0).toNat + 1 = 15 + 5 * (s 0).toNat by omega]; exact n1.symm
      | 2, _ => rw [show 14 + 5 * (s 0).toNat + 2 = 16 + 5 * (s 0).toNat by omega]; exact n2.symm
      | 3, _ => rw [show 14 + 5 * (s 0).toNat + 3 = 17 + 5 * (s 0).toNat by omega]; exact n3.symm
      | 4, _ => rw [show 14 + 5 * (s 0).toNat + 4 = 18 + 5 * (s 0).toNat by omega]; exact n4.symm
    · rw [va_up_ne _ _ (by omega)]
      obtain ⟨f, e1, r⟩ := h6 i hi
      refine ⟨f, e1, fun q w hw => ?_⟩
      rw [zadd_0] at q
      rw [zadd_out _ _ _ _ _ (by omega) (by omega)]
      exact r (by omega) w hw
section CBECOME
variable {g : GX} {N b : Nat} {F : Nat → GC} {s : Nat → Int}
theorem qJ_fill {a n : Nat} {f : Nat → Int} {x : Int} (h : F a = cI n f) (hn : n ≤ 1000) : CT g yJA_fill 0 0 0 [gR a, gI x] (N, F) (fun rr M' => rr = gU ∧ ∃ f', M' = (N, va_up F a (cI n f')) ∧ ∀ j : Nat, j < n → f' j = x) := by
  have loop : ∀ (k i : Nat), i + k = n → ∀ f1 : Nat → Int, (∀ j : Nat, j < i → f1 j = x) → Go g yJA_fill 0 0 0 5 [gR a, gI x, gI (i : Int), gI (n : Int)] [] (N, va_up F a (cI n f1)) (fun rr M' => rr = gU ∧ ∃ f', M' = (N, va_up F a (cI n f')) ∧ ∀ j : Nat, j < n → f' j = x) := by
    intro k
    induction k with
    | zero =>
      intro i hi f1 h1
      refine go_iload_n (i := 2) dJA_fill_5 rfl rfl ?_
      refine go_iload_n (i := 3) dJA_fill_6 rfl rfl ?_
      refine go_ic_ge 20 dJA_fill_7 rfl (fun h7 => ?_) (fun h7 => absurd (by omega) h7)
      refine go_vret dJA_fill_20 rfl ?_
      exact ⟨rfl, f1, rfl, fun j hj => h1 j (by omega)⟩
    | succ k ih =>
      intro i hi f1 h1
      refine go_iload_n (i := 2) dJA_fill_5 rfl rfl ?_
      refine go_iload_n (i := 3) dJA_fill_6 rfl rfl ?_
      refine go_ic_ge 20 dJA_fill_7 rfl (fun h7 => absurd h7 (by omega)) (fun h7 => ?_)
      refine go_aload_n (i := 0) dJA_fill_10 rfl rfl trivial ?_
      refine go_iload_n (i := 2) dJA_fill_11 rfl rfl ?_
      refine go_iload_n (i := 1) dJA_fill_12 rfl rfl ?_
      refine go_iast' i dJA_fill_13 (va_up_self _ _ _) rfl (by omega) ?_
      refine go_inc2 (((i + 1 : Nat) : Int)) dJA_fill_14 (Nat.le_of_ble_eq_true rfl) trivial (by (try simp (discharger := (unfold inR; omega)) only [w32_id]) <;> omega) ?_
      refine go_goto 5 dJA_fill_17 rfl ?_
      rw [va_up_up]
      refine ih (i + 1) (by omega) _ (fun j hj => ?_)
      by_cases e : j = i
      · subst e; rw [va_up_self]
      · rw [va_up_ne _ _ e]; exact h1 j (by omega)
  refine CT.of' (L0 := [gR a, gI x, gU, gU]) plJA (Nat.le_of_ble_eq_true rfl) rfl ?_
  refine go_iconst dJA_fill_0 (inR_of _ rfl) ?_
  refine go_is2 dJA_fill_1 (Nat.le_of_ble_eq_true rfl) trivial ?_
  refine go_aload_n (i := 0) dJA_fill_2 rfl rfl trivial ?_
  refine go_alenI dJA_fill_3 (by assumption) ?_
  refine go_is3 dJA_fill_4 (Nat.le_of_ble_eq_true rfl) trivial ?_
  have := loop n 0 (by omega) f (fun j hj => absurd hj (by omega))
  rw [show va_up F a (cI n f) = F by rw [← h]; exact va_up_id F a] at this
  exact this
theorem qB_addGoose (h : CTY F b s) (h103 : b + 16 ≤ 103) (hw : zW s) {k x a y : Int} : CT g yB_addGoose 0 0 0 [gR b, gI k, gI x, gI a, gI y] (N, F) (CU N b F (gI (if s 0 = 10 then 0 else 1)) (if s 0 = 10 then s else zadd s k x a y)) := by
  have ho := h.1
  have hr := h.2.1
  have h0 := hw.1.1
  have h10 := hw.1.2.1
  refine CT.of' (L0 := [gR b, gI k, gI x, gI a, gI y, gU]) plB (Nat.le_of_ble_eq_true rfl) rfl ?_
  refine go_aload_n (i := 0) dB_addGoose_0 rfl rfl trivial ?_
  refine go_getf dB_addGoose_1 flB33 (by assumption) rfl ?_
  refine go_bipush dB_addGoose_4 (inR_of _ rfl) rfl ?_
  refine go_ic_lt 11 dB_addGoose_6 rfl (fun h6 => ?_) (fun h6 => ?_)
  · obtain ⟨f, e, -⟩ := h.2.2.2.2.2.2 (s 0).toNat (by omega)
    refine go_aload_n (i := 0) dB_addGoose_11 rfl rfl trivial ?_
    refine go_getf dB_addGoose_12 flB11 (by assumption) rfl ?_
    refine go_aload_n (i := 0) dB_addGoose_15 rfl rfl trivial ?_
    refine go_getf dB_addGoose_16 flB33 (by assumption) rfl ?_
    refine go_aald' 1 "GooseCounty$Goose" ((s 0).toNat) (b + 6 + (s 0).toNat) dB_addGoose_19 (by assumption) rfl (by omega) (by omega) (gRow_at (by omega)) ?_
    refine go_as5 dB_addGoose_20 (Nat.le_of_ble_eq_true rfl) trivial trivial ?_
    refine go_aload dB_addGoose_22 rfl trivial ?_
    refine go_iload_n (i := 1) dB_addGoose_24 rfl rfl ?_
    refine go_putf dB_addGoose_25 flB79 e (by show 0 < 5; omega) rfl rfl ?_
    refine go_aload dB_addGoose_28 rfl trivial ?_
    refine go_iload_n (i := 2) dB_addGoose_30 rfl rfl ?_
    refine go_putf dB_addGoose_31 flB82 (va_up_self _ _ _) (by show 1 < 5; omega) rfl rfl ?_
    rw [va_up_up]
    refine go_aload dB_addGoose_34 rfl trivial ?_
    refine go_iload_n (i := 3) dB_addGoose_36 rfl rfl ?_
    refine go_putf dB_addGoose_37 flB85 (va_up_self _ _ _) (by show 2 < 5; omega) rfl rfl ?_
    rw [va_up_up]
    refine go_aload dB_addGoose_40 rfl trivial ?_
    refine go_iload dB_addGoose_42 rfl ?_
    refine go_putf dB_addGoose_44 flB88 (va_up_self _ _ _) (by show 3 < 5; omega) rfl rfl ?_
    rw [va_up_up]
    refine go_aload dB_addGoose_47 rfl trivial ?_
    refine go_iconst dB_addGoose_49 (inR_of _ rfl) ?_
    refine go_putf dB_addGoose_50 flB91 (va_up_self _ _ _) (by show 4 < 5; omega) rfl rfl ?_
    rw [va_up_up]
    have ho2 : ∀ c : GC, va_up F (b + 6 + (s 0).toNat) c b = cO 1 (cFld b s) := fun c => by rw [va_up_ne _ _ (by omega)]; exact ho
    refine go_aload_n (i := 0) dB_addGoose_53 rfl rfl trivial ?_
    refine go_dup dB_addGoose_54 trivial ?_
    refine go_getf dB_addGoose_55 flB33 (ho2 _) rfl ?_
    refine go_iconst dB_addGoose_58 (inR_of _ rfl) ?_
    refine go_iadd dB_addGoose_59 ?_
    refine go_top (s 0 + 1) (by (try simp (discharger := (unfold inR; omega)) only [w32_id]) <;> omega) ?_
    refine go_putf dB_addGoose_60 flB33 (ho2 _) (by show 5 < 14; omega) rfl rfl ?_
    refine go_iconst dB_addGoose_63 (inR_of _ rfl) ?_
    refine go_iret dB_addGoose_64 rfl (zb (by simp)) ?_
    rw [if_neg (by omega), if_neg (by omega)]
    exact ⟨rfl, _, rfl, h.add h103 h0 (by omega), (FK.rf.put (by omega)).put (by omega)⟩
  · refine go_iconst dB_addGoose_9 (inR_of _ rfl) ?_
    refine go_iret dB_addGoose_10 rfl (zb (by simp)) ?_
    rw [if_pos (by omega), if_pos (by omega)]
    exact ⟨rfl, F, rfl, h, FK.rf⟩
theorem qB_drawGoose (h : CTY F b s) (h103 : b + 16 ≤ 103) (hw : zW s) (h10 : s 0 < 10) : CT g yB_drawGoose 1 0 0 [gR b] (N, F) (CU N b F gU (zdeal1 s)) := by
  have ho := h.1
  have d1 := zdv_in (zdraw (s 7))
  have d2 := zdv_in (zdraw (zdraw (s 7)))
  have d3 := zdv_in (zdraw (zdraw (zdraw (s 7))))
  have d4 := zdv_in (zdraw (zdraw (zdraw (zdraw (s 7)))))
  have up7 : ∀ z : Int, va_up s 7 z 7 = z := fun _ => rfl
  refine CT.of' (L0 := [gR b, gU, gU, gU, gU]) plB (Nat.le_of_ble_eq_true rfl) rfl ?_
  refine go_aload_n (i := 0) dB_drawGoose_0 rfl rfl trivial ?_
  refine go_VX dB_drawGoose_1 vkB95 (by assumption) (List.cons_ne_nil _ _) (qB_draw h h103) rfl (by omega) (by omega) (by omega) rfl (fun _ => Nat.le_of_ble_eq_true rfl) ?_
  rintro _ _ ⟨rfl, F1, rfl, hC1, hF1⟩ -
  dsimp only [rp]
  have ho := hC1.1
  refine go_bipush dB_drawGoose_4 (inR_of _ rfl) rfl ?_
  refine go_irem dB_drawGoose_6 (by omega) ?_
  refine go_is1 dB_drawGoose_7 (Nat.le_of_ble_eq_true rfl) trivial ?_
  refine go_aload_n (i := 0) dB_drawGoose_8 rfl rfl trivial ?_
  refine go_VX dB_drawGoose_9 vkB95 (by assumption) (List.cons_ne_nil _ _) (qB_draw hC1 h103) rfl (by omega) (by omega) (by omega) rfl (fun _ => Nat.le_of_ble_eq_true rfl) ?_
  rintro _ _ ⟨rfl, F2, rfl, hC2, hF2⟩ -
  dsimp only [rp]
  rw [va_up_up, up7] at hC2
  rw [up7]
  have ho := hC2.1
  refine go_bipush dB_drawGoose_12 (inR_of _ rfl) rfl ?_
  refine go_irem dB_drawGoose_14 (by omega) ?_
  refine go_is2 dB_drawGoose_15 (Nat.le_of_ble_eq_true rfl) trivial ?_
  refine go_aload_n (i := 0) dB_drawGoose_16 rfl rfl trivial ?_
  refine go_VX dB_drawGoose_17 vkB95 (by assumption) (List.cons_ne_nil _ _) (qB_draw hC2 h103) rfl (by omega) (by omega) (by omega) rfl (fun _ => Nat.le_of_ble_eq_true rfl) ?_
  rintro _ _ ⟨rfl, F3, rfl, hC3, hF3⟩ -
  dsimp only [rp]
  rw [va_up_up, up7] at hC3
  rw [up7]
  have ho := hC3.1
  refine go_bipush dB_drawGoose_20 (inR_of _ rfl) rfl ?_
  refine go_irem dB_drawGoose_22 (by omega) ?_
  refine go_is3 dB_drawGoose_23 (Nat.le_of_ble_eq_true rfl) trivial ?_
  refine go_aload_n (i := 0) dB_drawGoose_24 rfl rfl trivial ?_
  refine go_VX dB_drawGoose_25 vkB95 (by assumption) (List.cons_ne_nil _ _) (qB_draw hC3 h103) rfl (by omega) (by omega) (by omega) rfl (fun _ => Nat.le_of_ble_eq_true rfl) ?_
  rintro _ _ ⟨rfl, F4, rfl, hC4, hF4⟩ -
  dsimp only [rp]
  rw [va_up_up, up7] at hC4
  rw [up7]
  have ho := hC4.1
  have hw4 : zW (va_up s 7 (zdraw (zdraw (zdraw (zdraw (s 7)))))) := zW_up hw (by omega) (by omega) (by omega) (by omega) (by omega) (fun _ => inR_zdraw _) (by omega) (fun i _ => by omega)
  refine go_bipush dB_drawGoose_28 (inR_of _ rfl) rfl ?_
  refine go_irem dB_drawGoose_30 (by omega) ?_
  refine go_is4 dB_drawGoose_31 (Nat.le_of_ble_eq_true rfl) trivial ?_
  refine go_aload_n (i := 0) dB_drawGoose_33 rfl rfl trivial ?_
  refine go_iload_n (i := 1) dB_drawGoose_34 rfl rfl ?_
  refine go_iload_n (i := 2) dB_drawGoose_35 rfl rfl ?_
  refine go_iload_n (i := 3) dB_drawGoose_36 rfl rfl ?_
  refine go_iload dB_drawGoose_37 rfl ?_
  refine go_VX dB_drawGoose_39 vkB99 (by assumption) (List.cons_ne_nil _ _) (qB_addGoose hC4 h103 hw4) rfl (by omega) (by omega) (by omega) rfl (fun _ => Nat.le_of_ble_eq_true rfl) ?_
  rintro _ _ ⟨rfl, F5, rfl, hC5, hF5⟩ -
  rw [if_neg (show ¬ va_up s 7 (zdraw (zdraw (zdraw (zdraw (s 7))))) 0 = 10 from by show ¬ s 0 = 10; omega)] at hC5
  dsimp only [rp]
  refine go_pop dB_drawGoose_42 trivial ?_
  refine go_vret dB_drawGoose_43 rfl ?_
  exact ⟨rfl, F5, rfl, hC5, (((hF1.tr hF2).tr hF3).tr hF4).tr hF5⟩
/-- the county at b becomes the one at b2 -/
theorem qB_become {b2 : Nat} {s2 : Nat → Int} (h : CTY F b s) (k : CTY F b2 s2) (h103 : b + 16 ≤ 103) (k103 : b2 + 16 ≤ 103) (hd : b + 16 ≤ b2 ∨ b2 + 16 ≤ b) (hw : zW s2) (h14 : s2 64 ≤ 14) : CT g yB_become 1 0 0 [gR b, gR b2] (N, F) (CU N b F gU s2) := by
  obtain ⟨hz1, hz⟩ := zmany_le hw
  have ho2 := k.1
  have ho := h.1
  have loop : ∀ (n i : Nat), i + n = zmany s2 → ∀ F1 : Nat → GC, (∀ j : Nat, ¬ (b + 6 ≤ j ∧ j < b + 6 + i) → F1 j = F j) → (∀ j : Nat, j < i → F1 (b + 6 + j) = cO 2 [gI (zk s2 j 0), gI (zk s2 j 1), gI (zk s2 j 2), gI (zk s2 j 3), gI (zk s2 j 4)]) → Go g yB_become 1 0 0 2 [gR b, gR b2, gI (i : Int)] [] (N, F1) (CU N b F gU s2) := by
    intro n
    induction n with
    | zero =>
      intro i hi F1 h1 h2
      obtain ⟨q0, q1, ⟨f2, h2', q2⟩, ⟨L, h3, q3⟩, ⟨f4, h4, q4⟩, ⟨f5, h5⟩, h6⟩ := h
      obtain ⟨p0, p1, ⟨v2, k2, r2⟩, ⟨L2, k3, r3⟩, ⟨v4, k4, r4⟩, ⟨v5, k5⟩, k6⟩ := k
      have o1 : F1 b = cO 1 (cFld b s) := by rw [h1 _ (by omega)]; exact q0
      have o2 : F1 b2 = cO 1 (cFld b2 s2) := by rw [h1 _ (by omega)]; exact p0
      have a2 : F1 (b + 2) = cI 6 f2 := by rw [h1 _ (by omega)]; exact h2'
      have c2 : F1 (b2 + 2) = cI 6 v2 := by rw [h1 _ (by omega)]; exact k2
      have a3 : F1 (b + 3) = cR 3 14 L := by rw [h1 _ (by omega)]; exact h3
      have c3 : F1 (b2 + 3) = cR 3 14 L2 := by rw [h1 _ (by omega)]; exact k3
      have a4 : F1 (b + 4) = cI 3 f4 := by rw [h1 _ (by omega)]; exact h4
      have c4 : F1 (b2 + 4) = cI 3 v4 := by rw [h1 _ (by omega)]; exact k4
      refine go_iload_n (i := 2) dB_become_2 rfl rfl ?_
      refine go_aload_n (i := 1) dB_become_3 rfl rfl trivial ?_
      refine go_getf dB_become_4 flB33 (by assumption) rfl ?_
      refine go_ic_ge 31 dB_become_7 rfl (fun h7 => ?_) (fun h7 => absurd (by omega) h7)
      refine go_aload_n (i := 1) dB_become_31 rfl rfl trivial ?_
      refine go_getf dB_become_32 flB17 (by assumption) rfl ?_
      refine go_iconst dB_become_35 (inR_of _ rfl) ?_
      refine go_aload_n (i := 0) dB_become_36 rfl rfl trivial ?_
      refine go_getf dB_become_37 flB17 (by assumption) rfl ?_
      refine go_iconst dB_become_40 (inR_of _ rfl) ?_
      refine go_bipush dB_become_41 (inR_of _ rfl) rfl ?_
      refine go_acI dB_become_43 (acB73 rfl) c2 a2 (by omega) (by omega) (by omega) (by omega) (by omega) (Nat.le_of_ble_eq_true rfl) (by omega) ?_
      show Go g yB_become 1 0 0 _ _ _ (N, va_up F1 (b + 2) (cI 6 (va_cpy v2 f2 0 0 6))) _
      generalize hF2 : va_up F1 (b + 2) (cI 6 (va_cpy v2 f2 0 0 6)) = F2
      have g1 : ∀ j : Nat, j ≠ b + 2 → F2 j = F1 j := fun j hj => by rw [← hF2, va_up_ne _ _ hj]
      have o1' : F2 b = cO 1 (cFld b s) := by rw [g1 _ (by omega)]; exact o1
      have o2' : F2 b2 = cO 1 (cFld b2 s2) := by rw [g1 _ (by omega)]; exact o2
      have e2 : F2 (b + 2) = cI 6 (va_cpy v2 f2 0 0 6) := by rw [← hF2, va_up_self]
      have lw : ∀ (n i : Nat), i + n = (s2 64).toNat → ∀ (F3 : Nat → GC) (L5 : Nat → Option Nat), F3 (b + 3) = cR 3 14 L5 → (∀ j : Nat, j ≠ b + 3 → F3 j = F2 j) → (∀ t : Nat, t < i → L5 t = L2 t) → (∀ t : Nat, i ≤ t → L5 t = L t) → (∀ (F3 : Nat → GC) (L5 : Nat → Option Nat), F3 (b + 3) = cR 3 14 L5 → (∀ j : Nat, j ≠ b + 3 → F3 j = F2 j) → (∀ t : Nat, (t : Int) < s2 64 → L5 t = L2 t) → (∀ t : Nat, ¬ (t : Int) < s2 64 → L5 t = L t) → ∀ v : Int, Go g yB_become 1 0 0 74 [gR b, gR b2, gI v] [] (N, F3) (CU N b F gU s2)) → Go g yB_become 1 0 0 48 [gR b, gR b2, gI (i : Int)] [] (N, F3) (CU N b F gU s2) := by
        intro n
        induction n with
        | zero =>
          intro i hi F3 L5 e3 g2 l1 l2 fin
          have o2'' : F3 b2 = cO 1 (cFld b2 s2) := by rw [g2 _ (by omega)]; exact o2'
          refine go_iload_n (i := 2) dB_become_48 rfl rfl ?_
          refine go_aload_n (i := 1) dB_become_49 rfl rfl trivial ?_
          refine go_getf dB_become_50 flB37 (by assumption) rfl ?_
          refine go_ic_ge 74 dB_become_53 rfl (fun h53 => ?_) (fun h53 => absurd (by omega) h53)
          exact fin F3 L5 e3 g2 (fun t ht => l1 t (by omega)) (fun t ht => l2 t (by omega)) _
        | succ n ih =>
          intro i hi F3 L5 e3 g2 l1 l2 fin
          have o1'' : F3 b = cO 1 (cFld b s) := by rw [g2 _ (by omega)]; exact o1'
          have o2'' : F3 b2 = cO 1 (cFld b2 s2) := by rw [g2 _ (by omega)]; exact o2'
          have e4 : F3 (b2 + 3) = cR 3 14 L2 := by rw [g2 _ (by omega), g1 _ (by omega)]; exact c3
          obtain ⟨a, w1, -⟩ := r3.2 i (by omega)
          obtain ⟨w, fs, w2, w3⟩ := r3.1 i (by omega) a w1
          have w4 : F3 a = cO 3 fs := by rw [g2 _ (by omega), g1 _ (by omega), h1 _ (by omega)]; exact w3
          refine go_iload_n (i := 2) dB_become_48 rfl rfl ?_
          refine go_aload_n (i := 1) dB_become_49 rfl rfl trivial ?_
          refine go_getf dB_become_50 flB37 (by assumption) rfl ?_
          refine go_ic_ge 74 dB_become_53 rfl (fun h53 => absurd h53 (by omega)) (fun h53 => ?_)
          refine go_aload_n (i := 0) dB_become_56 rfl rfl trivial ?_
          refine go_getf dB_become_57 flB23 (by assumption) rfl ?_
          refine go_iload_n (i := 2) dB_become_60 rfl rfl ?_
          refine go_aload_n (i := 1) dB_become_61 rfl rfl trivial ?_
          refine go_getf dB_become_62 flB23 (by assumption) rfl ?_
          refine go_iload_n (i := 2) dB_become_65 rfl rfl ?_
          refine go_aald' 2 "GooseCounty$Law" i a dB_become_66 e4 rfl rfl (by omega) w1 ?_
          refine go_aast 2 "GooseCounty$Law" dB_become_67 e3 w4 w2 rfl rfl (by omega) (by omega) ?_
          refine go_inc2 (((i + 1 : Nat) : Int)) dB_become_68 (Nat.le_of_ble_eq_true rfl) trivial (by (try simp (discharger := (unfold inR; omega)) only [w32_id]) <;> omega) ?_
          refine go_goto 48 dB_become_71 rfl ?_
          refine ih (i + 1) (by omega) _ _ (va_up_self _ _ _) (fun j hj => ?_) (fun t ht => ?_) (fun t ht => ?_) fin
          · rw [va_up_ne _ _ hj]; exact g2 j hj
          · by_cases q : t = i
            · subst q; exact (va_up_self _ _ _).trans w1.symm
            · exact (va_up_ne _ _ (by omega)).trans (l1 t (by omega))
          · exact (va_up_ne _ _ (by omega)).trans (l2 t (by omega))
      refine go_iconst dB_become_46 (inR_of _ rfl) ?_
      refine go_is2 dB_become_47 (Nat.le_of_ble_eq_true rfl) trivial ?_
      refine lw (s2 64).toNat 0 (by omega) F2 L (show F2 (b + 3) = cR 3 14 L by rw [g1 _ (by omega)]; exact a3) (fun _ _ => rfl) (fun t ht => absurd ht (by omega)) (fun _ _ => rfl) ?_
      intro F3 L5 e3 g2 l1 l2 v
      have o1'' : F3 b = cO 1 (cFld b s) := by rw [g2 _ (by omega)]; exact o1'
      have o2'' : F3 b2 = cO 1 (cFld b2 s2) := by rw [g2 _ (by omega)]; exact o2'
      refine go_aload_n (i := 1) dB_become_74 rfl rfl trivial ?_
      refine go_getf dB_become_75 flB27 (by assumption) rfl ?_
      refine go_iconst dB_become_78 (inR_of _ rfl) ?_
      refine go_aload_n (i := 0) dB_become_79 rfl rfl trivial ?_
      refine go_getf dB_become_80 flB27 (by assumption) rfl ?_
      refine go_iconst dB_become_83 (inR_of _ rfl) ?_
      refine go_iconst dB_become_84 (inR_of _ rfl) ?_
      refine go_acI dB_become_85 (acB73 rfl) (show F3 (b2 + 4) = cI 3 v4 by rw [g2 _ (by omega), g1 _ (by omega)]; exact c4) (show F3 (b + 4) = cI 3 f4 by rw [g2 _ (by omega), g1 _ (by omega)]; exact a4) (by omega) (by omega) (by omega) (by omega) (by omega) (Nat.le_of_ble_eq_true rfl) (by omega) ?_
      show Go g yB_become 1 0 0 _ _ _ (N, va_up F3 (b + 4) (cI 3 (va_cpy v4 f4 0 0 3))) _
      generalize hF4 : va_up F3 (b + 4) (cI 3 (va_cpy v4 f4 0 0 3)) = F4
      have g3 : ∀ j : Nat, j ≠ b + 4 → F4 j = F3 j := fun j hj => by rw [← hF4, va_up_ne _ _ hj]
      have o1'' : F4 b = cO 1 (cFld b s) := by rw [g3 _ (by omega)]; exact o1''
      have e4 : F4 (b + 4) = cI 3 (va_cpy v4 f4 0 0 3) := by rw [← hF4, va_up_self]
      have o2'' : F4 b2 = cO 1 (cFld b2 s2) := by rw [g3 _ (by omega)]; exact o2''
      have oo : ∀ c : GC, va_up F4 b c b2 = cO 1 (cFld b2 s2) := fun c => by rw [va_up_ne _ _ (by omega)]; exact o2''
      refine go_aload_n (i := 0) dB_become_88 rfl rfl trivial ?_
      refine go_aload_n (i := 1) dB_become_89 rfl rfl trivial ?_
      refine go_getf dB_become_90 flB33 (by assumption) rfl ?_
      refine go_putf dB_become_93 flB33 o1'' (by show 5 < 14; omega) rfl rfl ?_
      refine go_aload_n (i := 0) dB_become_96 rfl rfl trivial ?_
      refine go_aload_n (i := 1) dB_become_97 rfl rfl trivial ?_
      refine go_getf dB_become_98 flB37 (oo _) rfl ?_
      refine go_putf dB_become_101 flB37 (va_up_self _ _ _) (by show 6 < 14; omega) rfl rfl ?_
      rw [va_up_up]
      refine go_aload_n (i := 0) dB_become_104 rfl rfl trivial ?_
      refine go_aload_n (i := 1) dB_become_105 rfl rfl trivial ?_
      refine go_getf dB_become_106 flB40 (oo _) rfl ?_
      refine go_putf dB_become_109 flB40 (va_up_self _ _ _) (by show 7 < 14; omega) rfl rfl ?_
      rw [va_up_up]
      refine go_aload_n (i := 0) dB_become_112 rfl rfl trivial ?_
      refine go_aload_n (i := 1) dB_become_113 rfl rfl trivial ?_
      refine go_getf dB_become_114 flB43 (oo _) rfl ?_
      refine go_putf dB_become_117 flB43 (va_up_self _ _ _) (by show 8 < 14; omega) rfl rfl ?_
      rw [va_up_up]
      refine go_aload_n (i := 0) dB_become_120 rfl rfl trivial ?_
      refine go_aload_n (i := 1) dB_become_121 rfl rfl trivial ?_
      refine go_getf dB_become_122 flB46 (oo _) rfl ?_
      refine go_putf dB_become_125 flB46 (va_up_self _ _ _) (by show 9 < 14; omega) rfl rfl ?_
      rw [va_up_up]
      refine go_aload_n (i := 0) dB_become_128 rfl rfl trivial ?_
      refine go_aload_n (i := 1) dB_become_129 rfl rfl trivial ?_
      refine go_getf dB_become_130 flB49 (oo _) rfl ?_
      refine go_putf dB_become_133 flB49 (va_up_self _ _ _) (by show 10 < 14; omega) rfl rfl ?_
      rw [va_up_up]
      refine go_aload_n (i := 0) dB_become_136 rfl rfl trivial ?_
      refine go_aload_n (i := 1) dB_become_137 rfl rfl trivial ?_
      refine go_getf dB_become_138 flB52 (oo _) rfl ?_
      refine go_putf dB_become_141 flB52 (va_up_self _ _ _) (by show 11 < 14; omega) rfl rfl ?_
      rw [va_up_up]
      refine go_aload_n (i := 0) dB_become_144 rfl rfl trivial ?_
      refine go_aload_n (i := 1) dB_become_145 rfl rfl trivial ?_
      refine go_getf dB_become_146 flB55 (oo _) rfl ?_
      refine go_putf dB_become_149 flB55 (va_up_self _ _ _) (by show 12 < 14; omega) rfl rfl ?_
      rw [va_up_up]
      refine go_aload_n (i := 0) dB_become_152 rfl rfl trivial ?_
      refine go_aload_n (i := 1) dB_become_153 rfl rfl trivial ?_
      refine go_getf dB_become_154 flB58 (oo _) rfl ?_
      refine go_putf dB_become_157 flB58 (va_up_self _ _ _) (by show 13 < 14; omega) rfl rfl ?_
      rw [va_up_up]
      refine go_vret dB_become_160 rfl ?_
      have out : ∀ j : Nat, ¬ inC b j → va_up F4 b (cO 1 (cFld b s2)) j = F j := fun j hj => by
        have hj' : ¬ (b ≤ j ∧ j < b + 16) := hj
        rw [va_up_ne _ _ (by omega), g3 _ (by omega), g2 _ (by omega), g1 _ (by omega), h1 _ (by omega)]
      have hfk : FK (inC b) F (va_up F4 b (cO 1 (cFld b s2))) := fun j hj => ⟨fun _ => out j hj, fun n f e => ⟨f, by rw [out j hj]; exact e⟩⟩
      refine ⟨rfl, va_up F4 b (cO 1 (cFld b s2)), rfl, ⟨va_up_self _ _ _, ?_, ⟨_, by rw [va_up_ne _ _ (by omega), g3 _ (by omega), g2 _ (by omega)]; exact e2, fun y hy => ?_⟩, ⟨_, by rw [va_up_ne _ _ (by omega), g3 _ (by omega)]; exact e3, ?_⟩, ⟨_, by rw [va_up_ne _ _ (by omega)]; exact e4, fun w hw => ?_⟩, ⟨f5, by rw [va_up_ne _ _ (by omega), g3 _ (by omega), g2 _ (by omega), g1 _ (by omega), h1 _ (by omega)]; exact h5⟩, fun j hj => ?_⟩, hfk⟩
      · rw [va_up_ne _ _ (by omega), g3 _ (by omega), g2 _ (by omega), g1 _ (by omega), h1 _ (by omega)]; exact q1
      · unfold va_cpy; rw [if_pos (by omega), ← r2 y hy]; congr 1; omega
      · have r3' := r3.fk hfk (fun k hk q => by have := q.2; omega)
        have q3' := q3.fk hfk (fun k hk q => by have := q.2; omega)
        refine ⟨fun t ht a ha => ?_, fun t ht => ?_⟩
        · by_cases c : (t : Int) < s2 64
          · exact r3'.1 t ht a (by rw [← l1 t c]; exact ha)
          · exact q3'.1 t ht a (by rw [← l2 t c]; exact ha)
        · obtain ⟨a, w1, w2⟩ := r3'.2 t ht
          exact ⟨a, by rw [l1 t ht]; exact w1, w2⟩
      · unfold va_cpy; rw [if_pos (by omega), ← r4 w hw]; congr 1; omega
      · rw [va_up_ne _ _ (by omega), g3 _ (by omega), g2 _ (by omega), g1 _ (by omega)]
        by_cases c : j < i
        · refine ⟨fun w => zk s2 j w, h2 j c, fun _ w hw => zk_nat s2 j w⟩
        · rw [h1 _ (by omega)]
          obtain ⟨f, e, -⟩ := h6 j hj
          exact ⟨f, e, fun q => absurd q (by omega)⟩
    | succ n ih =>
      intro i hi F1 h1 h2
      have o1 : F1 b = cO 1 (cFld b s) := by rw [h1 _ (by omega)]; exact ho
      have o2 : F1 b2 = cO 1 (cFld b2 s2) := by rw [h1 _ (by omega)]; exact ho2
      have r1 : F1 (b + 1) = cR 2 10 (gRow b) := by rw [h1 _ (by omega)]; exact h.2.1
      have r2 : F1 (b2 + 1) = cR 2 10 (gRow b2) := by rw [h1 _ (by omega)]; exact k.2.1
      obtain ⟨f, e, -⟩ := h.2.2.2.2.2.2 i (by omega)
      have hg1 : F1 (b + 6 + i) = cO 2 (g5 f) := by rw [h1 _ (by omega)]; exact e
      have hg2 : F1 (b2 + 6 + i) = cO 2 (g5 (fun w => zk s2 i w)) := by rw [h1 _ (by omega)]; exact k.gs (i := i) (by omega) (by omega)
      refine go_iload_n (i := 2) dB_become_2 rfl rfl ?_
      refine go_aload_n (i := 1) dB_become_3 rfl rfl trivial ?_
      refine go_getf dB_become_4 flB33 (by assumption) rfl ?_
      refine go_ic_ge 31 dB_become_7 rfl (fun h7 => absurd h7 (by omega)) (fun h7 => ?_)
      refine go_aload_n (i := 0) dB_become_10 rfl rfl trivial ?_
      refine go_getf dB_become_11 flB11 (by assumption) rfl ?_
      refine go_iload_n (i := 2) dB_become_14 rfl rfl ?_
      refine go_aald' 1 "GooseCounty$Goose" (i) (b + 6 + i) dB_become_15 (by assumption) rfl (by omega) (by omega) (gRow_at (by omega)) ?_
      refine go_aload_n (i := 1) dB_become_16 rfl rfl trivial ?_
      refine go_getf dB_become_17 flB11 (by assumption) rfl ?_
      refine go_iload_n (i := 2) dB_become_20 rfl rfl ?_
      refine go_aald' 1 "GooseCounty$Goose" (i) (b2 + 6 + i) dB_become_21 (by assumption) rfl (by omega) (by omega) (gRow_at (by omega)) ?_
      refine go_VX dB_become_22 vkB69 (by assumption) (List.cons_ne_nil _ _) (qG_become hg1 hg2) rfl (by omega) (by omega) (by omega) rfl (fun _ => Nat.le_of_ble_eq_true rfl) ?_
      rintro _ _ ⟨rfl, rfl⟩ -
      dsimp only [rp]
      refine go_inc2 (((i + 1 : Nat) : Int)) dB_become_25 (Nat.le_of_ble_eq_true rfl) trivial (by (try simp (discharger := (unfold inR; omega)) only [w32_id]) <;> omega) ?_
      refine go_goto 2 dB_become_28 rfl ?_
      refine ih (i + 1) (by omega) _ (fun j hj => ?_) (fun j hj => ?_)
      · rw [va_up_ne _ _ (by omega)]; exact h1 j (by omega)
      · by_cases q : j = i
        · subst q; rw [va_up_self]; rfl
        · rw [va_up_ne _ _ (by omega)]; exact h2 j (by omega)
  refine CT.of' (L0 := [gR b, gR b2, gU]) plB (Nat.le_of_ble_eq_true rfl) rfl ?_
  refine go_iconst dB_become_0 (inR_of _ rfl) ?_
  refine go_is2 dB_become_1 (Nat.le_of_ble_eq_true rfl) trivial ?_
  exact loop (zmany s2) 0 (by omega) F (fun _ _ => rfl) (fun j hj => absurd hj (by omega))
end CBECOME
