section MDEAL
variable {g : GX} {N r : Nat} {F F1 : Nat → GC} {m m1 : Nat → Nat → Int}
theorem zadd_0 (s : Nat → Int) (k a b c : Int) : zadd s k a b c 0 = s 0 + 1 := by
  unfold zadd
  rw [va_up_ne _ _ (by omega), va_up_ne _ _ (by omega), va_up_ne _ _ (by omega), va_up_ne _ _ (by omega), va_up_ne _ _ (by omega), va_up_self]
theorem zadd_out (s : Nat → Int) (k a b c : Int) {j : Nat} (h0 : j ≠ 0) (h : j < 14 + 5 * (s 0).toNat ∨ 19 + 5 * (s 0).toNat ≤ j) : zadd s k a b c j = s j := by
  unfold zadd
  rw [va_up_ne _ _ (by omega), va_up_ne _ _ (by omega), va_up_ne _ _ (by omega), va_up_ne _ _ (by omega), va_up_ne _ _ (by omega), va_up_ne _ _ h0]
theorem zadd_new (s : Nat → Int) (k a b c : Int) : zadd s k a b c (14 + 5 * (s 0).toNat) = k ∧ zadd s k a b c (15 + 5 * (s 0).toNat) = a ∧ zadd s k a b c (16 + 5 * (s 0).toNat) = b ∧ zadd s k a b c (17 + 5 * (s 0).toNat) = c ∧ zadd s k a b c (18 + 5 * (s 0).toNat) = 0 := by
  unfold zadd
  refine ⟨?_, ?_, ?_, ?_, ?_⟩
  · rw [va_up_ne _ _ (by omega), va_up_ne _ _ (by omega), va_up_ne _ _ (by omega), va_up_ne _ _ (by omega), va_up_self]
  · rw [va_up_ne _ _ (by omega), va_up_ne _ _ (by omega), va_up_ne _ _ (by omega), va_up_self]
  · rw [va_up_ne _ _ (by omega), va_up_ne _ _ (by omega), va_up_self]
  · rw [va_up_ne _ _ (by omega), va_up_self]
  · rw [va_up_self]
theorem zadd_W {s : Nat → Int} (h : zW s) (h10 : s 0 < 10) {k a b c : Int} (hk : 0 ≤ k ∧ k ≤ 5) (ha : 0 ≤ a ∧ a ≤ 99) (hb : 0 ≤ b ∧ b ≤ 99) (hc : 0 ≤ c ∧ c ≤ 5) : zW (zadd s k a b c) := by
  obtain ⟨w1, w2, w3, w4, w5⟩ := h
  have o : ∀ j : Nat, j ≠ 0 → j < 14 → zadd s k a b c j = s j := fun j h0 h1 => zadd_out s k a b c h0 (by omega)
  have e0 := zadd_0 s k a b c
  have hn := zadd_new s k a b c
  unfold zW
  rw [e0, o 1 (by omega) (by omega), o 2 (by omega) (by omega), o 3 (by omega) (by omega), o 4 (by omega) (by omega), o 5 (by omega) (by omega), o 6 (by omega) (by omega), o 7 (by omega) (by omega)]
  refine ⟨by omega, w2, w3, fun y hy => ?_, fun i hi => ?_⟩
  · rw [o _ (by omega) (by omega)]; exact w4 y hy
  · by_cases e : i = (s 0).toNat
    · subst e
      rw [hn.1, hn.2.1, hn.2.2.1, hn.2.2.2.1, hn.2.2.2.2]
      omega
    · have hi2 : (i : Int) < s 0 := by omega
      rw [zadd_out s k a b c (by omega) (by omega), zadd_out s k a b c (by omega) (by omega), zadd_out s k a b c (by omega) (by omega), zadd_out s k a b c (by omega) (by omega), zadd_out s k a b c (by omega) (by omega)]
      exact w5 i hi2
def zdeal1 (s : Nat → Int) : Nat → Int := zadd (va_up s 7 (zdraw (zdraw (zdraw (zdraw (s 7)))))) ((zdv (zdraw (s 7))).tmod 6) ((zdv (zdraw (zdraw (s 7)))).tmod 100) ((zdv (zdraw (zdraw (zdraw (s 7))))).tmod 40) ((zdv (zdraw (zdraw (zdraw (zdraw (s 7)))))).tmod 6)
def zdeal (s : Nat → Int) : Nat → Nat → Int
  | 0 => s
  | k + 1 => zdeal1 (zdeal s k)
theorem inR_zdraw (z : Int) : inR (zdraw z) := w32_in _
theorem zdeal1_W {s : Nat → Int} (h : zW s) (h10 : s 0 < 10) : zW (zdeal1 s) ∧ zdeal1 s 0 = s 0 + 1 ∧ zdeal1 s 6 = s 6 ∧ ∀ j : Nat, 64 ≤ j → zdeal1 s j = s j := by
  have e0 : ∀ z, va_up s 7 z 0 = s 0 := fun z => va_up_ne _ _ (by omega)
  have hn := h.1.1
  have w7 : zW (va_up s 7 (zdraw (zdraw (zdraw (zdraw (s 7)))))) := zW_up h (by omega) (by omega) (by omega) (by omega) (by omega) (fun _ => inR_zdraw _) (by omega) (fun i' v' h1 h2 h3 => by omega)
  have t1 := tmod_in (b := 6) (zdv_in (zdraw (s 7))).1 (by omega)
  have t2 := tmod_in (b := 100) (zdv_in (zdraw (zdraw (s 7)))).1 (by omega)
  have t3 := tmod_in (b := 40) (zdv_in (zdraw (zdraw (zdraw (s 7))))).1 (by omega)
  have t4 := tmod_in (b := 6) (zdv_in (zdraw (zdraw (zdraw (zdraw (s 7)))))).1 (by omega)
  unfold zdeal1
  refine ⟨zadd_W w7 (by rw [e0]; exact h10) (by omega) (by omega) (by omega) (by omega), ?_, ?_, fun j hj => ?_⟩
  · rw [zadd_0, e0]
  · rw [zadd_out _ _ _ _ _ (by omega) (by rw [e0]; omega), va_up_ne _ _ (by omega)]
  · rw [zadd_out _ _ _ _ _ (by omega) (by rw [e0]; omega), va_up_ne _ _ (by omega)]
theorem zdeal_W {s : Nat → Int} (h : zW s) : ∀ k : Nat, s 0 + k ≤ 10 → zW (zdeal s k) ∧ zdeal s k 0 = s 0 + k ∧ zdeal s k 6 = s 6 ∧ ∀ j : Nat, 64 ≤ j → zdeal s k j = s j
  | 0, _ => ⟨h, by simp [zdeal], rfl, fun _ _ => rfl⟩
  | k + 1, hk => by
    obtain ⟨w, e0, e6, ej⟩ := zdeal_W h k (by omega)
    obtain ⟨w', e0', e6', ej'⟩ := zdeal1_W w (by omega)
    show zW (zdeal1 (zdeal s k)) ∧ zdeal1 (zdeal s k) 0 = _ ∧ zdeal1 (zdeal s k) 6 = _ ∧ ∀ j : Nat, 64 ≤ j → zdeal1 (zdeal s k) j = _
    exact ⟨w', by rw [e0', e0]; omega, e6'.trans e6, fun j hj => (ej' j hj).trans (ej j hj)⟩
def zdealt (s : Nat → Int) (n : Int) : Nat := min n.toNat (10 - (s 0).toNat)
def v_deal (s : Nat → Int) (n : Int) : Int := if 1 ≤ n ∧ n ≤ 10 then (zdealt s n : Nat) else BAD
def u_deal (s : Nat → Int) (n : Int) : Nat → Int := if 1 ≤ n ∧ n ≤ 10 then zdeal s (zdealt s n) else s
theorem bM_deal (hM : MOD F r m) (hw : zW (m 0)) {n : Int} : CT g yM_deal 2 0 0 [gR r, gI n] (N, F) (MB N r F (gI (v_deal (m 0) n)) (va_up m 0 (u_deal (m 0) n))) := by
  have hn0 := hw.1.1
  have hn1 := hw.1.2.1
  have last : ∀ (k : Nat) (x3 x4 x5 : GV) (F1 : Nat → GC) (m1 : Nat → Nat → Int), 1 ≤ n ∧ n ≤ 10 → MOD F1 r m1 → FR r F F1 → m1 0 = zdeal (m 0) k → SB [0, 4, 5] m m1 → k = zdealt (m 0) n → Go g yM_deal 2 0 0 82 [gR r, gI n, gI k, x3, x4, x5] [] (N, F1) (MB N r F (gI (v_deal (m 0) n)) (va_up m 0 (u_deal (m 0) n))) := by
    intro k x3 x4 x5 F1 m1 hc hM1 hF1 e1 hS1 hk
    refine go_iload_n (i := 2) dM_deal_82 rfl rfl ?_
    refine go_iret dM_deal_83 rfl rfl ?_
    refine ⟨by unfold v_deal; rw [if_pos hc, hk], F1, m1, rfl, hM1, hF1, EQ.sb ?_ hS1 (by simp)⟩
    unfold u_deal
    rw [if_pos hc, ← hk]
    exact e1
  have loop : ∀ (j k : Nat), k + j = zdealt (m 0) n → ∀ (x3 x4 x5 : GV) (F1 : Nat → GC) (m1 : Nat → Nat → Int), 1 ≤ n ∧ n ≤ 10 → MOD F1 r m1 → FR r F F1 → m1 0 = zdeal (m 0) k → SB [0, 4, 5] m m1 → Go g yM_deal 2 0 0 17 [gR r, gI n, gI k, x3, x4, x5] [] (N, F1) (MB N r F (gI (v_deal (m 0) n)) (va_up m 0 (u_deal (m 0) n))) := by
    intro j
    induction j with
    | zero =>
      intro k hk x3 x4 x5 F1 m1 hc hM1 hF1 e1 hS1
      have hz : zdealt (m 0) n = min n.toNat (10 - (m 0 0).toNat) := rfl
      have ho := hM1.1
      have a1 := hM1.a0
      obtain ⟨-, e0, -, -⟩ := zdeal_W hw k (by omega)
      refine go_iload_n (i := 2) dM_deal_17 rfl rfl ?_
      refine go_iload_n (i := 1) dM_deal_18 rfl rfl ?_
      refine go_ic_ge 82 dM_deal_19 rfl (fun h19 => ?_) (fun h19 => ?_)
      · exact last k _ _ _ F1 m1 hc hM1 hF1 e1 hS1 (by omega)
      · refine go_aload_n (i := 0) dM_deal_22 rfl rfl trivial ?_
        refine go_getf dM_deal_23 flM7 (by assumption) rfl ?_
        refine go_iconst dM_deal_26 (inR_of _ rfl) ?_
        refine go_iald' 0 _ dM_deal_27 (by assumption) rfl (by omega) rfl ?_
        refine go_bipush dM_deal_28 (inR_of _ rfl) rfl ?_
        rw [e1, e0]
        refine go_ic_ge 82 dM_deal_30 rfl (fun h30 => ?_) (fun h30 => absurd (by omega) h30)
        exact last k _ _ _ F1 m1 hc hM1 hF1 e1 hS1 (by omega)
    | succ j ih =>
      intro k hk x3 x4 x5 F1 m1 hc hM1 hF1 e1 hS1
      have hz : zdealt (m 0) n = min n.toNat (10 - (m 0 0).toNat) := rfl
      have ho := hM1.1
      have a1 := hM1.a0
      obtain ⟨-, e0, -, -⟩ := zdeal_W hw k (by omega)
      refine go_iload_n (i := 2) dM_deal_17 rfl rfl ?_
      refine go_iload_n (i := 1) dM_deal_18 rfl rfl ?_
      refine go_ic_ge 82 dM_deal_19 rfl (fun h19 => absurd h19 (by omega)) (fun h19 => ?_)
      refine go_aload_n (i := 0) dM_deal_22 rfl rfl trivial ?_
      refine go_getf dM_deal_23 flM7 (by assumption) rfl ?_
      refine go_iconst dM_deal_26 (inR_of _ rfl) ?_
      refine go_iald' 0 _ dM_deal_27 (by assumption) rfl (by omega) rfl ?_
      refine go_bipush dM_deal_28 (inR_of _ rfl) rfl ?_
      rw [e1, e0]
      refine go_ic_ge 82 dM_deal_30 rfl (fun h30 => absurd h30 (by omega)) (fun h30 => ?_)
      refine go_aload_n (i := 0) dM_deal_33 rfl rfl trivial ?_
      refine go_VX dM_deal_34 vkM153 (by assumption) (List.cons_ne_nil _ _) (qM_draw hM1) rfl (by omega) (by omega) (by omega) rfl (fun _ => Nat.le_of_ble_eq_true rfl) ?_
      rintro _ _ ⟨rfl, F2, m2, rfl, hM2, hF2, e2, hS2⟩ -
      dsimp only [rp]
      have ho2 := hM2.1
      have e27 : m2 0 7 = zdraw (m1 0 7) := by rw [e2]; rfl
      refine go_bipush dM_deal_37 (inR_of _ rfl) rfl ?_
      refine go_irem dM_deal_39 (by omega) ?_
      refine go_is3 dM_deal_40 (Nat.le_of_ble_eq_true rfl) trivial ?_
      refine go_aload_n (i := 0) dM_deal_41 rfl rfl trivial ?_
      refine go_VX dM_deal_42 vkM153 (by assumption) (List.cons_ne_nil _ _) (qM_draw hM2) rfl (by omega) (by omega) (by omega) rfl (fun _ => Nat.le_of_ble_eq_true rfl) ?_
      rintro _ _ ⟨rfl, F3, m3, rfl, hM3, hF3, e3, hS3⟩ -
      dsimp only [rp]
      rw [e27] at e3 ⊢
      have ho3 := hM3.1
      have e37 : m3 0 7 = zdraw (zdraw (m1 0 7)) := by rw [e3]; rfl
      refine go_bipush dM_deal_45 (inR_of _ rfl) rfl ?_
      refine go_irem dM_deal_47 (by omega) ?_
      refine go_is4 dM_deal_48 (Nat.le_of_ble_eq_true rfl) trivial ?_
      refine go_aload_n (i := 0) dM_deal_50 rfl rfl trivial ?_
      refine go_VX dM_deal_51 vkM153 (by assumption) (List.cons_ne_nil _ _) (qM_draw hM3) rfl (by omega) (by omega) (by omega) rfl (fun _ => Nat.le_of_ble_eq_true rfl) ?_
      rintro _ _ ⟨rfl, F4, m4, rfl, hM4, hF4, e4, hS4⟩ -
      dsimp only [rp]
      rw [e37] at e4 ⊢
      have ho4 := hM4.1
      have e47 : m4 0 7 = zdraw (zdraw (zdraw (m1 0 7))) := by rw [e4]; rfl
      refine go_bipush dM_deal_54 (inR_of _ rfl) rfl ?_
      refine go_irem dM_deal_56 (by omega) ?_
      refine go_is5 dM_deal_57 (Nat.le_of_ble_eq_true rfl) trivial ?_
      refine go_aload_n (i := 0) dM_deal_59 rfl rfl trivial ?_
      refine go_iload_n (i := 3) dM_deal_60 rfl rfl ?_
      refine go_iload dM_deal_61 rfl ?_
      refine go_iload dM_deal_63 rfl ?_
      refine go_aload_n (i := 0) dM_deal_65 rfl rfl trivial ?_
      refine go_VX dM_deal_66 vkM153 (by assumption) (List.cons_ne_nil _ _) (qM_draw hM4) rfl (by omega) (by omega) (by omega) rfl (fun _ => Nat.le_of_ble_eq_true rfl) ?_
      rintro _ _ ⟨rfl, F5, m5, rfl, hM5, hF5, e5, hS5⟩ -
      dsimp only [rp]
      rw [e47] at e5 ⊢
      have ho5 := hM5.1
      have e5' : m5 0 = va_up (m1 0) 7 (zdraw (zdraw (zdraw (zdraw (m1 0 7))))) := by
        rw [e5, e4, bx_uu, e3, bx_uu, e2, bx_uu]
      have e50 : m5 0 0 = m 0 0 + k := by rw [e5', va_up_ne _ _ (by omega), e1, e0]
      refine go_bipush dM_deal_69 (inR_of _ rfl) rfl ?_
      refine go_irem dM_deal_71 (by omega) ?_
      refine go_VX dM_deal_72 vkM109 (by assumption) (List.cons_ne_nil _ _) (qM_adds hM5 (by omega) (by omega)) rfl (by omega) (by omega) (by omega) rfl (fun _ => Nat.le_of_ble_eq_true rfl) ?_
      rintro _ _ ⟨rfl, F6, m6, rfl, hM6, hF6, e6, hS6⟩ -
      dsimp only [rp]
      refine go_pop dM_deal_75 trivial ?_
      refine go_inc2 (((k + 1 : Nat) : Int)) dM_deal_76 (Nat.le_of_ble_eq_true rfl) trivial (by (try simp (discharger := (unfold inR; omega)) only [w32_id]) <;> omega) ?_
      refine go_goto 17 dM_deal_79 rfl ?_
      refine ih (k + 1) (by omega) _ _ _ F6 m6 hc hM6 (((((hF1.tr hF2).tr hF3).tr hF4).tr hF5).tr hF6) ?_ (((((hS1.tr hS2).tr hS3).tr hS4).tr hS5).tr hS6)
      rw [e6, e5', e1]
      rfl
  refine CT.of' (L0 := [gR r, gI n, gU, gU, gU, gU]) plM (Nat.le_of_ble_eq_true rfl) rfl ?_
  refine go_iload_n (i := 1) dM_deal_0 rfl rfl ?_
  refine go_i2l dM_deal_1 ?_
  refine go_lconst (x := 1) dM_deal_2 (inL_of2 _ rfl) rfl ?_
  refine go_ldc2 dM_deal_3 kcM151 (inL_of2 _ rfl) ?_
  refine go_SP dM_deal_6 vkM65 (ct_in _ _ _) rfl (by omega) rfl (fun _ => Nat.le_of_ble_eq_true rfl) ?_
  refine go_if_ne 15 dM_deal_9 rfl (fun h9 => ?_) (fun h9 => ?_)
  · have hc : 1 ≤ n ∧ n ≤ 10 := by grind [zin]
    refine go_iconst dM_deal_15 (inR_of _ rfl) ?_
    refine go_is2 dM_deal_16 (Nat.le_of_ble_eq_true rfl) trivial ?_
    exact loop (zdealt (m 0) n) 0 (by omega) _ _ _ F m hc hM FR.rf rfl SB.rf
  · have hc : ¬ (1 ≤ n ∧ n ≤ 10) := by grind [zin]
    refine go_ldc dM_deal_12 kcM96 (inR_of _ rfl) ?_
    refine go_iret dM_deal_14 rfl rfl ?_
    exact ⟨by unfold v_deal; rw [if_neg hc], F, m, rfl, hM, FR.rf, by unfold u_deal; rw [if_neg hc, va_up_id]; exact EQ.rf⟩
end MDEAL
