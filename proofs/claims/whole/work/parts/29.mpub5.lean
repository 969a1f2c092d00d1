section MPUB5
variable {g : GX} {N r : Nat} {F F1 : Nat → GC} {m m1 : Nat → Nat → Int}
theorem SA.tr {F2 : Nat → GC} {m2 : Nat → Nat → Int} {S S2 : Nat → Int} (h1 : SA r F m S F1 m1) (h2 : SA r F1 m1 S2 F2 m2) : SA r F m S2 F2 m2 := ⟨h2.1, h1.2.1.tr h2.2.1, h2.2.2.1, h1.2.2.2.tr h2.2.2.2⟩
/-- what HELD is behind n days, if the row's place k were v -/
def zmost (s : Nat → Int) (k n v : Nat) : Int := zdays (va_up s k v) n 3
def v_most (s : Nat → Int) (k n : Nat) (w : Int) : Int := if w = 0 then ((zbest (zmost s k n) 6 : Nat) : Int) else zmost s k n (zbest (zmost s k n) 6)
theorem qM_mostBy (hM : MOD F r m) (hw : zW (m 0)) (hT : zT (m 0)) (hd : m 0 6 ≤ 9999) {i v : Nat} (hi : (i : Int) < m 0 0) (hv : v = 0 ∨ v = 3) {n w : Int} (h0 : 0 ≤ n) (h1 : n ≤ 60) : CT g yM_mostBy 12 0 0 [gR r, gI ((14 + 5 * i + v : Nat) : Int), gI n, gI w] (N, F) (fun rr M' => rr = gI (v_most (m 0) (14 + 5 * i + v) n.toNat w) ∧ ∃ (F2 : Nat → GC) (m2 : Nat → Nat → Int), M' = (N, F2) ∧ SA r F m (m 0) F2 m2) := by
  have hn1 := hw.1.2.1
  have hk : 14 + 5 * i + v < 64 := by omega
  have hW : ∀ x : Nat, x < 6 → zW (va_up (m 0) (14 + 5 * i + v) x) := fun x hx => zW_up hw (by omega) (by omega) (by omega) (by omega) (by omega) (by omega) (by omega) (fun i' v' h1 h2 h3 => by omega)
  have hTT : ∀ x : Nat, zT (va_up (m 0) (14 + 5 * i + v) x) := fun x => zT_keep hT (fun j hj => va_up_ne _ _ (by omega))
  have hb : ∀ x : Nat, x < 6 → 0 ≤ zmost (m 0) (14 + 5 * i + v) n.toNat x := by
    intro x hx
    obtain ⟨W, -, -⟩ := zdays_W (hW x hx) n.toNat (by rw [va_up_ne _ _ (by omega)]; omega)
    exact W.2.1.1
  generalize hkk : 14 + 5 * i + v = k at hk hW hTT hb ⊢
  have loop : ∀ (j x : Nat), x + j = 6 → ∀ (u most : Int) (x8 : GV) (F1 : Nat → GC) (m1 : Nat → Nat → Int), SA r F m (va_up (m 0) k u) F1 m1 → most = (if x = 0 then -1 else zmost (m 0) k n.toNat (zbest (zmost (m 0) k n.toNat) x)) → Go g yM_mostBy 12 0 0 17 [gR r, gI (k : Int), gI n, gI w, gI (m 0 k), gI ((zbest (zmost (m 0) k n.toNat) x : Nat) : Int), gI most, gI x, x8] [] (N, F1) (fun rr M' => rr = gI (v_most (m 0) k n.toNat w) ∧ ∃ (F2 : Nat → GC) (m2 : Nat → Nat → Int), M' = (N, F2) ∧ SA r F m (m 0) F2 m2) := by
    intro j
    induction j with
    | zero =>
      intro x hx u most x8 F1 m1 h hm
      have ho := h.1.1
      have hx6 : x = 6 := by omega
      subst hx6
      rw [if_neg (by omega)] at hm
      refine go_iload dM_mostBy_17 rfl ?_
      refine go_bipush dM_mostBy_19 (inR_of _ rfl) rfl ?_
      refine go_ic_ge 77 dM_mostBy_21 rfl (fun h21 => ?_) (fun h21 => absurd (by omega) h21)
      refine go_aload_n (i := 0) dM_mostBy_77 rfl rfl trivial ?_
      refine go_getf dM_mostBy_78 flM7 (by assumption) rfl ?_
      refine go_iload_n (i := 1) dM_mostBy_81 rfl rfl ?_
      refine go_iload dM_mostBy_82 rfl ?_
      refine go_mst (i := 0) (k := k) h.1 (by omega) dM_mostBy_84 rfl rfl (by show k < 1510; omega) (fun F2 m2 hM2 hF2 e2 => ?_)
      have hS : SA r F m (m 0) F2 m2 := by
        refine ⟨hM2, h.2.1.tr hF2, ?_, by rw [e2]; exact h.2.2.2.put (by simp)⟩
        rw [e2]
        show va_up (m1 0) k (m 0 k) = m 0
        rw [h.2.2.1, bx_uu, va_up_id]
      refine go_iload_n (i := 3) dM_mostBy_85 rfl rfl ?_
      refine go_if_ne 94 dM_mostBy_86 rfl (fun h86 => ?_) (fun h86 => ?_)
      · refine go_iload dM_mostBy_94 rfl ?_
        refine go_iret dM_mostBy_96 rfl rfl ?_
        exact ⟨by unfold v_most; rw [if_neg h86, hm], F2, m2, rfl, hS⟩
      · refine go_iload dM_mostBy_89 rfl ?_
        refine go_goto 96 dM_mostBy_91 rfl ?_
        refine go_iret dM_mostBy_96 rfl rfl ?_
        exact ⟨by unfold v_most; rw [if_pos h86], F2, m2, rfl, hS⟩
    | succ j ih =>
      intro x hx u most x8 F1 m1 h hm
      have ho := h.1.1
      have hb1 := hb x (by omega)
      refine go_iload dM_mostBy_17 rfl ?_
      refine go_bipush dM_mostBy_19 (inR_of _ rfl) rfl ?_
      refine go_ic_ge 77 dM_mostBy_21 rfl (fun h21 => absurd h21 (by omega)) (fun h21 => ?_)
      refine go_aload_n (i := 0) dM_mostBy_24 rfl rfl trivial ?_
      refine go_getf dM_mostBy_25 flM7 (by assumption) rfl ?_
      refine go_iload_n (i := 1) dM_mostBy_28 rfl rfl ?_
      refine go_iload dM_mostBy_29 rfl ?_
      refine go_mst (i := 0) (k := k) h.1 (by omega) dM_mostBy_31 rfl rfl (by show k < 1510; omega) (fun F2 m2 hM2 hF2 e2 => ?_)
      have e20 : m2 0 = va_up (m 0) k x := by
        rw [e2]
        show va_up (m1 0) k _ = _
        rw [h.2.2.1, bx_uu]
      have h2 : SA r F m (va_up (m 0) k x) F2 m2 := ⟨hM2, h.2.1.tr hF2, e20, by rw [e2]; exact h.2.2.2.put (by simp)⟩
      have ho2 := hM2.1
      refine go_aload_n (i := 0) dM_mostBy_32 rfl rfl trivial ?_
      refine go_iload_n (i := 2) dM_mostBy_33 rfl rfl ?_
      refine go_VX dM_mostBy_34 vkM201 (by assumption) (List.cons_ne_nil _ _) (qM_heldBehind hM2 (by rw [e20]; exact hW x (by omega)) (by rw [e20]; exact hTT x) (by rw [e20, va_up_ne _ _ (by omega)]; exact hd) h0 (by omega)) rfl (by omega) (by omega) (by omega) rfl (fun _ => Nat.le_of_ble_eq_true rfl) ?_
      rintro _ _ ⟨rfl, F3, m3, rfl, h3⟩ -
      dsimp only [rp]
      rw [e20] at h3 ⊢
      have h3 : SA r F m (va_up (m 0) k x) F3 m3 := h2.tr h3
      have es : zbest (zmost (m 0) k n.toNat) (x + 1) = if zmost (m 0) k n.toNat (zbest (zmost (m 0) k n.toNat) x) < zmost (m 0) k n.toNat x then x else zbest (zmost (m 0) k n.toNat) x := rfl
      have ez : zbest (zmost (m 0) k n.toNat) 0 = 0 := rfl
      have t69 : ∀ (b : Nat) (mo : Int) (x6 : Int), b = zbest (zmost (m 0) k n.toNat) (x + 1) → mo = zmost (m 0) k n.toNat (zbest (zmost (m 0) k n.toNat) (x + 1)) → ∀ x8 : GV, Go g yM_mostBy 12 0 0 69 [gR r, gI (k : Int), gI n, gI w, gI (m 0 k), gI (b : Int), gI x6, gI x, x8] [gI mo] (N, F3) (fun rr M' => rr = gI (v_most (m 0) k n.toNat w) ∧ ∃ (F2 : Nat → GC) (m2 : Nat → Nat → Int), M' = (N, F2) ∧ SA r F m (m 0) F2 m2) := by
        intro b mo x6 hbb hmo x8
        refine go_is6 dM_mostBy_69 (Nat.le_of_ble_eq_true rfl) trivial ?_
        refine go_inc7 (((x + 1 : Nat) : Int)) dM_mostBy_71 (Nat.le_of_ble_eq_true rfl) trivial (by (try simp (discharger := (unfold inR; omega)) only [w32_id]) <;> omega) ?_
        refine go_goto 17 dM_mostBy_74 rfl ?_
        rw [hbb]
        exact ih (x + 1) (by omega) _ _ _ F3 m3 h3 (by rw [if_neg (by omega)]; exact hmo)
      show Go g yM_mostBy 12 0 0 37 _ [gI (zmost (m 0) k n.toNat x)] (N, F3) _
      refine go_is8 dM_mostBy_37 (Nat.le_of_ble_eq_true rfl) trivial ?_
      refine go_iload dM_mostBy_39 rfl ?_
      refine go_iload dM_mostBy_41 rfl ?_
      refine go_ic_le 51 dM_mostBy_43 rfl (fun h43 => ?_) (fun h43 => ?_)
      · refine go_iload dM_mostBy_51 rfl ?_
        refine go_is5 dM_mostBy_53 (Nat.le_of_ble_eq_true rfl) trivial ?_
        refine go_iload dM_mostBy_55 rfl ?_
        refine go_iload dM_mostBy_57 rfl ?_
        refine go_ic_le 67 dM_mostBy_59 rfl (fun h59 => ?_) (fun h59 => ?_)
        · refine go_iload dM_mostBy_67 rfl ?_
          have hx0 : x ≠ 0 := fun e => by rw [if_pos e] at hm; omega
          rw [if_neg hx0] at hm
          exact t69 _ _ _ (by rw [es, if_neg (by omega)]) (by rw [es, if_neg (by omega)]; exact hm) _
        · omega
      · refine go_iload dM_mostBy_46 rfl ?_
        refine go_goto 53 dM_mostBy_48 rfl ?_
        refine go_is5 dM_mostBy_53 (Nat.le_of_ble_eq_true rfl) trivial ?_
        refine go_iload dM_mostBy_55 rfl ?_
        refine go_iload dM_mostBy_57 rfl ?_
        refine go_ic_le 67 dM_mostBy_59 rfl (fun h59 => ?_) (fun h59 => ?_)
        · omega
        · refine go_iload dM_mostBy_62 rfl ?_
          refine go_goto 69 dM_mostBy_64 rfl ?_
          have hnew : zbest (zmost (m 0) k n.toNat) (x + 1) = x := by
            rw [es]
            by_cases hx0 : x = 0
            · subst hx0; split <;> rfl
            · rw [if_neg hx0] at hm; rw [if_pos (by omega)]
          exact t69 x _ _ hnew.symm (by rw [hnew]) _
  have ho := hM.1
  refine CT.of' (L0 := [gR r, gI (k : Int), gI n, gI w, gU, gU, gU, gU, gU]) plM (Nat.le_of_ble_eq_true rfl) rfl ?_
  refine go_aload_n (i := 0) dM_mostBy_0 rfl rfl trivial ?_
  refine go_getf dM_mostBy_1 flM7 (by assumption) rfl ?_
  refine go_iload_n (i := 1) dM_mostBy_4 rfl rfl ?_
  refine go_iald' k _ dM_mostBy_5 hM.a0 rfl (by omega) rfl ?_
  refine go_is4 dM_mostBy_6 (Nat.le_of_ble_eq_true rfl) trivial ?_
  refine go_iconst dM_mostBy_8 (inR_of _ rfl) ?_
  refine go_is5 dM_mostBy_9 (Nat.le_of_ble_eq_true rfl) trivial ?_
  refine go_iconst dM_mostBy_11 (inR_of _ rfl) ?_
  refine go_is6 dM_mostBy_12 (Nat.le_of_ble_eq_true rfl) trivial ?_
  refine go_iconst dM_mostBy_14 (inR_of _ rfl) ?_
  refine go_is7 dM_mostBy_15 (Nat.le_of_ble_eq_true rfl) trivial ?_
  exact loop 6 0 rfl (m 0 k) (-1) _ F m ⟨hM, FR.rf, by rw [va_up_id], SB.rf⟩ rfl
def c_ask (s : Nat → Int) (i n w : Int) : Prop := (0 ≤ i ∧ i < s 0) ∧ (1 ≤ n ∧ n ≤ 60) ∧ 0 ≤ w ∧ w ≤ 1
theorem qM_isAsked (hM : MOD F r m) (hw : zW (m 0)) {i n w : Int} [Decidable (c_ask (m 0) i n w)] : CT g yM_isAsked 2 0 0 [gR r, gI i, gI n, gI w] (N, F) (RV (if c_ask (m 0) i n w then 1 else 0) (N, F)) := by
  have ho := hM.1
  have hn0 := hw.1.1
  have hn1 := hw.1.2.1
  have t34 : ¬ c_ask (m 0) i n w → Go g yM_isAsked 2 0 0 34 [gR r, gI i, gI n, gI w] [] (N, F) (RV (if c_ask (m 0) i n w then 1 else 0) (N, F)) := by
    intro hc
    refine go_iconst dM_isAsked_34 (inR_of _ rfl) ?_
    refine go_iret dM_isAsked_35 rfl (zb (by simp)) ?_
    exact ⟨by rw [if_neg hc], rfl⟩
  refine CT.of' (L0 := [gR r, gI i, gI n, gI w]) plM (Nat.le_of_ble_eq_true rfl) rfl ?_
  refine go_aload_n (i := 0) dM_isAsked_0 rfl rfl trivial ?_
  refine go_iload_n (i := 1) dM_isAsked_1 rfl rfl ?_
  refine go_VP dM_isAsked_2 vkM92 (by assumption) (List.cons_ne_nil _ _) (qM_isGoose hM _ hn0 hn1) rfl (by omega) rfl (fun _ => Nat.le_of_ble_eq_true rfl) ?_
  refine go_if_eq 34 dM_isAsked_5 rfl (fun h5 => ?_) (fun h5 => ?_)
  · exact t34 (by unfold c_ask; grind [zin])
  · refine go_iload_n (i := 2) dM_isAsked_8 rfl rfl ?_
    refine go_i2l dM_isAsked_9 ?_
    refine go_lconst (x := 1) dM_isAsked_10 (inL_of2 _ rfl) rfl ?_
    refine go_ldc2 dM_isAsked_11 kcM204 (inL_of2 _ rfl) ?_
    refine go_SP dM_isAsked_14 vkM65 (ct_in _ _ _) rfl (by omega) rfl (fun _ => Nat.le_of_ble_eq_true rfl) ?_
    refine go_if_eq 34 dM_isAsked_17 rfl (fun h17 => ?_) (fun h17 => ?_)
    · exact t34 (by unfold c_ask; grind [zin])
    · refine go_iload_n (i := 3) dM_isAsked_20 rfl rfl ?_
      refine go_i2l dM_isAsked_21 ?_
      refine go_lconst (x := 0) dM_isAsked_22 (inL_of2 _ rfl) rfl ?_
      refine go_lconst (x := 1) dM_isAsked_23 (inL_of2 _ rfl) rfl ?_
      refine go_SP dM_isAsked_24 vkM65 (ct_in _ _ _) rfl (by omega) rfl (fun _ => Nat.le_of_ble_eq_true rfl) ?_
      refine go_if_eq 34 dM_isAsked_27 rfl (fun h27 => ?_) (fun h27 => ?_)
      · exact t34 (by unfold c_ask; grind [zin])
      · refine go_iconst dM_isAsked_30 (inR_of _ rfl) ?_
        refine go_goto 35 dM_isAsked_31 rfl ?_
        refine go_iret dM_isAsked_35 rfl (zb (by simp)) ?_
        exact ⟨by rw [if_pos (by unfold c_ask; grind [zin])], rfl⟩
theorem bM_place (hM : MOD F r m) (hw : zW (m 0)) (hT : zT (m 0)) (hd : m 0 6 ≤ 9999) {i n w : Int} [Decidable (c_ask (m 0) i n w)] : CT g yM_place 13 0 0 [gR r, gI i, gI n, gI w] (N, F) (MB N r F (gI (if c_ask (m 0) i n w then v_most (m 0) (14 + 5 * i.toNat + 3) n.toNat w else BAD)) m) := by
  have ho := hM.1
  have hn1 := hw.1.2.1
  refine CT.of' (L0 := [gR r, gI i, gI n, gI w]) plM (Nat.le_of_ble_eq_true rfl) rfl ?_
  refine go_aload_n (i := 0) dM_place_0 rfl rfl trivial ?_
  refine go_iload_n (i := 1) dM_place_1 rfl rfl ?_
  refine go_iload_n (i := 2) dM_place_2 rfl rfl ?_
  refine go_iload_n (i := 3) dM_place_3 rfl rfl ?_
  refine go_VP dM_place_4 vkM206 (by assumption) (List.cons_ne_nil _ _) (qM_isAsked hM hw) rfl (by omega) rfl (fun _ => Nat.le_of_ble_eq_true rfl) ?_
  refine go_if_eq 24 dM_place_7 rfl (fun h7 => ?_) (fun h7 => ?_)
  · have hc : ¬ c_ask (m 0) i n w := fun h => by rw [if_pos h] at h7; omega
    refine go_ldc dM_place_24 kcM96 (inR_of _ rfl) ?_
    refine go_iret dM_place_26 rfl rfl ?_
    exact MB.same hM (by rw [if_neg hc])
  · have hc : c_ask (m 0) i n w := by
      by_cases c : c_ask (m 0) i n w
      · exact c
      · rw [if_neg c] at h7; exact absurd rfl h7
    have hc2 := hc
    unfold c_ask at hc2
    refine go_aload_n (i := 0) dM_place_10 rfl rfl trivial ?_
    refine go_iload_n (i := 1) dM_place_11 rfl rfl ?_
    refine go_iconst dM_place_12 (inR_of _ rfl) ?_
    refine go_SP dM_place_13 vkM61 (ct_spot _ _) rfl (by omega) rfl (fun _ => Nat.le_of_ble_eq_true rfl) ?_
    refine go_top (((14 + 5 * i.toNat + 3 : Nat)) : Int) (by (try simp (discharger := (unfold inR; omega)) only [w32_id]) <;> omega) ?_
    refine go_iload_n (i := 2) dM_place_16 rfl rfl ?_
    refine go_iload_n (i := 3) dM_place_17 rfl rfl ?_
    refine go_VX dM_place_18 vkM210 (by assumption) (List.cons_ne_nil _ _) (qM_mostBy hM hw hT hd (i := i.toNat) (v := 3) (by omega) (by omega) (by omega) (by omega)) rfl (by omega) (by omega) (by omega) rfl (fun _ => Nat.le_of_ble_eq_true rfl) ?_
    rintro _ _ ⟨rfl, F2, m2, rfl, h2⟩ -
    dsimp only [rp]
    refine go_goto 26 dM_place_21 rfl ?_
    refine go_iret dM_place_26 rfl rfl ?_
    exact MB.sa h2 (by rw [if_pos hc])
theorem bM_becomes (hM : MOD F r m) (hw : zW (m 0)) (hT : zT (m 0)) (hd : m 0 6 ≤ 9999) {i n w : Int} [Decidable (c_ask (m 0) i n w)] : CT g yM_becomes 13 0 0 [gR r, gI i, gI n, gI w] (N, F) (MB N r F (gI (if c_ask (m 0) i n w then v_most (m 0) (14 + 5 * i.toNat + 0) n.toNat w else BAD)) m) := by
  have ho := hM.1
  have hn1 := hw.1.2.1
  refine CT.of' (L0 := [gR r, gI i, gI n, gI w]) plM (Nat.le_of_ble_eq_true rfl) rfl ?_
  refine go_aload_n (i := 0) dM_becomes_0 rfl rfl trivial ?_
  refine go_iload_n (i := 1) dM_becomes_1 rfl rfl ?_
  refine go_iload_n (i := 2) dM_becomes_2 rfl rfl ?_
  refine go_iload_n (i := 3) dM_becomes_3 rfl rfl ?_
  refine go_VP dM_becomes_4 vkM206 (by assumption) (List.cons_ne_nil _ _) (qM_isAsked hM hw) rfl (by omega) rfl (fun _ => Nat.le_of_ble_eq_true rfl) ?_
  refine go_if_eq 24 dM_becomes_7 rfl (fun h7 => ?_) (fun h7 => ?_)
  · have hc : ¬ c_ask (m 0) i n w := fun h => by rw [if_pos h] at h7; omega
    refine go_ldc dM_becomes_24 kcM96 (inR_of _ rfl) ?_
    refine go_iret dM_becomes_26 rfl rfl ?_
    exact MB.same hM (by rw [if_neg hc])
  · have hc : c_ask (m 0) i n w := by
      by_cases c : c_ask (m 0) i n w
      · exact c
      · rw [if_neg c] at h7; exact absurd rfl h7
    have hc2 := hc
    unfold c_ask at hc2
    refine go_aload_n (i := 0) dM_becomes_10 rfl rfl trivial ?_
    refine go_iload_n (i := 1) dM_becomes_11 rfl rfl ?_
    refine go_iconst dM_becomes_12 (inR_of _ rfl) ?_
    refine go_SP dM_becomes_13 vkM61 (ct_spot _ _) rfl (by omega) rfl (fun _ => Nat.le_of_ble_eq_true rfl) ?_
    refine go_top (((14 + 5 * i.toNat + 0 : Nat)) : Int) (by (try simp (discharger := (unfold inR; omega)) only [w32_id]) <;> omega) ?_
    refine go_iload_n (i := 2) dM_becomes_16 rfl rfl ?_
    refine go_iload_n (i := 3) dM_becomes_17 rfl rfl ?_
    refine go_VX dM_becomes_18 vkM210 (by assumption) (List.cons_ne_nil _ _) (qM_mostBy hM hw hT hd (i := i.toNat) (v := 0) (by omega) (by omega) (by omega) (by omega)) rfl (by omega) (by omega) (by omega) rfl (fun _ => Nat.le_of_ble_eq_true rfl) ?_
    rintro _ _ ⟨rfl, F2, m2, rfl, h2⟩ -
    dsimp only [rp]
    refine go_goto 26 dM_becomes_21 rfl ?_
    refine go_iret dM_becomes_26 rfl rfl ?_
    exact MB.sa h2 (by rw [if_pos hc])
/-- the greatest below c for which p is 1, or -1 -/
def zlst (p : Nat → Int) : Nat → Int
  | 0 => -1
  | e + 1 => if p e = 1 then e else zlst p e
theorem zlst_in (p : Nat → Int) : ∀ c : Nat, -1 ≤ zlst p c ∧ zlst p c < c
  | 0 => by simp [zlst]
  | e + 1 => by
    have := zlst_in p e
    unfold zlst
    split <;> omega
def z_eye (s : Nat → Int) (n v : Int) (e : Nat) : Int := if v ≤ zdays (va_up s 1 e) n.toNat 3 then 1 else 0
def v_eyes (s : Nat → Int) (n v : Int) : Int := if (0 ≤ n ∧ n ≤ 60) ∧ 0 ≤ v ∧ v ≤ 99999 then (if zlst (z_eye s n v) 100 < 0 then NONE else zlst (z_eye s n v) 100) else BAD
theorem bM_eyes (hM : MOD F r m) (hw : zW (m 0)) (hT : zT (m 0)) (hd : m 0 6 ≤ 9999) {n v : Int} : CT g yM_eyes 12 0 0 [gR r, gI n, gI v] (N, F) (MB N r F (gI (v_eyes (m 0) n v)) m) := by
  have ho := hM.1
  have a0 := hM.a0
  have t24 : ¬ ((0 ≤ n ∧ n ≤ 60) ∧ 0 ≤ v ∧ v ≤ 99999) → Go g yM_eyes 12 0 0 24 [gR r, gI n, gI v, gU, gU, gU] [] (N, F) (MB N r F (gI (v_eyes (m 0) n v)) m) := by
    intro hc
    refine go_ldc dM_eyes_24 kcM96 (inR_of _ rfl) ?_
    refine go_iret dM_eyes_26 rfl rfl ?_
    exact MB.same hM (by unfold v_eyes; rw [if_neg hc])
  refine CT.of' (L0 := [gR r, gI n, gI v, gU, gU, gU]) plM (Nat.le_of_ble_eq_true rfl) rfl ?_
  refine go_iload_n (i := 1) dM_eyes_0 rfl rfl ?_
  refine go_i2l dM_eyes_1 ?_
  refine go_lconst (x := 0) dM_eyes_2 (inL_of2 _ rfl) rfl ?_
  refine go_ldc2 dM_eyes_3 kcM204 (inL_of2 _ rfl) ?_
  refine go_SP dM_eyes_6 vkM65 (ct_in _ _ _) rfl (by omega) rfl (fun _ => Nat.le_of_ble_eq_true rfl) ?_
  refine go_if_eq 24 dM_eyes_9 rfl (fun h9 => ?_) (fun h9 => ?_)
  · exact t24 (by grind [zin])
  · refine go_iload_n (i := 2) dM_eyes_12 rfl rfl ?_
    refine go_i2l dM_eyes_13 ?_
    refine go_lconst (x := 0) dM_eyes_14 (inL_of2 _ rfl) rfl ?_
    refine go_ldc2 dM_eyes_15 kcM213 (inL_of2 _ rfl) ?_
    refine go_SP dM_eyes_18 vkM65 (ct_in _ _ _) rfl (by omega) rfl (fun _ => Nat.le_of_ble_eq_true rfl) ?_
    refine go_if_ne 27 dM_eyes_21 rfl (fun h21 => ?_) (fun h21 => ?_)
    · have hc : (0 ≤ n ∧ n ≤ 60) ∧ 0 ≤ v ∧ v ≤ 99999 := by grind [zin]
      have hW : ∀ x : Nat, x < 100 → zW (va_up (m 0) 1 x) := fun x hx => zW_up hw (by omega) (by omega) (by omega) (by omega) (by omega) (by omega) (by omega) (fun i' v' h1 h2 h3 => by omega)
      have hTT : ∀ x : Nat, zT (va_up (m 0) 1 x) := fun x => zT_keep hT (fun j hj => va_up_ne _ _ (by omega))
      have last : ∀ (u x5 f : Int) (F1 : Nat → GC) (m1 : Nat → Nat → Int), SA r F m (va_up (m 0) 1 u) F1 m1 → f = zlst (z_eye (m 0) n v) 100 → Go g yM_eyes 12 0 0 82 [gR r, gI n, gI v, gI (m 0 1), gI f, gI x5] [] (N, F1) (MB N r F (gI (v_eyes (m 0) n v)) m) := by
        intro u x5 f F1 m1 h hf
        have ho := h.1.1
        refine go_aload_n (i := 0) dM_eyes_82 rfl rfl trivial ?_
        refine go_getf dM_eyes_83 flM7 (by assumption) rfl ?_
        refine go_iconst dM_eyes_86 (inR_of _ rfl) ?_
        refine go_iload_n (i := 3) dM_eyes_87 rfl rfl ?_
        refine go_mst (i := 0) (k := 1) h.1 (by omega) dM_eyes_88 rfl rfl (by decide) (fun F2 m2 hM2 hF2 e2 => ?_)
        have hS : SA r F m (m 0) F2 m2 := by
          refine ⟨hM2, h.2.1.tr hF2, ?_, by rw [e2]; exact h.2.2.2.put (by simp)⟩
          rw [e2]
          show va_up (m1 0) 1 (m 0 1) = m 0
          rw [h.2.2.1, bx_uu, va_up_id]
        refine go_iload dM_eyes_89 rfl ?_
        refine go_if_ge 99 dM_eyes_91 rfl (fun h91 => ?_) (fun h91 => ?_)
        · refine go_iload dM_eyes_99 rfl ?_
          refine go_iret dM_eyes_101 rfl rfl ?_
          exact MB.sa hS (by unfold v_eyes; rw [if_pos hc, ← hf, if_neg (by omega)])
        · refine go_ldc dM_eyes_94 kcM169 (inR_of _ rfl) ?_
          refine go_goto 101 dM_eyes_96 rfl ?_
          refine go_iret dM_eyes_101 rfl rfl ?_
          exact MB.sa hS (by unfold v_eyes; rw [if_pos hc, ← hf, if_pos (by omega)])
      have loop : ∀ (c : Nat), c ≤ 100 → ∀ (u : Int) (F1 : Nat → GC) (m1 : Nat → Nat → Int), SA r F m (va_up (m 0) 1 u) F1 m1 → zlst (z_eye (m 0) n v) 100 = zlst (z_eye (m 0) n v) c → Go g yM_eyes 12 0 0 41 [gR r, gI n, gI v, gI (m 0 1), gI (-1), gI ((c : Int) - 1)] [] (N, F1) (MB N r F (gI (v_eyes (m 0) n v)) m) := by
        intro c
        induction c with
        | zero =>
          intro hc1 u F1 m1 h hz
          refine go_iload dM_eyes_41 rfl ?_
          refine go_if_lt 82 dM_eyes_43 rfl (fun h43 => ?_) (fun h43 => absurd (by omega) h43)
          exact last u _ _ F1 m1 h (by rw [hz]; rfl)
        | succ c ih =>
          intro hc1 u F1 m1 h hz
          have ho := h.1.1
          have hs : zlst (z_eye (m 0) n v) (c + 1) = if z_eye (m 0) n v c = 1 then (c : Int) else zlst (z_eye (m 0) n v) c := rfl
          rw [show (((c + 1 : Nat) : Int) - 1) = (c : Int) by omega]
          refine go_iload dM_eyes_41 rfl ?_
          refine go_if_lt 82 dM_eyes_43 rfl (fun h43 => absurd h43 (by omega)) (fun h43 => ?_)
          refine go_iload dM_eyes_46 rfl ?_
          refine go_if_ge 82 dM_eyes_48 rfl (fun h48 => absurd h48 (by omega)) (fun h48 => ?_)
          refine go_aload_n (i := 0) dM_eyes_51 rfl rfl trivial ?_
          refine go_getf dM_eyes_52 flM7 (by assumption) rfl ?_
          refine go_iconst dM_eyes_55 (inR_of _ rfl) ?_
          refine go_iload dM_eyes_56 rfl ?_
          refine go_mst (i := 0) (k := 1) h.1 (by omega) dM_eyes_58 rfl rfl (by decide) (fun F2 m2 hM2 hF2 e2 => ?_)
          have e20 : m2 0 = va_up (m 0) 1 c := by
            rw [e2]
            show va_up (m1 0) 1 _ = _
            rw [h.2.2.1, bx_uu]
          have h2 : SA r F m (va_up (m 0) 1 c) F2 m2 := ⟨hM2, h.2.1.tr hF2, e20, by rw [e2]; exact h.2.2.2.put (by simp)⟩
          have ho2 := hM2.1
          refine go_aload_n (i := 0) dM_eyes_59 rfl rfl trivial ?_
          refine go_iload_n (i := 1) dM_eyes_60 rfl rfl ?_
          refine go_VX dM_eyes_61 vkM201 (by assumption) (List.cons_ne_nil _ _) (qM_heldBehind hM2 (by rw [e20]; exact hW c (by omega)) (by rw [e20]; exact hTT c) (by rw [e20, va_up_ne _ _ (by omega)]; exact hd) hc.1.1 (by omega)) rfl (by omega) (by omega) (by omega) rfl (fun _ => Nat.le_of_ble_eq_true rfl) ?_
          rintro _ _ ⟨rfl, F3, m3, rfl, h3⟩ -
          dsimp only [rp]
          rw [e20] at h3 ⊢
          have h3 : SA r F m (va_up (m 0) 1 c) F3 m3 := h2.tr h3
          refine go_iload_n (i := 2) dM_eyes_64 rfl rfl ?_
          refine go_ic_lt 73 dM_eyes_65 rfl (fun h65 => ?_) (fun h65 => ?_)
          · have hp : ¬ z_eye (m 0) n v c = 1 := by unfold z_eye; rw [if_neg (by omega)]; omega
            refine go_iconst dM_eyes_73 (inR_of _ rfl) ?_
            refine go_is4 dM_eyes_74 (Nat.le_of_ble_eq_true rfl) trivial ?_
            refine go_inc5 (((c : Int) - 1)) dM_eyes_76 (Nat.le_of_ble_eq_true rfl) trivial (by (try simp (discharger := (unfold inR; omega)) only [w32_id]) <;> omega) ?_
            refine go_goto 41 dM_eyes_79 rfl ?_
            exact ih (by omega) _ F3 m3 h3 (by rw [hz, hs, if_neg hp])
          · have hp : z_eye (m 0) n v c = 1 := by unfold z_eye; rw [if_pos (by omega)]
            rw [hs, if_pos hp] at hz
            refine go_iload dM_eyes_68 rfl ?_
            refine go_goto 74 dM_eyes_70 rfl ?_
            refine go_is4 dM_eyes_74 (Nat.le_of_ble_eq_true rfl) trivial ?_
            refine go_inc5 (((c : Int) - 1)) dM_eyes_76 (Nat.le_of_ble_eq_true rfl) trivial (by (try simp (discharger := (unfold inR; omega)) only [w32_id]) <;> omega) ?_
            refine go_goto 41 dM_eyes_79 rfl ?_
            refine go_iload dM_eyes_41 rfl ?_
            refine go_if_lt 82 dM_eyes_43 rfl (fun h43 => ?_) (fun h43 => ?_)
            · exact last _ _ _ F3 m3 h3 hz.symm
            · refine go_iload dM_eyes_46 rfl ?_
              refine go_if_ge 82 dM_eyes_48 rfl (fun h48 => ?_) (fun h48 => absurd (by omega) h48)
              exact last _ _ _ F3 m3 h3 hz.symm
      refine go_aload_n (i := 0) dM_eyes_27 rfl rfl trivial ?_
      refine go_getf dM_eyes_28 flM7 (by assumption) rfl ?_
      refine go_iconst dM_eyes_31 (inR_of _ rfl) ?_
      refine go_iald' 1 _ dM_eyes_32 (by assumption) rfl (by omega) rfl ?_
      refine go_is3 dM_eyes_33 (Nat.le_of_ble_eq_true rfl) trivial ?_
      refine go_iconst dM_eyes_34 (inR_of _ rfl) ?_
      refine go_is4 dM_eyes_35 (Nat.le_of_ble_eq_true rfl) trivial ?_
      refine go_bipush dM_eyes_37 (inR_of _ rfl) rfl ?_
      refine go_is5 dM_eyes_39 (Nat.le_of_ble_eq_true rfl) trivial ?_
      exact loop 100 (by omega) (m 0 1) F m ⟨hM, FR.rf, by rw [va_up_id], SB.rf⟩ rfl
    · exact t24 (by grind [zin])
end MPUB5
