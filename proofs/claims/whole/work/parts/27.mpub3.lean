section MPUB3
variable {g : GX} {N r : Nat} {F F1 : Nat → GC} {m m1 : Nat → Nat → Int}
abbrev NONE : Int := -1000000005
def v_yardOf (s : Nat → Int) (y w : Int) : Int := if 0 ≤ y ∧ y ≤ 5 then (if w = 0 then s (8 + y).toNat else if w = 1 then zcount s y else if w = 2 then ((zmN (fun i : Nat => if zk s i 3 = y then 1 else 0) (zmany s) : Nat) : Int) else if w = 3 then ((zmN (fun i : Nat => zwit s i y) (zmany s) : Nat) : Int) else if w = 4 then zhold s y else BAD) else BAD
theorem bM_yardOf (hM : MOD F r m) (hw : zW (m 0)) (hT : zT (m 0)) {y w : Int} : CT g yM_yardOf 8 0 0 [gR r, gI y, gI w] (N, F) (MB N r F (gI (v_yardOf (m 0) y w)) m) := by
  have ho := hM.1
  refine CT.of' (L0 := [gR r, gI y, gI w]) plM (Nat.le_of_ble_eq_true rfl) rfl ?_
  refine go_iload_n (i := 1) dM_yardOf_0 rfl rfl ?_
  refine go_SP dM_yardOf_1 vkM105 (ct_isYard _) rfl (by omega) rfl (fun _ => Nat.le_of_ble_eq_true rfl) ?_
  refine go_if_ne 10 dM_yardOf_4 rfl (fun h4 => ?_) (fun h4 => ?_)
  · have hy : 0 ≤ y ∧ y ≤ 5 := by grind [zin]
    refine go_iload_n (i := 2) dM_yardOf_10 rfl rfl ?_
    refine tabC dM_yardOf_11 83 rfl (fun h => ?_) (fun n h1 h2 => ?_)
    · refine go_ldc dM_yardOf_83 kcM96 (inR_of _ rfl) ?_
      refine go_iret dM_yardOf_85 rfl rfl ?_
      exact MB.same hM (by unfold v_yardOf; grind)
    · match n, h1 with
      | 0, h1 =>
        refine ⟨_, rfl, 44, rfl, ?_⟩
        refine go_aload_n (i := 0) dM_yardOf_44 rfl rfl trivial ?_
        refine go_getf dM_yardOf_45 flM7 (by assumption) rfl ?_
        refine go_bipush dM_yardOf_48 (inR_of _ rfl) rfl ?_
        refine go_iload_n (i := 1) dM_yardOf_50 rfl rfl ?_
        refine go_iadd dM_yardOf_51 ?_
        refine go_iald' (8 + y).toNat _ dM_yardOf_52 hM.a0 (by (try simp (discharger := (unfold inR; omega)) only [w32_id]) <;> omega) (by omega) rfl ?_
        refine go_iret dM_yardOf_53 rfl rfl ?_
        exact MB.same hM (by unfold v_yardOf; grind)
      | 1, h1 =>
        refine ⟨_, rfl, 54, rfl, ?_⟩
        refine go_aload_n (i := 0) dM_yardOf_54 rfl rfl trivial ?_
        refine go_iload_n (i := 1) dM_yardOf_55 rfl rfl ?_
        refine go_VX dM_yardOf_56 vkM140 (by assumption) (List.cons_ne_nil _ _) (sM_counted (ST.rf hM) hw hT) rfl (by omega) (by omega) (by omega) rfl (fun _ => Nat.le_of_ble_eq_true rfl) ?_
        rintro _ _ ⟨rfl, F2, m2, rfl, h2⟩ -
        dsimp only [rp]
        refine go_iret dM_yardOf_59 rfl rfl ?_
        exact MB.st h2 (by unfold v_yardOf; grind)
      | 2, h1 =>
        refine ⟨_, rfl, 60, rfl, ?_⟩
        refine go_aload_n (i := 0) dM_yardOf_60 rfl rfl trivial ?_
        refine go_iload_n (i := 1) dM_yardOf_61 rfl rfl ?_
        refine go_iconst dM_yardOf_62 (inR_of _ rfl) ?_
        refine go_VX dM_yardOf_63 vkM143 (by assumption) (List.cons_ne_nil _ _) (sM_geeseIn (ST.rf hM) hw hT (fun i : Nat => if zk (m 0) i 3 = y then 1 else 0) (fun _ => rfl) (fun e => absurd rfl e)) rfl (by omega) (by omega) (by omega) rfl (fun _ => Nat.le_of_ble_eq_true rfl) ?_
        rintro _ _ ⟨rfl, F2, m2, rfl, h2⟩ -
        dsimp only [rp]
        refine go_iret dM_yardOf_66 rfl rfl ?_
        exact MB.st h2 (by unfold v_yardOf; grind)
      | 3, h1 =>
        refine ⟨_, rfl, 67, rfl, ?_⟩
        refine go_aload_n (i := 0) dM_yardOf_67 rfl rfl trivial ?_
        refine go_iload_n (i := 1) dM_yardOf_68 rfl rfl ?_
        refine go_iconst dM_yardOf_69 (inR_of _ rfl) ?_
        refine go_VX dM_yardOf_70 vkM143 (by assumption) (List.cons_ne_nil _ _) (sM_geeseIn (ST.rf hM) hw hT (fun i : Nat => zwit (m 0) i y) (fun e => absurd e (by omega)) (fun _ => rfl)) rfl (by omega) (by omega) (by omega) rfl (fun _ => Nat.le_of_ble_eq_true rfl) ?_
        rintro _ _ ⟨rfl, F2, m2, rfl, h2⟩ -
        dsimp only [rp]
        refine go_iret dM_yardOf_73 rfl rfl ?_
        exact MB.st h2 (by unfold v_yardOf; grind)
      | 4, h1 =>
        refine ⟨_, rfl, 74, rfl, ?_⟩
        refine go_aload_n (i := 0) dM_yardOf_74 rfl rfl trivial ?_
        refine go_iload_n (i := 1) dM_yardOf_75 rfl rfl ?_
        refine go_VX dM_yardOf_76 vkM147 (by assumption) (List.cons_ne_nil _ _) (sM_isHolding (ST.rf hM) hw hT hy.1 hy.2) rfl (by omega) (by omega) (by omega) rfl (fun _ => Nat.le_of_ble_eq_true rfl) ?_
        rintro _ _ ⟨rfl, F2, m2, rfl, h2⟩ -
        dsimp only [rp]
        refine go_SP dM_yardOf_79 vkM71 (ct_truth _) rfl (by omega) rfl (fun _ => Nat.le_of_ble_eq_true rfl) ?_
        refine go_iret dM_yardOf_82 rfl rfl ?_
        have := zhold01 (m 0) y
        exact MB.st h2 (by unfold v_yardOf ztruth; grind)
      | n + 5, h1 => omega
  · refine go_ldc dM_yardOf_7 kcM96 (inR_of _ rfl) ?_
    refine go_iret dM_yardOf_9 rfl rfl ?_
    exact MB.same hM (by unfold v_yardOf; grind [zin])
theorem bM_rule (hM : MOD F r m) {w v : Int} : CT g yM_rule 2 0 0 [gR r, gI w, gI v] (N, F) (MB N r F (gI (v_put (m 0) ((0 ≤ w ∧ w ≤ 1) ∧ 0 ≤ v ∧ v ≤ 99 + w) (1 + w))) (va_up m 0 (u_put (m 0) ((0 ≤ w ∧ w ≤ 1) ∧ 0 ≤ v ∧ v ≤ 99 + w) (1 + w) v))) := by
  have ho := hM.1
  have t35 : ¬ ((0 ≤ w ∧ w ≤ 1) ∧ 0 ≤ v ∧ v ≤ 99 + w) → Go g yM_rule 2 0 0 35 [gR r, gI w, gI v] [] (N, F) (MB N r F (gI (v_put (m 0) ((0 ≤ w ∧ w ≤ 1) ∧ 0 ≤ v ∧ v ≤ 99 + w) (1 + w))) (va_up m 0 (u_put (m 0) ((0 ≤ w ∧ w ≤ 1) ∧ 0 ≤ v ∧ v ≤ 99 + w) (1 + w) v))) := by
    intro hc
    refine go_ldc dM_rule_35 kcM96 (inR_of _ rfl) ?_
    refine go_iret dM_rule_37 rfl rfl ?_
    exact MB.bad hc hM
  refine CT.of' (L0 := [gR r, gI w, gI v]) plM (Nat.le_of_ble_eq_true rfl) rfl ?_
  refine go_iload_n (i := 1) dM_rule_0 rfl rfl ?_
  refine go_i2l dM_rule_1 ?_
  refine go_lconst (x := 0) dM_rule_2 (inL_of2 _ rfl) rfl ?_
  refine go_lconst (x := 1) dM_rule_3 (inL_of2 _ rfl) rfl ?_
  refine go_SP dM_rule_4 vkM65 (ct_in _ _ _) rfl (by omega) rfl (fun _ => Nat.le_of_ble_eq_true rfl) ?_
  refine go_if_eq 35 dM_rule_7 rfl (fun h7 => ?_) (fun h7 => ?_)
  · exact t35 (by grind [zin])
  · have hw1 : 0 ≤ w ∧ w ≤ 1 := by grind [zin]
    refine go_iload_n (i := 2) dM_rule_10 rfl rfl ?_
    refine go_i2l dM_rule_11 ?_
    refine go_lconst (x := 0) dM_rule_12 (inL_of2 _ rfl) rfl ?_
    refine go_bipush dM_rule_13 (inR_of _ rfl) rfl ?_
    refine go_iload_n (i := 1) dM_rule_15 rfl rfl ?_
    refine go_iadd dM_rule_16 ?_
    refine go_top (99 + w) (by (try simp (discharger := (unfold inR; omega)) only [w32_id]) <;> omega) ?_
    refine go_i2l dM_rule_17 ?_
    refine go_SP dM_rule_18 vkM65 (ct_in _ _ _) rfl (by omega) rfl (fun _ => Nat.le_of_ble_eq_true rfl) ?_
    refine go_if_eq 35 dM_rule_21 rfl (fun h21 => ?_) (fun h21 => ?_)
    · exact t35 (by grind [zin])
    · have hc : (0 ≤ w ∧ w ≤ 1) ∧ 0 ≤ v ∧ v ≤ 99 + w := by grind [zin]
      refine go_aload_n (i := 0) dM_rule_24 rfl rfl trivial ?_
      refine go_iconst dM_rule_25 (inR_of _ rfl) ?_
      refine go_iload_n (i := 1) dM_rule_26 rfl rfl ?_
      refine go_iadd dM_rule_27 ?_
      refine go_top (1 + w) (by (try simp (discharger := (unfold inR; omega)) only [w32_id]) <;> omega) ?_
      refine go_iload_n (i := 2) dM_rule_28 rfl rfl ?_
      refine go_VX dM_rule_29 vkM130 (by assumption) (List.cons_ne_nil _ _) (qM_changed hM (by omega) (by omega)) rfl (by omega) (by omega) (by omega) rfl (fun _ => Nat.le_of_ble_eq_true rfl) ?_
      rintro _ _ ⟨rfl, F2, m2, rfl, hM2, hF2, e2, hS2⟩ -
      dsimp only [rp]
      refine go_goto 37 dM_rule_32 rfl ?_
      refine go_iret dM_rule_37 rfl rfl ?_
      exact MB.put hc hM2 hF2 e2 hS2
theorem bM_strike (hM : MOD F r m) (hw : zW (m 0)) (hT : zT (m 0)) {y : Int} : CT g yM_strike 9 0 0 [gR r, gI y] (N, F) (MB N r F (gI (if 0 ≤ y ∧ y ≤ 5 then zhold (m 0) y else BAD)) (va_up m 0 (if 0 ≤ y ∧ y ≤ 5 then zbarg (m 0) y else m 0))) := by
  have ho := hM.1
  refine CT.of' (L0 := [gR r, gI y]) plM (Nat.le_of_ble_eq_true rfl) rfl ?_
  refine go_iload_n (i := 1) dM_strike_0 rfl rfl ?_
  refine go_SP dM_strike_1 vkM105 (ct_isYard _) rfl (by omega) rfl (fun _ => Nat.le_of_ble_eq_true rfl) ?_
  refine go_if_eq 15 dM_strike_4 rfl (fun h4 => ?_) (fun h4 => ?_)
  · have hy : ¬ (0 ≤ y ∧ y ≤ 5) := by grind [zin]
    refine go_ldc dM_strike_15 kcM96 (inR_of _ rfl) ?_
    refine go_iret dM_strike_17 rfl rfl ?_
    rw [if_neg hy, if_neg hy, va_up_id]
    exact MB.same hM rfl
  · have hy : 0 ≤ y ∧ y ≤ 5 := by grind [zin]
    rw [if_pos hy, if_pos hy]
    refine go_aload_n (i := 0) dM_strike_7 rfl rfl trivial ?_
    refine go_iload_n (i := 1) dM_strike_8 rfl rfl ?_
    refine go_VX dM_strike_9 vkM171 (by assumption) (List.cons_ne_nil _ _) (sM_bargain (ST.rf hM) hw hT hy.1 hy.2) rfl (by omega) (by omega) (by omega) rfl (fun _ => Nat.le_of_ble_eq_true rfl) ?_
    rintro _ _ ⟨rfl, F2, m2, rfl, hM2, hF2, e2, hS2⟩ -
    dsimp only [rp]
    refine go_goto 17 dM_strike_12 rfl ?_
    refine go_iret dM_strike_17 rfl rfl ?_
    exact ⟨rfl, F2, m2, rfl, hM2, hF2, EQ.sb e2 hS2 (by simp)⟩
theorem qM_upToLast (hM : MOD F r m) (h0 : 0 ≤ m 0 6) (h1 : m 0 6 ≤ 20000) {n : Int} : CT g yM_upToLast 0 0 0 [gR r, gI n] (N, F) (RV (if n < 9999 - m 0 6 then n else 9999 - m 0 6) (N, F)) := by
  have ho := hM.1
  have a0 := hM.a0
  refine CT.of' (L0 := [gR r, gI n, gU]) plM (Nat.le_of_ble_eq_true rfl) rfl ?_
  refine go_sipush dM_upToLast_0 (inR_of _ rfl) rfl ?_
  refine go_aload_n (i := 0) dM_upToLast_3 rfl rfl trivial ?_
  refine go_getf dM_upToLast_4 flM7 (by assumption) rfl ?_
  refine go_bipush dM_upToLast_7 (inR_of _ rfl) rfl ?_
  refine go_iald' 6 _ dM_upToLast_9 (by assumption) rfl (by omega) rfl ?_
  refine go_isub dM_upToLast_10 ?_
  refine go_top (9999 - m 0 6) (by (try simp (discharger := (unfold inR; omega)) only [w32_id]) <;> omega) ?_
  refine go_is2 dM_upToLast_11 (Nat.le_of_ble_eq_true rfl) trivial ?_
  refine go_iload_n (i := 1) dM_upToLast_12 rfl rfl ?_
  refine go_iload_n (i := 2) dM_upToLast_13 rfl rfl ?_
  refine go_ic_ge 21 dM_upToLast_14 rfl (fun h14 => ?_) (fun h14 => ?_)
  · refine go_iload_n (i := 2) dM_upToLast_21 rfl rfl ?_
    refine go_iret dM_upToLast_22 rfl rfl ?_
    exact ⟨by rw [if_neg (by omega)], rfl⟩
  · refine go_iload_n (i := 1) dM_upToLast_17 rfl rfl ?_
    refine go_goto 22 dM_upToLast_18 rfl ?_
    refine go_iret dM_upToLast_22 rfl rfl ?_
    exact ⟨by rw [if_pos (by omega)], rfl⟩
def z_left (s : Nat → Int) (n : Int) : Nat := (if n < 9999 - s 6 then n else 9999 - s 6).toNat
def u_days (s : Nat → Int) (n : Int) : Nat → Int := if 1 ≤ n ∧ n ≤ 100 then zdays s (z_left s n) else s
def v_days (s : Nat → Int) (n : Int) : Int := if 1 ≤ n ∧ n ≤ 100 then zdays s (z_left s n) 3 - s 3 else BAD
theorem bM_days (hM : MOD F r m) (hw : zW (m 0)) (hT : zT (m 0)) (hd : m 0 6 ≤ 9999) {n : Int} : CT g yM_days 11 0 0 [gR r, gI n] (N, F) (MB N r F (gI (v_days (m 0) n)) (va_up m 0 (u_days (m 0) n))) := by
  have ho := hM.1
  have a0 := hM.a0
  have h6 := hw.2.2.1
  refine CT.of' (L0 := [gR r, gI n, gU]) plM (Nat.le_of_ble_eq_true rfl) rfl ?_
  refine go_iload_n (i := 1) dM_days_0 rfl rfl ?_
  refine go_i2l dM_days_1 ?_
  refine go_lconst (x := 1) dM_days_2 (inL_of2 _ rfl) rfl ?_
  refine go_ldc2 dM_days_3 kcM180 (inL_of2 _ rfl) ?_
  refine go_SP dM_days_6 vkM65 (ct_in _ _ _) rfl (by omega) rfl (fun _ => Nat.le_of_ble_eq_true rfl) ?_
  refine go_if_ne 15 dM_days_9 rfl (fun h9 => ?_) (fun h9 => ?_)
  · have hn : 1 ≤ n ∧ n ≤ 100 := by grind [zin]
    have hb : 0 ≤ (if n < 9999 - m 0 6 then n else 9999 - m 0 6) ∧ (if n < 9999 - m 0 6 then n else 9999 - m 0 6) ≤ 100 ∧ (if n < 9999 - m 0 6 then n else 9999 - m 0 6) ≤ 9999 - m 0 6 := by split <;> omega
    refine go_aload_n (i := 0) dM_days_15 rfl rfl trivial ?_
    refine go_getf dM_days_16 flM7 (by assumption) rfl ?_
    refine go_iconst dM_days_19 (inR_of _ rfl) ?_
    refine go_iald' 3 _ dM_days_20 (by assumption) rfl (by omega) rfl ?_
    refine go_is2 dM_days_21 (Nat.le_of_ble_eq_true rfl) trivial ?_
    refine go_aload_n (i := 0) dM_days_22 rfl rfl trivial ?_
    refine go_aload_n (i := 0) dM_days_23 rfl rfl trivial ?_
    refine go_iload_n (i := 1) dM_days_24 rfl rfl ?_
    refine go_VP dM_days_25 vkM182 (by assumption) (List.cons_ne_nil _ _) (qM_upToLast hM h6.1 (by omega)) rfl (by omega) rfl (fun _ => Nat.le_of_ble_eq_true rfl) ?_
    refine go_VX dM_days_28 vkM185 (by assumption) (List.cons_ne_nil _ _) (qM_daysGo hM hw hT hb.1 (by omega) (by omega)) rfl (by omega) (by omega) (by omega) rfl (fun _ => Nat.le_of_ble_eq_true rfl) ?_
    rintro _ _ ⟨rfl, F2, m2, rfl, hM2, hF2, e2, hS2⟩ -
    dsimp only [rp]
    have ho2 := hM2.1
    obtain ⟨W, k, l⟩ := zdays_W hw (z_left (m 0) n) (by unfold z_left; omega)
    have e23 : m2 0 3 = zdays (m 0) (z_left (m 0) n) 3 := by rw [e2]; rfl
    have b3 := W.2.1
    have c3 := hw.2.1
    refine go_aload_n (i := 0) dM_days_31 rfl rfl trivial ?_
    refine go_getf dM_days_32 flM7 (by assumption) rfl ?_
    refine go_iconst dM_days_35 (inR_of _ rfl) ?_
    refine go_iald' 3 _ dM_days_36 hM2.a0 rfl (by omega) e23 ?_
    refine go_iload_n (i := 2) dM_days_37 rfl rfl ?_
    refine go_isub dM_days_38 ?_
    refine go_top (zdays (m 0) (z_left (m 0) n) 3 - m 0 3) (by (try simp (discharger := (unfold inR; omega)) only [w32_id]) <;> omega) ?_
    refine go_iret dM_days_39 rfl rfl ?_
    refine ⟨by unfold v_days; rw [if_pos hn], F2, m2, rfl, hM2, hF2, EQ.sb ?_ hS2 (by simp)⟩
    unfold u_days
    rw [if_pos hn]
    exact e2
  · have hn : ¬ (1 ≤ n ∧ n ≤ 100) := by grind [zin]
    refine go_ldc dM_days_12 kcM96 (inR_of _ rfl) ?_
    refine go_iret dM_days_14 rfl rfl ?_
    unfold v_days u_days
    rw [if_neg hn, if_neg hn, va_up_id]
    exact MB.same hM rfl
theorem sM_holdingYards (h : ST r F m F1 m1) (hw : zW (m 0)) (hT : zT (m 0)) : CT g yM_holdingYards 8 0 0 [gR r] (N, F1) (MS N r F m (gI ((zmN (fun y : Nat => zhold (m 0) y) 6 : Nat) : Int))) := by
  have loop : ∀ (n i : Nat), i + n = 6 → ∀ (F1 : Nat → GC) (m1 : Nat → Nat → Int), ST r F m F1 m1 → Go g yM_holdingYards 8 0 0 4 [gR r, gI ((zmN (fun y : Nat => zhold (m 0) y) i : Nat) : Int), gI i] [] (N, F1) (MS N r F m (gI ((zmN (fun y : Nat => zhold (m 0) y) 6 : Nat) : Int))) := by
    intro n
    induction n with
    | zero =>
      intro i hi F1 m1 h
      refine go_iload_n (i := 2) dM_holdingYards_4 rfl rfl ?_
      refine go_bipush dM_holdingYards_5 (inR_of _ rfl) rfl ?_
      refine go_ic_ge 29 dM_holdingYards_7 rfl (fun h7 => ?_) (fun h7 => absurd (by omega) h7)
      refine go_iload_n (i := 1) dM_holdingYards_29 rfl rfl ?_
      refine go_iret dM_holdingYards_30 rfl rfl ?_
      have : i = 6 := by omega
      exact ⟨by rw [this], F1, m1, rfl, h⟩
    | succ n ih =>
      intro i hi F1 m1 h
      have ho := h.1.1
      have h01 := zhold01 (m 0) i
      have ht : ztruth (zhold (m 0) i) = zhold (m 0) i := by unfold ztruth; grind
      refine go_iload_n (i := 2) dM_holdingYards_4 rfl rfl ?_
      refine go_bipush dM_holdingYards_5 (inR_of _ rfl) rfl ?_
      refine go_ic_ge 29 dM_holdingYards_7 rfl (fun h7 => absurd h7 (by omega)) (fun h7 => ?_)
      refine go_iload_n (i := 1) dM_holdingYards_10 rfl rfl ?_
      refine go_aload_n (i := 0) dM_holdingYards_11 rfl rfl trivial ?_
      refine go_iload_n (i := 2) dM_holdingYards_12 rfl rfl ?_
      refine go_VX dM_holdingYards_13 vkM147 (by assumption) (List.cons_ne_nil _ _) (sM_isHolding h hw hT (by omega) (by omega)) rfl (by omega) (by omega) (by omega) rfl (fun _ => Nat.le_of_ble_eq_true rfl) ?_
      rintro _ _ ⟨rfl, F2, m2, rfl, h2⟩ -
      dsimp only [rp]
      refine go_SP dM_holdingYards_16 vkM71 (ct_truth _) rfl (by omega) rfl (fun _ => Nat.le_of_ble_eq_true rfl) ?_
      refine go_iload_n (i := 2) dM_holdingYards_19 rfl rfl ?_
      refine go_ishl dM_holdingYards_20 ?_
      refine go_ior dM_holdingYards_21 ?_
      have e : iOr ((zmN (fun y : Nat => zhold (m 0) y) i : Nat) : Int) (iShl (ztruth (zhold (m 0) i)) i) = ((zmN (fun y : Nat => zhold (m 0) y) (i + 1) : Nat) : Int) := by
        rw [ht]
        rcases h01 with e | e
        · rw [e, iShl_0 i (by omega)]
          exact zmk_or0 _ (by omega) (by show ¬ zhold (m 0) i = 1; omega)
        · rw [e]
          exact zmk_or (fun y : Nat => zhold (m 0) y) (by omega) e
      rw [e]
      refine go_is1 dM_holdingYards_22 (Nat.le_of_ble_eq_true rfl) trivial ?_
      refine go_inc2 (((i + 1 : Nat) : Int)) dM_holdingYards_23 (Nat.le_of_ble_eq_true rfl) trivial (by (try simp (discharger := (unfold inR; omega)) only [w32_id]) <;> omega) ?_
      refine go_goto 4 dM_holdingYards_26 rfl ?_
      exact ih (i + 1) (by omega) F2 m2 h2
  refine CT.of' (L0 := [gR r, gU, gU]) plM (Nat.le_of_ble_eq_true rfl) rfl ?_
  refine go_iconst dM_holdingYards_0 (inR_of _ rfl) ?_
  refine go_is1 dM_holdingYards_1 (Nat.le_of_ble_eq_true rfl) trivial ?_
  refine go_iconst dM_holdingYards_2 (inR_of _ rfl) ?_
  refine go_is2 dM_holdingYards_3 (Nat.le_of_ble_eq_true rfl) trivial ?_
  exact loop 6 0 rfl F1 m1 h
theorem qM_together (hM : MOD F r m) (hw : zW (m 0)) {w : Int} (h0 : w = 2 ∨ w = 4) : CT g yM_together 2 0 0 [gR r, gI w] (N, F) (RV (zsum (fun i => zk (m 0) i w) (zmany (m 0))) (N, F)) := by
  have ho := hM.1
  have a0 := hM.a0
  have hn0 := hw.1.1
  have hn1 := hw.1.2.1
  have hz : (zmany (m 0) : Int) = m 0 0 := by unfold zmany; omega
  have hb : ∀ i : Nat, i < zmany (m 0) → 0 ≤ zk (m 0) i w ∧ zk (m 0) i w ≤ 9999 := by
    intro i hi
    have := hw.goose (i := (i : Int)) (by omega) (by omega)
    rcases h0 with e | e <;> rw [e] <;> omega
  have loop : ∀ (n i : Nat), i + n = zmany (m 0) → Go g yM_together 2 0 0 4 [gR r, gI w, gI (zsum (fun i => zk (m 0) i w) i), gI i] [] (N, F) (RV (zsum (fun i => zk (m 0) i w) (zmany (m 0))) (N, F)) := by
    intro n
    induction n with
    | zero =>
      intro i hi
      refine go_iload_n (i := 3) dM_together_4 rfl rfl ?_
      refine go_aload_n (i := 0) dM_together_5 rfl rfl trivial ?_
      refine go_getf dM_together_6 flM7 (by assumption) rfl ?_
      refine go_iconst dM_together_9 (inR_of _ rfl) ?_
      refine go_iald' 0 _ dM_together_10 (by assumption) rfl (by omega) rfl ?_
      refine go_ic_ge 29 dM_together_11 rfl (fun h11 => ?_) (fun h11 => absurd (by omega) h11)
      refine go_iload_n (i := 2) dM_together_29 rfl rfl ?_
      refine go_iret dM_together_30 rfl rfl ?_
      have : i = zmany (m 0) := by omega
      exact ⟨by rw [this], rfl⟩
    | succ n ih =>
      intro i hi
      have hs := zsum_le (f := fun i => zk (m 0) i w) (a := 0) (b := 9999) (n := i) (fun j hj => hb j (by omega))
      have hb1 := hb i (by omega)
      have e : zsum (fun i => zk (m 0) i w) (i + 1) = zsum (fun i => zk (m 0) i w) i + zk (m 0) i w := rfl
      refine go_iload_n (i := 3) dM_together_4 rfl rfl ?_
      refine go_aload_n (i := 0) dM_together_5 rfl rfl trivial ?_
      refine go_getf dM_together_6 flM7 (by assumption) rfl ?_
      refine go_iconst dM_together_9 (inR_of _ rfl) ?_
      refine go_iald' 0 _ dM_together_10 (by assumption) rfl (by omega) rfl ?_
      refine go_ic_ge 29 dM_together_11 rfl (fun h11 => absurd h11 (by omega)) (fun h11 => ?_)
      refine go_iload_n (i := 2) dM_together_14 rfl rfl ?_
      refine go_aload_n (i := 0) dM_together_15 rfl rfl trivial ?_
      refine go_iload_n (i := 3) dM_together_16 rfl rfl ?_
      refine go_iload_n (i := 1) dM_together_17 rfl rfl ?_
      refine go_VP dM_together_18 vkM79 (by assumption) (List.cons_ne_nil _ _) (qM_its hM (by omega) (by omega) (by omega) (by omega)) rfl (by omega) rfl (fun _ => Nat.le_of_ble_eq_true rfl) ?_
      refine go_iadd dM_together_21 ?_
      refine go_top (zsum (fun i => zk (m 0) i w) (i + 1)) (by (try simp (discharger := (unfold inR; omega)) only [w32_id]) <;> omega) ?_
      refine go_is2 dM_together_22 (Nat.le_of_ble_eq_true rfl) trivial ?_
      refine go_inc3 (((i + 1 : Nat) : Int)) dM_together_23 (Nat.le_of_ble_eq_true rfl) trivial (by (try simp (discharger := (unfold inR; omega)) only [w32_id]) <;> omega) ?_
      refine go_goto 4 dM_together_26 rfl ?_
      exact ih (i + 1) (by omega)
  refine CT.of' (L0 := [gR r, gI w, gU, gU]) plM (Nat.le_of_ble_eq_true rfl) rfl ?_
  refine go_iconst dM_together_0 (inR_of _ rfl) ?_
  refine go_is2 dM_together_1 (Nat.le_of_ble_eq_true rfl) trivial ?_
  refine go_iconst dM_together_2 (inR_of _ rfl) ?_
  refine go_is3 dM_together_3 (Nat.le_of_ble_eq_true rfl) trivial ?_
  exact loop (zmany (m 0)) 0 (by omega)
/-- the first of the greatest -/
def zbest (f : Nat → Int) : Nat → Nat
  | 0 => 0
  | n + 1 => if f (zbest f n) < f n then n else zbest f n
theorem zbest_lt (f : Nat → Int) : ∀ n, zbest f n = 0 ∨ zbest f n < n
  | 0 => Or.inl rfl
  | n + 1 => by
    have := zbest_lt f n
    unfold zbest
    split <;> omega
theorem qM_eldest (hM : MOD F r m) (hw : zW (m 0)) : CT g yM_eldest 2 0 0 [gR r] (N, F) (RV (if m 0 0 = 0 then NONE else ((zbest (fun i => zk (m 0) i 2) (zmany (m 0)) : Nat) : Int)) (N, F)) := by
  have ho := hM.1
  have a0 := hM.a0
  have hn0 := hw.1.1
  have hn1 := hw.1.2.1
  have hz : (zmany (m 0) : Int) = m 0 0 := by unfold zmany; omega
  have e1 : zbest (fun i => zk (m 0) i 2) 1 = 0 := by unfold zbest zbest; simp
  have last : ∀ b i : Nat, (m 0 0 ≠ 0 → b = zbest (fun i => zk (m 0) i 2) (zmany (m 0))) → Go g yM_eldest 2 0 0 41 [gR r, gI b, gI i] [] (N, F) (RV (if m 0 0 = 0 then NONE else ((zbest (fun i => zk (m 0) i 2) (zmany (m 0)) : Nat) : Int)) (N, F)) := by
    intro b i hb
    refine go_aload_n (i := 0) dM_eldest_41 rfl rfl trivial ?_
    refine go_getf dM_eldest_42 flM7 (by assumption) rfl ?_
    refine go_iconst dM_eldest_45 (inR_of _ rfl) ?_
    refine go_iald' 0 _ dM_eldest_46 (by assumption) rfl (by omega) rfl ?_
    refine go_if_ne 55 dM_eldest_47 rfl (fun h47 => ?_) (fun h47 => ?_)
    · refine go_iload_n (i := 1) dM_eldest_55 rfl rfl ?_
      refine go_iret dM_eldest_56 rfl rfl ?_
      exact ⟨by rw [if_neg h47, hb h47], rfl⟩
    · refine go_ldc dM_eldest_50 kcM169 (inR_of _ rfl) ?_
      refine go_goto 56 dM_eldest_52 rfl ?_
      refine go_iret dM_eldest_56 rfl rfl ?_
      exact ⟨by rw [if_pos h47], rfl⟩
  have loop : ∀ (n i : Nat), 1 ≤ i → i + n = zmany (m 0) → Go g yM_eldest 2 0 0 4 [gR r, gI ((zbest (fun i => zk (m 0) i 2) i : Nat) : Int), gI i] [] (N, F) (RV (if m 0 0 = 0 then NONE else ((zbest (fun i => zk (m 0) i 2) (zmany (m 0)) : Nat) : Int)) (N, F)) := by
    intro n
    induction n with
    | zero =>
      intro i h1 hi
      refine go_iload_n (i := 2) dM_eldest_4 rfl rfl ?_
      refine go_aload_n (i := 0) dM_eldest_5 rfl rfl trivial ?_
      refine go_getf dM_eldest_6 flM7 (by assumption) rfl ?_
      refine go_iconst dM_eldest_9 (inR_of _ rfl) ?_
      refine go_iald' 0 _ dM_eldest_10 (by assumption) rfl (by omega) rfl ?_
      refine go_ic_ge 41 dM_eldest_11 rfl (fun h11 => ?_) (fun h11 => absurd (by omega) h11)
      have : i = zmany (m 0) := by omega
      exact last _ i (fun _ => by rw [this])
    | succ n ih =>
      intro i h1 hi
      have hb := zbest_lt (fun i => zk (m 0) i 2) i
      have t34 : ∀ b : Nat, b = zbest (fun i => zk (m 0) i 2) (i + 1) → Go g yM_eldest 2 0 0 34 [gR r, gI ((zbest (fun i => zk (m 0) i 2) i : Nat) : Int), gI i] [gI b] (N, F) (RV (if m 0 0 = 0 then NONE else ((zbest (fun i => zk (m 0) i 2) (zmany (m 0)) : Nat) : Int)) (N, F)) := by
        intro b hb
        refine go_is1 dM_eldest_34 (Nat.le_of_ble_eq_true rfl) trivial ?_
        refine go_inc2 (((i + 1 : Nat) : Int)) dM_eldest_35 (Nat.le_of_ble_eq_true rfl) trivial (by (try simp (discharger := (unfold inR; omega)) only [w32_id]) <;> omega) ?_
        refine go_goto 4 dM_eldest_38 rfl ?_
        rw [hb]
        exact ih (i + 1) (by omega) (by omega)
      have es : zbest (fun i => zk (m 0) i 2) (i + 1) = if zk (m 0) ((zbest (fun i => zk (m 0) i 2) i : Nat) : Int) 2 < zk (m 0) i 2 then i else zbest (fun i => zk (m 0) i 2) i := rfl
      refine go_iload_n (i := 2) dM_eldest_4 rfl rfl ?_
      refine go_aload_n (i := 0) dM_eldest_5 rfl rfl trivial ?_
      refine go_getf dM_eldest_6 flM7 (by assumption) rfl ?_
      refine go_iconst dM_eldest_9 (inR_of _ rfl) ?_
      refine go_iald' 0 _ dM_eldest_10 (by assumption) rfl (by omega) rfl ?_
      refine go_ic_ge 41 dM_eldest_11 rfl (fun h11 => absurd h11 (by omega)) (fun h11 => ?_)
      refine go_aload_n (i := 0) dM_eldest_14 rfl rfl trivial ?_
      refine go_iload_n (i := 2) dM_eldest_15 rfl rfl ?_
      refine go_iconst dM_eldest_16 (inR_of _ rfl) ?_
      refine go_VP dM_eldest_17 vkM79 (by assumption) (List.cons_ne_nil _ _) (qM_its hM (by omega) (by omega) (by omega) (by omega)) rfl (by omega) rfl (fun _ => Nat.le_of_ble_eq_true rfl) ?_
      refine go_aload_n (i := 0) dM_eldest_20 rfl rfl trivial ?_
      refine go_iload_n (i := 1) dM_eldest_21 rfl rfl ?_
      refine go_iconst dM_eldest_22 (inR_of _ rfl) ?_
      refine go_VP dM_eldest_23 vkM79 (by assumption) (List.cons_ne_nil _ _) (qM_its hM (by omega) (by omega) (by omega) (by omega)) rfl (by omega) rfl (fun _ => Nat.le_of_ble_eq_true rfl) ?_
      refine go_ic_le 33 dM_eldest_26 rfl (fun h26 => ?_) (fun h26 => ?_)
      · refine go_iload_n (i := 1) dM_eldest_33 rfl rfl ?_
        exact t34 _ (by rw [es, if_neg (by omega)])
      · refine go_iload_n (i := 2) dM_eldest_29 rfl rfl ?_
        refine go_goto 34 dM_eldest_30 rfl ?_
        exact t34 i (by rw [es, if_pos (by omega)])
  refine CT.of' (L0 := [gR r, gU, gU]) plM (Nat.le_of_ble_eq_true rfl) rfl ?_
  refine go_iconst dM_eldest_0 (inR_of _ rfl) ?_
  refine go_is1 dM_eldest_1 (Nat.le_of_ble_eq_true rfl) trivial ?_
  refine go_iconst dM_eldest_2 (inR_of _ rfl) ?_
  refine go_is2 dM_eldest_3 (Nat.le_of_ble_eq_true rfl) trivial ?_
  by_cases h : 1 ≤ zmany (m 0)
  · have := loop (zmany (m 0) - 1) 1 (by omega) (by omega)
    rw [e1] at this
    exact this
  · refine go_iload_n (i := 2) dM_eldest_4 rfl rfl ?_
    refine go_aload_n (i := 0) dM_eldest_5 rfl rfl trivial ?_
    refine go_getf dM_eldest_6 flM7 (by assumption) rfl ?_
    refine go_iconst dM_eldest_9 (inR_of _ rfl) ?_
    refine go_iald' 0 _ dM_eldest_10 (by assumption) rfl (by omega) rfl ?_
    refine go_ic_ge 41 dM_eldest_11 rfl (fun h11 => ?_) (fun h11 => absurd (by omega) h11)
    exact last 0 1 (fun h => by omega)
def v_county (s : Nat → Int) (w : Int) : Int := if 0 ≤ w ∧ w ≤ 2 then s (3 + w).toNat else if w = 3 then ((zmN (fun y : Nat => zhold s y) 6 : Nat) : Int) else if w = 4 then zsum (fun i => zk s i 2) (zmany s) else if w = 5 then zsum (fun i => zk s i 4) (zmany s) else if w = 6 then (if s 0 = 0 then NONE else ((zbest (fun i => zk s i 2) (zmany s) : Nat) : Int)) else BAD
theorem bM_county (hM : MOD F r m) (hw : zW (m 0)) (hT : zT (m 0)) {w : Int} : CT g yM_county 9 0 0 [gR r, gI w] (N, F) (MB N r F (gI (v_county (m 0) w)) m) := by
  have ho := hM.1
  refine CT.of' (L0 := [gR r, gI w]) plM (Nat.le_of_ble_eq_true rfl) rfl ?_
  refine go_iload_n (i := 1) dM_county_0 rfl rfl ?_
  have t44 : 0 ≤ w → w ≤ 2 → Go g yM_county 9 0 0 44 [gR r, gI w] [] (N, F) (MB N r F (gI (v_county (m 0) w)) m) := by
    intro w0 w2
    refine go_aload_n (i := 0) dM_county_44 rfl rfl trivial ?_
    refine go_getf dM_county_45 flM7 (by assumption) rfl ?_
    refine go_iconst dM_county_48 (inR_of _ rfl) ?_
    refine go_iload_n (i := 1) dM_county_49 rfl rfl ?_
    refine go_iadd dM_county_50 ?_
    refine go_iald' (3 + w).toNat _ dM_county_51 hM.a0 (by (try simp (discharger := (unfold inR; omega)) only [w32_id]) <;> omega) (by omega) rfl ?_
    refine go_iret dM_county_52 rfl rfl ?_
    exact MB.same hM (by unfold v_county; rw [if_pos ⟨w0, w2⟩])
  refine tabC dM_county_1 75 rfl (fun h => ?_) (fun n h1 h2 => ?_)
  · refine go_ldc dM_county_75 kcM96 (inR_of _ rfl) ?_
    refine go_iret dM_county_77 rfl rfl ?_
    exact MB.same hM (by unfold v_county; grind)
  · match n, h1 with
    | 0, h1 => exact ⟨_, rfl, 44, rfl, t44 (by omega) (by omega)⟩
    | 1, h1 => exact ⟨_, rfl, 44, rfl, t44 (by omega) (by omega)⟩
    | 2, h1 => exact ⟨_, rfl, 44, rfl, t44 (by omega) (by omega)⟩
    | 3, h1 =>
      refine ⟨_, rfl, 53, rfl, ?_⟩
      refine go_aload_n (i := 0) dM_county_53 rfl rfl trivial ?_
      refine go_VX dM_county_54 vkM189 (by assumption) (List.cons_ne_nil _ _) (sM_holdingYards (ST.rf hM) hw hT) rfl (by omega) (by omega) (by omega) rfl (fun _ => Nat.le_of_ble_eq_true rfl) ?_
      rintro _ _ ⟨rfl, F2, m2, rfl, h2⟩ -
      dsimp only [rp]
      refine go_iret dM_county_57 rfl rfl ?_
      exact MB.st h2 (by unfold v_county; grind)
    | 4, h1 =>
      refine ⟨_, rfl, 58, rfl, ?_⟩
      refine go_aload_n (i := 0) dM_county_58 rfl rfl trivial ?_
      refine go_iconst dM_county_59 (inR_of _ rfl) ?_
      refine go_VP dM_county_60 vkM192 (by assumption) (List.cons_ne_nil _ _) (qM_together hM hw (by omega)) rfl (by omega) rfl (fun _ => Nat.le_of_ble_eq_true rfl) ?_
      refine go_iret dM_county_63 rfl rfl ?_
      exact MB.same hM (by unfold v_county; grind)
    | 5, h1 =>
      refine ⟨_, rfl, 64, rfl, ?_⟩
      refine go_aload_n (i := 0) dM_county_64 rfl rfl trivial ?_
      refine go_iconst dM_county_65 (inR_of _ rfl) ?_
      refine go_VP dM_county_66 vkM192 (by assumption) (List.cons_ne_nil _ _) (qM_together hM hw (by omega)) rfl (by omega) rfl (fun _ => Nat.le_of_ble_eq_true rfl) ?_
      refine go_iret dM_county_69 rfl rfl ?_
      exact MB.same hM (by unfold v_county; grind)
    | 6, h1 =>
      refine ⟨_, rfl, 70, rfl, ?_⟩
      refine go_aload_n (i := 0) dM_county_70 rfl rfl trivial ?_
      refine go_VP dM_county_71 vkM195 (by assumption) (List.cons_ne_nil _ _) (qM_eldest hM hw) rfl (by omega) rfl (fun _ => Nat.le_of_ble_eq_true rfl) ?_
      refine go_iret dM_county_74 rfl rfl ?_
      exact MB.same hM (by unfold v_county; grind)
    | n + 7, h1 => omega
end MPUB3
