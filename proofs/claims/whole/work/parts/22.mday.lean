/-! ===== the model: masks, draws, bargains, a day ===== -/
section MDAY
variable {g : GX} {N r : Nat} {F F1 : Nat → GC} {m m1 : Nat → Nat → Int}
theorem sM_geeseIn (h : ST r F m F1 m1) (hw : zW (m 0)) (hT : zT (m 0)) {y b : Int} (p : Nat → Int) (hp0 : b = 0 → p = fun i : Nat => if zk (m 0) i 3 = y then 1 else 0) (hp1 : ¬ b = 0 → p = fun i : Nat => zwit (m 0) i y) : CT g yM_geeseIn 6 0 0 [gR r, gI y, gI b] (N, F1) (MS N r F m (gI ((zmN p (zmany (m 0)) : Nat) : Int))) := by
  have hn0 := hw.1.1
  have hn1 := hw.1.2.1
  have hz : (zmany (m 0) : Int) = m 0 0 := by unfold zmany; omega
  have loop : ∀ (n i : Nat), i + n = zmany (m 0) → ∀ (x5 : GV) (F1 : Nat → GC) (m1 : Nat → Nat → Int), ST r F m F1 m1 → Go g yM_geeseIn 6 0 0 5 [gR r, gI y, gI b, gI ((zmN p i : Nat) : Int), gI i, x5] [] (N, F1) (MS N r F m (gI ((zmN p (zmany (m 0)) : Nat) : Int))) := by
    intro n
    induction n with
    | zero =>
      intro i hi x5 F1 m1 h
      have ho := h.1.1
      have a0 := h.1.a0
      refine go_iload dM_geeseIn_5 rfl ?_
      refine go_aload_n (i := 0) dM_geeseIn_7 rfl rfl trivial ?_
      refine go_getf dM_geeseIn_8 flM7 (by assumption) rfl ?_
      refine go_iconst dM_geeseIn_11 (inR_of _ rfl) ?_
      refine go_iald' 0 _ dM_geeseIn_12 (by assumption) rfl (by omega) rfl ?_
      rw [h.2.2.1]
      refine go_ic_ge 70 dM_geeseIn_13 rfl (fun h13 => ?_) (fun h13 => absurd (by omega) h13)
      refine go_iload_n (i := 3) dM_geeseIn_70 rfl rfl ?_
      refine go_iret dM_geeseIn_71 rfl rfl ?_
      have : i = zmany (m 0) := by omega
      exact ⟨by rw [this], F1, m1, rfl, h⟩
    | succ n ih =>
      intro i hi x5 F1 m1 h
      have ho := h.1.1
      have a0 := h.1.a0
      have hM := h.1
      have tail : ∀ (x : Int) (F1 : Nat → GC) (m1 : Nat → Nat → Int), ST r F m F1 m1 → x = p i → Go g yM_geeseIn 6 0 0 46 [gR r, gI y, gI b, gI ((zmN p i : Nat) : Int), gI i, x5] [gI x] (N, F1) (MS N r F m (gI ((zmN p (zmany (m 0)) : Nat) : Int))) := by
        intro x F1 m1 h hx
        have t62 : ∀ v : Int, iOr ((zmN p i : Nat) : Int) v = ((zmN p (i + 1) : Nat) : Int) → Go g yM_geeseIn 6 0 0 62 [gR r, gI y, gI b, gI ((zmN p i : Nat) : Int), gI i, gI x] [gI v, gI ((zmN p i : Nat) : Int)] (N, F1) (MS N r F m (gI ((zmN p (zmany (m 0)) : Nat) : Int))) := by
          intro v hv
          refine go_ior dM_geeseIn_62 ?_
          rw [hv]
          refine go_is3 dM_geeseIn_63 (Nat.le_of_ble_eq_true rfl) trivial ?_
          refine go_inc4 (((i + 1 : Nat) : Int)) dM_geeseIn_64 (Nat.le_of_ble_eq_true rfl) trivial (by (try simp (discharger := (unfold inR; omega)) only [w32_id]) <;> omega) ?_
          refine go_goto 5 dM_geeseIn_67 rfl ?_
          exact ih (i + 1) (by omega) _ F1 m1 h
        have hp01 : p i = 0 ∨ p i = 1 := by
          by_cases hb : b = 0
          · rw [hp0 hb]; grind
          · rw [hp1 hb]; exact zwit01 _ _ _
        refine go_is5 dM_geeseIn_46 (Nat.le_of_ble_eq_true rfl) trivial ?_
        refine go_iload_n (i := 3) dM_geeseIn_48 rfl rfl ?_
        refine go_iload dM_geeseIn_49 rfl ?_
        refine go_if_eq 61 dM_geeseIn_51 rfl (fun h51 => ?_) (fun h51 => ?_)
        · refine go_iconst dM_geeseIn_61 (inR_of _ rfl) ?_
          exact t62 0 (zmk_or0 p (by omega) (by omega))
        · refine go_iconst dM_geeseIn_54 (inR_of _ rfl) ?_
          refine go_iload dM_geeseIn_55 rfl ?_
          refine go_ishl dM_geeseIn_57 ?_
          refine go_goto 62 dM_geeseIn_58 rfl ?_
          exact t62 _ (zmk_or p (by omega) (by omega))
      refine go_iload dM_geeseIn_5 rfl ?_
      refine go_aload_n (i := 0) dM_geeseIn_7 rfl rfl trivial ?_
      refine go_getf dM_geeseIn_8 flM7 (by assumption) rfl ?_
      refine go_iconst dM_geeseIn_11 (inR_of _ rfl) ?_
      refine go_iald' 0 _ dM_geeseIn_12 (by assumption) rfl (by omega) rfl ?_
      rw [h.2.2.1]
      refine go_ic_ge 70 dM_geeseIn_13 rfl (fun h13 => absurd h13 (by omega)) (fun h13 => ?_)
      refine go_iload_n (i := 2) dM_geeseIn_16 rfl rfl ?_
      refine go_if_eq 30 dM_geeseIn_17 rfl (fun h17 => ?_) (fun h17 => ?_)
      · refine go_aload_n (i := 0) dM_geeseIn_30 rfl rfl trivial ?_
        refine go_iload dM_geeseIn_31 rfl ?_
        refine go_iconst dM_geeseIn_33 (inR_of _ rfl) ?_
        refine go_VP dM_geeseIn_34 vkM79 (by assumption) (List.cons_ne_nil _ _) (qM_its hM (by omega) (by omega) (by omega) (by omega)) rfl (by omega) rfl (fun _ => Nat.le_of_ble_eq_true rfl) ?_
        rw [h.2.2.1]
        refine go_iload_n (i := 1) dM_geeseIn_37 rfl rfl ?_
        refine go_ic_ne 45 dM_geeseIn_38 rfl (fun h38 => ?_) (fun h38 => ?_)
        · refine go_iconst dM_geeseIn_45 (inR_of _ rfl) ?_
          exact tail 0 F1 m1 h (by rw [hp0 h17]; grind)
        · refine go_iconst dM_geeseIn_41 (inR_of _ rfl) ?_
          refine go_goto 46 dM_geeseIn_42 rfl ?_
          exact tail 1 F1 m1 h (by rw [hp0 h17]; grind)
      · refine go_aload_n (i := 0) dM_geeseIn_20 rfl rfl trivial ?_
        refine go_iload dM_geeseIn_21 rfl ?_
        refine go_iload_n (i := 1) dM_geeseIn_23 rfl rfl ?_
        refine go_VX dM_geeseIn_24 vkM137 (by assumption) (List.cons_ne_nil _ _) (sM_isWitness h hw hT (by omega) (by omega)) rfl (by omega) (by omega) (by omega) rfl (fun _ => Nat.le_of_ble_eq_true rfl) ?_
        rintro _ _ ⟨rfl, F2, m2, rfl, h2⟩ -
        dsimp only [rp]
        refine go_goto 46 dM_geeseIn_27 rfl ?_
        exact tail _ F2 m2 h2 (by rw [hp1 h17])
  refine CT.of' (L0 := [gR r, gI y, gI b, gU, gU, gU]) plM (Nat.le_of_ble_eq_true rfl) rfl ?_
  refine go_iconst dM_geeseIn_0 (inR_of _ rfl) ?_
  refine go_is3 dM_geeseIn_1 (Nat.le_of_ble_eq_true rfl) trivial ?_
  refine go_iconst dM_geeseIn_2 (inR_of _ rfl) ?_
  refine go_is4 dM_geeseIn_3 (Nat.le_of_ble_eq_true rfl) trivial ?_
  exact loop (zmany (m 0)) 0 (by omega) _ F1 m1 h
/-- behind a method that changes the row s to S (and what is worked out on) -/
def MU (N r : Nat) (F : Nat → GC) (m : Nat → Nat → Int) (v : GV) (S : Nat → Int) : GV → GM → Prop := fun rr M' => rr = v ∧ ∃ (F2 : Nat → GC) (m2 : Nat → Nat → Int), M' = (N, F2) ∧ MOD F2 r m2 ∧ FR r F F2 ∧ m2 0 = S ∧ SB [0, 4, 5] m m2
theorem qM_draw (hM : MOD F r m) : CT g yM_draw 0 0 0 [gR r] (N, F) (MU N r F m (gI (zdv (zdraw (m 0 7)))) (va_up (m 0) 7 (zdraw (m 0 7)))) := by
  have ho := hM.1
  have a0 := hM.a0
  refine CT.of' (L0 := [gR r]) plM (Nat.le_of_ble_eq_true rfl) rfl ?_
  refine go_aload_n (i := 0) dM_draw_0 rfl rfl trivial ?_
  refine go_getf dM_draw_1 flM7 (by assumption) rfl ?_
  refine go_bipush dM_draw_4 (inR_of _ rfl) rfl ?_
  refine go_aload_n (i := 0) dM_draw_6 rfl rfl trivial ?_
  refine go_getf dM_draw_7 flM7 (by assumption) rfl ?_
  refine go_bipush dM_draw_10 (inR_of _ rfl) rfl ?_
  refine go_iald' 7 _ dM_draw_12 (by assumption) rfl (by omega) rfl ?_
  refine go_ldc dM_draw_13 kcM150 (inR_of _ rfl) ?_
  refine go_imul dM_draw_15 ?_
  refine go_sipush dM_draw_16 (inR_of _ rfl) rfl ?_
  refine go_iadd dM_draw_19 ?_
  refine go_mst (i := 0) (k := 7) hM (by omega) dM_draw_20 rfl rfl (by decide) (fun F2 m2 hM2 hF2 e2 => ?_)
  have ho2 := hM2.1
  refine go_aload_n (i := 0) dM_draw_21 rfl rfl trivial ?_
  refine go_getf dM_draw_22 flM7 (by assumption) rfl ?_
  refine go_bipush dM_draw_25 (inR_of _ rfl) rfl ?_
  refine go_iald' 7 (zdraw (m 0 7)) dM_draw_27 hM2.a0 rfl (by omega) (by rw [e2]; rfl) ?_
  refine go_bipush dM_draw_28 (inR_of _ rfl) rfl ?_
  refine go_iushr dM_draw_30 ?_
  refine go_iret dM_draw_31 rfl rfl ?_
  exact ⟨rfl, F2, m2, rfl, hM2, hF2, by rw [e2]; rfl, by rw [e2]; exact SB.rf.put (by simp)⟩
def zbargS (s : Nat → Int) (y : Int) (i : Nat) : Int := zheld (zk s i 4 + (if zhold s y = 1 ∧ zwit s i y = 1 then 1 else 0)) 0 9999
/-- a bargain in yard y -/
def zbarg (s : Nat → Int) (y : Int) : Nat → Int := va_up (zset s 4 (zbargS s y) (zmany s)) (if zhold s y = 1 then 3 else 4) (zheld (s (if zhold s y = 1 then 3 else 4) + 1) 0 99999)
theorem zk_nat (s : Nat → Int) (i w : Nat) : zk s i w = s (14 + 5 * i + w) := by unfold zk; congr 1
theorem sM_bargain (h : ST r F m F1 m1) (hw : zW (m 0)) (hT : zT (m 0)) {y : Int} (h0 : 0 ≤ y) (h1 : y ≤ 5) : CT g yM_bargain 8 0 0 [gR r, gI y] (N, F1) (MU N r F m (gI (zhold (m 0) y)) (zbarg (m 0) y)) := by
  have hn0 := hw.1.1
  have hn1 := hw.1.2.1
  have hz : (zmany (m 0) : Int) = m 0 0 := by unfold zmany; omega
  have hh := zhold01 (m 0) y
  have hmiss : ∀ i j : Nat, j < 14 → zset (m 0) 4 (zbargS (m 0) y) i j = m 0 j := fun i j hj => zset_miss (fun k hk => by omega)
  have loop : ∀ (n i : Nat), i + n = zmany (m 0) → ∀ (x5 : GV) (F1 : Nat → GC) (m1 : Nat → Nat → Int), MOD F1 r m1 → FR r F F1 → m1 0 = zset (m 0) 4 (zbargS (m 0) y) i → SB [0, 4, 5] m m1 → Go g yM_bargain 8 0 0 16 [gR r, gI y, gI (zhold (m 0) y), gI ((zmN (fun i => zwit (m 0) i y) (zmany (m 0)) : Nat) : Int), gI i, x5] [] (N, F1) (MU N r F m (gI (zhold (m 0) y)) (zbarg (m 0) y)) := by
    intro n
    induction n with
    | zero =>
      intro i hi x5 F1 m1 hM1 hF1 e1 hS1
      have ho := hM1.1
      have a0 := hM1.a0
      have hi2 : i = zmany (m 0) := by omega
      have e0 : m1 0 0 = m 0 0 := by rw [e1]; exact hmiss _ _ (by omega)
      have t94 : ∀ w : Nat, w = (if zhold (m 0) y = 1 then 3 else 4) → Go g yM_bargain 8 0 0 94 [gR r, gI y, gI (zhold (m 0) y), gI ((zmN (fun i => zwit (m 0) i y) (zmany (m 0)) : Nat) : Int), gI i, x5] [gI w] (N, F1) (MU N r F m (gI (zhold (m 0) y)) (zbarg (m 0) y)) := by
        intro w hw2
        have hw3 : w = 3 ∨ w = 4 := by rw [hw2]; grind
        have ew : m1 0 w = m 0 w := by rw [e1]; exact hmiss _ _ (by omega)
        have hb : 0 ≤ m 0 w ∧ m 0 w ≤ 99999 := by
          have := hw.2.1
          rcases hw3 with e | e <;> rw [e] <;> omega
        refine go_is4 dM_bargain_94 (Nat.le_of_ble_eq_true rfl) trivial ?_
        refine go_aload_n (i := 0) dM_bargain_96 rfl rfl trivial ?_
        refine go_getf dM_bargain_97 flM7 (by assumption) rfl ?_
        refine go_iload dM_bargain_100 rfl ?_
        refine go_aload_n (i := 0) dM_bargain_102 rfl rfl trivial ?_
        refine go_getf dM_bargain_103 flM7 (by assumption) rfl ?_
        refine go_iload dM_bargain_106 rfl ?_
        refine go_iald' w (m 0 w) dM_bargain_108 hM1.a0 rfl (by omega) ew ?_
        refine go_iconst dM_bargain_109 (inR_of _ rfl) ?_
        refine go_iadd dM_bargain_110 ?_
        refine go_top (m 0 w + 1) (by (try simp (discharger := (unfold inR; omega)) only [w32_id]) <;> omega) ?_
        refine go_iconst dM_bargain_111 (inR_of _ rfl) ?_
        refine go_ldc dM_bargain_112 kcM170 (inR_of _ rfl) ?_
        refine go_SP dM_bargain_114 vkM89 (ct_held _ _ _) rfl (by omega) rfl (fun _ => Nat.le_of_ble_eq_true rfl) ?_
        refine go_mst (i := 0) (k := w) hM1 (by omega) dM_bargain_117 rfl rfl (by show w < 1510; omega) (fun F2 m2 hM2 hF2 e2 => ?_)
        refine go_iload_n (i := 2) dM_bargain_118 rfl rfl ?_
        refine go_SP dM_bargain_119 vkM71 (ct_truth _) rfl (by omega) rfl (fun _ => Nat.le_of_ble_eq_true rfl) ?_
        refine go_iret dM_bargain_122 rfl rfl ?_
        refine ⟨by congr 1; unfold ztruth; grind, F2, m2, rfl, hM2, hF1.tr hF2, ?_, ?_⟩
        · rw [e2]
          show va_up (m1 0) w _ = _
          unfold zbarg
          rw [e1, hi2, hw2]
        · rw [e2]; exact hS1.put (by simp)
      refine go_iload dM_bargain_16 rfl ?_
      refine go_aload_n (i := 0) dM_bargain_18 rfl rfl trivial ?_
      refine go_getf dM_bargain_19 flM7 (by assumption) rfl ?_
      refine go_iconst dM_bargain_22 (inR_of _ rfl) ?_
      refine go_iald' 0 _ dM_bargain_23 (by assumption) rfl (by omega) rfl ?_
      rw [e0]
      refine go_ic_ge 85 dM_bargain_24 rfl (fun h24 => ?_) (fun h24 => absurd (by omega) h24)
      refine go_iload_n (i := 2) dM_bargain_85 rfl rfl ?_
      refine go_if_eq 93 dM_bargain_86 rfl (fun h86 => ?_) (fun h86 => ?_)
      · refine go_iconst dM_bargain_93 (inR_of _ rfl) ?_
        exact t94 4 (by rw [if_neg (by omega)])
      · refine go_iconst dM_bargain_89 (inR_of _ rfl) ?_
        refine go_goto 94 dM_bargain_90 rfl ?_
        exact t94 3 (by rw [if_pos (by omega)])
    | succ n ih =>
      intro i hi x5 F1 m1 hM1 hF1 e1 hS1
      have ho := hM1.1
      have a0 := hM1.a0
      have hM := hM1
      have e0 : m1 0 0 = m 0 0 := by rw [e1]; exact hmiss _ _ (by omega)
      have eI : zk (m1 0) i 4 = zk (m 0) i 4 := by
        rw [show (4 : Int) = ((4 : Nat) : Int) from rfl, zk_nat, zk_nat, e1]
        exact zset_miss (fun k hk => by omega)
      have hg := hw.goose (i := (i : Int)) (by omega) (by omega)
      have tail : ∀ x : Int, x = (if zhold (m 0) y = 1 ∧ zwit (m 0) i y = 1 then 1 else 0) → Go g yM_bargain 8 0 0 46 [gR r, gI y, gI (zhold (m 0) y), gI ((zmN (fun i => zwit (m 0) i y) (zmany (m 0)) : Nat) : Int), gI i, x5] [gI x] (N, F1) (MU N r F m (gI (zhold (m 0) y)) (zbarg (m 0) y)) := by
        intro x hx
        have hx1 : x = 0 ∨ x = 1 := by rw [hx]; grind
        have hx2 : ztruth x = x := by unfold ztruth; grind
        refine go_is5 dM_bargain_46 (Nat.le_of_ble_eq_true rfl) trivial ?_
        refine go_aload_n (i := 0) dM_bargain_48 rfl rfl trivial ?_
        refine go_getf dM_bargain_49 flM7 (by assumption) rfl ?_
        refine go_iload dM_bargain_52 rfl ?_
        refine go_iconst dM_bargain_54 (inR_of _ rfl) ?_
        refine go_SP dM_bargain_55 vkM61 (ct_spot _ _) rfl (by omega) rfl (fun _ => Nat.le_of_ble_eq_true rfl) ?_
        refine go_aload_n (i := 0) dM_bargain_58 rfl rfl trivial ?_
        refine go_iload dM_bargain_59 rfl ?_
        refine go_iconst dM_bargain_61 (inR_of _ rfl) ?_
        refine go_VP dM_bargain_62 vkM79 (by assumption) (List.cons_ne_nil _ _) (qM_its hM (by omega) (by omega) (by omega) (by omega)) rfl (by omega) rfl (fun _ => Nat.le_of_ble_eq_true rfl) ?_
        rw [eI]
        refine go_iload dM_bargain_65 rfl ?_
        refine go_SP dM_bargain_67 vkM71 (ct_truth _) rfl (by omega) rfl (fun _ => Nat.le_of_ble_eq_true rfl) ?_
        rw [hx2]
        refine go_iadd dM_bargain_70 ?_
        refine go_top (zk (m 0) i 4 + x) (by (try simp (discharger := (unfold inR; omega)) only [w32_id]) <;> omega) ?_
        refine go_iconst dM_bargain_71 (inR_of _ rfl) ?_
        refine go_sipush dM_bargain_72 (inR_of _ rfl) rfl ?_
        refine go_SP dM_bargain_75 vkM89 (ct_held _ _ _) rfl (by omega) rfl (fun _ => Nat.le_of_ble_eq_true rfl) ?_
        refine go_mst (i := 0) (k := 14 + 5 * i + 4) hM1 (by omega) dM_bargain_78 rfl ?_ (by show _ < 1510; omega) (fun F2 m2 hM2 hF2 e2 => ?_)
        · (try simp (discharger := (unfold inR; omega)) only [w32_id]) <;> omega
        refine go_inc4 (((i + 1 : Nat) : Int)) dM_bargain_79 (Nat.le_of_ble_eq_true rfl) trivial (by (try simp (discharger := (unfold inR; omega)) only [w32_id]) <;> omega) ?_
        refine go_goto 16 dM_bargain_82 rfl ?_
        refine ih (i + 1) (by omega) _ F2 m2 hM2 (hF1.tr hF2) ?_ (by rw [e2]; exact hS1.put (by simp))
        rw [e2]
        show va_up (m1 0) (14 + 5 * i + 4) _ = va_up (zset (m 0) 4 (zbargS (m 0) y) i) (14 + 5 * i + 4) (zbargS (m 0) y i)
        rw [e1, hx]
        rfl
      refine go_iload dM_bargain_16 rfl ?_
      refine go_aload_n (i := 0) dM_bargain_18 rfl rfl trivial ?_
      refine go_getf dM_bargain_19 flM7 (by assumption) rfl ?_
      refine go_iconst dM_bargain_22 (inR_of _ rfl) ?_
      refine go_iald' 0 _ dM_bargain_23 (by assumption) rfl (by omega) rfl ?_
      rw [e0]
      refine go_ic_ge 85 dM_bargain_24 rfl (fun h24 => absurd h24 (by omega)) (fun h24 => ?_)
      refine go_iload_n (i := 2) dM_bargain_27 rfl rfl ?_
      refine go_if_eq 45 dM_bargain_28 rfl (fun h28 => ?_) (fun h28 => ?_)
      · refine go_iconst dM_bargain_45 (inR_of _ rfl) ?_
        exact tail 0 (by rw [if_neg (by omega)])
      · refine go_iload_n (i := 3) dM_bargain_31 rfl rfl ?_
        refine go_iload dM_bargain_32 rfl ?_
        refine go_ishr dM_bargain_34 ?_
        refine go_iconst dM_bargain_35 (inR_of _ rfl) ?_
        refine go_iand dM_bargain_36 ?_
        rw [zmk_bit _ (by omega) (by omega)]
        refine go_iconst dM_bargain_37 (inR_of _ rfl) ?_
        refine go_ic_ne 45 dM_bargain_38 rfl (fun h38 => ?_) (fun h38 => ?_)
        · refine go_iconst dM_bargain_45 (inR_of _ rfl) ?_
          exact tail 0 (by grind)
        · refine go_iconst dM_bargain_41 (inR_of _ rfl) ?_
          refine go_goto 46 dM_bargain_42 rfl ?_
          exact tail 1 (by grind)
  have ho := h.1.1
  refine CT.of' (L0 := [gR r, gI y, gU, gU, gU, gU]) plM (Nat.le_of_ble_eq_true rfl) rfl ?_
  refine go_aload_n (i := 0) dM_bargain_0 rfl rfl trivial ?_
  refine go_iload_n (i := 1) dM_bargain_1 rfl rfl ?_
  refine go_VX dM_bargain_2 vkM147 (by assumption) (List.cons_ne_nil _ _) (sM_isHolding h hw hT h0 h1) rfl (by omega) (by omega) (by omega) rfl (fun _ => Nat.le_of_ble_eq_true rfl) ?_
  rintro _ _ ⟨rfl, F2, m2, rfl, h2⟩ -
  dsimp only [rp]
  have ho := h2.1.1
  refine go_is2 dM_bargain_5 (Nat.le_of_ble_eq_true rfl) trivial ?_
  refine go_aload_n (i := 0) dM_bargain_6 rfl rfl trivial ?_
  refine go_iload_n (i := 1) dM_bargain_7 rfl rfl ?_
  refine go_iconst dM_bargain_8 (inR_of _ rfl) ?_
  refine go_VX dM_bargain_9 vkM143 (by assumption) (List.cons_ne_nil _ _) (sM_geeseIn h2 hw hT (fun i => zwit (m 0) i y) (fun e => absurd e (by omega)) (fun _ => rfl)) rfl (by omega) (by omega) (by omega) rfl (fun _ => Nat.le_of_ble_eq_true rfl) ?_
  rintro _ _ ⟨rfl, F3, m3, rfl, h3⟩ -
  dsimp only [rp]
  refine go_is3 dM_bargain_12 (Nat.le_of_ble_eq_true rfl) trivial ?_
  refine go_iconst dM_bargain_13 (inR_of _ rfl) ?_
  refine go_is4 dM_bargain_14 (Nat.le_of_ble_eq_true rfl) trivial ?_
  exact loop (zmany (m 0)) 0 (by omega) _ F3 m3 h3.1 h3.2.1 h3.2.2.1 h3.2.2.2
end MDAY
