/-! ===== the component: a day ===== -/
theorem zP_keep {s s' : Nat → Int} (h : zP s) (hk : ∀ j : Nat, 64 ≤ j → s' j = s j) : zP s' := by
  intro t ht
  rw [hk 64 (by omega)] at ht
  have e : (fun k => s' (110 + 100 * t + k)) = (fun k => s (110 + 100 * t + k)) := funext (fun k => hk _ (by omega))
  obtain ⟨h1, h2⟩ := h t ht
  refine ⟨?_, fun k hk2 hk3 => ?_⟩
  · rw [e, hk _ (by omega), hk _ (by omega)]; exact h1
  · rw [hk (82 + t) (by omega)] at hk2
    rw [hk (110 + 100 * t + k) (by omega)] at hk3 ⊢
    exact h2 k hk2 hk3
theorem ZG.keep {s s' : Nat → Int} (h : ZG s) (hw : zW s') (hk : ∀ j : Nat, 64 ≤ j → s' j = s j) : ZG s' := ⟨hw, zT_keep h.2.1 hk, zP_keep h.2.2 hk⟩
theorem zset_same {s : Nat → Int} {w : Nat} {f : Nat → Int} {i : Nat} (h : f i = s (14 + 5 * i + w)) : zset s w f (i + 1) = zset s w f i := by
  show va_up (zset s w f i) (14 + 5 * i + w) (f i) = _
  have e : f i = zset s w f i (14 + 5 * i + w) := by rw [zset_miss (fun k hk => by omega)]; exact h
  rw [e, va_up_id]
theorem zset_all {s : Nat → Int} {w : Nat} {f : Nat → Int} : ∀ {n : Nat}, (∀ i, i < n → f i = s (14 + 5 * i + w)) → zset s w f n = s
  | 0, _ => rfl
  | n + 1, h => by rw [zset_same (h n (by omega))]; exact zset_all (fun i hi => h i (by omega))
theorem zk_set {s : Nat → Int} {w : Nat} {f : Nat → Int} {i : Nat} (v : Nat) (hv : v < 5) (hw : w < 5) : zk (zset s w f i) i v = zk s i v := by
  rw [zk_nat, zk_nat, zset_goose hv hw, if_neg (by omega)]
theorem zk_up {s : Nat → Int} {k : Nat} {x : Int} {i v : Nat} (hk : k < 14) : zk (va_up s k x) i v = zk s i v := by
  rw [zk_nat, zk_nat, va_up_ne _ _ (by omega)]
theorem iMin_held {c x : Int} (h : 0 ≤ x) : iMin c x = zheld x 0 c := by
  unfold iMin zheld
  repeat' split
  all_goals omega
def CU (N b : Nat) (F : Nat → GC) (v : GV) (S : Nat → Int) : GV → GM → Prop := fun rr M' => rr = v ∧ ∃ F2 : Nat → GC, M' = (N, F2) ∧ CTY F2 b S ∧ FK (inC b) F F2
section CDAY
variable {g : GX} {N a b : Nat} {F : Nat → GC} {s : Nat → Int}
theorem FS.c {F' : Nat → GC} (h : FS F F') : FK (inC b) F F' := FK.mono h (fun _ q => False.elim q)
theorem qB_draw (h : CTY F b s) (h103 : b + 16 ≤ 103) : CT g yB_draw 0 0 0 [gR b] (N, F) (CU N b F (gI (zdv (zdraw (s 7)))) (va_up s 7 (zdraw (s 7)))) := by
  have ho := h.1
  refine CT.of' (L0 := [gR b]) plB (Nat.le_of_ble_eq_true rfl) rfl ?_
  refine go_aload_n (i := 0) dB_draw_0 rfl rfl trivial ?_
  refine go_aload_n (i := 0) dB_draw_1 rfl rfl trivial ?_
  refine go_getf dB_draw_2 flB58 (by assumption) rfl ?_
  refine go_ldc dB_draw_5 kcB94 (inR_of _ rfl) ?_
  refine go_imul dB_draw_7 ?_
  refine go_sipush dB_draw_8 (inR_of _ rfl) rfl ?_
  refine go_iadd dB_draw_11 ?_
  refine go_top (zdraw (s 7)) rfl ?_
  refine go_cpf h h103 (k := 7) (by omega) dB_draw_12 flB58 (by omega) rfl (fun F1 h1 hF1 => ?_)
  have ho := h1.1
  refine go_aload_n (i := 0) dB_draw_15 rfl rfl trivial ?_
  refine go_getf dB_draw_16 flB58 (by assumption) rfl ?_
  refine go_bipush dB_draw_19 (inR_of _ rfl) rfl ?_
  refine go_iushr dB_draw_21 ?_
  refine go_iret dB_draw_22 rfl rfl ?_
  exact ⟨by congr 1, F1, rfl, h1, hF1⟩
theorem qB_bargain (h : CTY F b s) (h103 : b + 16 ≤ 103) (hZ : ZG s) {y : Int} (hy : 0 ≤ y ∧ y ≤ 5) : CT g yB_bargain 4 0 0 [gR b, gI y] (N, F) (CU N b F (gI (zhold s y)) (zbarg s y)) := by
  obtain ⟨hz1, hz⟩ := zmany_le hZ.1
  have ho := h.1
  have b3 := hZ.1.2.1
  have loop : zhold s y = 1 → ∀ (n i : Nat), i + n = zmany s → ∀ F1 : Nat → GC, CTY F1 b (va_up (zset s 4 (zbargS s y) i) 3 (zheld (s 3 + 1) 0 99999)) → FK (inC b) F F1 → Go g yB_bargain 4 0 0 54 [gR b, gI y, gI ((zmN (fun i : Nat => zwit s i y) (zmany s) : Nat) : Int), gI (i : Int)] [] (N, F1) (CU N b F (gI (zhold s y)) (zbarg s y)) := by
    intro hh n
    induction n with
    | zero =>
      intro i hi F1 hC hF
      have ho := hC.1
      have e0 : va_up (zset s 4 (zbargS s y) i) 3 (zheld (s 3 + 1) 0 99999) 0 = s 0 := by rw [va_up_ne _ _ (by omega), zset_low (by omega) (by omega) (by omega)]
      refine go_iload_n (i := 3) dB_bargain_54 rfl rfl ?_
      refine go_aload_n (i := 0) dB_bargain_55 rfl rfl trivial ?_
      refine go_getf dB_bargain_56 flB33 (by assumption) rfl ?_
      rw [e0]
      refine go_ic_ge 103 dB_bargain_59 rfl (fun h59 => ?_) (fun h59 => absurd (by omega) h59)
      refine go_iconst dB_bargain_103 (inR_of _ rfl) ?_
      refine go_iret dB_bargain_104 rfl rfl ?_
      refine ⟨by rw [hh], F1, rfl, ?_, hF⟩
      unfold zbarg
      rw [if_pos hh, ← show i = zmany s by omega]
      exact hC
    | succ n ih =>
      intro i hi F1 hC hF
      have ho := hC.1
      have hr := hC.2.1
      have e0 : va_up (zset s 4 (zbargS s y) i) 3 (zheld (s 3 + 1) 0 99999) 0 = s 0 := by rw [va_up_ne _ _ (by omega), zset_low (by omega) (by omega) (by omega)]
      have hg := hC.gs (i := i) (by rw [e0]; omega) (by omega)
      have e4 : zk (va_up (zset s 4 (zbargS s y) i) 3 (zheld (s 3 + 1) 0 99999)) i 4 = zk s i 4 := by
        have := zk_up (s := zset s 4 (zbargS s y) i) (k := 3) (x := zheld (s 3 + 1) 0 99999) (i := i) (v := 4) (by omega)
        exact this.trans (zk_set 4 (by omega) (by omega))
      have hgo := (hZ.1.goose (i := (i : Int)) (by omega) (by omega)).2.2.2.2
      refine go_iload_n (i := 3) dB_bargain_54 rfl rfl ?_
      refine go_aload_n (i := 0) dB_bargain_55 rfl rfl trivial ?_
      refine go_getf dB_bargain_56 flB33 (by assumption) rfl ?_
      rw [e0]
      refine go_ic_ge 103 dB_bargain_59 rfl (fun h59 => absurd h59 (by omega)) (fun h59 => ?_)
      refine go_iload_n (i := 2) dB_bargain_62 rfl rfl ?_
      refine go_iload_n (i := 3) dB_bargain_63 rfl rfl ?_
      refine go_ishr dB_bargain_64 ?_
      refine go_iconst dB_bargain_65 (inR_of _ rfl) ?_
      refine go_iand dB_bargain_66 ?_
      rw [zmk_bit _ (by omega) (by omega)]
      refine go_iconst dB_bargain_67 (inR_of _ rfl) ?_
      refine go_ic_ne 97 dB_bargain_68 rfl (fun h68 => ?_) (fun h68 => ?_)
      · have hn : ¬ zwit s i y = 1 := fun q => h68 (by rw [if_pos ⟨by omega, q⟩])
        refine go_inc3 (((i + 1 : Nat) : Int)) dB_bargain_97 (Nat.le_of_ble_eq_true rfl) trivial (by (try simp (discharger := (unfold inR; omega)) only [w32_id]) <;> omega) ?_
        refine go_goto 54 dB_bargain_100 rfl ?_
        refine ih (i + 1) (by omega) F1 ?_ hF
        rw [zset_same (by unfold zbargS; rw [if_neg (fun q => hn q.2), Int.add_zero, zheld_id (by omega) (by omega)]; exact zk_nat s i 4)]
        exact hC
      · have hn : zwit s i y = 1 := by
          by_cases q : zwit s i y = 1
          · exact q
          · exact absurd h68 (by rw [if_neg (fun r => q r.2)]; omega)
        refine go_aload_n (i := 0) dB_bargain_71 rfl rfl trivial ?_
        refine go_getf dB_bargain_72 flB11 (by assumption) rfl ?_
        refine go_iload_n (i := 3) dB_bargain_75 rfl rfl ?_
        refine go_aald' 1 "GooseCounty$Goose" (i) (b + 6 + i) dB_bargain_76 (by assumption) rfl (by omega) (by omega) (gRow_at (by omega)) ?_
        refine go_sipush dB_bargain_77 (inR_of _ rfl) rfl ?_
        refine go_aload_n (i := 0) dB_bargain_80 rfl rfl trivial ?_
        refine go_getf dB_bargain_81 flB11 (by assumption) rfl ?_
        refine go_iload_n (i := 3) dB_bargain_84 rfl rfl ?_
        refine go_aald' 1 "GooseCounty$Goose" (i) (b + 6 + i) dB_bargain_85 (by assumption) rfl (by omega) (by omega) (gRow_at (by omega)) ?_
        refine go_getf dB_bargain_86 flB91 (by assumption) rfl ?_
        rw [e4]
        refine go_iconst dB_bargain_89 (inR_of _ rfl) ?_
        refine go_iadd dB_bargain_90 ?_
        refine go_top (zk s i 4 + 1) (by (try simp (discharger := (unfold inR; omega)) only [w32_id]) <;> omega) ?_
        refine go_mmin dB_bargain_91 vkB154 (fun _ => Nat.le_of_ble_eq_true rfl) (by omega) ?_
        refine go_top (zbargS s y i) ((iMin_held (by omega)).trans (by unfold zbargS; rw [if_pos ⟨hh, hn⟩])) ?_
        refine go_cgf hC h103 (i := i) (w := 4) (by omega) rfl (by omega) dB_bargain_94 flB91 (fun F2 h2 hF2 => ?_)
        refine go_inc3 (((i + 1 : Nat) : Int)) dB_bargain_97 (Nat.le_of_ble_eq_true rfl) trivial (by (try simp (discharger := (unfold inR; omega)) only [w32_id]) <;> omega) ?_
        refine go_goto 54 dB_bargain_100 rfl ?_
        refine ih (i + 1) (by omega) F2 ?_ (hF.tr hF2)
        rw [va_up_comm _ _ (by omega)] at h2
        exact h2
  refine CT.of' (L0 := [gR b, gI y, gU, gU]) plB (Nat.le_of_ble_eq_true rfl) rfl ?_
  refine go_aload_n (i := 0) dB_bargain_0 rfl rfl trivial ?_
  refine go_iload_n (i := 1) dB_bargain_1 rfl rfl ?_
  refine go_VX dB_bargain_2 vkB144 (by assumption) (List.cons_ne_nil _ _) (qB_witnesses h h103 hZ hy) rfl (by omega) (by omega) (by omega) rfl (fun _ => Nat.le_of_ble_eq_true rfl) ?_
  rintro _ _ ⟨rfl, F2, rfl, hF2⟩ -
  dsimp only [rp]
  have hC := h.fs hF2 h103
  have ho := hC.1
  obtain ⟨f2, h2, e2⟩ := hC.nd hy
  refine go_is2 dB_bargain_5 (Nat.le_of_ble_eq_true rfl) trivial ?_
  refine go_aload_n (i := 0) dB_bargain_6 rfl rfl trivial ?_
  refine go_iload_n (i := 2) dB_bargain_7 rfl rfl ?_
  refine go_VP dB_bargain_8 vkB147 (by assumption) (List.cons_ne_nil _ _) (qB_tallyOf hC hZ.1 (zmN_1024 _ hz1)) rfl (by omega) rfl (fun _ => Nat.le_of_ble_eq_true rfl) ?_
  rw [ztly_count]
  refine go_aload_n (i := 0) dB_bargain_11 rfl rfl trivial ?_
  refine go_getf dB_bargain_12 flB17 (by assumption) rfl ?_
  refine go_iload_n (i := 1) dB_bargain_15 rfl rfl ?_
  refine go_iald' y.toNat _ dB_bargain_16 h2 (by omega) (by omega) e2 ?_
  refine go_ic_ge 37 dB_bargain_17 rfl (fun h17 => ?_) (fun h17 => ?_)
  · have hh : zhold s y = 1 := by unfold zhold; rw [if_pos (by omega)]
    refine go_aload_n (i := 0) dB_bargain_37 rfl rfl trivial ?_
    refine go_ldc dB_bargain_38 kcB153 (inR_of _ rfl) ?_
    refine go_aload_n (i := 0) dB_bargain_40 rfl rfl trivial ?_
    refine go_getf dB_bargain_41 flB46 (by assumption) rfl ?_
    refine go_iconst dB_bargain_44 (inR_of _ rfl) ?_
    refine go_iadd dB_bargain_45 ?_
    refine go_top (s 3 + 1) (by (try simp (discharger := (unfold inR; omega)) only [w32_id]) <;> omega) ?_
    refine go_mmin dB_bargain_46 vkB154 (fun _ => Nat.le_of_ble_eq_true rfl) (by omega) ?_
    refine go_top (zheld (s 3 + 1) 0 99999) (iMin_held (by omega)) ?_
    refine go_cpf hC h103 (k := 3) (by omega) dB_bargain_49 flB46 (by omega) rfl (fun F3 h3 hF3 => ?_)
    refine go_iconst dB_bargain_52 (inR_of _ rfl) ?_
    refine go_is3 dB_bargain_53 (Nat.le_of_ble_eq_true rfl) trivial ?_
    exact loop hh (zmany s) 0 (by omega) F3 h3 (hF2.c.tr hF3)
  · have hh : ¬ zhold s y = 1 := by unfold zhold; rw [if_neg (by omega)]; omega
    refine go_aload_n (i := 0) dB_bargain_20 rfl rfl trivial ?_
    refine go_ldc dB_bargain_21 kcB153 (inR_of _ rfl) ?_
    refine go_aload_n (i := 0) dB_bargain_23 rfl rfl trivial ?_
    refine go_getf dB_bargain_24 flB49 (by assumption) rfl ?_
    refine go_iconst dB_bargain_27 (inR_of _ rfl) ?_
    refine go_iadd dB_bargain_28 ?_
    refine go_top (s 4 + 1) (by (try simp (discharger := (unfold inR; omega)) only [w32_id]) <;> omega) ?_
    refine go_mmin dB_bargain_29 vkB154 (fun _ => Nat.le_of_ble_eq_true rfl) (by omega) ?_
    refine go_top (zheld (s 4 + 1) 0 99999) (iMin_held (by omega)) ?_
    refine go_cpf hC h103 (k := 4) (by omega) dB_bargain_32 flB49 (by omega) rfl (fun F3 h3 hF3 => ?_)
    refine go_iconst dB_bargain_35 (inR_of _ rfl) ?_
    refine go_iret dB_bargain_36 rfl rfl ?_
    refine ⟨by unfold zhold; rw [if_neg (by omega)], F3, rfl, ?_, hF2.c.tr hF3⟩
    unfold zbarg
    rw [if_neg hh, zset_all (fun i hi => ?_)]
    · exact h3
    · have hgo := (hZ.1.goose (i := (i : Int)) (by omega) (by omega)).2.2.2.2
      unfold zbargS
      rw [if_neg (fun q => hh q.1), Int.add_zero, zheld_id (by omega) (by omega)]; exact zk_nat s i 4
theorem qB_wander (h : CTY F b s) (h103 : b + 16 ≤ 103) (hw : zW s) : CT g yB_wander 1 0 0 [gR b] (N, F) (CU N b F gU (zwander s)) := by
  obtain ⟨hz1, hz⟩ := zmany_le hw
  have loop : ∀ (n i : Nat), i + n = zmany s → ∀ F1 : Nat → GC, CTY F1 b (zset s 3 (fun i => (zk s i 3 + zwan (zk s i 0)).tmod 6) i) → FK (inC b) F F1 → Go g yB_wander 1 0 0 2 [gR b, gI (i : Int)] [] (N, F1) (CU N b F gU (zwander s)) := by
    intro n
    induction n with
    | zero =>
      intro i hi F1 hC hF
      have ho := hC.1
      refine go_iload_n (i := 1) dB_wander_2 rfl rfl ?_
      refine go_aload_n (i := 0) dB_wander_3 rfl rfl trivial ?_
      refine go_getf dB_wander_4 flB33 (by assumption) rfl ?_
      rw [zset_low (by omega) (by omega) (by omega)]
      refine go_ic_ge 47 dB_wander_7 rfl (fun h7 => ?_) (fun h7 => absurd (by omega) h7)
      refine go_vret dB_wander_47 rfl ?_
      refine ⟨rfl, F1, rfl, ?_, hF⟩
      unfold zwander
      rw [← show i = zmany s by omega]
      exact hC
    | succ n ih =>
      intro i hi F1 hC hF
      have ho := hC.1
      have hr := hC.2.1
      have e0 : zset s 3 (fun i => (zk s i 3 + zwan (zk s i 0)).tmod 6) i 0 = s 0 := zset_low (by omega) (by omega) (by omega)
      have hg := hC.gs (i := i) (by rw [e0]; omega) (by omega)
      have k0 : zk (zset s 3 (fun i => (zk s i 3 + zwan (zk s i 0)).tmod 6) i) i 0 = zk s i 0 := zk_set 0 (by omega) (by omega)
      have k3 : zk (zset s 3 (fun i => (zk s i 3 + zwan (zk s i 0)).tmod 6) i) i 3 = zk s i 3 := zk_set 3 (by omega) (by omega)
      have hgo := hw.goose (i := (i : Int)) (by omega) (by omega)
      have hwn : 0 ≤ zwan (zk s i 0) ∧ zwan (zk s i 0) ≤ 3 := by unfold zwan; grind
      refine go_iload_n (i := 1) dB_wander_2 rfl rfl ?_
      refine go_aload_n (i := 0) dB_wander_3 rfl rfl trivial ?_
      refine go_getf dB_wander_4 flB33 (by assumption) rfl ?_
      rw [e0]
      refine go_ic_ge 47 dB_wander_7 rfl (fun h7 => absurd h7 (by omega)) (fun h7 => ?_)
      refine go_aload_n (i := 0) dB_wander_10 rfl rfl trivial ?_
      refine go_getf dB_wander_11 flB11 (by assumption) rfl ?_
      refine go_iload_n (i := 1) dB_wander_14 rfl rfl ?_
      refine go_aald' 1 "GooseCounty$Goose" (i) (b + 6 + i) dB_wander_15 (by assumption) rfl (by omega) (by omega) (gRow_at (by omega)) ?_
      refine go_aload_n (i := 0) dB_wander_16 rfl rfl trivial ?_
      refine go_getf dB_wander_17 flB11 (by assumption) rfl ?_
      refine go_iload_n (i := 1) dB_wander_20 rfl rfl ?_
      refine go_aald' 1 "GooseCounty$Goose" (i) (b + 6 + i) dB_wander_21 (by assumption) rfl (by omega) (by omega) (gRow_at (by omega)) ?_
      refine go_getf dB_wander_22 flB88 (by assumption) rfl ?_
      refine go_aload_n (i := 0) dB_wander_25 rfl rfl trivial ?_
      refine go_getf dB_wander_26 flB11 (by assumption) rfl ?_
      refine go_iload_n (i := 1) dB_wander_29 rfl rfl ?_
      refine go_aald' 1 "GooseCounty$Goose" (i) (b + 6 + i) dB_wander_30 (by assumption) rfl (by omega) (by omega) (gRow_at (by omega)) ?_
      refine go_VP dB_wander_31 vkB172 (by assumption) (List.cons_ne_nil _ _) (cG_wanders hg (by rw [k0]; exact hgo.1)) rfl (by omega) rfl (fun _ => Nat.le_of_ble_eq_true rfl) ?_
      rw [k0, k3]
      refine go_iadd dB_wander_34 ?_
      refine go_top (zk s i 3 + zwan (zk s i 0)) (by (try simp (discharger := (unfold inR; omega)) only [w32_id]) <;> omega) ?_
      refine go_bipush dB_wander_35 (inR_of _ rfl) rfl ?_
      refine go_irem dB_wander_37 (by omega) ?_
      refine go_cgf hC h103 (i := i) (w := 3) (by omega) rfl (by omega) dB_wander_38 flB88 (fun F2 h2 hF2 => ?_)
      refine go_inc1 (((i + 1 : Nat) : Int)) dB_wander_41 (Nat.le_of_ble_eq_true rfl) trivial (by (try simp (discharger := (unfold inR; omega)) only [w32_id]) <;> omega) ?_
      refine go_goto 2 dB_wander_44 rfl ?_
      exact ih (i + 1) (by omega) F2 h2 (hF.tr hF2)
  refine CT.of' (L0 := [gR b, gU]) plB (Nat.le_of_ble_eq_true rfl) rfl ?_
  refine go_iconst dB_wander_0 (inR_of _ rfl) ?_
  refine go_is1 dB_wander_1 (Nat.le_of_ble_eq_true rfl) trivial ?_
  exact loop (zmany s) 0 (by omega) F h FK.rf
theorem qB_growOlder (h : CTY F b s) (h103 : b + 16 ≤ 103) (hw : zW s) : CT g yB_growOlder 1 0 0 [gR b] (N, F) (CU N b F gU (zolder s)) := by
  obtain ⟨hz1, hz⟩ := zmany_le hw
  have h6 := hw.2.2.1
  have ho := h.1
  have loop : (s 6).tmod 5 = 4 → ∀ (n i : Nat), i + n = zmany s → ∀ F1 : Nat → GC, CTY F1 b (zset s 2 (fun i => zheld (zk s i 2 + (if (s 6).tmod 5 = 4 then 1 else 0)) 0 99) i) → FK (inC b) F F1 → Go g yB_growOlder 1 0 0 12 [gR b, gI (i : Int)] [] (N, F1) (CU N b F gU (zolder s)) := by
    intro h4 n
    induction n with
    | zero =>
      intro i hi F1 hC hF
      have ho := hC.1
      refine go_iload_n (i := 1) dB_growOlder_12 rfl rfl ?_
      refine go_aload_n (i := 0) dB_growOlder_13 rfl rfl trivial ?_
      refine go_getf dB_growOlder_14 flB33 (by assumption) rfl ?_
      rw [zset_low (by omega) (by omega) (by omega)]
      refine go_ic_ge 51 dB_growOlder_17 rfl (fun h17 => ?_) (fun h17 => absurd (by omega) h17)
      refine go_vret dB_growOlder_51 rfl ?_
      refine ⟨rfl, F1, rfl, ?_, hF⟩
      unfold zolder
      rw [← show i = zmany s by omega]
      exact hC
    | succ n ih =>
      intro i hi F1 hC hF
      have ho := hC.1
      have hr := hC.2.1
      have e0 : zset s 2 (fun i => zheld (zk s i 2 + (if (s 6).tmod 5 = 4 then 1 else 0)) 0 99) i 0 = s 0 := zset_low (by omega) (by omega) (by omega)
      have hg := hC.gs (i := i) (by rw [e0]; omega) (by omega)
      have k2 : zk (zset s 2 (fun i => zheld (zk s i 2 + (if (s 6).tmod 5 = 4 then 1 else 0)) 0 99) i) i 2 = zk s i 2 := zk_set 2 (by omega) (by omega)
      have hgo := (hw.goose (i := (i : Int)) (by omega) (by omega)).2.2.1
      refine go_iload_n (i := 1) dB_growOlder_12 rfl rfl ?_
      refine go_aload_n (i := 0) dB_growOlder_13 rfl rfl trivial ?_
      refine go_getf dB_growOlder_14 flB33 (by assumption) rfl ?_
      rw [e0]
      refine go_ic_ge 51 dB_growOlder_17 rfl (fun h17 => absurd h17 (by omega)) (fun h17 => ?_)
      refine go_aload_n (i := 0) dB_growOlder_20 rfl rfl trivial ?_
      refine go_getf dB_growOlder_21 flB11 (by assumption) rfl ?_
      refine go_iload_n (i := 1) dB_growOlder_24 rfl rfl ?_
      refine go_aald' 1 "GooseCounty$Goose" (i) (b + 6 + i) dB_growOlder_25 (by assumption) rfl (by omega) (by omega) (gRow_at (by omega)) ?_
      refine go_bipush dB_growOlder_26 (inR_of _ rfl) rfl ?_
      refine go_aload_n (i := 0) dB_growOlder_28 rfl rfl trivial ?_
      refine go_getf dB_growOlder_29 flB11 (by assumption) rfl ?_
      refine go_iload_n (i := 1) dB_growOlder_32 rfl rfl ?_
      refine go_aald' 1 "GooseCounty$Goose" (i) (b + 6 + i) dB_growOlder_33 (by assumption) rfl (by omega) (by omega) (gRow_at (by omega)) ?_
      refine go_getf dB_growOlder_34 flB85 (by assumption) rfl ?_
      rw [k2]
      refine go_iconst dB_growOlder_37 (inR_of _ rfl) ?_
      refine go_iadd dB_growOlder_38 ?_
      refine go_top (zk s i 2 + 1) (by (try simp (discharger := (unfold inR; omega)) only [w32_id]) <;> omega) ?_
      refine go_mmin dB_growOlder_39 vkB154 (fun _ => Nat.le_of_ble_eq_true rfl) (by omega) ?_
      refine go_top (zheld (zk s i 2 + (if (s 6).tmod 5 = 4 then 1 else 0)) 0 99) ((iMin_held (by omega)).trans (by rw [if_pos h4])) ?_
      refine go_cgf hC h103 (i := i) (w := 2) (by omega) rfl (by omega) dB_growOlder_42 flB85 (fun F2 h2 hF2 => ?_)
      refine go_inc1 (((i + 1 : Nat) : Int)) dB_growOlder_45 (Nat.le_of_ble_eq_true rfl) trivial (by (try simp (discharger := (unfold inR; omega)) only [w32_id]) <;> omega) ?_
      refine go_goto 12 dB_growOlder_48 rfl ?_
      exact ih (i + 1) (by omega) F2 h2 (hF.tr hF2)
  refine CT.of' (L0 := [gR b, gU]) plB (Nat.le_of_ble_eq_true rfl) rfl ?_
  refine go_aload_n (i := 0) dB_growOlder_0 rfl rfl trivial ?_
  refine go_getf dB_growOlder_1 flB55 (by assumption) rfl ?_
  refine go_iconst dB_growOlder_4 (inR_of _ rfl) ?_
  refine go_irem dB_growOlder_5 (by omega) ?_
  refine go_iconst dB_growOlder_6 (inR_of _ rfl) ?_
  refine go_ic_ne 51 dB_growOlder_7 rfl (fun h7 => ?_) (fun h7 => ?_)
  · refine go_vret dB_growOlder_51 rfl ?_
    refine ⟨rfl, F, rfl, ?_, FK.rf⟩
    unfold zolder
    rw [zset_all (fun i hi => ?_)]
    · exact h
    · have hgo := (hw.goose (i := (i : Int)) (by omega) (by omega)).2.2.1
      show zheld (zk s i 2 + (if (s 6).tmod 5 = 4 then 1 else 0)) 0 99 = _
      rw [if_neg h7, Int.add_zero, zheld_id (by omega) (by omega)]
      exact zk_nat s i 2
  · refine go_iconst dB_growOlder_10 (inR_of _ rfl) ?_
    refine go_is1 dB_growOlder_11 (Nat.le_of_ble_eq_true rfl) trivial ?_
    exact loop h7 (zmany s) 0 (by omega) F h FK.rf
theorem qB_meetFox (h : CTY F b s) (h103 : b + 16 ≤ 103) (hw : zW s) : CT g yB_meetFox 1 0 0 [gR b] (N, F) (CU N b F gU (zfox s)) := by
  have ho := h.1
  have hn1 := hw.1.2.1
  have h5 := hw.2.1
  have hdv := zdv_in (zdraw (s 7))
  have hdv2 := zdv_in (zdraw (zdraw (s 7)))
  refine CT.of' (L0 := [gR b, gU]) plB (Nat.le_of_ble_eq_true rfl) rfl ?_
  refine go_aload_n (i := 0) dB_meetFox_0 rfl rfl trivial ?_
  refine go_VX dB_meetFox_1 vkB95 (by assumption) (List.cons_ne_nil _ _) (qB_draw h h103) rfl (by omega) (by omega) (by omega) rfl (fun _ => Nat.le_of_ble_eq_true rfl) ?_
  rintro _ _ ⟨rfl, F1, rfl, hC1, hF1⟩ -
  dsimp only [rp]
  have ho := hC1.1
  have q0 : va_up s 7 (zdraw (s 7)) 0 = s 0 := rfl
  have q2 : va_up s 7 (zdraw (s 7)) 2 = s 2 := rfl
  have q7 : va_up s 7 (zdraw (s 7)) 7 = zdraw (s 7) := rfl
  refine go_bipush dB_meetFox_4 (inR_of _ rfl) rfl ?_
  refine go_irem dB_meetFox_6 (by omega) ?_
  refine go_aload_n (i := 0) dB_meetFox_7 rfl rfl trivial ?_
  refine go_getf dB_meetFox_8 flB43 (by assumption) rfl ?_
  rw [q2]
  refine go_ic_ge 61 dB_meetFox_11 rfl (fun h11 => ?_) (fun h11 => ?_)
  · refine go_vret dB_meetFox_61 rfl ?_
    refine ⟨rfl, F1, rfl, ?_, hF1⟩
    unfold zfox
    rw [if_neg (by omega)]
    exact hC1
  · refine go_aload_n (i := 0) dB_meetFox_14 rfl rfl trivial ?_
    refine go_getf dB_meetFox_15 flB33 (by assumption) rfl ?_
    rw [q0]
    refine go_if_le 61 dB_meetFox_18 rfl (fun h18 => ?_) (fun h18 => ?_)
    · refine go_vret dB_meetFox_61 rfl ?_
      refine ⟨rfl, F1, rfl, ?_, hF1⟩
      unfold zfox
      rw [if_neg (by omega)]
      exact hC1
    · refine go_aload_n (i := 0) dB_meetFox_21 rfl rfl trivial ?_
      refine go_getf dB_meetFox_22 flB11 (by assumption) rfl ?_
      refine go_aload_n (i := 0) dB_meetFox_25 rfl rfl trivial ?_
      refine go_VX dB_meetFox_26 vkB95 (by assumption) (List.cons_ne_nil _ _) (qB_draw hC1 h103) rfl (by omega) (by omega) (by omega) rfl (fun _ => Nat.le_of_ble_eq_true rfl) ?_
      rintro _ _ ⟨rfl, F2, rfl, hC2, hF2⟩ -
      dsimp only [rp]
      have ho := hC2.1
      have hr := hC2.2.1
      rw [q7] at hC2 ho ⊢
      have u2 : va_up (va_up s 7 (zdraw (s 7))) 7 (zdraw (zdraw (s 7))) = va_up s 7 (zdraw (zdraw (s 7))) := by
        funext k
        by_cases q : k = 7
        · subst q; rw [va_up_self, va_up_self]
        · rw [va_up_ne _ _ q, va_up_ne _ _ q, va_up_ne _ _ q]
      rw [u2] at hC2 ho
      have q0 : va_up s 7 (zdraw (zdraw (s 7))) 0 = s 0 := rfl
      have tm := tmod_in (a := zdv (zdraw (zdraw (s 7)))) (b := s 0) hdv2.1 (by omega)
      refine go_aload_n (i := 0) dB_meetFox_29 rfl rfl trivial ?_
      refine go_getf dB_meetFox_30 flB33 (by assumption) rfl ?_
      rw [q0]
      refine go_irem dB_meetFox_33 (by omega) ?_
      refine go_aald' 1 "GooseCounty$Goose" (((zdv (zdraw (zdraw (s 7)))).tmod (s 0)).toNat) (b + 6 + ((zdv (zdraw (zdraw (s 7)))).tmod (s 0)).toNat) dB_meetFox_34 (by assumption) rfl (by omega) (by omega) (gRow_at (by omega)) ?_
      refine go_as1 dB_meetFox_35 (Nat.le_of_ble_eq_true rfl) trivial trivial ?_
      refine go_aload_n (i := 1) dB_meetFox_36 rfl rfl trivial ?_
      refine go_iconst dB_meetFox_37 (inR_of _ rfl) ?_
      refine go_cgf hC2 h103 (i := ((zdv (zdraw (zdraw (s 7)))).tmod (s 0)).toNat) (w := 2) (by omega) rfl (by omega) dB_meetFox_38 flB85 (fun F3 h3 hF3 => ?_)
      refine go_aload_n (i := 1) dB_meetFox_41 rfl rfl trivial ?_
      refine go_iconst dB_meetFox_42 (inR_of _ rfl) ?_
      refine go_cgf h3 h103 (i := ((zdv (zdraw (zdraw (s 7)))).tmod (s 0)).toNat) (w := 4) (by omega) rfl (by omega) dB_meetFox_43 flB91 (fun F4 h4 hF4 => ?_)
      have ho := h4.1
      refine go_aload_n (i := 0) dB_meetFox_46 rfl rfl trivial ?_
      refine go_ldc dB_meetFox_47 kcB153 (inR_of _ rfl) ?_
      refine go_aload_n (i := 0) dB_meetFox_49 rfl rfl trivial ?_
      refine go_getf dB_meetFox_50 flB52 (by assumption) rfl ?_
      refine go_top (s 5) ?_ ?_
      · rw [va_up_ne _ _ (by omega), va_up_ne _ _ (by omega), va_up_ne _ _ (by omega)]
      refine go_iconst dB_meetFox_53 (inR_of _ rfl) ?_
      refine go_iadd dB_meetFox_54 ?_
      refine go_top (s 5 + 1) (by (try simp (discharger := (unfold inR; omega)) only [w32_id]) <;> omega) ?_
      refine go_mmin dB_meetFox_55 vkB154 (fun _ => Nat.le_of_ble_eq_true rfl) (by omega) ?_
      refine go_top (zheld (s 5 + 1) 0 99999) (iMin_held (by omega)) ?_
      refine go_cpf h4 h103 (k := 5) (by omega) dB_meetFox_58 flB52 (by omega) rfl (fun F5 h5 hF5 => ?_)
      refine go_vret dB_meetFox_61 rfl ?_
      refine ⟨rfl, F5, rfl, ?_, ((hF1.tr hF2).tr (hF3.tr hF4)).tr hF5⟩
      unfold zfox
      rw [if_pos (by omega)]
      exact h5
theorem qB_pass (h : CTY F b s) (h103 : b + 16 ≤ 103) (hZ : ZG s) {n : Nat} (hn : n ≤ 1000) (hd : s 6 + n ≤ 20000) : CT g yB_pass 5 0 0 [gR b, gI (n : Int)] (N, F) (CU N b F gU (zdays s n)) := by
  have hgd : ∀ j : Nat, j ≤ n → ZG (zdays s j) ∧ zdays s j 6 = s 6 + j := fun j hj => by
    obtain ⟨a1, a2, a3⟩ := zdays_W hZ.1 j (by omega)
    exact ⟨hZ.keep a1 a2.2.2.2.2.2, a3⟩
  have loop : ∀ (k j : Nat), j + k = n → ∀ F1 : Nat → GC, CTY F1 b (zdays s j) → FK (inC b) F F1 → Go g yB_pass 5 0 0 2 [gR b, gI (n : Int), gI (j : Int)] [] (N, F1) (CU N b F gU (zdays s n)) := by
    intro k
    induction k with
    | zero =>
      intro j hj F1 hC hF
      refine go_iload_n (i := 2) dB_pass_2 rfl rfl ?_
      refine go_iload_n (i := 1) dB_pass_3 rfl rfl ?_
      refine go_ic_ge 47 dB_pass_4 rfl (fun h4 => ?_) (fun h4 => absurd (by omega) h4)
      refine go_vret dB_pass_47 rfl ?_
      exact ⟨rfl, F1, rfl, by rw [← show j = n by omega]; exact hC, hF⟩
    | succ k ih =>
      intro j hj F1 hC hF
      have ho := hC.1
      obtain ⟨hZj, h6⟩ := hgd j (by omega)
      have w6 := hZj.1.2.2.1
      have tm := tmod_in (a := zdays s j 6) (b := 6) (by omega) (by omega)
      obtain ⟨kb, -, kb6, -⟩ := zbarg_keep hZj.1 ((zdays s j 6).tmod 6)
      have wb := zbarg_W hZj.1 ((zdays s j 6).tmod 6)
      obtain ⟨ww, -, wl, -⟩ := zwander_W wb
      obtain ⟨wo, -, ol⟩ := zolder_W ww
      obtain ⟨wf, -, f6, -⟩ := zfox_W wo
      refine go_iload_n (i := 2) dB_pass_2 rfl rfl ?_
      refine go_iload_n (i := 1) dB_pass_3 rfl rfl ?_
      refine go_ic_ge 47 dB_pass_4 rfl (fun h4 => absurd h4 (by omega)) (fun h4 => ?_)
      refine go_aload_n (i := 0) dB_pass_7 rfl rfl trivial ?_
      refine go_aload_n (i := 0) dB_pass_8 rfl rfl trivial ?_
      refine go_getf dB_pass_9 flB55 (by assumption) rfl ?_
      refine go_bipush dB_pass_12 (inR_of _ rfl) rfl ?_
      refine go_irem dB_pass_14 (by omega) ?_
      refine go_VX dB_pass_15 vkB160 (by assumption) (List.cons_ne_nil _ _) (qB_bargain hC h103 hZj (by omega)) rfl (by omega) (by omega) (by omega) rfl (fun _ => Nat.le_of_ble_eq_true rfl) ?_
      rintro _ _ ⟨rfl, F2, rfl, hC2, hF2⟩ -
      dsimp only [rp]
      have ho := hC2.1
      refine go_pop dB_pass_18 trivial ?_
      refine go_aload_n (i := 0) dB_pass_19 rfl rfl trivial ?_
      refine go_VX dB_pass_20 vkB163 (by assumption) (List.cons_ne_nil _ _) (qB_wander hC2 h103 wb) rfl (by omega) (by omega) (by omega) rfl (fun _ => Nat.le_of_ble_eq_true rfl) ?_
      rintro _ _ ⟨rfl, F3, rfl, hC3, hF3⟩ -
      dsimp only [rp]
      have ho := hC3.1
      refine go_aload_n (i := 0) dB_pass_23 rfl rfl trivial ?_
      refine go_VX dB_pass_24 vkB166 (by assumption) (List.cons_ne_nil _ _) (qB_growOlder hC3 h103 ww) rfl (by omega) (by omega) (by omega) rfl (fun _ => Nat.le_of_ble_eq_true rfl) ?_
      rintro _ _ ⟨rfl, F4, rfl, hC4, hF4⟩ -
      dsimp only [rp]
      have ho := hC4.1
      refine go_aload_n (i := 0) dB_pass_27 rfl rfl trivial ?_
      refine go_VX dB_pass_28 vkB169 (by assumption) (List.cons_ne_nil _ _) (qB_meetFox hC4 h103 wo) rfl (by omega) (by omega) (by omega) rfl (fun _ => Nat.le_of_ble_eq_true rfl) ?_
      rintro _ _ ⟨rfl, F5, rfl, hC5, hF5⟩ -
      dsimp only [rp]
      have ho := hC5.1
      refine go_aload_n (i := 0) dB_pass_31 rfl rfl trivial ?_
      refine go_dup dB_pass_32 trivial ?_
      refine go_getf dB_pass_33 flB55 (by assumption) rfl ?_
      refine go_top (zdays s j 6) ?_ ?_
      · rw [f6, ol 6 (by omega), wl 6 (by omega), kb6]
      refine go_iconst dB_pass_36 (inR_of _ rfl) ?_
      refine go_iadd dB_pass_37 ?_
      refine go_top (zdays s j 6 + 1) (by (try simp (discharger := (unfold inR; omega)) only [w32_id]) <;> omega) ?_
      refine go_cpf hC5 h103 (k := 6) (by omega) dB_pass_38 flB55 (by omega) rfl (fun F6 h6' hF6 => ?_)
      refine go_inc2 (((j + 1 : Nat) : Int)) dB_pass_41 (Nat.le_of_ble_eq_true rfl) trivial (by (try simp (discharger := (unfold inR; omega)) only [w32_id]) <;> omega) ?_
      refine go_goto 2 dB_pass_44 rfl ?_
      exact ih (j + 1) (by omega) F6 h6' (((hF.tr hF2).tr (hF3.tr hF4)).tr (hF5.tr hF6))
  refine CT.of' (L0 := [gR b, gI (n : Int), gU]) plB (Nat.le_of_ble_eq_true rfl) rfl ?_
  refine go_iconst dB_pass_0 (inR_of _ rfl) ?_
  refine go_is2 dB_pass_1 (Nat.le_of_ble_eq_true rfl) trivial ?_
  exact loop n 0 (by omega) F h FK.rf
end CDAY
