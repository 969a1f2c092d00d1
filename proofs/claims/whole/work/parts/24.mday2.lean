/-! ===== the model: fox, day, days ===== -/
section MDAY2
variable {g : GX} {N r : Nat} {F F1 : Nat → GC} {m m1 : Nat → Nat → Int}
theorem MU.tr {N r : Nat} {F F1 : Nat → GC} {m m1 : Nat → Nat → Int} {v : GV} {S : Nat → Int} (hF : FR r F F1) (hS : SB [0, 4, 5] m m1) : ∀ rr M', MU N r F1 m1 v S rr M' → MU N r F m v S rr M' := by
  rintro rr M' ⟨e, F2, m2, e2, h1, h2, h3, h4⟩
  exact ⟨e, F2, m2, e2, h1, hF.tr h2, h3, hS.tr h4⟩
theorem qM_fox (hM : MOD F r m) (hw : zW (m 0)) : CT g yM_fox 1 0 0 [gR r] (N, F) (MU N r F m gU (zfox (m 0))) := by
  have ho := hM.1
  have hn1 := hw.1.2.1
  have hdv := zdv_in (zdraw (m 0 7))
  have hdv2 := zdv_in (zdraw (zdraw (m 0 7)))
  have h5 := hw.2.1
  have tail : ∀ (x1 : GV) (F2 : Nat → GC) (m2 : Nat → Nat → Int), MOD F2 r m2 → FR r F F2 → m2 0 = zfox (m 0) → SB [0, 4, 5] m m2 → Go g yM_fox 1 0 0 79 [gR r, x1] [] (N, F2) (MU N r F m gU (zfox (m 0))) := by
    intro x1 F2 m2 hM2 hF2 e2 hS2
    refine go_vret dM_fox_79 rfl ?_
    exact ⟨rfl, F2, m2, rfl, hM2, hF2, e2, hS2⟩
  refine CT.of' (L0 := [gR r, gU]) plM (Nat.le_of_ble_eq_true rfl) rfl ?_
  refine go_aload_n (i := 0) dM_fox_0 rfl rfl trivial ?_
  refine go_VX dM_fox_1 vkM153 (by assumption) (List.cons_ne_nil _ _) (qM_draw hM) rfl (by omega) (by omega) (by omega) rfl (fun _ => Nat.le_of_ble_eq_true rfl) ?_
  rintro _ _ ⟨rfl, F2, m2, rfl, hM2, hF2, e2, hS2⟩ -
  dsimp only [rp]
  have ho2 := hM2.1
  have a2 := hM2.a0
  have e20 : m2 0 0 = m 0 0 := by rw [e2]; rfl
  have e22 : m2 0 2 = m 0 2 := by rw [e2]; rfl
  have e25 : m2 0 5 = m 0 5 := by rw [e2]; rfl
  have e27 : m2 0 7 = zdraw (m 0 7) := by rw [e2]; rfl
  refine go_bipush dM_fox_4 (inR_of _ rfl) rfl ?_
  refine go_irem dM_fox_6 (by omega) ?_
  refine go_aload_n (i := 0) dM_fox_7 rfl rfl trivial ?_
  refine go_getf dM_fox_8 flM7 (by assumption) rfl ?_
  refine go_iconst dM_fox_11 (inR_of _ rfl) ?_
  refine go_iald' 2 _ dM_fox_12 (by assumption) rfl (by omega) rfl ?_
  rw [e22]
  refine go_ic_ge 79 dM_fox_13 rfl (fun h13 => ?_) (fun h13 => ?_)
  · exact tail _ F2 m2 hM2 hF2 (by rw [e2]; unfold zfox; rw [if_neg (by omega)]) hS2
  · refine go_aload_n (i := 0) dM_fox_16 rfl rfl trivial ?_
    refine go_getf dM_fox_17 flM7 (by assumption) rfl ?_
    refine go_iconst dM_fox_20 (inR_of _ rfl) ?_
    refine go_iald' 0 _ dM_fox_21 (by assumption) rfl (by omega) rfl ?_
    rw [e20]
    refine go_if_le 79 dM_fox_22 rfl (fun h22 => ?_) (fun h22 => ?_)
    · exact tail _ F2 m2 hM2 hF2 (by rw [e2]; unfold zfox; rw [if_neg (by omega)]) hS2
    · refine go_aload_n (i := 0) dM_fox_25 rfl rfl trivial ?_
      refine go_VX dM_fox_26 vkM153 (by assumption) (List.cons_ne_nil _ _) (qM_draw hM2) rfl (by omega) (by omega) (by omega) rfl (fun _ => Nat.le_of_ble_eq_true rfl) ?_
      rintro _ _ ⟨rfl, F3, m3, rfl, hM3, hF3, e3, hS3⟩ -
      dsimp only [rp]
      have ho3 := hM3.1
      have a3 := hM3.a0
      rw [e27] at e3 ⊢
      have e30 : m3 0 0 = m 0 0 := by rw [e3]; exact e20
      have e35 : m3 0 5 = m 0 5 := by rw [e3]; exact e25
      have ht := tmod_in (b := m 0 0) hdv2.1 (by omega)
      have ek : (zdv (zdraw (zdraw (m 0 7)))).tmod (m 0 0) = ((((zdv (zdraw (zdraw (m 0 7)))).tmod (m 0 0)).toNat : Nat) : Int) := by omega
      refine go_aload_n (i := 0) dM_fox_29 rfl rfl trivial ?_
      refine go_getf dM_fox_30 flM7 (by assumption) rfl ?_
      refine go_iconst dM_fox_33 (inR_of _ rfl) ?_
      refine go_iald' 0 _ dM_fox_34 (by assumption) rfl (by omega) rfl ?_
      rw [e30]
      refine go_irem dM_fox_35 (by omega) ?_
      refine go_top _ ek ?_
      generalize hk : ((zdv (zdraw (zdraw (m 0 7)))).tmod (m 0 0)).toNat = k at ek ⊢
      refine go_is1 dM_fox_36 (Nat.le_of_ble_eq_true rfl) trivial ?_
      refine go_aload_n (i := 0) dM_fox_37 rfl rfl trivial ?_
      refine go_getf dM_fox_38 flM7 (by assumption) rfl ?_
      refine go_iload_n (i := 1) dM_fox_41 rfl rfl ?_
      refine go_iconst dM_fox_42 (inR_of _ rfl) ?_
      refine go_SP dM_fox_43 vkM61 (ct_spot _ _) rfl (by omega) rfl (fun _ => Nat.le_of_ble_eq_true rfl) ?_
      refine go_iconst dM_fox_46 (inR_of _ rfl) ?_
      refine go_mst (i := 0) (k := 14 + 5 * k + 2) hM3 (by omega) dM_fox_47 rfl ?_ (by show _ < 1510; omega) (fun F4 m4 hM4 hF4 e4 => ?_)
      · (try simp (discharger := (unfold inR; omega)) only [w32_id]) <;> omega
      have ho4 := hM4.1
      refine go_aload_n (i := 0) dM_fox_48 rfl rfl trivial ?_
      refine go_getf dM_fox_49 flM7 (by assumption) rfl ?_
      refine go_iload_n (i := 1) dM_fox_52 rfl rfl ?_
      refine go_iconst dM_fox_53 (inR_of _ rfl) ?_
      refine go_SP dM_fox_54 vkM61 (ct_spot _ _) rfl (by omega) rfl (fun _ => Nat.le_of_ble_eq_true rfl) ?_
      refine go_iconst dM_fox_57 (inR_of _ rfl) ?_
      refine go_mst (i := 0) (k := 14 + 5 * k + 4) hM4 (by omega) dM_fox_58 rfl ?_ (by show _ < 1510; omega) (fun F5 m5 hM5 hF5 e5 => ?_)
      · (try simp (discharger := (unfold inR; omega)) only [w32_id]) <;> omega
      have ho5 := hM5.1
      have e55 : m5 0 5 = m 0 5 := by
        rw [e5]
        show va_up (m4 0) (14 + 5 * k + 4) 0 5 = _
        rw [va_up_ne _ _ (by omega), e4]
        show va_up (m3 0) (14 + 5 * k + 2) 0 5 = _
        rw [va_up_ne _ _ (by omega)]
        exact e35
      refine go_aload_n (i := 0) dM_fox_59 rfl rfl trivial ?_
      refine go_getf dM_fox_60 flM7 (by assumption) rfl ?_
      refine go_iconst dM_fox_63 (inR_of _ rfl) ?_
      refine go_aload_n (i := 0) dM_fox_64 rfl rfl trivial ?_
      refine go_getf dM_fox_65 flM7 (by assumption) rfl ?_
      refine go_iconst dM_fox_68 (inR_of _ rfl) ?_
      refine go_iald' 5 (m 0 5) dM_fox_69 hM5.a0 rfl (by omega) e55 ?_
      refine go_iconst dM_fox_70 (inR_of _ rfl) ?_
      refine go_iadd dM_fox_71 ?_
      refine go_top (m 0 5 + 1) (by (try simp (discharger := (unfold inR; omega)) only [w32_id]) <;> omega) ?_
      refine go_iconst dM_fox_72 (inR_of _ rfl) ?_
      refine go_ldc dM_fox_73 kcM170 (inR_of _ rfl) ?_
      refine go_SP dM_fox_75 vkM89 (ct_held _ _ _) rfl (by omega) rfl (fun _ => Nat.le_of_ble_eq_true rfl) ?_
      refine go_mst (i := 0) (k := 5) hM5 (by omega) dM_fox_78 rfl rfl (by decide) (fun F6 m6 hM6 hF6 e6 => ?_)
      refine tail _ F6 m6 hM6 ((((hF2.tr hF3).tr hF4).tr hF5).tr hF6) ?_ ?_
      · unfold zfox
        rw [if_pos (by omega), hk, e6]
        show va_up (m5 0) 5 _ = _
        rw [e5]
        show va_up (va_up (m4 0) (14 + 5 * k + 4) 0) 5 _ = _
        rw [e4]
        show va_up (va_up (va_up (m3 0) (14 + 5 * k + 2) 0) (14 + 5 * k + 4) 0) 5 _ = _
        rw [e3, e2, bx_uu]
      · rw [e6, e5, e4]
        exact (((hS2.tr hS3).put (by simp)).put (by simp)).put (by simp)
theorem zgrow_step {s : Nat → Int} {f h : Nat → Int} {i : Nat} : va_up (va_up (zset (zset s 3 f i) 2 h i) (14 + 5 * i + 3) (f i)) (14 + 5 * i + 2) (h i) = zset (zset s 3 f (i + 1)) 2 h (i + 1) := by
  show _ = va_up (zset (va_up (zset s 3 f i) (14 + 5 * i + 3) (f i)) 2 h i) (14 + 5 * i + 2) (h i)
  rw [zset_up (fun k hk => by omega)]
theorem zolder_eq {s : Nat → Int} (h : zW s) : zolder (zwander s) = zset (zset s 3 (fun i => (zk s i 3 + zwan (zk s i 0)).tmod 6) (zmany s)) 2 (fun i => zheld (zk s i 2 + (if (s 6).tmod 5 = 4 then 1 else 0)) 0 99) (zmany s) := by
  obtain ⟨W, k, l, q⟩ := zwander_W h
  have hm := zmany_le h
  unfold zolder
  rw [k.many, l 6 (by omega)]
  show zset (zwander s) 2 _ (zmany s) = zset (zwander s) 2 _ (zmany s)
  have : ∀ n : Nat, n ≤ zmany s → zset (zwander s) 2 (fun i => zheld (zk (zwander s) i 2 + (if (s 6).tmod 5 = 4 then 1 else 0)) 0 99) n = zset (zwander s) 2 (fun i => zheld (zk s i 2 + (if (s 6).tmod 5 = 4 then 1 else 0)) 0 99) n := by
    intro n
    induction n with
    | zero => intro _; rfl
    | succ n ih =>
      intro hn
      show va_up _ _ _ = va_up _ _ _
      rw [ih (by omega)]
      have e : zk (zwander s) n 2 = zk s n 2 := by
        rw [show (2 : Int) = ((2 : Nat) : Int) from rfl, zk_nat, zk_nat]
        have := (q n (by omega)).1
        rw [show 14 + 5 * n + 2 = 16 + 5 * n by omega]
        exact this
      congr 1
      show zheld (zk (zwander s) n 2 + _) 0 99 = zheld (zk s n 2 + _) 0 99
      rw [e]
  exact this (zmany s) (Nat.le_refl _)
theorem qM_day (hM : MOD F r m) (hw : zW (m 0)) (hT : zT (m 0)) (hd : m 0 6 < 20000) : CT g yM_day 9 0 0 [gR r] (N, F) (MU N r F m gU (zday (m 0))) := by
  have ho := hM.1
  have a0 := hM.a0
  have hn0 := hw.1.1
  have hn1 := hw.1.2.1
  have hz : (zmany (m 0) : Int) = m 0 0 := by unfold zmany; omega
  have h6 := hw.2.2.1
  have hy := tmod_in (a := m 0 6) (b := 6) (by omega) (by omega)
  obtain ⟨kp, b5, b6, b7⟩ := zbarg_keep hw ((m 0 6).tmod 6)
  have W1 := zbarg_W hw ((m 0 6).tmod 6)
  generalize hs1 : zbarg (m 0) ((m 0 6).tmod 6) = s1 at kp b5 b6 b7 W1
  have hz1 : zmany s1 = zmany (m 0) := kp.many
  have hlow : ∀ i j : Nat, i ≤ 10 → j < 14 → zset (zset s1 3 (fun i => (zk s1 i 3 + zwan (zk s1 i 0)).tmod 6) i) 2 (fun i => zheld (zk s1 i 2 + (if (s1 6).tmod 5 = 4 then 1 else 0)) 0 99) i j = s1 j := fun i j hi hj => by rw [zset_low (by omega) hi (by omega), zset_low (by omega) hi (by omega)]
  have loop : ∀ (n i : Nat), i + n = zmany (m 0) → ∀ (x1 : GV) (o : Int) (F2 : Nat → GC) (m2 : Nat → Nat → Int), o = (if (s1 6).tmod 5 = 4 then 1 else 0) → MOD F2 r m2 → FR r F F2 → m2 0 = zset (zset s1 3 (fun i => (zk s1 i 3 + zwan (zk s1 i 0)).tmod 6) i) 2 (fun i => zheld (zk s1 i 2 + (if (s1 6).tmod 5 = 4 then 1 else 0)) 0 99) i → SB [0, 4, 5] m m2 → Go g yM_day 9 0 0 39 [gR r, x1, gI o, gI i] [] (N, F2) (MU N r F m gU (zday (m 0))) := by
    intro n
    induction n with
    | zero =>
      intro i hi x1 o F2 m2 ho1 hM2 hF2 e2 hS2
      have ho := hM2.1
      have a2 := hM2.a0
      have e20 : m2 0 0 = m 0 0 := by rw [e2, hlow _ _ (by omega) (by omega)]; exact kp.1
      refine go_iload_n (i := 3) dM_day_39 rfl rfl ?_
      refine go_aload_n (i := 0) dM_day_40 rfl rfl trivial ?_
      refine go_getf dM_day_41 flM7 (by assumption) rfl ?_
      refine go_iconst dM_day_44 (inR_of _ rfl) ?_
      refine go_iald' 0 _ dM_day_45 (by assumption) rfl (by omega) rfl ?_
      rw [e20]
      refine go_ic_ge 104 dM_day_46 rfl (fun h46 => ?_) (fun h46 => absurd (by omega) h46)
      have hi2 : i = zmany s1 := by omega
      have e2' : m2 0 = zolder (zwander s1) := by rw [zolder_eq W1, e2, hi2]
      obtain ⟨W2, k2, l2, -⟩ := zwander_W W1
      obtain ⟨W3, k3, l3⟩ := zolder_W W2
      obtain ⟨W4, k4, l4, -⟩ := zfox_W W3
      refine go_aload_n (i := 0) dM_day_104 rfl rfl trivial ?_
      refine go_VX dM_day_105 vkM174 (by assumption) (List.cons_ne_nil _ _) (qM_fox hM2 (by rw [e2']; exact W3)) rfl (by omega) (by omega) (by omega) rfl (fun _ => Nat.le_of_ble_eq_true rfl) ?_
      rintro _ _ ⟨rfl, F3, m3, rfl, hM3, hF3, e3, hS3⟩ -
      dsimp only [rp]
      have ho3 := hM3.1
      have e36 : m3 0 6 = m 0 6 := by rw [e3, e2', l4, l3 6 (by omega), l2 6 (by omega), b6]
      refine go_aload_n (i := 0) dM_day_108 rfl rfl trivial ?_
      refine go_getf dM_day_109 flM7 (by assumption) rfl ?_
      refine go_bipush dM_day_112 (inR_of _ rfl) rfl ?_
      refine go_dup2 dM_day_114 trivial trivial ?_
      refine go_iald' 6 (m 0 6) dM_day_115 hM3.a0 rfl (by omega) e36 ?_
      refine go_iconst dM_day_116 (inR_of _ rfl) ?_
      refine go_iadd dM_day_117 ?_
      refine go_top (m 0 6 + 1) (by (try simp (discharger := (unfold inR; omega)) only [w32_id]) <;> omega) ?_
      refine go_mst (i := 0) (k := 6) hM3 (by omega) dM_day_118 rfl rfl (by decide) (fun F4 m4 hM4 hF4 e4 => ?_)
      refine go_vret dM_day_119 rfl ?_
      refine ⟨rfl, F4, m4, rfl, hM4, (hF2.tr hF3).tr hF4, ?_, by rw [e4]; exact (hS2.tr hS3).put (by simp)⟩
      rw [e4]
      show va_up (m3 0) 6 _ = _
      unfold zday
      rw [e3, e2', hs1]
    | succ n ih =>
      intro i hi x1 o F2 m2 ho1 hM2 hF2 e2 hS2
      have ho := hM2.1
      have a2 := hM2.a0
      have hM := hM2
      have e20 : m2 0 0 = m 0 0 := by rw [e2, hlow _ _ (by omega) (by omega)]; exact kp.1
      have hg := W1.goose (i := (i : Int)) (by omega) (by rw [kp.1]; omega)
      have ez : ∀ v : Nat, v < 5 → zk (m2 0) i v = zk s1 i v := by
        intro v hv
        rw [zk_nat, zk_nat, e2, zset_miss (fun k hk => by omega), zset_miss (fun k hk => by omega)]
      have ez0 := ez 0 (by omega)
      have ez2 := ez 2 (by omega)
      have ez3 := ez 3 (by omega)
      have hwn : 0 ≤ zwan (zk s1 i 0) ∧ zwan (zk s1 i 0) ≤ 3 := by unfold zwan; grind
      refine go_iload_n (i := 3) dM_day_39 rfl rfl ?_
      refine go_aload_n (i := 0) dM_day_40 rfl rfl trivial ?_
      refine go_getf dM_day_41 flM7 (by assumption) rfl ?_
      refine go_iconst dM_day_44 (inR_of _ rfl) ?_
      refine go_iald' 0 _ dM_day_45 (by assumption) rfl (by omega) rfl ?_
      rw [e20]
      refine go_ic_ge 104 dM_day_46 rfl (fun h46 => absurd h46 (by omega)) (fun h46 => ?_)
      refine go_aload_n (i := 0) dM_day_49 rfl rfl trivial ?_
      refine go_getf dM_day_50 flM7 (by assumption) rfl ?_
      refine go_iload_n (i := 3) dM_day_53 rfl rfl ?_
      refine go_iconst dM_day_54 (inR_of _ rfl) ?_
      refine go_SP dM_day_55 vkM61 (ct_spot _ _) rfl (by omega) rfl (fun _ => Nat.le_of_ble_eq_true rfl) ?_
      refine go_aload_n (i := 0) dM_day_58 rfl rfl trivial ?_
      refine go_iload_n (i := 3) dM_day_59 rfl rfl ?_
      refine go_iconst dM_day_60 (inR_of _ rfl) ?_
      refine go_VP dM_day_61 vkM79 (by assumption) (List.cons_ne_nil _ _) (qM_its hM (by omega) (by omega) (by omega) (by omega)) rfl (by omega) rfl (fun _ => Nat.le_of_ble_eq_true rfl) ?_
      rw [show zk (m2 0) i 3 = zk s1 i 3 from ez3]
      refine go_aload_n (i := 0) dM_day_64 rfl rfl trivial ?_
      refine go_iload_n (i := 3) dM_day_65 rfl rfl ?_
      refine go_VP dM_day_66 vkM116 (by assumption) (List.cons_ne_nil _ _) (qM_wanders hM2 _ (by omega) (by omega)) rfl (by omega) rfl (fun _ => Nat.le_of_ble_eq_true rfl) ?_
      rw [show zk (m2 0) i 0 = zk s1 i 0 from ez0]
      refine go_iadd dM_day_69 ?_
      refine go_top (zk s1 i 3 + zwan (zk s1 i 0)) (by (try simp (discharger := (unfold inR; omega)) only [w32_id]) <;> omega) ?_
      refine go_bipush dM_day_70 (inR_of _ rfl) rfl ?_
      refine go_irem dM_day_72 (by omega) ?_
      refine go_mst (i := 0) (k := 14 + 5 * i + 3) hM2 (by omega) dM_day_73 rfl ?_ (by show _ < 1510; omega) (fun F3 m3 hM3 hF3 e3 => ?_)
      · (try simp (discharger := (unfold inR; omega)) only [w32_id]) <;> omega
      have ho3 := hM3.1
      have ez32 : zk (m3 0) i 2 = zk s1 i 2 := by
        refine Eq.trans ?_ (show zk (m2 0) i 2 = zk s1 i 2 from ez2)
        rw [show (2 : Int) = ((2 : Nat) : Int) from rfl, zk_nat, zk_nat, e3]
        show va_up (m2 0) (14 + 5 * i + 3) _ (14 + 5 * i + 2) = _
        rw [va_up_ne _ _ (by omega)]
      have hob : o = 0 ∨ o = 1 := by rw [ho1]; grind
      refine go_aload_n (i := 0) dM_day_74 rfl rfl trivial ?_
      refine go_getf dM_day_75 flM7 (by assumption) rfl ?_
      refine go_iload_n (i := 3) dM_day_78 rfl rfl ?_
      refine go_iconst dM_day_79 (inR_of _ rfl) ?_
      refine go_SP dM_day_80 vkM61 (ct_spot _ _) rfl (by omega) rfl (fun _ => Nat.le_of_ble_eq_true rfl) ?_
      refine go_aload_n (i := 0) dM_day_83 rfl rfl trivial ?_
      refine go_iload_n (i := 3) dM_day_84 rfl rfl ?_
      refine go_iconst dM_day_85 (inR_of _ rfl) ?_
      refine go_VP dM_day_86 vkM79 (by assumption) (List.cons_ne_nil _ _) (qM_its hM3 (by omega) (by omega) (by omega) (by omega)) rfl (by omega) rfl (fun _ => Nat.le_of_ble_eq_true rfl) ?_
      rw [ez32]
      refine go_iload_n (i := 2) dM_day_89 rfl rfl ?_
      refine go_iadd dM_day_90 ?_
      refine go_top (zk s1 i 2 + o) (by (try simp (discharger := (unfold inR; omega)) only [w32_id]) <;> omega) ?_
      refine go_iconst dM_day_91 (inR_of _ rfl) ?_
      refine go_bipush dM_day_92 (inR_of _ rfl) rfl ?_
      refine go_SP dM_day_94 vkM89 (ct_held _ _ _) rfl (by omega) rfl (fun _ => Nat.le_of_ble_eq_true rfl) ?_
      refine go_mst (i := 0) (k := 14 + 5 * i + 2) hM3 (by omega) dM_day_97 rfl ?_ (by show _ < 1510; omega) (fun F4 m4 hM4 hF4 e4 => ?_)
      · (try simp (discharger := (unfold inR; omega)) only [w32_id]) <;> omega
      refine go_inc3 (((i + 1 : Nat) : Int)) dM_day_98 (Nat.le_of_ble_eq_true rfl) trivial (by (try simp (discharger := (unfold inR; omega)) only [w32_id]) <;> omega) ?_
      refine go_goto 39 dM_day_101 rfl ?_
      refine ih (i + 1) (by omega) _ o F4 m4 ho1 hM4 ((hF2.tr hF3).tr hF4) ?_ (by rw [e4, e3]; exact (hS2.put (by simp)).put (by simp))
      rw [e4]
      show va_up (m3 0) (14 + 5 * i + 2) _ = _
      rw [e3]
      show va_up (va_up (m2 0) (14 + 5 * i + 3) _) (14 + 5 * i + 2) _ = _
      rw [e2, ho1, ← zgrow_step]
  have t33 : ∀ (x : Int) (F2 : Nat → GC) (m2 : Nat → Nat → Int), x = (if (s1 6).tmod 5 = 4 then 1 else 0) → MOD F2 r m2 → FR r F F2 → m2 0 = s1 → SB [0, 4, 5] m m2 → ∀ (x1 : Int), Go g yM_day 9 0 0 33 [gR r, gI x1, gU, gU] [gI x] (N, F2) (MU N r F m gU (zday (m 0))) := by
    intro x F2 m2 hx hM2 hF2 e2 hS2 x1
    have hxb : x = 0 ∨ x = 1 := by rw [hx]; grind
    have hxt : ztruth x = x := by unfold ztruth; grind
    refine go_SP dM_day_33 vkM71 (ct_truth _) rfl (by omega) rfl (fun _ => Nat.le_of_ble_eq_true rfl) ?_
    rw [hxt]
    refine go_is2 dM_day_36 (Nat.le_of_ble_eq_true rfl) trivial ?_
    refine go_iconst dM_day_37 (inR_of _ rfl) ?_
    refine go_is3 dM_day_38 (Nat.le_of_ble_eq_true rfl) trivial ?_
    exact loop (zmany (m 0)) 0 (by omega) _ x F2 m2 hx hM2 hF2 e2 hS2
  refine CT.of' (L0 := [gR r, gU, gU, gU]) plM (Nat.le_of_ble_eq_true rfl) rfl ?_
  refine go_aload_n (i := 0) dM_day_0 rfl rfl trivial ?_
  refine go_aload_n (i := 0) dM_day_1 rfl rfl trivial ?_
  refine go_getf dM_day_2 flM7 (by assumption) rfl ?_
  refine go_bipush dM_day_5 (inR_of _ rfl) rfl ?_
  refine go_iald' 6 _ dM_day_7 (by assumption) rfl (by omega) rfl ?_
  refine go_bipush dM_day_8 (inR_of _ rfl) rfl ?_
  refine go_irem dM_day_10 (by omega) ?_
  refine go_VX dM_day_11 vkM171 (by assumption) (List.cons_ne_nil _ _) (sM_bargain (ST.rf hM) hw hT hy.1 (by omega)) rfl (by omega) (by omega) (by omega) rfl (fun _ => Nat.le_of_ble_eq_true rfl) ?_
  rintro _ _ ⟨rfl, F2, m2, rfl, hM2, hF2, e2, hS2⟩ -
  dsimp only [rp]
  rw [hs1] at e2
  have ho2 := hM2.1
  refine go_is1 dM_day_14 (Nat.le_of_ble_eq_true rfl) trivial ?_
  refine go_aload_n (i := 0) dM_day_15 rfl rfl trivial ?_
  refine go_getf dM_day_16 flM7 (by assumption) rfl ?_
  refine go_bipush dM_day_19 (inR_of _ rfl) rfl ?_
  refine go_iald' 6 (s1 6) dM_day_21 hM2.a0 rfl (by omega) (by rw [e2]) ?_
  refine go_iconst dM_day_22 (inR_of _ rfl) ?_
  refine go_irem dM_day_23 (by omega) ?_
  refine go_iconst dM_day_24 (inR_of _ rfl) ?_
  refine go_ic_ne 32 dM_day_25 rfl (fun h25 => ?_) (fun h25 => ?_)
  · refine go_iconst dM_day_32 (inR_of _ rfl) ?_
    exact t33 0 F2 m2 (by rw [if_neg h25]) hM2 hF2 e2 hS2 _
  · refine go_iconst dM_day_28 (inR_of _ rfl) ?_
    refine go_goto 33 dM_day_29 rfl ?_
    exact t33 1 F2 m2 (by rw [if_pos h25]) hM2 hF2 e2 hS2 _
theorem qM_daysGo (hM : MOD F r m) (hw : zW (m 0)) (hT : zT (m 0)) {n : Int} (h0 : 0 ≤ n) (h1 : n ≤ 1000) (hd : m 0 6 + n ≤ 20000) : CT g yM_daysGo 10 0 0 [gR r, gI n] (N, F) (MU N r F m gU (zdays (m 0) n.toNat)) := by
  have loop : ∀ (j i : Nat), i + j = n.toNat → ∀ (F2 : Nat → GC) (m2 : Nat → Nat → Int), MOD F2 r m2 → FR r F F2 → m2 0 = zdays (m 0) i → SB [0, 4, 5] m m2 → Go g yM_daysGo 10 0 0 2 [gR r, gI n, gI i] [] (N, F2) (MU N r F m gU (zdays (m 0) n.toNat)) := by
    intro j
    induction j with
    | zero =>
      intro i hi F2 m2 hM2 hF2 e2 hS2
      refine go_iload_n (i := 2) dM_daysGo_2 rfl rfl ?_
      refine go_iload_n (i := 1) dM_daysGo_3 rfl rfl ?_
      refine go_ic_ge 17 dM_daysGo_4 rfl (fun h4 => ?_) (fun h4 => absurd (by omega) h4)
      refine go_vret dM_daysGo_17 rfl ?_
      have : i = n.toNat := by omega
      exact ⟨rfl, F2, m2, rfl, hM2, hF2, by rw [e2, this], hS2⟩
    | succ j ih =>
      intro i hi F2 m2 hM2 hF2 e2 hS2
      have ho := hM2.1
      obtain ⟨W, k, l⟩ := zdays_W hw i (by omega)
      refine go_iload_n (i := 2) dM_daysGo_2 rfl rfl ?_
      refine go_iload_n (i := 1) dM_daysGo_3 rfl rfl ?_
      refine go_ic_ge 17 dM_daysGo_4 rfl (fun h4 => absurd h4 (by omega)) (fun h4 => ?_)
      refine go_aload_n (i := 0) dM_daysGo_7 rfl rfl trivial ?_
      refine go_VX dM_daysGo_8 vkM177 (by assumption) (List.cons_ne_nil _ _) (qM_day hM2 (by rw [e2]; exact W) (by rw [e2]; exact zT_keep hT k.2.2.2.2.2) (by rw [e2, l]; omega)) rfl (by omega) (by omega) (by omega) rfl (fun _ => Nat.le_of_ble_eq_true rfl) ?_
      rintro _ _ ⟨rfl, F3, m3, rfl, hM3, hF3, e3, hS3⟩ -
      dsimp only [rp]
      refine go_inc2 (((i + 1 : Nat) : Int)) dM_daysGo_11 (Nat.le_of_ble_eq_true rfl) trivial (by (try simp (discharger := (unfold inR; omega)) only [w32_id]) <;> omega) ?_
      refine go_goto 2 dM_daysGo_14 rfl ?_
      exact ih (i + 1) (by omega) F3 m3 hM3 (hF2.tr hF3) (by rw [e3, e2]; rfl) (hS2.tr hS3)
  refine CT.of' (L0 := [gR r, gI n, gU]) plM (Nat.le_of_ble_eq_true rfl) rfl ?_
  refine go_iconst dM_daysGo_0 (inR_of _ rfl) ?_
  refine go_is2 dM_daysGo_1 (Nat.le_of_ble_eq_true rfl) trivial ?_
  exact loop n.toNat 0 (by omega) F m hM FR.rf rfl SB.rf
end MDAY2
