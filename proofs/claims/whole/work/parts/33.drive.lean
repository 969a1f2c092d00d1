section MDRIVE
variable {g : GX} {N r : Nat} {F F1 : Nat → GC} {m m1 : Nat → Nat → Int}
/-- how many of x's first n bits are set -/
def zones (x : Nat) : Nat → Nat
  | 0 => 0
  | n + 1 => zones x n + x / 2 ^ n % 2
theorem zones_le (x : Nat) : ∀ n, zones x n ≤ n
  | 0 => Nat.le_refl 0
  | n + 1 => by
    have := zones_le x n
    show zones x n + x / 2 ^ n % 2 ≤ n + 1
    omega
theorem ct_ones (x : Nat) (hx : x < 2147483648) : CT g yM_ones 0 0 0 [gI (x : Int)] (N, F) (RV ((zones x 10 : Nat) : Int) (N, F)) := by
  have loop : ∀ (j i : Nat), i + j = 10 → Go g yM_ones 0 0 0 4 [gI (x : Int), gI ((zones x i : Nat) : Int), gI i] [] (N, F) (RV ((zones x 10 : Nat) : Int) (N, F)) := by
    intro j
    induction j with
    | zero =>
      intro i hi
      have e : i = 10 := by omega
      subst e
      refine go_iload_n (i := 2) dM_ones_4 rfl rfl ?_
      refine go_bipush dM_ones_5 (inR_of _ rfl) rfl ?_
      refine go_ic_ge 24 dM_ones_7 rfl (fun h7 => ?_) (fun h7 => absurd (by omega) h7)
      refine go_iload_n (i := 1) dM_ones_24 rfl rfl ?_
      refine go_iret dM_ones_25 rfl rfl ?_
      exact ⟨rfl, rfl⟩
    | succ j ih =>
      intro i hi
      have hl := zones_le x i
      refine go_iload_n (i := 2) dM_ones_4 rfl rfl ?_
      refine go_bipush dM_ones_5 (inR_of _ rfl) rfl ?_
      refine go_ic_ge 24 dM_ones_7 rfl (fun h7 => absurd h7 (by omega)) (fun h7 => ?_)
      refine go_iload_n (i := 1) dM_ones_10 rfl rfl ?_
      refine go_iload_n (i := 0) dM_ones_11 rfl rfl ?_
      refine go_iload_n (i := 2) dM_ones_12 rfl rfl ?_
      refine go_ishr dM_ones_13 ?_
      refine go_iconst dM_ones_14 (inR_of _ rfl) ?_
      refine go_iand dM_ones_15 ?_
      rw [iBit x i hx (by omega)]
      have hb : x / 2 ^ i % 2 < 2 := Nat.mod_lt _ (by omega)
      have hs : zones x (i + 1) = zones x i + x / 2 ^ i % 2 := rfl
      generalize x / 2 ^ i % 2 = q at hb hs ⊢
      refine go_iadd dM_ones_16 ?_
      refine go_top (((zones x (i + 1) : Nat) : Int)) (by (try simp (discharger := (unfold inR; omega)) only [w32_id]) <;> omega) ?_
      refine go_is1 dM_ones_17 (Nat.le_of_ble_eq_true rfl) trivial ?_
      refine go_inc2 (((i + 1 : Nat) : Int)) dM_ones_18 (Nat.le_of_ble_eq_true rfl) trivial (by (try simp (discharger := (unfold inR; omega)) only [w32_id]) <;> omega) ?_
      refine go_goto 4 dM_ones_21 rfl ?_
      exact ih (i + 1) (by omega)
  refine CT.of' (L0 := [gI (x : Int), gU, gU]) plM (Nat.le_of_ble_eq_true rfl) rfl ?_
  refine go_iconst dM_ones_0 (inR_of _ rfl) ?_
  refine go_is1 dM_ones_1 (Nat.le_of_ble_eq_true rfl) trivial ?_
  refine go_iconst dM_ones_2 (inR_of _ rfl) ?_
  refine go_is2 dM_ones_3 (Nat.le_of_ble_eq_true rfl) trivial ?_
  exact loop 10 0 rfl
/-- the row if the geese of the set x stood in the yard y -/
def zmov (s : Nat → Int) (y : Int) (x n : Nat) : Nat → Int := zset s 3 (fun i => if x / 2 ^ i % 2 = 1 then y else zk s i 3) n
def zhw (s : Nat → Int) (y : Int) (x : Nat) : Int := zhold (zmov s y x (zmany s)) y
theorem zmov_W {s : Nat → Int} (h : zW s) {y : Int} (hy : 0 ≤ y ∧ y ≤ 5) (x : Nat) : ∀ n : Nat, n ≤ zmany s → zW (zmov s y x n) ∧ zmov s y x n 0 = s 0 ∧ (∀ j : Nat, 64 ≤ j → zmov s y x n j = s j) ∧ ∀ i : Nat, n ≤ i → zk (zmov s y x n) i 3 = zk s i 3
  | 0, _ => ⟨h, rfl, fun _ _ => rfl, fun _ _ => rfl⟩
  | n + 1, hn => by
    obtain ⟨w, e0, ej, ei⟩ := zmov_W h hy x n (by omega)
    have hm := zmany_le h
    have hg := h.goose (i := (n : Int)) (by omega) (by omega)
    have e : zmov s y x (n + 1) = va_up (zmov s y x n) (14 + 5 * n + 3) (if x / 2 ^ n % 2 = 1 then y else zk s n 3) := rfl
    rw [e]
    refine ⟨zW_up w (by omega) (by omega) (by omega) (by omega) (by omega) (by omega) (by omega) (fun i' v' h1 h2 h3 => ?_), ?_, fun j hj => ?_, fun i hi => ?_⟩
    · have : v' = 3 := by omega
      subst this
      refine ⟨by omega, by omega, by omega, fun _ => ?_, by omega⟩
      split <;> omega
    · rw [va_up_ne _ _ (by omega)]; exact e0
    · rw [va_up_ne _ _ (by omega)]; exact ej j hj
    · unfold zk
      rw [va_up_ne _ _ (by omega)]
      exact ei i (by omega)
theorem qM_isHoldingWith (hM : MOD F r m) (hw : zW (m 0)) (hT : zT (m 0)) {y : Int} (hy : 0 ≤ y ∧ y ≤ 5) (x : Nat) (hx : x < 1024) : CT g yM_isHoldingWith 8 0 0 [gR r, gI y, gI (x : Int)] (N, F) (fun rr M' => rr = gI (zhw (m 0) y x) ∧ ∃ (F2 : Nat → GC) (m2 : Nat → Nat → Int), M' = (N, F2) ∧ SA r F m (m 0) F2 m2) := by
  have hm := zmany_le hw
  have h01 := zhold01 (zmov (m 0) y x (zmany (m 0))) y
  have loop : ∀ (j i : Nat), i + j = zmany (m 0) → ∀ (F1 : Nat → GC) (m1 : Nat → Nat → Int), SA r F m (zmov (m 0) y x i) F1 m1 → (∀ q, q < 64 → m1 2 q = m 0 q) → Go g yM_isHoldingWith 8 0 0 6 [gR r, gI y, gI (x : Int), gI i] [] (N, F1) (fun rr M' => rr = gI (zhw (m 0) y x) ∧ ∃ (F2 : Nat → GC) (m2 : Nat → Nat → Int), M' = (N, F2) ∧ SA r F m (m 0) F2 m2) := by
    intro j
    induction j with
    | zero =>
      intro i hi F1 m1 h1 l1
      obtain ⟨W, e0, ej, -⟩ := zmov_W hw hy x i (by omega)
      have hi : i = zmany (m 0) := by omega
      have ho := h1.1.1
      have a0 := h1.1.a0
      have e1 := h1.2.2.1
      refine go_iload_n (i := 3) dM_isHoldingWith_6 rfl rfl ?_
      refine go_aload_n (i := 0) dM_isHoldingWith_7 rfl rfl trivial ?_
      refine go_getf dM_isHoldingWith_8 flM7 (by assumption) rfl ?_
      refine go_iconst dM_isHoldingWith_11 (inR_of _ rfl) ?_
      refine go_iald' 0 _ dM_isHoldingWith_12 (by assumption) rfl (by omega) rfl ?_
      rw [e1, e0]
      refine go_ic_ge 51 dM_isHoldingWith_13 rfl (fun h13 => ?_) (fun h13 => absurd (by omega) h13)
      refine go_aload_n (i := 0) dM_isHoldingWith_51 rfl rfl trivial ?_
      refine go_aload_n (i := 0) dM_isHoldingWith_52 rfl rfl trivial ?_
      refine go_iload_n (i := 1) dM_isHoldingWith_53 rfl rfl ?_
      refine go_VX dM_isHoldingWith_54 vkM147 (by assumption) (List.cons_ne_nil _ _) (sM_isHolding (ST.rf h1.1) (by rw [e1]; exact W) (by rw [e1]; exact zT_keep hT ej) hy.1 hy.2) rfl (by omega) (by omega) (by omega) rfl (fun _ => Nat.le_of_ble_eq_true rfl) ?_
      rintro _ _ ⟨rfl, F2, m2, rfl, h2⟩ -
      dsimp only [rp]
      have ho2 := h2.1.1
      rw [e1, hi]
      refine go_SP dM_isHoldingWith_57 vkM71 (ct_truth _) rfl (by omega) rfl (fun _ => Nat.le_of_ble_eq_true rfl) ?_
      refine go_VX dM_isHoldingWith_60 vkM160 (by assumption) (List.cons_ne_nil _ _) (qM_takesBack h2.1 _) rfl (by omega) (by omega) (by omega) rfl (fun _ => Nat.le_of_ble_eq_true rfl) ?_
      rintro _ _ ⟨rfl, F3, m3, rfl, hM3, hF3, e3, hS3⟩ -
      dsimp only [rp]
      have e3' : m3 0 = m 0 := by
        rw [e3]
        exact SA.back (fun q hq => by rw [h2.2.2.2 2 (by decide)]; exact l1 q hq) (h2.2.2.1.trans e1) ej
      have hS : SA r F m (m 0) F3 m3 := ⟨hM3, (h1.2.1.tr h2.2.1).tr hF3, e3', (h1.2.2.2.tr (h2.2.2.2.mono (by simp))).tr (hS3.mono (by simp))⟩
      have hzt : ztruth (zhold (zmov (m 0) y x (zmany (m 0))) y) = zhold (zmov (m 0) y x (zmany (m 0))) y := by unfold ztruth; grind
      rw [hzt]
      refine go_iconst dM_isHoldingWith_63 (inR_of _ rfl) ?_
      refine go_ic_ne 71 dM_isHoldingWith_64 rfl (fun h64 => ?_) (fun h64 => ?_)
      · refine go_iconst dM_isHoldingWith_71 (inR_of _ rfl) ?_
        refine go_iret dM_isHoldingWith_72 rfl (zb (by simp)) ?_
        exact ⟨by unfold zhw; rw [show zhold (zmov (m 0) y x (zmany (m 0))) y = 0 by omega], F3, m3, rfl, hS⟩
      · refine go_iconst dM_isHoldingWith_67 (inR_of _ rfl) ?_
        refine go_goto 72 dM_isHoldingWith_68 rfl ?_
        refine go_iret dM_isHoldingWith_72 rfl (zb (by simp)) ?_
        exact ⟨by unfold zhw; rw [show zhold (zmov (m 0) y x (zmany (m 0))) y = 1 by omega], F3, m3, rfl, hS⟩
    | succ j ih =>
      intro i hi F1 m1 h1 l1
      obtain ⟨W, e0, ej, ek⟩ := zmov_W hw hy x i (by omega)
      have hM1 := h1.1
      have ho := h1.1.1
      have a0 := h1.1.a0
      have e1 := h1.2.2.1
      have t44 : ∀ v sp : Int, sp = ((14 + 5 * i + 3 : Nat) : Int) → v = (if x / 2 ^ i % 2 = 1 then y else zk (m 0) i 3) → Go g yM_isHoldingWith 8 0 0 44 [gR r, gI y, gI (x : Int), gI i] [gI v, gI sp, gR (r + 1)] (N, F1) (fun rr M' => rr = gI (zhw (m 0) y x) ∧ ∃ (F2 : Nat → GC) (m2 : Nat → Nat → Int), M' = (N, F2) ∧ SA r F m (m 0) F2 m2) := by
        intro v sp hsp hv
        refine go_mst (i := 0) (k := 14 + 5 * i + 3) h1.1 (by omega) dM_isHoldingWith_44 rfl hsp (by show _ < 1510; omega) (fun F3 m3 hM3 hF3 e3 => ?_)
        refine go_inc3 (((i + 1 : Nat) : Int)) dM_isHoldingWith_45 (Nat.le_of_ble_eq_true rfl) trivial (by (try simp (discharger := (unfold inR; omega)) only [w32_id]) <;> omega) ?_
        refine go_goto 6 dM_isHoldingWith_48 rfl ?_
        refine ih (i + 1) (by omega) F3 m3 ⟨hM3, h1.2.1.tr hF3, ?_, by rw [e3]; exact h1.2.2.2.put (by simp)⟩ (fun q hq => by rw [e3]; exact l1 q hq)
        rw [e3]
        show va_up (m1 0) (14 + 5 * i + 3) v = _
        rw [e1, hv]
        rfl
      have hb : x / 2 ^ i % 2 < 2 := Nat.mod_lt _ (by omega)
      refine go_iload_n (i := 3) dM_isHoldingWith_6 rfl rfl ?_
      refine go_aload_n (i := 0) dM_isHoldingWith_7 rfl rfl trivial ?_
      refine go_getf dM_isHoldingWith_8 flM7 (by assumption) rfl ?_
      refine go_iconst dM_isHoldingWith_11 (inR_of _ rfl) ?_
      refine go_iald' 0 _ dM_isHoldingWith_12 (by assumption) rfl (by omega) rfl ?_
      rw [e1, e0]
      refine go_ic_ge 51 dM_isHoldingWith_13 rfl (fun h13 => absurd h13 (by omega)) (fun h13 => ?_)
      refine go_aload_n (i := 0) dM_isHoldingWith_16 rfl rfl trivial ?_
      refine go_getf dM_isHoldingWith_17 flM7 (by assumption) rfl ?_
      refine go_iload_n (i := 3) dM_isHoldingWith_20 rfl rfl ?_
      refine go_iconst dM_isHoldingWith_21 (inR_of _ rfl) ?_
      refine go_SP dM_isHoldingWith_22 vkM61 (ct_spot _ _) rfl (by omega) rfl (fun _ => Nat.le_of_ble_eq_true rfl) ?_
      refine go_iload_n (i := 2) dM_isHoldingWith_25 rfl rfl ?_
      refine go_iload_n (i := 3) dM_isHoldingWith_26 rfl rfl ?_
      refine go_ishr dM_isHoldingWith_27 ?_
      refine go_iconst dM_isHoldingWith_28 (inR_of _ rfl) ?_
      refine go_iand dM_isHoldingWith_29 ?_
      rw [iBit x i (by omega) (by omega)]
      refine go_iconst dM_isHoldingWith_30 (inR_of _ rfl) ?_
      refine go_ic_ne 38 dM_isHoldingWith_31 rfl (fun h31 => ?_) (fun h31 => ?_)
      · refine go_aload_n (i := 0) dM_isHoldingWith_38 rfl rfl trivial ?_
        refine go_iload_n (i := 3) dM_isHoldingWith_39 rfl rfl ?_
        refine go_iconst dM_isHoldingWith_40 (inR_of _ rfl) ?_
        refine go_VP dM_isHoldingWith_41 vkM79 (by assumption) (List.cons_ne_nil _ _) (qM_its hM1 (by omega) (by omega) (by omega) (by omega)) rfl (by omega) rfl (fun _ => Nat.le_of_ble_eq_true rfl) ?_
        rw [e1, ek i (by omega)]
        exact t44 _ _ (by (try simp (discharger := (unfold inR; omega)) only [w32_id]) <;> omega) (by rw [if_neg (by omega)])
      · refine go_iload_n (i := 1) dM_isHoldingWith_34 rfl rfl ?_
        refine go_goto 44 dM_isHoldingWith_35 rfl ?_
        exact t44 _ _ (by (try simp (discharger := (unfold inR; omega)) only [w32_id]) <;> omega) (by rw [if_pos (by omega)])
  have ho := hM.1
  refine CT.of' (L0 := [gR r, gI y, gI (x : Int), gU]) plM (Nat.le_of_ble_eq_true rfl) rfl ?_
  refine go_aload_n (i := 0) dM_isHoldingWith_0 rfl rfl trivial ?_
  refine go_VX dM_isHoldingWith_1 vkM157 (by assumption) (List.cons_ne_nil _ _) (qM_laysAside hM) rfl (by omega) (by omega) (by omega) rfl (fun _ => Nat.le_of_ble_eq_true rfl) ?_
  rintro _ _ ⟨rfl, F2, m2, rfl, hM2, hF2, l2, hS2⟩ -
  dsimp only [rp]
  refine go_iconst dM_isHoldingWith_4 (inR_of _ rfl) ?_
  refine go_is3 dM_isHoldingWith_5 (Nat.le_of_ble_eq_true rfl) trivial ?_
  exact loop (zmany (m 0)) 0 (by omega) F2 m2 ⟨hM2, hF2, hS2 0 (by decide), hS2.mono (by simp)⟩ l2
/-- the best set below x -/
def zdrv (s : Nat → Int) (y : Int) : Nat → Int
  | 0 => -1
  | x + 1 => if (zdrv s y x < 0 ∨ zones x 10 < zones (zdrv s y x).toNat 10) ∧ (x &&& zmN (fun i : Nat => if zk s i 3 = y then 1 else 0) (zmany s)) = 0 ∧ zhw s y x = 1 then x else zdrv s y x
theorem zdrv_in (s : Nat → Int) (y : Int) : ∀ x : Nat, -1 ≤ zdrv s y x ∧ zdrv s y x < x
  | 0 => by simp [zdrv]
  | x + 1 => by
    have := zdrv_in s y x
    unfold zdrv
    split <;> omega
def v_drive (s : Nat → Int) (y w : Int) : Int := if (0 ≤ y ∧ y ≤ 5) ∧ 0 ≤ w ∧ w ≤ 1 then (if zdrv s y (2 ^ zmany s) < 0 then NONE else if w = 0 then zdrv s y (2 ^ zmany s) else ((zones (zdrv s y (2 ^ zmany s)).toNat 10 : Nat) : Int)) else BAD
theorem bM_drive (hM : MOD F r m) (hw : zW (m 0)) (hT : zT (m 0)) {y w : Int} : CT g yM_drive 9 0 0 [gR r, gI y, gI w] (N, F) (MB N r F (gI (v_drive (m 0) y w)) m) := by
  have hm := zmany_le hw
  have hn0 := hw.1.1
  have hn1 := hw.1.2.1
  have ho := hM.1
  have hpw : 2 ^ zmany (m 0) ≤ 1024 := Nat.pow_le_pow_right (n := 2) (by omega) hm.1
  have esh : iShl 1 (m 0 0) = ((2 ^ zmany (m 0) : Nat) : Int) := by rw [← hm.2, iShl_1 _ (by omega)]; simp
  have t17 : ¬ ((0 ≤ y ∧ y ≤ 5) ∧ 0 ≤ w ∧ w ≤ 1) → Go g yM_drive 9 0 0 17 [gR r, gI y, gI w, gU, gU, gU, gU] [] (N, F) (MB N r F (gI (v_drive (m 0) y w)) m) := by
    intro hc
    refine go_ldc dM_drive_17 kcM96 (inR_of _ rfl) ?_
    refine go_iret dM_drive_19 rfl rfl ?_
    exact MB.same hM (by unfold v_drive; rw [if_neg hc])
  generalize hP : 2 ^ zmany (m 0) = P at hpw esh
  have loop : (0 ≤ y ∧ y ≤ 5) ∧ 0 ≤ w ∧ w ≤ 1 → ∀ (j x : Nat), x + j = P → ∀ (x6 : GV) (F1 : Nat → GC) (m1 : Nat → Nat → Int), SA r F m (m 0) F1 m1 → Go g yM_drive 9 0 0 33 [gR r, gI y, gI w, gI ((zmN (fun i : Nat => if zk (m 0) i 3 = y then 1 else 0) (zmany (m 0)) : Nat) : Int), gI (zdrv (m 0) y x), gI x, x6] [] (N, F1) (MB N r F (gI (v_drive (m 0) y w)) m) := by
    intro hc j
    induction j with
    | zero =>
      intro x hx x6 F1 m1 h1
      have ho := h1.1.1
      have a0 := h1.1.a0
      have e1 := h1.2.2.1
      have hxP : x = P := by omega
      have hb := zdrv_in (m 0) y x
      refine go_iload dM_drive_33 rfl ?_
      refine go_iconst dM_drive_35 (inR_of _ rfl) ?_
      refine go_aload_n (i := 0) dM_drive_36 rfl rfl trivial ?_
      refine go_getf dM_drive_37 flM7 (by assumption) rfl ?_
      refine go_iconst dM_drive_40 (inR_of _ rfl) ?_
      refine go_iald' 0 _ dM_drive_41 (by assumption) rfl (by omega) rfl ?_
      rw [e1]
      refine go_ishl dM_drive_42 ?_
      rw [esh]
      refine go_ic_ge 108 dM_drive_43 rfl (fun h43 => ?_) (fun h43 => absurd (by omega) h43)
      have hv : v_drive (m 0) y w = if zdrv (m 0) y x < 0 then NONE else if w = 0 then zdrv (m 0) y x else ((zones (zdrv (m 0) y x).toNat 10 : Nat) : Int) := by unfold v_drive; rw [if_pos hc, hP, hxP]
      generalize zdrv (m 0) y x = b at hb hv ⊢
      rw [hv]
      refine go_iload dM_drive_108 rfl ?_
      refine go_if_ge 118 dM_drive_110 rfl (fun h110 => ?_) (fun h110 => ?_)
      · refine go_iload_n (i := 2) dM_drive_118 rfl rfl ?_
        refine go_if_ne 127 dM_drive_119 rfl (fun h119 => ?_) (fun h119 => ?_)
        · rw [show b = ((b.toNat : Nat) : Int) by omega]
          refine go_iload dM_drive_127 rfl ?_
          refine go_SP dM_drive_129 vkM163 (ct_ones b.toNat (by omega)) rfl (by omega) rfl (fun _ => Nat.le_of_ble_eq_true rfl) ?_
          refine go_iret dM_drive_132 rfl rfl ?_
          exact MB.sa h1 (by rw [if_neg (by omega), if_neg h119]; congr 2)
        · refine go_iload dM_drive_122 rfl ?_
          refine go_goto 132 dM_drive_124 rfl ?_
          refine go_iret dM_drive_132 rfl rfl ?_
          exact MB.sa h1 (by rw [if_neg (by omega), if_pos h119])
      · refine go_ldc dM_drive_113 kcM169 (inR_of _ rfl) ?_
        refine go_goto 132 dM_drive_115 rfl ?_
        refine go_iret dM_drive_132 rfl rfl ?_
        exact MB.sa h1 (by rw [if_pos (by omega)])
    | succ j ih =>
      intro x hx x6 F1 m1 h1
      have ho := h1.1.1
      have a0 := h1.1.a0
      have e1 := h1.2.2.1
      have hb := zdrv_in (m 0) y x
      have hs : zdrv (m 0) y (x + 1) = if (zdrv (m 0) y x < 0 ∨ zones x 10 < zones (zdrv (m 0) y x).toNat 10) ∧ (x &&& zmN (fun i : Nat => if zk (m 0) i 3 = y then 1 else 0) (zmany (m 0))) = 0 ∧ zhw (m 0) y x = 1 then (x : Int) else zdrv (m 0) y x := rfl
      have h01 := zhold01 (zmov (m 0) y x (zmany (m 0))) y
      have t100 : ∀ (v : Int) (x4 x6 : GV) (F2 : Nat → GC) (m2 : Nat → Nat → Int), SA r F m (m 0) F2 m2 → v = zdrv (m 0) y (x + 1) → Go g yM_drive 9 0 0 100 [gR r, gI y, gI w, gI ((zmN (fun i : Nat => if zk (m 0) i 3 = y then 1 else 0) (zmany (m 0)) : Nat) : Int), x4, gI x, x6] [gI v] (N, F2) (MB N r F (gI (v_drive (m 0) y w)) m) := by
        intro v x4 x6 F2 m2 h2 hv
        rw [hv]
        refine go_is4 dM_drive_100 (Nat.le_of_ble_eq_true rfl) trivial ?_
        refine go_inc5 (((x + 1 : Nat) : Int)) dM_drive_102 (Nat.le_of_ble_eq_true rfl) trivial (by (try simp (discharger := (unfold inR; omega)) only [w32_id]) <;> omega) ?_
        refine go_goto 33 dM_drive_105 rfl ?_
        exact ih (x + 1) (by omega) _ F2 m2 h2
      generalize zdrv (m 0) y (x + 1) = b1 at hs t100
      generalize zdrv (m 0) y x = b at hb hs ⊢
      have t71 : ∀ c : Int, (c ≠ 0 ↔ (b < 0 ∨ zones x 10 < zones b.toNat 10)) → Go g yM_drive 9 0 0 69 [gR r, gI y, gI w, gI ((zmN (fun i : Nat => if zk (m 0) i 3 = y then 1 else 0) (zmany (m 0)) : Nat) : Int), gI b, gI x, x6] [gI c] (N, F1) (MB N r F (gI (v_drive (m 0) y w)) m) := by
        intro c hcc
        refine go_is6 dM_drive_69 (Nat.le_of_ble_eq_true rfl) trivial ?_
        refine go_iload dM_drive_71 rfl ?_
        refine go_iload_n (i := 3) dM_drive_73 rfl rfl ?_
        refine go_iand dM_drive_74 ?_
        rw [iAnd_nat _ _ (by omega)]
        refine go_if_ne 98 dM_drive_75 rfl (fun h75 => ?_) (fun h75 => ?_)
        · refine go_iload dM_drive_98 rfl ?_
          exact t100 b _ _ F1 m1 h1 (by rw [hs, if_neg (fun h => h75 (by rw [h.2.1]; rfl))])
        · have hz : (x &&& zmN (fun i : Nat => if zk (m 0) i 3 = y then 1 else 0) (zmany (m 0))) = 0 := by omega
          refine go_iload dM_drive_78 rfl ?_
          refine go_if_eq 98 dM_drive_80 rfl (fun h80 => ?_) (fun h80 => ?_)
          · refine go_iload dM_drive_98 rfl ?_
            exact t100 b _ _ F1 m1 h1 (by rw [hs, if_neg (fun h => hcc.mpr h.1 h80)])
          · refine go_aload_n (i := 0) dM_drive_83 rfl rfl trivial ?_
            refine go_iload_n (i := 1) dM_drive_84 rfl rfl ?_
            refine go_iload dM_drive_85 rfl ?_
            refine go_VX dM_drive_87 vkM166 (by assumption) (List.cons_ne_nil _ _) (qM_isHoldingWith h1.1 (by rw [e1]; exact hw) (by rw [e1]; exact hT) hc.1 x (by omega)) rfl (by omega) (by omega) (by omega) rfl (fun _ => Nat.le_of_ble_eq_true rfl) ?_
            rintro _ _ ⟨rfl, F2, m2, rfl, h2⟩ -
            dsimp only [rp]
            rw [e1] at h2 ⊢
            have h2 : SA r F m (m 0) F2 m2 := h1.tr h2
            have hh : zhw (m 0) y x = 0 ∨ zhw (m 0) y x = 1 := h01
            refine go_if_eq 98 dM_drive_90 rfl (fun h90 => ?_) (fun h90 => ?_)
            · refine go_iload dM_drive_98 rfl ?_
              exact t100 b _ _ F2 m2 h2 (by rw [hs, if_neg (fun h => by omega)])
            · refine go_iload dM_drive_93 rfl ?_
              refine go_goto 100 dM_drive_95 rfl ?_
              exact t100 x _ _ F2 m2 h2 (by rw [hs, if_pos ⟨hcc.mp h80, hz, by omega⟩])
      refine go_iload dM_drive_33 rfl ?_
      refine go_iconst dM_drive_35 (inR_of _ rfl) ?_
      refine go_aload_n (i := 0) dM_drive_36 rfl rfl trivial ?_
      refine go_getf dM_drive_37 flM7 (by assumption) rfl ?_
      refine go_iconst dM_drive_40 (inR_of _ rfl) ?_
      refine go_iald' 0 _ dM_drive_41 (by assumption) rfl (by omega) rfl ?_
      rw [e1]
      refine go_ishl dM_drive_42 ?_
      rw [esh]
      refine go_ic_ge 108 dM_drive_43 rfl (fun h43 => absurd h43 (by omega)) (fun h43 => ?_)
      refine go_iload dM_drive_46 rfl ?_
      refine go_if_lt 64 dM_drive_48 rfl (fun h48 => ?_) (fun h48 => ?_)
      · refine go_iconst dM_drive_64 (inR_of _ rfl) ?_
        refine go_goto 69 dM_drive_65 rfl ?_
        exact t71 _ (by simp; omega)
      · have hbn : b = ((b.toNat : Nat) : Int) := by omega
        generalize b.toNat = bn at *
        subst hbn
        refine go_iload dM_drive_51 rfl ?_
        refine go_SP dM_drive_53 vkM163 (ct_ones x (by omega)) rfl (by omega) rfl (fun _ => Nat.le_of_ble_eq_true rfl) ?_
        refine go_iload dM_drive_56 rfl ?_
        refine go_SP dM_drive_58 vkM163 (ct_ones bn (by omega)) rfl (by omega) rfl (fun _ => Nat.le_of_ble_eq_true rfl) ?_
        refine go_ic_ge 68 dM_drive_61 rfl (fun h61 => ?_) (fun h61 => ?_)
        · refine go_iconst dM_drive_68 (inR_of _ rfl) ?_
          exact t71 _ (by simp; omega)
        · refine go_iconst dM_drive_64 (inR_of _ rfl) ?_
          refine go_goto 69 dM_drive_65 rfl ?_
          exact t71 _ (by simp; omega)
  refine CT.of' (L0 := [gR r, gI y, gI w, gU, gU, gU, gU]) plM (Nat.le_of_ble_eq_true rfl) rfl ?_
  refine go_iload_n (i := 1) dM_drive_0 rfl rfl ?_
  refine go_SP dM_drive_1 vkM105 (ct_isYard _) rfl (by omega) rfl (fun _ => Nat.le_of_ble_eq_true rfl) ?_
  refine go_if_eq 17 dM_drive_4 rfl (fun h4 => ?_) (fun h4 => ?_)
  · exact t17 (by grind [zin])
  · refine go_iload_n (i := 2) dM_drive_7 rfl rfl ?_
    refine go_i2l dM_drive_8 ?_
    refine go_lconst (x := 0) dM_drive_9 (inL_of2 _ rfl) rfl ?_
    refine go_lconst (x := 1) dM_drive_10 (inL_of2 _ rfl) rfl ?_
    refine go_SP dM_drive_11 vkM65 (ct_in _ _ _) rfl (by omega) rfl (fun _ => Nat.le_of_ble_eq_true rfl) ?_
    refine go_if_ne 20 dM_drive_14 rfl (fun h14 => ?_) (fun h14 => ?_)
    · have hc : (0 ≤ y ∧ y ≤ 5) ∧ 0 ≤ w ∧ w ≤ 1 := by grind [zin]
      refine go_aload_n (i := 0) dM_drive_20 rfl rfl trivial ?_
      refine go_iload_n (i := 1) dM_drive_21 rfl rfl ?_
      refine go_iconst dM_drive_22 (inR_of _ rfl) ?_
      refine go_VX dM_drive_23 vkM143 (by assumption) (List.cons_ne_nil _ _) (sM_geeseIn (ST.rf hM) hw hT (fun i : Nat => if zk (m 0) i 3 = y then 1 else 0) (fun _ => rfl) (fun h => absurd rfl h)) rfl (by omega) (by omega) (by omega) rfl (fun _ => Nat.le_of_ble_eq_true rfl) ?_
      rintro _ _ ⟨rfl, F2, m2, rfl, h2⟩ -
      dsimp only [rp]
      refine go_is3 dM_drive_26 (Nat.le_of_ble_eq_true rfl) trivial ?_
      refine go_iconst dM_drive_27 (inR_of _ rfl) ?_
      refine go_is4 dM_drive_28 (Nat.le_of_ble_eq_true rfl) trivial ?_
      refine go_iconst dM_drive_30 (inR_of _ rfl) ?_
      refine go_is5 dM_drive_31 (Nat.le_of_ble_eq_true rfl) trivial ?_
      exact loop hc P 0 (by omega) _ F2 m2 ⟨h2.1, h2.2.1, h2.2.2.1, h2.2.2.2.mono (by simp)⟩
    · exact t17 (by grind [zin])
end MDRIVE
