/-! ===== the component: what a county tells ===== -/
/-- the tally of a set -/
def ztly (s : Nat → Int) (x n : Nat) : Int := zsum (fun i => if x / 2 ^ i % 2 = 1 then ztal (zk s i 0) else 0) n
theorem ztly_in (s : Nat → Int) (x n : Nat) : n * (-2 : Int) ≤ ztly s x n ∧ ztly s x n ≤ n * 4 := zsum_le (fun i _ => by have := ztal_in (zk s i 0); split <;> omega)
theorem ztly_wit {s : Nat → Int} {p : Nat → Int} {n : Nat} : ztly s (zmN p n) n = zsum (fun i => if p i = 1 then ztal (zk s i 0) else 0) n := by
  unfold ztly
  refine zsum_congr (fun i hi => ?_)
  rw [zmN_bit]
  by_cases e : p i = 1
  · simp [hi, e]
  · simp [e]
theorem ztly_count (s : Nat → Int) (y : Int) : ztly s (zmN (fun i : Nat => zwit s i y) (zmany s)) (zmany s) = zcount s y := ztly_wit
theorem zmN_no {p : Nat → Int} {n : Nat} (h : ¬ p n = 1) : zmN p (n + 1) = zmN p n := by show zmN p n + (if p n = 1 then 2 ^ n else 0) = _; rw [if_neg h]; omega
theorem zinY_one {s : Nat → Int} {y : Int} : ∀ {n i : Nat}, i < n → zk s i 3 = y → 1 ≤ zinY s y n
  | 0, i, h, _ => absurd h (by omega)
  | n + 1, i, h, e => by
    show 1 ≤ zinY s y n + (if zk s n 3 = y then 1 else 0)
    have := (zinY_in s y n).1
    by_cases q : i = n
    · subst q; rw [if_pos e]; omega
    · have := zinY_one (n := n) (i := i) (by omega) e
      split <;> omega
section CREAD
variable {g : GX} {N a b : Nat} {F : Nat → GC} {s : Nat → Int}
theorem qB_hasGoose (h : CTY F b s) {v : Int} : CT g yB_hasGoose 0 0 0 [gR b, gI v] (N, F) (RV (if 0 ≤ v ∧ v < s 0 then 1 else 0) (N, F)) := by
  have ho := h.1
  refine CT.of' (L0 := [gR b, gI v]) plB (Nat.le_of_ble_eq_true rfl) rfl ?_
  refine go_iload_n (i := 1) dB_hasGoose_0 rfl rfl ?_
  refine go_if_lt 16 dB_hasGoose_1 rfl (fun h1 => ?_) (fun h1 => ?_)
  · refine go_iconst dB_hasGoose_16 (inR_of _ rfl) ?_
    refine go_iret dB_hasGoose_17 rfl (zb (by simp)) ?_
    exact ⟨by rw [if_neg (by omega)], rfl⟩
  · refine go_iload_n (i := 1) dB_hasGoose_4 rfl rfl ?_
    refine go_aload_n (i := 0) dB_hasGoose_5 rfl rfl trivial ?_
    refine go_getf dB_hasGoose_6 flB33 (by assumption) rfl ?_
    refine go_ic_ge 16 dB_hasGoose_9 rfl (fun h9 => ?_) (fun h9 => ?_)
    · refine go_iconst dB_hasGoose_16 (inR_of _ rfl) ?_
      refine go_iret dB_hasGoose_17 rfl (zb (by simp)) ?_
      exact ⟨by rw [if_neg (by omega)], rfl⟩
    · refine go_iconst dB_hasGoose_12 (inR_of _ rfl) ?_
      refine go_goto 17 dB_hasGoose_13 rfl ?_
      refine go_iret dB_hasGoose_17 rfl (zb (by simp)) ?_
      exact ⟨by rw [if_pos (by omega)], rfl⟩
theorem qB_geeseIn (h : CTY F b s) (hw : zW s) {y : Int} : CT g yB_geeseIn 0 0 0 [gR b, gI y] (N, F) (RV ((zmN (zthr s y) (zmany s) : Nat) : Int) (N, F)) := by
  have ho := h.1
  have hr := h.2.1
  obtain ⟨hz1, hz⟩ := zmany_le hw
  have loop : ∀ (n i : Nat), i + n = zmany s → Go g yB_geeseIn 0 0 0 4 [gR b, gI y, gI ((zmN (zthr s y) i : Nat) : Int), gI (i : Int)] [] (N, F) (RV ((zmN (zthr s y) (zmany s) : Nat) : Int) (N, F)) := by
    intro n
    induction n with
    | zero =>
      intro i hi
      refine go_iload_n (i := 3) dB_geeseIn_4 rfl rfl ?_
      refine go_aload_n (i := 0) dB_geeseIn_5 rfl rfl trivial ?_
      refine go_getf dB_geeseIn_6 flB33 (by assumption) rfl ?_
      refine go_ic_ge 37 dB_geeseIn_9 rfl (fun h9 => ?_) (fun h9 => absurd (by omega) h9)
      refine go_iload_n (i := 2) dB_geeseIn_37 rfl rfl ?_
      refine go_iret dB_geeseIn_38 rfl rfl ?_
      exact ⟨by rw [show i = zmany s by omega], rfl⟩
    | succ n ih =>
      intro i hi
      have hg := h.gs (i := i) (by omega) (by omega)
      refine go_iload_n (i := 3) dB_geeseIn_4 rfl rfl ?_
      refine go_aload_n (i := 0) dB_geeseIn_5 rfl rfl trivial ?_
      refine go_getf dB_geeseIn_6 flB33 (by assumption) rfl ?_
      refine go_ic_ge 37 dB_geeseIn_9 rfl (fun h9 => absurd h9 (by omega)) (fun h9 => ?_)
      refine go_aload_n (i := 0) dB_geeseIn_12 rfl rfl trivial ?_
      refine go_getf dB_geeseIn_13 flB11 (by assumption) rfl ?_
      refine go_iload_n (i := 3) dB_geeseIn_16 rfl rfl ?_
      refine go_aald' 1 "GooseCounty$Goose" (i) (b + 6 + i) dB_geeseIn_17 (by assumption) rfl (by omega) (by omega) (gRow_at (by omega)) ?_
      refine go_getf dB_geeseIn_18 flB88 (by assumption) rfl ?_
      refine go_iload_n (i := 1) dB_geeseIn_21 rfl rfl ?_
      refine go_ic_ne 31 dB_geeseIn_22 rfl (fun h22 => ?_) (fun h22 => ?_)
      · refine go_inc3 (((i + 1 : Nat) : Int)) dB_geeseIn_31 (Nat.le_of_ble_eq_true rfl) trivial (by (try simp (discharger := (unfold inR; omega)) only [w32_id]) <;> omega) ?_
        refine go_goto 4 dB_geeseIn_34 rfl ?_
        have := ih (i + 1) (by omega)
        rw [zmN_no (by unfold zthr; rw [if_neg h22]; omega)] at this
        exact this
      · refine go_iload_n (i := 2) dB_geeseIn_25 rfl rfl ?_
        refine go_iconst dB_geeseIn_26 (inR_of _ rfl) ?_
        refine go_iload_n (i := 3) dB_geeseIn_27 rfl rfl ?_
        refine go_ishl dB_geeseIn_28 ?_
        refine go_ior dB_geeseIn_29 ?_
        rw [zmk_or (zthr s y) (by omega) (by unfold zthr; rw [if_pos (by omega)])]
        refine go_is2 dB_geeseIn_30 (Nat.le_of_ble_eq_true rfl) trivial ?_
        refine go_inc3 (((i + 1 : Nat) : Int)) dB_geeseIn_31 (Nat.le_of_ble_eq_true rfl) trivial (by (try simp (discharger := (unfold inR; omega)) only [w32_id]) <;> omega) ?_
        refine go_goto 4 dB_geeseIn_34 rfl ?_
        exact ih (i + 1) (by omega)
  refine CT.of' (L0 := [gR b, gI y, gU, gU]) plB (Nat.le_of_ble_eq_true rfl) rfl ?_
  refine go_iconst dB_geeseIn_0 (inR_of _ rfl) ?_
  refine go_is2 dB_geeseIn_1 (Nat.le_of_ble_eq_true rfl) trivial ?_
  refine go_iconst dB_geeseIn_2 (inR_of _ rfl) ?_
  refine go_is3 dB_geeseIn_3 (Nat.le_of_ble_eq_true rfl) trivial ?_
  exact loop (zmany s) 0 (by omega)
theorem qB_crowd (h : CTY F b s) (hw : zW s) {y : Int} : CT g yB_crowd 1 0 0 [gR b, gI y] (N, F) (RV (zinY s y (zmany s)) (N, F)) := by
  have ho := h.1
  obtain ⟨hz1, hz⟩ := zmany_le hw
  refine CT.of' (L0 := [gR b, gI y]) plB (Nat.le_of_ble_eq_true rfl) rfl ?_
  refine go_aload_n (i := 0) dB_crowd_0 rfl rfl trivial ?_
  refine go_iload_n (i := 1) dB_crowd_1 rfl rfl ?_
  refine go_VP dB_crowd_2 vkB106 (by assumption) (List.cons_ne_nil _ _) (qB_geeseIn h hw) rfl (by omega) rfl (fun _ => Nat.le_of_ble_eq_true rfl) ?_
  refine go_SP dB_crowd_5 vkB110 (ct_bitCount (zmN_1024 _ hz1)) rfl (by omega) rfl (fun _ => Nat.le_of_ble_eq_true rfl) ?_
  rw [zcrowd hz1]
  refine go_iret dB_crowd_8 rfl rfl ?_
  exact ⟨rfl, rfl⟩
theorem zwit_iff {s : Nat → Int} {i : Nat} {y : Int} (hi : i < zmany s) : zwit s i y = 1 ↔ (zk s i 3 = y ∧ s 1 ≤ zseeM s i y (zinY s y (zmany s))) := by
  unfold zwit zsees
  by_cases e : zk s i 3 = y
  · rw [e, zseeM_eq (zinY_one hi e)]
    split <;> simp_all
  · rw [if_neg (fun q => e q.1)]
    exact ⟨fun q => absurd q (by omega), fun q => absurd q.1 e⟩
theorem qB_witnesses (h : CTY F b s) (h103 : b + 16 ≤ 103) (hZ : ZG s) {y : Int} (hy : 0 ≤ y ∧ y ≤ 5) : CT g yB_witnesses 3 0 0 [gR b, gI y] (N, F) (CS N F (gI ((zmN (fun i : Nat => zwit s i y) (zmany s) : Nat) : Int))) := by
  obtain ⟨hz1, hz⟩ := zmany_le hZ.1
  have hcr := zinY_in s y (zmany s)
  have ho := h.1
  have loop : ∀ (n i : Nat), i + n = zmany s → ∀ F1 : Nat → GC, FS F F1 → Go g yB_witnesses 3 0 0 17 [gR b, gI y, gI ((zmN (zthr s y) (zmany s) : Nat) : Int), gI (zinY s y (zmany s)), gI ((zmN (fun i : Nat => zwit s i y) i : Nat) : Int), gI (i : Int)] [] (N, F1) (CS N F (gI ((zmN (fun i : Nat => zwit s i y) (zmany s) : Nat) : Int))) := by
    intro n
    induction n with
    | zero =>
      intro i hi F1 hF
      have hC := h.fs hF h103
      have ho := hC.1
      refine go_iload dB_witnesses_17 rfl ?_
      refine go_aload_n (i := 0) dB_witnesses_19 rfl rfl trivial ?_
      refine go_getf dB_witnesses_20 flB33 (by assumption) rfl ?_
      refine go_ic_ge 71 dB_witnesses_23 rfl (fun h23 => ?_) (fun h23 => absurd (by omega) h23)
      refine go_iload dB_witnesses_71 rfl ?_
      refine go_iret dB_witnesses_73 rfl rfl ?_
      exact ⟨by rw [show i = zmany s by omega], F1, rfl, hF⟩
    | succ n ih =>
      intro i hi F1 hF
      have hC := h.fs hF h103
      have ho := hC.1
      have hr := hC.2.1
      have hg := hC.gs (i := i) (by omega) (by omega)
      have wi := zwit_iff (s := s) (i := i) (y := y) (by omega)
      have skip : ∀ F1 : Nat → GC, FS F F1 → ¬ zwit s i y = 1 → Go g yB_witnesses 3 0 0 65 [gR b, gI y, gI ((zmN (zthr s y) (zmany s) : Nat) : Int), gI (zinY s y (zmany s)), gI ((zmN (fun i : Nat => zwit s i y) i : Nat) : Int), gI (i : Int)] [] (N, F1) (CS N F (gI ((zmN (fun i : Nat => zwit s i y) (zmany s) : Nat) : Int))) := by
        intro F1 hF hn
        refine go_inc5 (((i + 1 : Nat) : Int)) dB_witnesses_65 (Nat.le_of_ble_eq_true rfl) trivial (by (try simp (discharger := (unfold inR; omega)) only [w32_id]) <;> omega) ?_
        refine go_goto 17 dB_witnesses_68 rfl ?_
        have := ih (i + 1) (by omega) F1 hF
        rw [zmN_no hn] at this
        exact this
      refine go_iload dB_witnesses_17 rfl ?_
      refine go_aload_n (i := 0) dB_witnesses_19 rfl rfl trivial ?_
      refine go_getf dB_witnesses_20 flB33 (by assumption) rfl ?_
      refine go_ic_ge 71 dB_witnesses_23 rfl (fun h23 => absurd h23 (by omega)) (fun h23 => ?_)
      refine go_iload_n (i := 2) dB_witnesses_26 rfl rfl ?_
      refine go_iload dB_witnesses_27 rfl ?_
      refine go_ishr dB_witnesses_29 ?_
      refine go_iconst dB_witnesses_30 (inR_of _ rfl) ?_
      refine go_iand dB_witnesses_31 ?_
      rw [zmk_bit _ (by omega) (by omega)]
      refine go_iconst dB_witnesses_32 (inR_of _ rfl) ?_
      refine go_ic_ne 65 dB_witnesses_33 rfl (fun h33 => ?_) (fun h33 => ?_)
      · refine skip F1 hF (fun q => h33 ?_)
        rw [if_pos ⟨by omega, by unfold zthr; rw [if_pos (wi.mp q).1]⟩]
      · have e3 : zk s i 3 = y := by
          by_cases q : zk s i 3 = y
          · exact q
          · exact absurd h33 (by rw [if_neg (fun r => by have := r.2; unfold zthr at this; rw [if_neg q] at this; omega)]; omega)
        refine go_aload_n (i := 0) dB_witnesses_36 rfl rfl trivial ?_
        refine go_aload_n (i := 0) dB_witnesses_37 rfl rfl trivial ?_
        refine go_getf dB_witnesses_38 flB11 (by assumption) rfl ?_
        refine go_iload dB_witnesses_41 rfl ?_
        refine go_aald' 1 "GooseCounty$Goose" (i) (b + 6 + i) dB_witnesses_43 (by assumption) rfl (by omega) (by omega) (gRow_at (by omega)) ?_
        refine go_iload_n (i := 1) dB_witnesses_44 rfl rfl ?_
        refine go_iload_n (i := 3) dB_witnesses_45 rfl rfl ?_
        refine go_VX dB_witnesses_46 vkB137 (by assumption) (List.cons_ne_nil _ _) (qB_sees hC h103 hZ (i := i) (by omega) hy (by omega)) rfl (by omega) (by omega) (by omega) rfl (fun _ => Nat.le_of_ble_eq_true rfl) ?_
        rintro _ _ ⟨rfl, F2, rfl, hF2⟩ -
        dsimp only [rp]
        have hC2 := h.fs (hF.tr hF2) h103
        have ho := hC2.1
        refine go_aload_n (i := 0) dB_witnesses_49 rfl rfl trivial ?_
        refine go_getf dB_witnesses_50 flB40 (by assumption) rfl ?_
        refine go_ic_lt 65 dB_witnesses_53 rfl (fun h53 => ?_) (fun h53 => ?_)
        · exact skip F2 (hF.tr hF2) (fun q => by have := (wi.mp q).2; omega)
        · refine go_iload dB_witnesses_56 rfl ?_
          refine go_iconst dB_witnesses_58 (inR_of _ rfl) ?_
          refine go_iload dB_witnesses_59 rfl ?_
          refine go_ishl dB_witnesses_61 ?_
          refine go_ior dB_witnesses_62 ?_
          rw [zmk_or (fun i : Nat => zwit s i y) (by omega) (wi.mpr ⟨e3, by omega⟩)]
          refine go_is4 dB_witnesses_63 (Nat.le_of_ble_eq_true rfl) trivial ?_
          refine go_inc5 (((i + 1 : Nat) : Int)) dB_witnesses_65 (Nat.le_of_ble_eq_true rfl) trivial (by (try simp (discharger := (unfold inR; omega)) only [w32_id]) <;> omega) ?_
          refine go_goto 17 dB_witnesses_68 rfl ?_
          exact ih (i + 1) (by omega) F2 (hF.tr hF2)
  refine CT.of' (L0 := [gR b, gI y, gU, gU, gU, gU]) plB (Nat.le_of_ble_eq_true rfl) rfl ?_
  refine go_aload_n (i := 0) dB_witnesses_0 rfl rfl trivial ?_
  refine go_iload_n (i := 1) dB_witnesses_1 rfl rfl ?_
  refine go_VP dB_witnesses_2 vkB106 (by assumption) (List.cons_ne_nil _ _) (qB_geeseIn h hZ.1) rfl (by omega) rfl (fun _ => Nat.le_of_ble_eq_true rfl) ?_
  refine go_is2 dB_witnesses_5 (Nat.le_of_ble_eq_true rfl) trivial ?_
  refine go_iload_n (i := 2) dB_witnesses_6 rfl rfl ?_
  refine go_SP dB_witnesses_7 vkB110 (ct_bitCount (zmN_1024 _ hz1)) rfl (by omega) rfl (fun _ => Nat.le_of_ble_eq_true rfl) ?_
  rw [zcrowd hz1]
  refine go_is3 dB_witnesses_10 (Nat.le_of_ble_eq_true rfl) trivial ?_
  refine go_iconst dB_witnesses_11 (inR_of _ rfl) ?_
  refine go_is4 dB_witnesses_12 (Nat.le_of_ble_eq_true rfl) trivial ?_
  refine go_iconst dB_witnesses_14 (inR_of _ rfl) ?_
  refine go_is5 dB_witnesses_15 (Nat.le_of_ble_eq_true rfl) trivial ?_
  exact loop (zmany s) 0 (by omega) F FK.rf
theorem qB_tallyOf (h : CTY F b s) (hw : zW s) {x : Nat} (hx : x < 1024) : CT g yB_tallyOf 1 0 0 [gR b, gI (x : Int)] (N, F) (RV (ztly s x (zmany s)) (N, F)) := by
  have ho := h.1
  have hr := h.2.1
  obtain ⟨hz1, hz⟩ := zmany_le hw
  have loop : ∀ (n i : Nat), i + n = zmany s → Go g yB_tallyOf 1 0 0 4 [gR b, gI (x : Int), gI (ztly s x i), gI (i : Int)] [] (N, F) (RV (ztly s x (zmany s)) (N, F)) := by
    intro n
    induction n with
    | zero =>
      intro i hi
      refine go_iload_n (i := 3) dB_tallyOf_4 rfl rfl ?_
      refine go_aload_n (i := 0) dB_tallyOf_5 rfl rfl trivial ?_
      refine go_getf dB_tallyOf_6 flB33 (by assumption) rfl ?_
      refine go_ic_ge 39 dB_tallyOf_9 rfl (fun h9 => ?_) (fun h9 => absurd (by omega) h9)
      refine go_iload_n (i := 2) dB_tallyOf_39 rfl rfl ?_
      refine go_iret dB_tallyOf_40 rfl rfl ?_
      exact ⟨by rw [show i = zmany s by omega], rfl⟩
    | succ n ih =>
      intro i hi
      have hg := h.gs (i := i) (by omega) (by omega)
      have hgo := (hw.goose (i := (i : Int)) (by omega) (by omega)).1
      have t1 := ztly_in s x i
      have t2 := ztal_in (zk s i 0)
      have e : ztly s x (i + 1) = ztly s x i + (if x / 2 ^ i % 2 = 1 then ztal (zk s i 0) else 0) := rfl
      refine go_iload_n (i := 3) dB_tallyOf_4 rfl rfl ?_
      refine go_aload_n (i := 0) dB_tallyOf_5 rfl rfl trivial ?_
      refine go_getf dB_tallyOf_6 flB33 (by assumption) rfl ?_
      refine go_ic_ge 39 dB_tallyOf_9 rfl (fun h9 => absurd h9 (by omega)) (fun h9 => ?_)
      refine go_iload_n (i := 1) dB_tallyOf_12 rfl rfl ?_
      refine go_iload_n (i := 3) dB_tallyOf_13 rfl rfl ?_
      refine go_ishr dB_tallyOf_14 ?_
      refine go_iconst dB_tallyOf_15 (inR_of _ rfl) ?_
      refine go_iand dB_tallyOf_16 ?_
      rw [iBit x i (by omega) (by omega)]
      refine go_iconst dB_tallyOf_17 (inR_of _ rfl) ?_
      refine go_ic_ne 33 dB_tallyOf_18 rfl (fun h18 => ?_) (fun h18 => ?_)
      · rw [if_neg (by omega)] at e
        refine go_inc3 (((i + 1 : Nat) : Int)) dB_tallyOf_33 (Nat.le_of_ble_eq_true rfl) trivial (by (try simp (discharger := (unfold inR; omega)) only [w32_id]) <;> omega) ?_
        refine go_goto 4 dB_tallyOf_36 rfl ?_
        have := ih (i + 1) (by omega)
        rw [e, Int.add_zero] at this
        exact this
      · rw [if_pos (by omega)] at e
        refine go_iload_n (i := 2) dB_tallyOf_21 rfl rfl ?_
        refine go_aload_n (i := 0) dB_tallyOf_22 rfl rfl trivial ?_
        refine go_getf dB_tallyOf_23 flB11 (by assumption) rfl ?_
        refine go_iload_n (i := 3) dB_tallyOf_26 rfl rfl ?_
        refine go_aald' 1 "GooseCounty$Goose" (i) (b + 6 + i) dB_tallyOf_27 (by assumption) rfl (by omega) (by omega) (gRow_at (by omega)) ?_
        refine go_VP dB_tallyOf_28 vkB141 (by assumption) (List.cons_ne_nil _ _) (cG_tallies hg hgo) rfl (by omega) rfl (fun _ => Nat.le_of_ble_eq_true rfl) ?_
        refine go_iadd dB_tallyOf_31 ?_
        refine go_top (ztly s x (i + 1)) (by (try simp (discharger := (unfold inR; omega)) only [w32_id]) <;> omega) ?_
        refine go_is2 dB_tallyOf_32 (Nat.le_of_ble_eq_true rfl) trivial ?_
        refine go_inc3 (((i + 1 : Nat) : Int)) dB_tallyOf_33 (Nat.le_of_ble_eq_true rfl) trivial (by (try simp (discharger := (unfold inR; omega)) only [w32_id]) <;> omega) ?_
        refine go_goto 4 dB_tallyOf_36 rfl ?_
        exact ih (i + 1) (by omega)
  refine CT.of' (L0 := [gR b, gI (x : Int), gU, gU]) plB (Nat.le_of_ble_eq_true rfl) rfl ?_
  refine go_iconst dB_tallyOf_0 (inR_of _ rfl) ?_
  refine go_is2 dB_tallyOf_1 (Nat.le_of_ble_eq_true rfl) trivial ?_
  refine go_iconst dB_tallyOf_2 (inR_of _ rfl) ?_
  refine go_is3 dB_tallyOf_3 (Nat.le_of_ble_eq_true rfl) trivial ?_
  exact loop (zmany s) 0 (by omega)
theorem CTY.nd (h : CTY F b s) {y : Int} (hy : 0 ≤ y ∧ y ≤ 5) : ∃ f, F (b + 2) = cI 6 f ∧ f y.toNat = s (8 + y).toNat := by
  obtain ⟨f2, h2, e2⟩ := h.2.2.1
  exact ⟨f2, h2, by rw [e2 _ (by omega)]; congr 1; omega⟩
theorem qB_wouldHold (h : CTY F b s) (h103 : b + 16 ≤ 103) (hZ : ZG s) {y : Int} (hy : 0 ≤ y ∧ y ≤ 5) : CT g yB_wouldHold 4 0 0 [gR b, gI y] (N, F) (CS N F (gI (zhold s y))) := by
  obtain ⟨hz1, hz⟩ := zmany_le hZ.1
  have ho := h.1
  refine CT.of' (L0 := [gR b, gI y]) plB (Nat.le_of_ble_eq_true rfl) rfl ?_
  refine go_aload_n (i := 0) dB_wouldHold_0 rfl rfl trivial ?_
  refine go_aload_n (i := 0) dB_wouldHold_1 rfl rfl trivial ?_
  refine go_iload_n (i := 1) dB_wouldHold_2 rfl rfl ?_
  refine go_VX dB_wouldHold_3 vkB144 (by assumption) (List.cons_ne_nil _ _) (qB_witnesses h h103 hZ hy) rfl (by omega) (by omega) (by omega) rfl (fun _ => Nat.le_of_ble_eq_true rfl) ?_
  rintro _ _ ⟨rfl, F2, rfl, hF2⟩ -
  dsimp only [rp]
  have hC := h.fs hF2 h103
  have ho := hC.1
  obtain ⟨f2, h2, e2⟩ := hC.nd hy
  refine go_VP dB_wouldHold_6 vkB147 (by assumption) (List.cons_ne_nil _ _) (qB_tallyOf hC hZ.1 (zmN_1024 _ hz1)) rfl (by omega) rfl (fun _ => Nat.le_of_ble_eq_true rfl) ?_
  rw [ztly_count]
  refine go_aload_n (i := 0) dB_wouldHold_9 rfl rfl trivial ?_
  refine go_getf dB_wouldHold_10 flB17 (by assumption) rfl ?_
  refine go_iload_n (i := 1) dB_wouldHold_13 rfl rfl ?_
  refine go_iald' y.toNat _ dB_wouldHold_14 h2 (by omega) (by omega) e2 ?_
  refine go_ic_lt 22 dB_wouldHold_15 rfl (fun h15 => ?_) (fun h15 => ?_)
  · refine go_iconst dB_wouldHold_22 (inR_of _ rfl) ?_
    refine go_iret dB_wouldHold_23 rfl (zb (by simp)) ?_
    exact ⟨by unfold zhold; rw [if_neg (by omega)], F2, rfl, hF2⟩
  · refine go_iconst dB_wouldHold_18 (inR_of _ rfl) ?_
    refine go_goto 23 dB_wouldHold_19 rfl ?_
    refine go_iret dB_wouldHold_23 rfl (zb (by simp)) ?_
    exact ⟨by unfold zhold; rw [if_pos (by omega)], F2, rfl, hF2⟩
theorem qB_yardsThatHold (h : CTY F b s) (h103 : b + 16 ≤ 103) (hZ : ZG s) : CT g yB_yardsThatHold 5 0 0 [gR b] (N, F) (CS N F (gI ((zmN (fun y : Nat => zhold s y) 6 : Nat) : Int))) := by
  obtain ⟨hz1, hz⟩ := zmany_le hZ.1
  have loop : ∀ (n i : Nat), i + n = 6 → ∀ F1 : Nat → GC, FS F F1 → Go g yB_yardsThatHold 5 0 0 4 [gR b, gI ((zmN (fun y : Nat => zhold s y) i : Nat) : Int), gI (i : Int)] [] (N, F1) (CS N F (gI ((zmN (fun y : Nat => zhold s y) 6 : Nat) : Int))) := by
    intro n
    induction n with
    | zero =>
      intro i hi F1 hF
      refine go_iload_n (i := 2) dB_yardsThatHold_4 rfl rfl ?_
      refine go_bipush dB_yardsThatHold_5 (inR_of _ rfl) rfl ?_
      refine go_ic_ge 30 dB_yardsThatHold_7 rfl (fun h7 => ?_) (fun h7 => absurd (by omega) h7)
      refine go_iload_n (i := 1) dB_yardsThatHold_30 rfl rfl ?_
      refine go_iret dB_yardsThatHold_31 rfl rfl ?_
      exact ⟨by rw [show i = 6 by omega], F1, rfl, hF⟩
    | succ n ih =>
      intro i hi F1 hF
      have hC := h.fs hF h103
      have ho := hC.1
      refine go_iload_n (i := 2) dB_yardsThatHold_4 rfl rfl ?_
      refine go_bipush dB_yardsThatHold_5 (inR_of _ rfl) rfl ?_
      refine go_ic_ge 30 dB_yardsThatHold_7 rfl (fun h7 => absurd h7 (by omega)) (fun h7 => ?_)
      refine go_aload_n (i := 0) dB_yardsThatHold_10 rfl rfl trivial ?_
      refine go_iload_n (i := 2) dB_yardsThatHold_11 rfl rfl ?_
      refine go_VX dB_yardsThatHold_12 vkB150 (by assumption) (List.cons_ne_nil _ _) (qB_wouldHold hC h103 hZ (y := (i : Int)) (by omega)) rfl (by omega) (by omega) (by omega) rfl (fun _ => Nat.le_of_ble_eq_true rfl) ?_
      rintro _ _ ⟨rfl, F2, rfl, hF2⟩ -
      dsimp only [rp]
      have z01 := zhold01 s (i : Int)
      refine go_if_eq 24 dB_yardsThatHold_15 rfl (fun h15 => ?_) (fun h15 => ?_)
      · refine go_inc2 (((i + 1 : Nat) : Int)) dB_yardsThatHold_24 (Nat.le_of_ble_eq_true rfl) trivial (by (try simp (discharger := (unfold inR; omega)) only [w32_id]) <;> omega) ?_
        refine go_goto 4 dB_yardsThatHold_27 rfl ?_
        have := ih (i + 1) (by omega) F2 (hF.tr hF2)
        rw [zmN_no (by omega)] at this
        exact this
      · refine go_iload_n (i := 1) dB_yardsThatHold_18 rfl rfl ?_
        refine go_iconst dB_yardsThatHold_19 (inR_of _ rfl) ?_
        refine go_iload_n (i := 2) dB_yardsThatHold_20 rfl rfl ?_
        refine go_ishl dB_yardsThatHold_21 ?_
        refine go_ior dB_yardsThatHold_22 ?_
        rw [zmk_or (fun y : Nat => zhold s y) (by omega) (by omega)]
        refine go_is1 dB_yardsThatHold_23 (Nat.le_of_ble_eq_true rfl) trivial ?_
        refine go_inc2 (((i + 1 : Nat) : Int)) dB_yardsThatHold_24 (Nat.le_of_ble_eq_true rfl) trivial (by (try simp (discharger := (unfold inR; omega)) only [w32_id]) <;> omega) ?_
        refine go_goto 4 dB_yardsThatHold_27 rfl ?_
        exact ih (i + 1) (by omega) F2 (hF.tr hF2)
  refine CT.of' (L0 := [gR b, gU, gU]) plB (Nat.le_of_ble_eq_true rfl) rfl ?_
  refine go_iconst dB_yardsThatHold_0 (inR_of _ rfl) ?_
  refine go_is1 dB_yardsThatHold_1 (Nat.le_of_ble_eq_true rfl) trivial ?_
  refine go_iconst dB_yardsThatHold_2 (inR_of _ rfl) ?_
  refine go_is2 dB_yardsThatHold_3 (Nat.le_of_ble_eq_true rfl) trivial ?_
  exact loop 6 0 rfl F FK.rf
theorem qB_ageTogether (h : CTY F b s) (hw : zW s) : CT g yB_ageTogether 0 0 0 [gR b] (N, F) (RV (zsum (fun i => zk s i 2) (zmany s)) (N, F)) := by
  have ho := h.1
  have hr := h.2.1
  obtain ⟨hz1, hz⟩ := zmany_le hw
  have loop : ∀ (n i : Nat), i + n = zmany s → Go g yB_ageTogether 0 0 0 4 [gR b, gI (zsum (fun i => zk s i 2) i), gI (i : Int)] [] (N, F) (RV (zsum (fun i => zk s i 2) (zmany s)) (N, F)) := by
    intro n
    induction n with
    | zero =>
      intro i hi
      refine go_iload_n (i := 2) dB_ageTogether_4 rfl rfl ?_
      refine go_aload_n (i := 0) dB_ageTogether_5 rfl rfl trivial ?_
      refine go_getf dB_ageTogether_6 flB33 (by assumption) rfl ?_
      refine go_ic_ge 30 dB_ageTogether_9 rfl (fun h9 => ?_) (fun h9 => absurd (by omega) h9)
      refine go_iload_n (i := 1) dB_ageTogether_30 rfl rfl ?_
      refine go_iret dB_ageTogether_31 rfl rfl ?_
      exact ⟨by rw [show i = zmany s by omega], rfl⟩
    | succ n ih =>
      intro i hi
      have hg := h.gs (i := i) (by omega) (by omega)
      have hgo := (hw.goose (i := (i : Int)) (by omega) (by omega)).2.2.1
      have t1 := zsum_le (f := fun i => zk s i 2) (a := 0) (b := 99) (n := i) (fun j hj => (hw.goose (i := (j : Int)) (by omega) (by omega)).2.2.1)
      have e : zsum (fun i => zk s i 2) (i + 1) = zsum (fun i => zk s i 2) i + zk s i 2 := rfl
      refine go_iload_n (i := 2) dB_ageTogether_4 rfl rfl ?_
      refine go_aload_n (i := 0) dB_ageTogether_5 rfl rfl trivial ?_
      refine go_getf dB_ageTogether_6 flB33 (by assumption) rfl ?_
      refine go_ic_ge 30 dB_ageTogether_9 rfl (fun h9 => absurd h9 (by omega)) (fun h9 => ?_)
      refine go_iload_n (i := 1) dB_ageTogether_12 rfl rfl ?_
      refine go_aload_n (i := 0) dB_ageTogether_13 rfl rfl trivial ?_
      refine go_getf dB_ageTogether_14 flB11 (by assumption) rfl ?_
      refine go_iload_n (i := 2) dB_ageTogether_17 rfl rfl ?_
      refine go_aald' 1 "GooseCounty$Goose" (i) (b + 6 + i) dB_ageTogether_18 (by assumption) rfl (by omega) (by omega) (gRow_at (by omega)) ?_
      refine go_getf dB_ageTogether_19 flB85 (by assumption) rfl ?_
      refine go_iadd dB_ageTogether_22 ?_
      refine go_top (zsum (fun i => zk s i 2) (i + 1)) (by (try simp (discharger := (unfold inR; omega)) only [w32_id]) <;> omega) ?_
      refine go_is1 dB_ageTogether_23 (Nat.le_of_ble_eq_true rfl) trivial ?_
      refine go_inc2 (((i + 1 : Nat) : Int)) dB_ageTogether_24 (Nat.le_of_ble_eq_true rfl) trivial (by (try simp (discharger := (unfold inR; omega)) only [w32_id]) <;> omega) ?_
      refine go_goto 4 dB_ageTogether_27 rfl ?_
      exact ih (i + 1) (by omega)
  refine CT.of' (L0 := [gR b, gU, gU]) plB (Nat.le_of_ble_eq_true rfl) rfl ?_
  refine go_iconst dB_ageTogether_0 (inR_of _ rfl) ?_
  refine go_is1 dB_ageTogether_1 (Nat.le_of_ble_eq_true rfl) trivial ?_
  refine go_iconst dB_ageTogether_2 (inR_of _ rfl) ?_
  refine go_is2 dB_ageTogether_3 (Nat.le_of_ble_eq_true rfl) trivial ?_
  exact loop (zmany s) 0 (by omega)
theorem qB_sawTogether (h : CTY F b s) (hw : zW s) : CT g yB_sawTogether 0 0 0 [gR b] (N, F) (RV (zsum (fun i => zk s i 4) (zmany s)) (N, F)) := by
  have ho := h.1
  have hr := h.2.1
  obtain ⟨hz1, hz⟩ := zmany_le hw
  have loop : ∀ (n i : Nat), i + n = zmany s → Go g yB_sawTogether 0 0 0 4 [gR b, gI (zsum (fun i => zk s i 4) i), gI (i : Int)] [] (N, F) (RV (zsum (fun i => zk s i 4) (zmany s)) (N, F)) := by
    intro n
    induction n with
    | zero =>
      intro i hi
      refine go_iload_n (i := 2) dB_sawTogether_4 rfl rfl ?_
      refine go_aload_n (i := 0) dB_sawTogether_5 rfl rfl trivial ?_
      refine go_getf dB_sawTogether_6 flB33 (by assumption) rfl ?_
      refine go_ic_ge 30 dB_sawTogether_9 rfl (fun h9 => ?_) (fun h9 => absurd (by omega) h9)
      refine go_iload_n (i := 1) dB_sawTogether_30 rfl rfl ?_
      refine go_iret dB_sawTogether_31 rfl rfl ?_
      exact ⟨by rw [show i = zmany s by omega], rfl⟩
    | succ n ih =>
      intro i hi
      have hg := h.gs (i := i) (by omega) (by omega)
      have hgo := (hw.goose (i := (i : Int)) (by omega) (by omega)).2.2.2.2
      have t1 := zsum_le (f := fun i => zk s i 4) (a := 0) (b := 9999) (n := i) (fun j hj => (hw.goose (i := (j : Int)) (by omega) (by omega)).2.2.2.2)
      have e : zsum (fun i => zk s i 4) (i + 1) = zsum (fun i => zk s i 4) i + zk s i 4 := rfl
      refine go_iload_n (i := 2) dB_sawTogether_4 rfl rfl ?_
      refine go_aload_n (i := 0) dB_sawTogether_5 rfl rfl trivial ?_
      refine go_getf dB_sawTogether_6 flB33 (by assumption) rfl ?_
      refine go_ic_ge 30 dB_sawTogether_9 rfl (fun h9 => absurd h9 (by omega)) (fun h9 => ?_)
      refine go_iload_n (i := 1) dB_sawTogether_12 rfl rfl ?_
      refine go_aload_n (i := 0) dB_sawTogether_13 rfl rfl trivial ?_
      refine go_getf dB_sawTogether_14 flB11 (by assumption) rfl ?_
      refine go_iload_n (i := 2) dB_sawTogether_17 rfl rfl ?_
      refine go_aald' 1 "GooseCounty$Goose" (i) (b + 6 + i) dB_sawTogether_18 (by assumption) rfl (by omega) (by omega) (gRow_at (by omega)) ?_
      refine go_getf dB_sawTogether_19 flB91 (by assumption) rfl ?_
      refine go_iadd dB_sawTogether_22 ?_
      refine go_top (zsum (fun i => zk s i 4) (i + 1)) (by (try simp (discharger := (unfold inR; omega)) only [w32_id]) <;> omega) ?_
      refine go_is1 dB_sawTogether_23 (Nat.le_of_ble_eq_true rfl) trivial ?_
      refine go_inc2 (((i + 1 : Nat) : Int)) dB_sawTogether_24 (Nat.le_of_ble_eq_true rfl) trivial (by (try simp (discharger := (unfold inR; omega)) only [w32_id]) <;> omega) ?_
      refine go_goto 4 dB_sawTogether_27 rfl ?_
      exact ih (i + 1) (by omega)
  refine CT.of' (L0 := [gR b, gU, gU]) plB (Nat.le_of_ble_eq_true rfl) rfl ?_
  refine go_iconst dB_sawTogether_0 (inR_of _ rfl) ?_
  refine go_is1 dB_sawTogether_1 (Nat.le_of_ble_eq_true rfl) trivial ?_
  refine go_iconst dB_sawTogether_2 (inR_of _ rfl) ?_
  refine go_is2 dB_sawTogether_3 (Nat.le_of_ble_eq_true rfl) trivial ?_
  exact loop (zmany s) 0 (by omega)
theorem qB_eldest (h : CTY F b s) (hw : zW s) : CT g yB_eldest 0 0 0 [gR b] (N, F) (RV (if s 0 = 0 then NONE else ((zbest (fun i => zk s i 2) (zmany s) : Nat) : Int)) (N, F)) := by
  have ho := h.1
  have hr := h.2.1
  obtain ⟨hz1, hz⟩ := zmany_le hw
  have loop : ∀ (n i : Nat), i + n = zmany s → ∀ (fd mo : Int), (i = 0 → fd = NONE ∧ mo = -1) → (0 < i → fd = ((zbest (fun i => zk s i 2) i : Nat) : Int) ∧ mo = zk s (zbest (fun i => zk s i 2) i : Nat) 2) → Go g yB_eldest 0 0 0 7 [gR b, gI fd, gI mo, gI (i : Int)] [] (N, F) (RV (if s 0 = 0 then NONE else ((zbest (fun i => zk s i 2) (zmany s) : Nat) : Int)) (N, F)) := by
    intro n
    induction n with
    | zero =>
      intro i hi fd mo k0 k1
      refine go_iload_n (i := 3) dB_eldest_7 rfl rfl ?_
      refine go_aload_n (i := 0) dB_eldest_8 rfl rfl trivial ?_
      refine go_getf dB_eldest_9 flB33 (by assumption) rfl ?_
      refine go_ic_ge 46 dB_eldest_12 rfl (fun h12 => ?_) (fun h12 => absurd (by omega) h12)
      refine go_iload_n (i := 1) dB_eldest_46 rfl rfl ?_
      refine go_iret dB_eldest_47 rfl rfl ?_
      have ei : i = zmany s := by omega
      subst ei
      refine ⟨?_, rfl⟩
      by_cases c : s 0 = 0
      · rw [if_pos c, (k0 (by omega)).1]
      · rw [if_neg c, (k1 (by omega)).1]
    | succ n ih =>
      intro i hi fd mo k0 k1
      have hg := h.gs (i := i) (by omega) (by omega)
      have hgo := (hw.goose (i := (i : Int)) (by omega) (by omega)).2.2.1
      have e : zbest (fun i => zk s i 2) (i + 1) = if zk s (zbest (fun i => zk s i 2) i : Nat) 2 < zk s i 2 then i else zbest (fun i => zk s i 2) i := rfl
      refine go_iload_n (i := 3) dB_eldest_7 rfl rfl ?_
      refine go_aload_n (i := 0) dB_eldest_8 rfl rfl trivial ?_
      refine go_getf dB_eldest_9 flB33 (by assumption) rfl ?_
      refine go_ic_ge 46 dB_eldest_12 rfl (fun h12 => absurd h12 (by omega)) (fun h12 => ?_)
      refine go_aload_n (i := 0) dB_eldest_15 rfl rfl trivial ?_
      refine go_getf dB_eldest_16 flB11 (by assumption) rfl ?_
      refine go_iload_n (i := 3) dB_eldest_19 rfl rfl ?_
      refine go_aald' 1 "GooseCounty$Goose" (i) (b + 6 + i) dB_eldest_20 (by assumption) rfl (by omega) (by omega) (gRow_at (by omega)) ?_
      refine go_getf dB_eldest_21 flB85 (by assumption) rfl ?_
      refine go_iload_n (i := 2) dB_eldest_24 rfl rfl ?_
      refine go_ic_le 40 dB_eldest_25 rfl (fun h25 => ?_) (fun h25 => ?_)
      · refine go_inc3 (((i + 1 : Nat) : Int)) dB_eldest_40 (Nat.le_of_ble_eq_true rfl) trivial (by (try simp (discharger := (unfold inR; omega)) only [w32_id]) <;> omega) ?_
        refine go_goto 7 dB_eldest_43 rfl ?_
        refine ih (i + 1) (by omega) fd mo (by omega) (fun _ => ?_)
        by_cases c : i = 0
        · have := (k0 c).2; omega
        · obtain ⟨q1, q2⟩ := k1 (by omega)
          rw [e, if_neg (by omega)]
          exact ⟨q1, q2⟩
      · refine go_aload_n (i := 0) dB_eldest_28 rfl rfl trivial ?_
        refine go_getf dB_eldest_29 flB11 (by assumption) rfl ?_
        refine go_iload_n (i := 3) dB_eldest_32 rfl rfl ?_
        refine go_aald' 1 "GooseCounty$Goose" (i) (b + 6 + i) dB_eldest_33 (by assumption) rfl (by omega) (by omega) (gRow_at (by omega)) ?_
        refine go_getf dB_eldest_34 flB85 (by assumption) rfl ?_
        refine go_is2 dB_eldest_37 (Nat.le_of_ble_eq_true rfl) trivial ?_
        refine go_iload_n (i := 3) dB_eldest_38 rfl rfl ?_
        refine go_is1 dB_eldest_39 (Nat.le_of_ble_eq_true rfl) trivial ?_
        refine go_inc3 (((i + 1 : Nat) : Int)) dB_eldest_40 (Nat.le_of_ble_eq_true rfl) trivial (by (try simp (discharger := (unfold inR; omega)) only [w32_id]) <;> omega) ?_
        refine go_goto 7 dB_eldest_43 rfl ?_
        refine ih (i + 1) (by omega) _ _ (by omega) (fun _ => ?_)
        by_cases c : i = 0
        · subst c
          rw [show zbest (fun i => zk s i 2) (0 + 1) = 0 from by rw [e]; split <;> rfl]
          exact ⟨rfl, rfl⟩
        · obtain ⟨q1, q2⟩ := k1 (by omega)
          rw [e, if_pos (by omega)]
          exact ⟨rfl, rfl⟩
  refine CT.of' (L0 := [gR b, gU, gU, gU]) plB (Nat.le_of_ble_eq_true rfl) rfl ?_
  refine go_ldc dB_eldest_0 kcB68 (inR_of _ rfl) ?_
  refine go_is1 dB_eldest_2 (Nat.le_of_ble_eq_true rfl) trivial ?_
  refine go_iconst dB_eldest_3 (inR_of _ rfl) ?_
  refine go_is2 dB_eldest_4 (Nat.le_of_ble_eq_true rfl) trivial ?_
  refine go_iconst dB_eldest_5 (inR_of _ rfl) ?_
  refine go_is3 dB_eldest_6 (Nat.le_of_ble_eq_true rfl) trivial ?_
  exact loop (zmany s) 0 (by omega) _ _ (fun _ => ⟨rfl, rfl⟩) (fun q => absurd q (by omega))
end CREAD
