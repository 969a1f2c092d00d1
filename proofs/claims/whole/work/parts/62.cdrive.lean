/-! ===== the component: drive, by sizes ===== -/
theorem bit_iff (x i : Nat) : x / 2 ^ i % 2 = 1 ↔ x.testBit i = true := by
  rw [Nat.testBit_eq_decide_div_mod_eq]; simp
theorem bit_or (x y i : Nat) : (x ||| y) / 2 ^ i % 2 = 1 ↔ (x / 2 ^ i % 2 = 1 ∨ y / 2 ^ i % 2 = 1) := by
  rw [bit_iff, bit_iff, bit_iff, Nat.testBit_or, Bool.or_eq_true]
theorem bit_and (x y i : Nat) : (x &&& y) / 2 ^ i % 2 = 1 ↔ (x / 2 ^ i % 2 = 1 ∧ y / 2 ^ i % 2 = 1) := by
  rw [bit_iff, bit_iff, bit_iff, Nat.testBit_and, Bool.and_eq_true]
theorem iOr_nat (x y n : Nat) (hx : x < 2 ^ n) (hy : y < 2 ^ n) (hn : n < 16) : iOr (x : Int) (y : Int) = ((x ||| y : Nat) : Int) := by
  unfold iOr
  have h2 := pow16 hn
  have := Nat.or_lt_two_pow hx hy
  rw [gi_nat, gi_nat, nI_or, nI_toInt (by omega)]
theorem zones_or {x y : Nat} (h : x &&& y = 0) : ∀ k : Nat, zones (x ||| y) k = zones x k + zones y k
  | 0 => rfl
  | k + 1 => by
    show zones (x ||| y) k + (x ||| y) / 2 ^ k % 2 = zones x k + x / 2 ^ k % 2 + (zones y k + y / 2 ^ k % 2)
    have a := bit_or x y k
    have b := bit_and x y k
    rw [h] at b
    simp only [Nat.zero_div, Nat.zero_mod] at b
    rw [zones_or h k]
    omega
theorem zones_hi {x n : Nat} (h : x < 2 ^ n) : ∀ k : Nat, zones x (n + k) = zones x n
  | 0 => rfl
  | k + 1 => by
    show zones x (n + k) + x / 2 ^ (n + k) % 2 = _
    rw [zones_hi h k, Nat.div_eq_of_lt (Nat.lt_of_lt_of_le h (Nat.pow_le_pow_right (by omega) (by omega)))]
    rfl
theorem zones_top {x n : Nat} (h : x < 2 ^ n) (hn : n ≤ 10) : zones x 10 ≤ n := by
  have := zones_hi h (10 - n)
  rw [show n + (10 - n) = 10 by omega] at this
  rw [this]
  exact zones_le x n
/-- the set that the model asks for -/
def zC (s : Nat → Int) (y : Int) (x : Nat) : Prop := (x &&& zmN (zthr s y) (zmany s)) = 0 ∧ zhw s y x = 1
theorem zdrv_spec (s : Nat → Int) (y : Int) : ∀ X : Nat, (zdrv s y X = -1 ∧ ∀ x : Nat, x < X → ¬ zC s y x) ∨ (∃ b : Nat, zdrv s y X = b ∧ b < X ∧ zC s y b ∧ ∀ x : Nat, x < X → zC s y x → zones b 10 ≤ zones x 10 ∧ (zones x 10 = zones b 10 → b ≤ x)) := by
  intro X
  induction X with
  | zero => exact Or.inl ⟨rfl, fun x hx => absurd hx (by omega)⟩
  | succ X ih =>
    have e : zdrv s y (X + 1) = if (zdrv s y X < 0 ∨ zones X 10 < zones (zdrv s y X).toNat 10) ∧ (X &&& zmN (zthr s y) (zmany s)) = 0 ∧ zhw s y X = 1 then (X : Int) else zdrv s y X := rfl
    rcases ih with ⟨h1, h2⟩ | ⟨b, h1, h2, h3, h4⟩
    · by_cases c : zC s y X
      · rw [if_pos ⟨Or.inl (by omega), c⟩] at e
        refine Or.inr ⟨X, e, by omega, c, fun x hx hc => ?_⟩
        by_cases q : x = X
        · subst q; exact ⟨Nat.le_refl _, fun _ => Nat.le_refl _⟩
        · exact absurd hc (h2 x (by omega))
      · rw [if_neg (fun q => c q.2)] at e
        refine Or.inl ⟨e.trans h1, fun x hx => ?_⟩
        by_cases q : x = X
        · subst q; exact c
        · exact h2 x (by omega)
    · have hb : (zdrv s y X).toNat = b := by omega
      by_cases c : zC s y X ∧ zones X 10 < zones b 10
      · rw [if_pos ⟨Or.inr (by rw [hb]; exact c.2), c.1⟩] at e
        refine Or.inr ⟨X, e, by omega, c.1, fun x hx hc => ?_⟩
        by_cases q : x = X
        · subst q; exact ⟨Nat.le_refl _, fun _ => Nat.le_refl _⟩
        · have := h4 x (by omega) hc
          exact ⟨by omega, fun r => by omega⟩
      · rw [if_neg (fun q => c ⟨q.2, q.1.elim (fun r => absurd r (by omega)) (fun r => by rw [hb] at r; exact r)⟩)] at e
        refine Or.inr ⟨b, e.trans h1, by omega, h3, fun x hx hc => ?_⟩
        by_cases q : x = X
        · subst q; exact ⟨Nat.not_lt.mp (fun r => c ⟨hc, r⟩), fun _ => by omega⟩
        · exact h4 x (by omega) hc
theorem zsee_cong {s s' : Nat → Int} {i : Nat} {y c : Int} (hy : 0 ≤ y ∧ y ≤ 5) (h0 : zk s' i 0 = zk s i 0) (h1 : zk s' i 1 = zk s i 1) (h2 : zk s' i 2 = zk s i 2) (lo : ∀ j : Nat, j < 14 → s' j = s j) (hi : ∀ j : Nat, 64 ≤ j → s' j = s j) : zsee s' i y c = zsee s i y c := by
  have lw : ∀ nm : Nat → Int, zlaw s' 0 nm = zlaw s 0 nm := fun nm => by
    unfold zlaw
    rw [hi (65 + 0) (by omega), hi (82 + (s (65 + 0)).toNat) (by omega)]
    congr 1
    funext k
    exact hi _ (by omega)
  have l : zlook s' i y c = zlook s i y c := by
    unfold zlook
    rw [hi 65 (by omega), h1, h2, lw, lo (8 + y).toNat (by omega)]
  unfold zsee
  rw [h0, l, lo 6 (by omega)]
/-- the geese that would see enough in such a crowd -/
def zsg (s : Nat → Int) (y c : Int) : Nat → Int := fun i => if s 1 ≤ zseeM s i y c then 1 else 0
theorem zhw_iff {s : Nat → Int} (h : zW s) {y : Int} (hy : 0 ≤ y ∧ y ≤ 5) {x : Nat} (hd : (x &&& zmN (zthr s y) (zmany s)) = 0) (hx : x < 2 ^ zmany s) : zhw s y x = 1 ↔ s (8 + y).toNat ≤ ztly s ((x ||| zmN (zthr s y) (zmany s)) &&& zmN (zsg s y ((zones (zmN (zthr s y) (zmany s)) 10 + zones x 10 : Nat) : Int)) (zmany s)) (zmany s) := by
  obtain ⟨hz1, hz⟩ := zmany_le h
  obtain ⟨mw, m0, m64, -⟩ := zmov_W h hy x (zmany s) (Nat.le_refl _)
  generalize hs' : zmov s y x (zmany s) = s' at mw m0 m64
  have mm : zmany s' = zmany s := by unfold zmany; rw [m0]
  have lo : ∀ j : Nat, j < 14 → s' j = s j := fun j hj => by rw [← hs']; exact zset_low (by omega) (by omega) (by omega)
  have kw : ∀ i w : Nat, w < 5 → w ≠ 3 → zk s' i w = zk s i w := fun i w h1 h2 => by
    rw [zk_nat, zk_nat, ← hs']
    unfold zmov
    rw [zset_goose h1 (by omega), if_neg (by omega)]
  have k3 : ∀ i : Nat, i < zmany s → zk s' i 3 = if x / 2 ^ i % 2 = 1 then y else zk s i 3 := fun i hi => by
    have : zk s' i ((3 : Nat) : Int) = if x / 2 ^ i % 2 = 1 then y else zk s i 3 := by
      rw [zk_nat, ← hs']
      unfold zmov
      rw [zset_goose (by omega) (by omega), if_pos ⟨rfl, hi⟩]
    exact this
  generalize hT : zmN (zthr s y) (zmany s) = T at hd ⊢
  have tb : ∀ i : Nat, i < zmany s → (T / 2 ^ i % 2 = 1 ↔ zk s i 3 = y) := fun i hi => by
    rw [← hT, zmN_bit]
    unfold zthr
    by_cases c : zk s i 3 = y
    · simp [hi, c]
    · simp [c]
  have inb : ∀ i : Nat, i < zmany s → (zk s' i 3 = y ↔ (x ||| T) / 2 ^ i % 2 = 1) := fun i hi => by
    rw [k3 i hi, bit_or, tb i hi]
    by_cases c : x / 2 ^ i % 2 = 1
    · simp [c]
    · simp [c]
  have Tlt : T < 2 ^ zmany s := by rw [← hT]; exact zmN_lt _ _
  have cr : zinY s' y (zmany s) = ((zones T 10 + zones x 10 : Nat) : Int) := by
    have olt := Nat.or_lt_two_pow hx Tlt
    have e1 := zones_or hd 10
    have e2 := zones_hi olt (10 - zmany s)
    rw [show zmany s + (10 - zmany s) = 10 by omega] at e2
    have : ∀ k : Nat, k ≤ zmany s → zinY s' y k = ((zones (x ||| T) k : Nat) : Int) := by
      intro k
      induction k with
      | zero => intro _; rfl
      | succ k ih =>
        intro hk
        show zinY s' y k + (if zk s' k 3 = y then 1 else 0) = ((zones (x ||| T) k + (x ||| T) / 2 ^ k % 2 : Nat) : Int)
        rw [ih (by omega)]
        have := inb k (by omega)
        by_cases c : zk s' k 3 = y
        · rw [if_pos c, this.mp c]; rfl
        · rw [if_neg c]
          have : ¬ (x ||| T) / 2 ^ k % 2 = 1 := fun q => c (this.mpr q)
          omega
    rw [this _ (Nat.le_refl _), ← e2]
    omega
  generalize hc : ((zones T 10 + zones x 10 : Nat) : Int) = c at cr ⊢
  have wt : ∀ i : Nat, i < zmany s → (zwit s' i y = 1 ↔ ((x ||| T) &&& zmN (zsg s y c) (zmany s)) / 2 ^ i % 2 = 1) := fun i hi => by
    rw [bit_and, ← inb i hi, zmN_bit]
    by_cases q : zk s' i 3 = y
    · have c1 : 1 ≤ c := by rw [← cr]; exact zinY_one (n := zmany s) hi q
      have e : zsees s' i = zseeM s i y c := by
        unfold zsees
        rw [q, mm, cr, zseeM_eq c1]
        exact zsee_cong hy (kw i 0 (by omega) (by omega)) (kw i 1 (by omega) (by omega)) (kw i 2 (by omega) (by omega)) lo m64
      unfold zwit zsg
      rw [e, lo 1 (by omega)]
      by_cases d : s 1 ≤ zseeM s i y c
      · simp [q, d, hi]
      · simp [q, d]
    · unfold zwit
      simp [q]
  have cnt : zcount s' y = ztly s ((x ||| T) &&& zmN (zsg s y c) (zmany s)) (zmany s) := by
    unfold zcount ztly
    rw [mm]
    refine zsum_congr (fun i hi => ?_)
    have k0 : zk s' i 0 = zk s i 0 := kw i 0 (by omega) (by omega)
    rw [k0]
    by_cases q : zwit s' i y = 1
    · rw [if_pos q, if_pos ((wt i hi).mp q)]
    · rw [if_neg q, if_neg (fun r => q ((wt i hi).mpr r))]
  unfold zhw zhold
  rw [hs', cnt, lo (8 + y).toNat (by omega)]
  split <;> simp_all
section CDRIVE
variable {g : GX} {N b : Nat} {F : Nat → GC} {s : Nat → Int}
theorem qB_seeingIn (h : CTY F b s) (h103 : b + 16 ≤ 103) (hZ : ZG s) {y c : Int} (hy : 0 ≤ y ∧ y ≤ 5) (hc : 0 ≤ c ∧ c ≤ 10) : CT g yB_seeingIn 3 0 0 [gR b, gI y, gI c] (N, F) (CS N F (gI ((zmN (zsg s y c) (zmany s) : Nat) : Int))) := by
  obtain ⟨hz1, hz⟩ := zmany_le hZ.1
  have loop : ∀ (n i : Nat), i + n = zmany s → ∀ F1 : Nat → GC, FS F F1 → Go g yB_seeingIn 3 0 0 5 [gR b, gI y, gI c, gI ((zmN (zsg s y c) i : Nat) : Int), gI (i : Int)] [] (N, F1) (CS N F (gI ((zmN (zsg s y c) (zmany s) : Nat) : Int))) := by
    intro n
    induction n with
    | zero =>
      intro i hi F1 hF
      have hC := h.fs hF h103
      have ho := hC.1
      refine go_iload dB_seeingIn_5 rfl ?_
      refine go_aload_n (i := 0) dB_seeingIn_7 rfl rfl trivial ?_
      refine go_getf dB_seeingIn_8 flB33 (by assumption) rfl ?_
      refine go_ic_ge 47 dB_seeingIn_11 rfl (fun h11 => ?_) (fun h11 => absurd (by omega) h11)
      refine go_iload_n (i := 3) dB_seeingIn_47 rfl rfl ?_
      refine go_iret dB_seeingIn_48 rfl rfl ?_
      exact ⟨by rw [show i = zmany s by omega], F1, rfl, hF⟩
    | succ n ih =>
      intro i hi F1 hF
      have hC := h.fs hF h103
      have ho := hC.1
      have hr := hC.2.1
      have hg := hC.gs (i := i) (by omega) (by omega)
      refine go_iload dB_seeingIn_5 rfl ?_
      refine go_aload_n (i := 0) dB_seeingIn_7 rfl rfl trivial ?_
      refine go_getf dB_seeingIn_8 flB33 (by assumption) rfl ?_
      refine go_ic_ge 47 dB_seeingIn_11 rfl (fun h11 => absurd h11 (by omega)) (fun h11 => ?_)
      refine go_aload_n (i := 0) dB_seeingIn_14 rfl rfl trivial ?_
      refine go_aload_n (i := 0) dB_seeingIn_15 rfl rfl trivial ?_
      refine go_getf dB_seeingIn_16 flB11 (by assumption) rfl ?_
      refine go_iload dB_seeingIn_19 rfl ?_
      refine go_aald' 1 "GooseCounty$Goose" (i) (b + 6 + i) dB_seeingIn_21 (by assumption) rfl (by omega) (by omega) (gRow_at (by omega)) ?_
      refine go_iload_n (i := 1) dB_seeingIn_22 rfl rfl ?_
      refine go_iload_n (i := 2) dB_seeingIn_23 rfl rfl ?_
      refine go_VX dB_seeingIn_24 vkB137 (by assumption) (List.cons_ne_nil _ _) (qB_sees hC h103 hZ (i := i) (by omega) hy hc) rfl (by omega) (by omega) (by omega) rfl (fun _ => Nat.le_of_ble_eq_true rfl) ?_
      rintro _ _ ⟨rfl, F2, rfl, hF2⟩ -
      dsimp only [rp]
      have hC2 := h.fs (hF.tr hF2) h103
      have ho := hC2.1
      refine go_aload_n (i := 0) dB_seeingIn_27 rfl rfl trivial ?_
      refine go_getf dB_seeingIn_28 flB40 (by assumption) rfl ?_
      refine go_ic_lt 41 dB_seeingIn_31 rfl (fun h31 => ?_) (fun h31 => ?_)
      · refine go_inc4 (((i + 1 : Nat) : Int)) dB_seeingIn_41 (Nat.le_of_ble_eq_true rfl) trivial (by (try simp (discharger := (unfold inR; omega)) only [w32_id]) <;> omega) ?_
        refine go_goto 5 dB_seeingIn_44 rfl ?_
        have := ih (i + 1) (by omega) F2 (hF.tr hF2)
        rw [zmN_no (by unfold zsg; rw [if_neg (by omega)]; omega)] at this
        exact this
      · refine go_iload_n (i := 3) dB_seeingIn_34 rfl rfl ?_
        refine go_iconst dB_seeingIn_35 (inR_of _ rfl) ?_
        refine go_iload dB_seeingIn_36 rfl ?_
        refine go_ishl dB_seeingIn_38 ?_
        refine go_ior dB_seeingIn_39 ?_
        rw [zmk_or (zsg s y c) (by omega) (by unfold zsg; rw [if_pos (by omega)])]
        refine go_is3 dB_seeingIn_40 (Nat.le_of_ble_eq_true rfl) trivial ?_
        refine go_inc4 (((i + 1 : Nat) : Int)) dB_seeingIn_41 (Nat.le_of_ble_eq_true rfl) trivial (by (try simp (discharger := (unfold inR; omega)) only [w32_id]) <;> omega) ?_
        refine go_goto 5 dB_seeingIn_44 rfl ?_
        exact ih (i + 1) (by omega) F2 (hF.tr hF2)
  refine CT.of' (L0 := [gR b, gI y, gI c, gU, gU]) plB (Nat.le_of_ble_eq_true rfl) rfl ?_
  refine go_iconst dB_seeingIn_0 (inR_of _ rfl) ?_
  refine go_is3 dB_seeingIn_1 (Nat.le_of_ble_eq_true rfl) trivial ?_
  refine go_iconst dB_seeingIn_2 (inR_of _ rfl) ?_
  refine go_is4 dB_seeingIn_3 (Nat.le_of_ble_eq_true rfl) trivial ?_
  exact loop (zmany s) 0 (by omega) F FK.rf
theorem qB_fewestDriven (h : CTY F b s) (h103 : b + 16 ≤ 103) (hZ : ZG s) {y : Int} (hy : 0 ≤ y ∧ y ≤ 5) : CT g yB_fewestDriven 4 0 0 [gR b, gI y] (N, F) (CS N F (gI (if zdrv s y (2 ^ zmany s) < 0 then NONE else zdrv s y (2 ^ zmany s)))) := by
  obtain ⟨hz1, hz⟩ := zmany_le hZ.1
  have ho := h.1
  have p10 : 2 ^ zmany s ≤ 1024 := Nat.pow_le_pow_right (by omega) hz1
  have Tlt : zmN (zthr s y) (zmany s) < 2 ^ zmany s := zmN_lt _ _
  generalize hT : zmN (zthr s y) (zmany s) = T at Tlt
  have hk := fun (x : Nat) (hd : (x &&& T) = 0) (hx : x < 2 ^ zmany s) => (show zhw s y x = 1 ↔ s (8 + y).toNat ≤ ztly s ((x ||| T) &&& zmN (zsg s y ((zones T 10 + zones x 10 : Nat) : Int)) (zmany s)) (zmany s) from by have := zhw_iff hZ.1 hy (x := x) (by rw [hT]; exact hd) hx; rw [hT] at this; exact this)
  have hT10 := zones_top Tlt hz1
  have room : ∀ x : Nat, x < 2 ^ zmany s → zC s y x → zones x 10 + zones T 10 ≤ zmany s := fun x hx hc => by
    have hd := hc.1
    rw [hT] at hd
    rw [← zones_or hd]
    exact zones_top (Nat.or_lt_two_pow hx Tlt) hz1
  have outer : ∀ (j r : Nat), r + j = zmany s - zones T 10 + 1 → ∀ (F1 : Nat → GC) (x5 x6 : GV), FS F F1 → c1 x5 → (∀ x : Nat, x < 2 ^ zmany s → zC s y x → r ≤ zones x 10) → Go g yB_fewestDriven 4 0 0 19 [gR b, gI y, gI (T : Int), gI ((zmany s - zones T 10 : Nat) : Int), gI (r : Int), x5, x6] [] (N, F1) (CS N F (gI (if zdrv s y (2 ^ zmany s) < 0 then NONE else zdrv s y (2 ^ zmany s)))) := by
    intro j
    induction j with
    | zero =>
      intro r hr F1 x5 x6 hF _ hno
      refine go_iload dB_fewestDriven_19 rfl ?_
      refine go_iload_n (i := 3) dB_fewestDriven_21 rfl rfl ?_
      refine go_ic_gt 107 dB_fewestDriven_22 rfl (fun h22 => ?_) (fun h22 => absurd (by omega) h22)
      refine go_ldc dB_fewestDriven_107 kcB68 (inR_of _ rfl) ?_
      refine go_iret dB_fewestDriven_109 rfl rfl ?_
      refine ⟨?_, F1, rfl, hF⟩
      rcases zdrv_spec s y (2 ^ zmany s) with ⟨e, -⟩ | ⟨x, -, hx, hc, -⟩
      · rw [e, if_pos (by omega)]
      · have := hno x hx hc
        have := room x hx hc
        omega
    | succ j ih =>
      intro r hr F1 x5 x6 hF hx5 hno
      have hC := h.fs hF h103
      have ho := hC.1
      have seeing := qB_seeingIn (g := g) (N := N) hC h103 hZ (y := y) (c := ((zones T 10 + r : Nat) : Int)) hy (by omega)
      have inner : ∀ (k x : Nat), x + k = 2 ^ zmany s → ∀ F1 : Nat → GC, FS F F1 → (∀ x' : Nat, x' < x → zC s y x' → zones x' 10 ≠ r) → Go g yB_fewestDriven 4 0 0 44 [gR b, gI y, gI (T : Int), gI ((zmany s - zones T 10 : Nat) : Int), gI (r : Int), gI ((zmN (zsg s y ((zones T 10 + r : Nat) : Int)) (zmany s) : Nat) : Int), gI (x : Int)] [] (N, F1) (CS N F (gI (if zdrv s y (2 ^ zmany s) < 0 then NONE else zdrv s y (2 ^ zmany s)))) := by
        intro k
        induction k with
        | zero =>
          intro x hx F1 hF hnx
          have hC := h.fs hF h103
          have ho := hC.1
          refine go_iload dB_fewestDriven_44 rfl ?_
          refine go_iconst dB_fewestDriven_46 (inR_of _ rfl) ?_
          refine go_aload_n (i := 0) dB_fewestDriven_47 rfl rfl trivial ?_
          refine go_getf dB_fewestDriven_48 flB33 (by assumption) rfl ?_
          refine go_top ((zmany s : Nat) : Int) hz.symm ?_
          refine go_ishl dB_fewestDriven_51 ?_
          refine go_top ((2 ^ zmany s : Nat) : Int) (by rw [iShl_1 _ (by omega)]; simp) ?_
          refine go_ic_ge 101 dB_fewestDriven_52 rfl (fun h52 => ?_) (fun h52 => absurd (by omega) h52)
          refine go_inc4 (((r + 1 : Nat) : Int)) dB_fewestDriven_101 (Nat.le_of_ble_eq_true rfl) trivial (by (try simp (discharger := (unfold inR; omega)) only [w32_id]) <;> omega) ?_
          refine go_goto 19 dB_fewestDriven_104 rfl ?_
          refine ih (r + 1) (by omega) F1 _ _ hF trivial (fun x' hx' hc => ?_)
          have := hno x' hx' hc
          have := hnx x' (by omega) hc
          omega
        | succ k ihk =>
          intro x hx F1 hF hnx
          have hC := h.fs hF h103
          have ho := hC.1
          have skip : (zC s y x → zones x 10 ≠ r) → Go g yB_fewestDriven 4 0 0 95 [gR b, gI y, gI (T : Int), gI ((zmany s - zones T 10 : Nat) : Int), gI (r : Int), gI ((zmN (zsg s y ((zones T 10 + r : Nat) : Int)) (zmany s) : Nat) : Int), gI (x : Int)] [] (N, F1) (CS N F (gI (if zdrv s y (2 ^ zmany s) < 0 then NONE else zdrv s y (2 ^ zmany s)))) := by
            intro hq
            refine go_inc6 (((x + 1 : Nat) : Int)) dB_fewestDriven_95 (Nat.le_of_ble_eq_true rfl) trivial (by (try simp (discharger := (unfold inR; omega)) only [w32_id]) <;> omega) ?_
            refine go_goto 44 dB_fewestDriven_98 rfl ?_
            refine ihk (x + 1) (by omega) F1 hF (fun x' hx' hc => ?_)
            by_cases q : x' = x
            · subst q; exact hq hc
            · exact hnx x' (by omega) hc
          refine go_iload dB_fewestDriven_44 rfl ?_
          refine go_iconst dB_fewestDriven_46 (inR_of _ rfl) ?_
          refine go_aload_n (i := 0) dB_fewestDriven_47 rfl rfl trivial ?_
          refine go_getf dB_fewestDriven_48 flB33 (by assumption) rfl ?_
          refine go_top ((zmany s : Nat) : Int) hz.symm ?_
          refine go_ishl dB_fewestDriven_51 ?_
          refine go_top ((2 ^ zmany s : Nat) : Int) (by rw [iShl_1 _ (by omega)]; simp) ?_
          refine go_ic_ge 101 dB_fewestDriven_52 rfl (fun h52 => absurd h52 (by omega)) (fun h52 => ?_)
          refine go_iload dB_fewestDriven_55 rfl ?_
          refine go_iload_n (i := 2) dB_fewestDriven_57 rfl rfl ?_
          refine go_iand dB_fewestDriven_58 ?_
          rw [iAnd_nat x T (by omega)]
          refine go_if_ne 95 dB_fewestDriven_59 rfl (fun h59 => ?_) (fun h59 => ?_)
          · refine skip (fun hc => ?_)
            have := hc.1
            rw [hT] at this
            omega
          · have hd : (x &&& T) = 0 := by omega
            refine go_iload dB_fewestDriven_62 rfl ?_
            refine go_SP dB_fewestDriven_64 vkB110 (ct_bitCount (by omega)) rfl (by omega) rfl (fun _ => Nat.le_of_ble_eq_true rfl) ?_
            refine go_iload dB_fewestDriven_67 rfl ?_
            refine go_ic_ne 95 dB_fewestDriven_69 rfl (fun h69 => ?_) (fun h69 => ?_)
            · exact skip (fun _ => by omega)
            · have er : zones x 10 = r := by omega
              refine go_aload_n (i := 0) dB_fewestDriven_72 rfl rfl trivial ?_
              refine go_iload dB_fewestDriven_73 rfl ?_
              refine go_iload_n (i := 2) dB_fewestDriven_75 rfl rfl ?_
              refine go_ior dB_fewestDriven_76 ?_
              rw [iOr_nat x T (zmany s) (by omega) Tlt (by omega)]
              have olt : x ||| T < 2 ^ zmany s := Nat.or_lt_two_pow (by omega) Tlt
              refine go_iload dB_fewestDriven_77 rfl ?_
              refine go_iand dB_fewestDriven_79 ?_
              rw [iAnd_nat _ _ (by omega)]
              obtain ⟨f2, h2, e2⟩ := hC.nd hy
              have hkx := hk x hd (by omega)
              rw [er] at hkx
              refine go_VP dB_fewestDriven_80 vkB147 (by assumption) (List.cons_ne_nil _ _) (qB_tallyOf hC hZ.1 (Nat.lt_of_le_of_lt Nat.and_le_left (by omega))) rfl (by omega) rfl (fun _ => Nat.le_of_ble_eq_true rfl) ?_
              refine go_aload_n (i := 0) dB_fewestDriven_83 rfl rfl trivial ?_
              refine go_getf dB_fewestDriven_84 flB17 (by assumption) rfl ?_
              refine go_iload_n (i := 1) dB_fewestDriven_87 rfl rfl ?_
              refine go_iald' y.toNat _ dB_fewestDriven_88 h2 (by omega) (by omega) e2 ?_
              refine go_ic_lt 95 dB_fewestDriven_89 rfl (fun h89 => ?_) (fun h89 => ?_)
              · refine skip (fun hc => ?_)
                have := hkx.mp hc.2
                omega
              · have hc : zC s y x := ⟨by rw [hT]; exact hd, hkx.mpr (by omega)⟩
                refine go_iload dB_fewestDriven_92 rfl ?_
                refine go_iret dB_fewestDriven_94 rfl rfl ?_
                refine ⟨?_, F1, rfl, hF⟩
                rcases zdrv_spec s y (2 ^ zmany s) with ⟨-, e⟩ | ⟨bb, e, hb, hcb, hmin⟩
                · exact absurd hc (e x (by omega))
                · obtain ⟨q1, q2⟩ := hmin x (by omega) hc
                  have q3 := hno bb hb hcb
                  have q4 : bb ≤ x := q2 (by omega)
                  have q5 : ¬ bb < x := fun q => hnx bb q hcb (by omega)
                  rw [e, if_neg (by omega), show bb = x by omega]
      refine go_iload dB_fewestDriven_19 rfl ?_
      refine go_iload_n (i := 3) dB_fewestDriven_21 rfl rfl ?_
      refine go_ic_gt 107 dB_fewestDriven_22 rfl (fun h22 => absurd h22 (by omega)) (fun h22 => ?_)
      refine go_aload_n (i := 0) dB_fewestDriven_25 rfl rfl trivial ?_
      refine go_iload_n (i := 1) dB_fewestDriven_26 rfl rfl ?_
      refine go_aload_n (i := 0) dB_fewestDriven_27 rfl rfl trivial ?_
      refine go_getf dB_fewestDriven_28 flB33 (by assumption) rfl ?_
      refine go_iload_n (i := 3) dB_fewestDriven_31 rfl rfl ?_
      refine go_isub dB_fewestDriven_32 ?_
      refine go_top (((zones T 10 : Nat) : Int)) (by (try simp (discharger := (unfold inR; omega)) only [w32_id]) <;> omega) ?_
      refine go_iload dB_fewestDriven_33 rfl ?_
      refine go_iadd dB_fewestDriven_35 ?_
      refine go_top (((zones T 10 + r : Nat) : Int)) (by (try simp (discharger := (unfold inR; omega)) only [w32_id]) <;> omega) ?_
      refine go_VX dB_fewestDriven_36 vkB175 (by assumption) (List.cons_ne_nil _ _) (seeing) rfl (by omega) (by omega) (by omega) rfl (fun _ => Nat.le_of_ble_eq_true rfl) ?_
      rintro _ _ ⟨rfl, F2, rfl, hF2⟩ -
      dsimp only [rp]
      refine go_is5 dB_fewestDriven_39 (Nat.le_of_ble_eq_true rfl) trivial ?_
      refine go_iconst dB_fewestDriven_41 (inR_of _ rfl) ?_
      refine go_is6 dB_fewestDriven_42 (Nat.le_of_ble_eq_true rfl) trivial ?_
      exact inner (2 ^ zmany s) 0 (by omega) F2 (hF.tr hF2) (fun x' hx' => absurd hx' (by omega))
  have gi := qB_geeseIn (g := g) (N := N) h hZ.1 (y := y)
  rw [hT] at gi
  refine CT.of' (L0 := [gR b, gI y, gU, gU, gU, gU, gU]) plB (Nat.le_of_ble_eq_true rfl) rfl ?_
  refine go_aload_n (i := 0) dB_fewestDriven_0 rfl rfl trivial ?_
  refine go_iload_n (i := 1) dB_fewestDriven_1 rfl rfl ?_
  refine go_VP dB_fewestDriven_2 vkB106 (by assumption) (List.cons_ne_nil _ _) (gi) rfl (by omega) rfl (fun _ => Nat.le_of_ble_eq_true rfl) ?_
  refine go_is2 dB_fewestDriven_5 (Nat.le_of_ble_eq_true rfl) trivial ?_
  refine go_aload_n (i := 0) dB_fewestDriven_6 rfl rfl trivial ?_
  refine go_getf dB_fewestDriven_7 flB33 (by assumption) rfl ?_
  refine go_iload_n (i := 2) dB_fewestDriven_10 rfl rfl ?_
  refine go_SP dB_fewestDriven_11 vkB110 (ct_bitCount (by omega)) rfl (by omega) rfl (fun _ => Nat.le_of_ble_eq_true rfl) ?_
  refine go_isub dB_fewestDriven_14 ?_
  refine go_top (((zmany s - zones T 10 : Nat) : Int)) (by (try simp (discharger := (unfold inR; omega)) only [w32_id]) <;> omega) ?_
  refine go_is3 dB_fewestDriven_15 (Nat.le_of_ble_eq_true rfl) trivial ?_
  refine go_iconst dB_fewestDriven_16 (inR_of _ rfl) ?_
  refine go_is4 dB_fewestDriven_17 (Nat.le_of_ble_eq_true rfl) trivial ?_
  exact outer (zmany s - zones T 10 + 1) 0 (by omega) F _ _ FK.rf trivial (fun _ _ _ => by omega)
theorem bA_drive {m : Nat → Nat → Int} (h : COMP F m) (hJ : JV m) {y w : Int} : CT g yA_drive 5 0 0 [gR 0, gI y, gI w] (N, F) (CB N F (gI (v_drive (m 0) y w)) m) := by
  have ho := h.1
  have hn := h.2.1.1
  have z1 := zout_or y 0 5
  have z2 := zout_or w 0 1
  obtain ⟨hz1, hz⟩ := zmany_le hJ.zg.1
  have p10 : 2 ^ zmany (m 0) ≤ 1024 := Nat.pow_le_pow_right (by omega) hz1
  have din := zdrv_in (m 0) y (2 ^ zmany (m 0))
  have hN : NONE < 0 := by decide
  refine CT.of' (L0 := [gR 0, gI y, gI w, gU]) plA (Nat.le_of_ble_eq_true rfl) rfl ?_
  have bad : ¬ ((0 ≤ y ∧ y ≤ 5) ∧ 0 ≤ w ∧ w ≤ 1) → Go g yA_drive 5 0 0 18 [gR 0, gI y, gI w, gU] [] (N, F) (CB N F (gI (v_drive (m 0) y w)) m) := by
    intro hb
    refine go_ldc dA_drive_18 kcA65 (inR_of _ rfl) ?_
    refine go_iret dA_drive_20 rfl rfl ?_
    exact CB.same h (by unfold v_drive; rw [if_neg hb])
  refine go_iload_n (i := 1) dA_drive_0 rfl rfl ?_
  refine go_iconst dA_drive_1 (inR_of _ rfl) ?_
  refine go_iconst dA_drive_2 (inR_of _ rfl) ?_
  refine go_SP dA_drive_3 vkA61 (ct_outside _ _ _) rfl (by omega) rfl (fun _ => Nat.le_of_ble_eq_true rfl) ?_
  refine go_if_ne 18 dA_drive_6 rfl (fun h6 => ?_) (fun h6 => ?_)
  · exact bad (by omega)
  · refine go_iload_n (i := 2) dA_drive_9 rfl rfl ?_
    refine go_iconst dA_drive_10 (inR_of _ rfl) ?_
    refine go_iconst dA_drive_11 (inR_of _ rfl) ?_
    refine go_SP dA_drive_12 vkA61 (ct_outside _ _ _) rfl (by omega) rfl (fun _ => Nat.le_of_ble_eq_true rfl) ?_
    refine go_if_eq 21 dA_drive_15 rfl (fun h15 => ?_) (fun h15 => ?_)
    · have ok : (0 ≤ y ∧ y ≤ 5) ∧ 0 ≤ w ∧ w ≤ 1 := by omega
      refine go_aload_n (i := 0) dA_drive_21 rfl rfl trivial ?_
      refine go_getf dA_drive_22 flA10 (by assumption) rfl ?_
      refine go_iload_n (i := 1) dA_drive_25 rfl rfl ?_
      refine go_VX dA_drive_26 vkA159 (by assumption) (List.cons_ne_nil _ _) (qB_fewestDriven h.2.1 (by omega) hJ.zg ok.1) rfl (by omega) (by omega) (by omega) rfl (fun _ => Nat.le_of_ble_eq_true rfl) ?_
      rintro _ _ ⟨rfl, F2, rfl, hF2⟩ -
      dsimp only [rp]
      have ev : v_drive (m 0) y w = (if zdrv (m 0) y (2 ^ zmany (m 0)) < 0 then NONE else if w = 0 then zdrv (m 0) y (2 ^ zmany (m 0)) else ((zones (zdrv (m 0) y (2 ^ zmany (m 0))).toNat 10 : Nat) : Int)) := by unfold v_drive; rw [if_pos ok]
      by_cases c : zdrv (m 0) y (2 ^ zmany (m 0)) < 0
      · rw [if_pos c] at ev ⊢
        refine go_is3 dA_drive_29 (Nat.le_of_ble_eq_true rfl) trivial ?_
        refine go_iload_n (i := 3) dA_drive_30 rfl rfl ?_
        refine go_ldc dA_drive_31 kcA162 (inR_of _ rfl) ?_
        refine go_ic_eq 40 dA_drive_33 rfl (fun h33 => ?_) (fun h33 => absurd rfl h33)
        refine go_iload_n (i := 3) dA_drive_40 rfl rfl ?_
        refine go_goto 48 dA_drive_41 rfl ?_
        refine go_iret dA_drive_48 rfl rfl ?_
        exact CB.fs h hF2 ev.symm
      · rw [if_neg c] at ev ⊢
        generalize hzz : zdrv (m 0) y (2 ^ zmany (m 0)) = z at c ev din ⊢
        refine go_is3 dA_drive_29 (Nat.le_of_ble_eq_true rfl) trivial ?_
        refine go_iload_n (i := 3) dA_drive_30 rfl rfl ?_
        refine go_ldc dA_drive_31 kcA162 (inR_of _ rfl) ?_
        refine go_ic_eq 40 dA_drive_33 rfl (fun h33 => absurd h33 (fun q => by rw [q] at c; exact c hN)) (fun h33 => ?_)
        refine go_iload_n (i := 2) dA_drive_36 rfl rfl ?_
        refine go_if_ne 44 dA_drive_37 rfl (fun h37 => ?_) (fun h37 => ?_)
        · have hzt : z = ((z.toNat : Nat) : Int) := by omega
          refine go_iload_n (i := 3) dA_drive_44 rfl rfl ?_
          refine go_top ((z.toNat : Nat) : Int) hzt ?_
          refine go_SP dA_drive_45 vkA163 (ct_bitCount (by omega)) rfl (by omega) rfl (fun _ => Nat.le_of_ble_eq_true rfl) ?_
          refine go_iret dA_drive_48 rfl rfl ?_
          exact CB.fs h hF2 (by rw [ev, if_neg h37])
        · refine go_iload_n (i := 3) dA_drive_40 rfl rfl ?_
          refine go_goto 48 dA_drive_41 rfl ?_
          refine go_iret dA_drive_48 rfl rfl ?_
          exact CB.fs h hF2 (by rw [ev, if_pos h37])
    · exact bad (by omega)
end CDRIVE
