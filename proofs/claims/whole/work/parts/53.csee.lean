/-! ===== the component: who sees what ===== -/
def bc1 (x : Int) : Int := w32 (x - iAnd (iUshr x 1) 1431655765)
def bc2 (x : Int) : Int := w32 (iAnd x 858993459 + iAnd (iUshr x 2) 858993459)
def bc3 (x : Int) : Int := iAnd (w32 (x + iUshr x 4)) 252645135
def bc4 (x : Int) : Int := w32 (x + iUshr x 8)
def bc5 (x : Int) : Int := w32 (x + iUshr x 16)
theorem bc_ok : ∀ x : Nat, x < 1024 → iAnd (bc5 (bc4 (bc3 (bc2 (bc1 (x : Int)))))) 63 = ((zones x 10 : Nat) : Int) := by decide +kernel
theorem zones_mN (p : Nat → Int) {n : Nat} : ∀ k : Nat, ((zones (zmN p n) k : Nat) : Int) = zsum (fun i => if i < n ∧ p i = 1 then 1 else 0) k := by
  intro k
  induction k with
  | zero => rfl
  | succ k ih =>
    show ((zones (zmN p n) k + zmN p n / 2 ^ k % 2 : Nat) : Int) = zsum _ k + (if k < n ∧ p k = 1 then 1 else 0)
    rw [zmN_bit, ← ih]
    split <;> simp
theorem zsum_tail {f : Nat → Int} {n : Nat} (h : ∀ i, n ≤ i → f i = 0) : ∀ k : Nat, zsum f (n + k) = zsum f n
  | 0 => rfl
  | k + 1 => by show zsum f (n + k) + f (n + k) = _; rw [zsum_tail h k, h _ (by omega)]; omega
theorem zones_10 (p : Nat → Int) {n : Nat} (hn : n ≤ 10) : ((zones (zmN p n) 10 : Nat) : Int) = zsum (fun i => if p i = 1 then 1 else 0) n := by
  rw [zones_mN, show 10 = n + (10 - n) by omega, zsum_tail (fun i hi => by rw [if_neg (by omega)])]
  exact zsum_congr (fun i hi => by simp [hi])
theorem zmN_1024 (p : Nat → Int) {n : Nat} (hn : n ≤ 10) : zmN p n < 1024 := Nat.lt_of_lt_of_le (zmN_lt p n) (Nat.pow_le_pow_right (by omega) hn)
/-- which geese are there -/
def zthr (s : Nat → Int) (y : Int) : Nat → Int := fun i => if zk s i 3 = y then 1 else 0
theorem zcrowd {s : Nat → Int} {y : Int} {n : Nat} (hn : n ≤ 10) : ((zones (zmN (zthr s y) n) 10 : Nat) : Int) = zinY s y n := by
  rw [zones_10 _ hn]
  unfold zinY zthr
  exact zsum_congr (fun i hi => by split <;> simp_all)
/-- what one sees, were it in such a crowd -/
def zseeM (s : Nat → Int) (i y c : Int) : Int := if zk s i 0 = 5 then 1 else if zk s i 0 = 3 then (zlook s i y c).tdiv 3 else if zk s i 0 = 2 then (if (s 6).tmod 2 = 0 then zlook s i y c else 99) else if zk s i 0 = 4 then (if (if (s 6).tmod 2 = 0 then zlook s i y c else 99) - 9 * (c - 1) < 0 then 0 else (if (s 6).tmod 2 = 0 then zlook s i y c else 99) - 9 * (c - 1)) else zlook s i y c
theorem zseeM_eq {s : Nat → Int} {i y c : Int} (hc : 1 ≤ c) : zseeM s i y c = zsee s i y c := by
  have h1 := zlook_in s i y c
  unfold zseeM zsee
  have : ∀ v : Int, v ≤ 99 → (if v - 9 * (c - 1) < 0 then 0 else v - 9 * (c - 1)) = zheld (v - 9 * (c - 1)) 0 99 := by
    intro v hv; unfold zheld; grind
  rw [this _ (by split <;> omega)]
/-- a county in order -/
def ZG (s : Nat → Int) : Prop := zW s ∧ zT s ∧ zP s
section CSEE
variable {g : GX} {N a b : Nat} {F : Nat → GC} {s : Nat → Int}
theorem ct_bitCount {x : Nat} (hx : x < 1024) : CT g yJI_bitCount 0 0 0 [gI (x : Int)] (N, F) (RV ((zones x 10 : Nat) : Int) (N, F)) := by
  refine CT.of' (L0 := [gI (x : Int)]) plJI (Nat.le_of_ble_eq_true rfl) rfl ?_
  refine go_iload_n (i := 0) dJI_bitCount_0 rfl rfl ?_
  refine go_iload_n (i := 0) dJI_bitCount_1 rfl rfl ?_
  refine go_iconst dJI_bitCount_2 (inR_of _ rfl) ?_
  refine go_iushr dJI_bitCount_3 ?_
  refine go_ldcw dJI_bitCount_4 kcJI265 (inR_of _ rfl) ?_
  refine go_iand dJI_bitCount_7 ?_
  refine go_isub dJI_bitCount_8 ?_
  refine go_top (bc1 (x : Int)) rfl ?_
  refine go_is0 dJI_bitCount_9 (Nat.le_of_ble_eq_true rfl) trivial ?_
  refine go_iload_n (i := 0) dJI_bitCount_10 rfl rfl ?_
  refine go_ldcw dJI_bitCount_11 kcJI266 (inR_of _ rfl) ?_
  refine go_iand dJI_bitCount_14 ?_
  refine go_iload_n (i := 0) dJI_bitCount_15 rfl rfl ?_
  refine go_iconst dJI_bitCount_16 (inR_of _ rfl) ?_
  refine go_iushr dJI_bitCount_17 ?_
  refine go_ldcw dJI_bitCount_18 kcJI266 (inR_of _ rfl) ?_
  refine go_iand dJI_bitCount_21 ?_
  refine go_iadd dJI_bitCount_22 ?_
  refine go_top (bc2 (bc1 (x : Int))) rfl ?_
  refine go_is0 dJI_bitCount_23 (Nat.le_of_ble_eq_true rfl) trivial ?_
  refine go_iload_n (i := 0) dJI_bitCount_24 rfl rfl ?_
  refine go_iload_n (i := 0) dJI_bitCount_25 rfl rfl ?_
  refine go_iconst dJI_bitCount_26 (inR_of _ rfl) ?_
  refine go_iushr dJI_bitCount_27 ?_
  refine go_iadd dJI_bitCount_28 ?_
  refine go_ldcw dJI_bitCount_29 kcJI267 (inR_of _ rfl) ?_
  refine go_iand dJI_bitCount_32 ?_
  refine go_top (bc3 (bc2 (bc1 (x : Int)))) rfl ?_
  refine go_is0 dJI_bitCount_33 (Nat.le_of_ble_eq_true rfl) trivial ?_
  refine go_iload_n (i := 0) dJI_bitCount_34 rfl rfl ?_
  refine go_iload_n (i := 0) dJI_bitCount_35 rfl rfl ?_
  refine go_bipush dJI_bitCount_36 (inR_of _ rfl) rfl ?_
  refine go_iushr dJI_bitCount_38 ?_
  refine go_iadd dJI_bitCount_39 ?_
  refine go_top (bc4 (bc3 (bc2 (bc1 (x : Int))))) rfl ?_
  refine go_is0 dJI_bitCount_40 (Nat.le_of_ble_eq_true rfl) trivial ?_
  refine go_iload_n (i := 0) dJI_bitCount_41 rfl rfl ?_
  refine go_iload_n (i := 0) dJI_bitCount_42 rfl rfl ?_
  refine go_bipush dJI_bitCount_43 (inR_of _ rfl) rfl ?_
  refine go_iushr dJI_bitCount_45 ?_
  refine go_iadd dJI_bitCount_46 ?_
  refine go_top (bc5 (bc4 (bc3 (bc2 (bc1 (x : Int)))))) rfl ?_
  refine go_is0 dJI_bitCount_47 (Nat.le_of_ble_eq_true rfl) trivial ?_
  refine go_iload_n (i := 0) dJI_bitCount_48 rfl rfl ?_
  refine go_bipush dJI_bitCount_49 (inR_of _ rfl) rfl ?_
  refine go_iand dJI_bitCount_51 ?_
  refine go_top ((zones x 10 : Nat) : Int) (bc_ok x hx) ?_
  refine go_iret dJI_bitCount_52 rfl rfl ?_
  exact ⟨rfl, rfl⟩
theorem cG_tallies {k0 k1 k2 k3 k4 : Int} (hg : F a = cO 2 [gI k0, gI k1, gI k2, gI k3, gI k4]) (hk : 0 ≤ k0 ∧ k0 ≤ 5) : CT g yG_tallies 0 0 0 [gR a] (N, F) (RV (ztal k0) (N, F)) := qG_tallies (f := fun w => match w with | 0 => k0 | 1 => k1 | 2 => k2 | 3 => k3 | _ => k4) hg hk
theorem cG_wanders {k0 k1 k2 k3 k4 : Int} (hg : F a = cO 2 [gI k0, gI k1, gI k2, gI k3, gI k4]) (hk : 0 ≤ k0 ∧ k0 ≤ 5) : CT g yG_wanders 0 0 0 [gR a] (N, F) (RV (zwan k0) (N, F)) := qG_wanders (f := fun w => match w with | 0 => k0 | 1 => k1 | 2 => k2 | 3 => k3 | _ => k4) hg hk
theorem cG_isOf {k0 k1 k2 k3 k4 : Int} (hg : F a = cO 2 [gI k0, gI k1, gI k2, gI k3, gI k4]) (hk : 0 ≤ k0 ∧ k0 ≤ 5) {o : Int} (ho : 0 ≤ o ∧ o ≤ 5) : CT g yG_isOf 0 0 0 [gR a, gI o] (N, F) (RV (zunder k0 o) (N, F)) := qG_isOf (f := fun w => match w with | 0 => k0 | 1 => k1 | 2 => k2 | 3 => k3 | _ => k4) hg hk ho
theorem cG_worth {k0 k1 k2 k3 k4 : Int} (hg : F a = cO 2 [gI k0, gI k1, gI k2, gI k3, gI k4]) : CT g yG_worth 0 0 0 [gR a] (N, F) (RV (zworth k0 k1 k2 k4) (N, F)) := qG_worth (f := fun w => match w with | 0 => k0 | 1 => k1 | 2 => k2 | 3 => k3 | _ => k4) hg
theorem qL_law (hT : zT s) (hP : zP s) {w : Nat} (hw : w < 3) (h0 : 0 ≤ s (65 + w)) (hL : LAWP F a s (s (65 + w)).toNat) (n0 n1 n2 n3 : Int) : CT g yL_gives 1 0 0 [gR a, gI n0, gI n1, gI n2, gI n3] (N, F) (CS N F (gI (zlaw s w (znm n0 n1 n2 n3)))) := by
  obtain ⟨t, n, h1, h2, h3, h4, h5⟩ := hT.law hw h0
  rw [zlaw_eq (znm n0 n1 n2 n3) h2 h3]
  have et : (s (65 + w)).toNat = t := by omega
  rw [et] at hL
  have hlt : (t : Int) < s 64 := by have := (hT.2.1 w hw).2; omega
  obtain ⟨p1, p2⟩ := hP t hlt
  have en : (s (82 + t)).toNat = n := by omega
  have := qL_gives (g := g) (N := N) hL (bb := if w = 0 then 4 else 2) (by split <;> omega) (by rw [en]; exact h5) (by omega) p1 p2 n0 n1 n2 n3
  rw [en] at this
  exact this
theorem qB_lawFor (h : CTY F b s) (hT : zT s) {w : Nat} (hw : w < 3) : CT g yB_lawFor 0 0 0 [gR b, gI (w : Int)] (N, F) (fun rr M' => M' = (N, F) ∧ ((s (65 + w) < 0 ∧ rr = gN) ∨ (0 ≤ s (65 + w) ∧ ∃ a, rr = gR a ∧ LAWP F a s (s (65 + w)).toNat))) := by
  have ho := h.1
  obtain ⟨L, h3, e3⟩ := h.2.2.2.1
  obtain ⟨f4, h4, e4⟩ := h.2.2.2.2.1
  have ew := e4 w hw
  unfold zct at ew
  have hN : NONE < 0 := by decide
  obtain ⟨t1, t2⟩ := hT.2.1 w hw
  have t3 := hT.1
  refine CT.of' (L0 := [gR b, gI (w : Int), gU]) plB (Nat.le_of_ble_eq_true rfl) rfl ?_
  refine go_aload_n (i := 0) dB_lawFor_0 rfl rfl trivial ?_
  refine go_getf dB_lawFor_1 flB27 (by assumption) rfl ?_
  refine go_iload_n (i := 1) dB_lawFor_4 rfl rfl ?_
  refine go_iald' w _ dB_lawFor_5 h4 rfl hw rfl ?_
  refine go_is2 dB_lawFor_6 (Nat.le_of_ble_eq_true rfl) trivial ?_
  refine go_iload_n (i := 2) dB_lawFor_7 rfl rfl ?_
  refine go_if_lt 28 dB_lawFor_8 rfl (fun h8 => ?_) (fun h8 => ?_)
  · refine go_null dB_lawFor_28 ?_
    refine go_aret dB_lawFor_29 rfl (Or.inl ⟨_, rfl⟩) ?_
    refine ⟨rfl, Or.inl ⟨?_, rfl⟩⟩
    by_cases c : s (65 + w) < 0
    · exact c
    · rw [ew, if_neg c] at h8; exact absurd h8 c
  · have c : ¬ s (65 + w) < 0 := fun c => h8 (by rw [ew, if_pos c]; exact hN)
    rw [if_neg c] at ew
    obtain ⟨a, q1, q2⟩ := e3.2 (s (65 + w)).toNat (by omega)
    refine go_iload_n (i := 2) dB_lawFor_11 rfl rfl ?_
    refine go_aload_n (i := 0) dB_lawFor_12 rfl rfl trivial ?_
    refine go_getf dB_lawFor_13 flB37 (by assumption) rfl ?_
    refine go_ic_ge 28 dB_lawFor_16 rfl (fun h16 => absurd h16 (by omega)) (fun h16 => ?_)
    refine go_aload_n (i := 0) dB_lawFor_19 rfl rfl trivial ?_
    refine go_getf dB_lawFor_20 flB23 (by assumption) rfl ?_
    refine go_iload_n (i := 2) dB_lawFor_23 rfl rfl ?_
    refine go_aald' 2 "GooseCounty$Law" (s (65 + w)).toNat a dB_lawFor_24 h3 rfl (by rw [ew]; omega) (by omega) q1 ?_
    refine go_goto 29 dB_lawFor_25 rfl ?_
    refine go_aret dB_lawFor_29 rfl (Or.inl ⟨_, rfl⟩) ?_
    exact ⟨rfl, Or.inr ⟨by omega, a, rfl, q2⟩⟩
theorem qB_sees (h : CTY F b s) (h103 : b + 16 ≤ 103) (hZ : ZG s) {i : Nat} (hi : (i : Int) < s 0) {y c : Int} (hy : 0 ≤ y ∧ y ≤ 5) (hc : 0 ≤ c ∧ c ≤ 10) : CT g yB_sees 2 0 0 [gR b, gR (b + 6 + i), gI y, gI c] (N, F) (CS N F (gI (zseeM s i y c))) := by
  have h10 : i < 10 := by have := hZ.1.1.2.1; omega
  have ho := h.1
  have hg := h.gs hi h10
  obtain ⟨g0, g1, g2, g3, g4⟩ := hZ.1.goose (i := (i : Int)) (by omega) hi
  obtain ⟨f2, h2, e2⟩ := h.2.2.1
  have ey : f2 y.toNat = s (8 + y).toNat := by rw [e2 _ (by omega)]; congr 1; omega
  have hd6 := hZ.1.2.2.1
  have hlk := zlook_in s i y c
  have hd2 : (zk s i 2).tdiv 2 = zk s i 2 / 2 := Int.tdiv_eq_ediv_of_nonneg g2.1
  have tailC : ∀ (F1 : Nat → GC) (v : Int) (x5 x6 : GV), FS F F1 → 0 ≤ v → v ≤ 99 → ((zk s i 0 = 2 ∨ zk s i 0 = 4) → v = (if (s 6).tmod 2 = 0 then zlook s i y c else 99)) → (¬ (zk s i 0 = 2 ∨ zk s i 0 = 4) → v = zlook s i y c) → ¬ zk s i 0 = 5 → Go g yB_sees 2 0 0 89 [gR b, gR (b + 6 + i), gI y, gI c, gI v, x5, x6] [] (N, F1) (CS N F (gI (zseeM s i y c))) := by
    intro F1 v x5 x6 hF v0 v1 k1 k2 k5
    have hg := (h.fs hF h103).gs hi h10
    refine go_aload_n (i := 1) dB_sees_89 rfl rfl trivial ?_
    refine go_getf dB_sees_90 flB79 (by assumption) rfl ?_
    refine go_iconst dB_sees_93 (inR_of _ rfl) ?_
    refine go_ic_ne 102 dB_sees_94 rfl (fun h94 => ?_) (fun h94 => ?_)
    · refine go_aload_n (i := 1) dB_sees_102 rfl rfl trivial ?_
      refine go_getf dB_sees_103 flB79 (by assumption) rfl ?_
      refine go_iconst dB_sees_106 (inR_of _ rfl) ?_
      refine go_ic_ne 126 dB_sees_107 rfl (fun h107 => ?_) (fun h107 => ?_)
      · refine go_iload dB_sees_126 rfl ?_
        refine go_iret dB_sees_128 rfl rfl ?_
        refine ⟨?_, F1, rfl, hF⟩
        unfold zseeM
        rw [if_neg k5, if_neg h94]
        by_cases c2 : zk s i 0 = 2
        · rw [if_pos c2, k1 (Or.inl c2)]
        · rw [if_neg c2, if_neg h107, k2 (by omega)]
      · have e4 : zk s i 0 = 4 := by omega
        refine go_iconst dB_sees_110 (inR_of _ rfl) ?_
        refine go_iload dB_sees_111 rfl ?_
        refine go_bipush dB_sees_113 (inR_of _ rfl) rfl ?_
        refine go_iload_n (i := 3) dB_sees_115 rfl rfl ?_
        refine go_iconst dB_sees_116 (inR_of _ rfl) ?_
        refine go_isub dB_sees_117 ?_
        refine go_top (c - 1) (by (try simp (discharger := (unfold inR; omega)) only [w32_id]) <;> omega) ?_
        refine go_imul dB_sees_118 ?_
        refine go_top (9 * (c - 1)) (by (try simp (discharger := (unfold inR; omega)) only [w32_id]) <;> omega) ?_
        refine go_isub dB_sees_119 ?_
        refine go_top (v - 9 * (c - 1)) (by (try simp (discharger := (unfold inR; omega)) only [w32_id]) <;> omega) ?_
        refine go_mmax dB_sees_120 vkB131 (fun _ => Nat.le_of_ble_eq_true rfl) (by omega) ?_
        refine go_goto 128 dB_sees_123 rfl ?_
        refine go_iret dB_sees_128 rfl rfl ?_
        refine ⟨?_, F1, rfl, hF⟩
        unfold zseeM
        rw [if_neg k5, if_neg h94, if_neg (by omega), if_pos e4, ← k1 (Or.inr e4)]
        congr 1
        unfold iMax
        grind
    · have hd3 := Int.tdiv_eq_ediv_of_nonneg (b := 3) v0
      refine go_iload dB_sees_97 rfl ?_
      refine go_iconst dB_sees_99 (inR_of _ rfl) ?_
      refine go_idiv dB_sees_100 (by omega) ?_
      refine go_top (v.tdiv 3) (by (try simp (discharger := (unfold inR; omega)) only [w32_id]) <;> omega) ?_
      refine go_iret dB_sees_101 rfl rfl ?_
      refine ⟨?_, F1, rfl, hF⟩
      unfold zseeM
      rw [if_neg k5, if_pos (by omega), k2 (by omega)]
  have hud : zunder (zk s i 0) 2 = 1 ↔ (zk s i 0 = 2 ∨ zk s i 0 = 4) := by unfold zunder; grind
  have held : ∀ (F1 : Nat → GC) (v : Int) (x4 x5 x6 : GV), FS F F1 → v = (if 0 ≤ s 65 then zlaw s 0 (znm (zk s i 1) (zk s i 2) (s (8 + y).toNat) c) else zk s i 1 - (zk s i 2).tdiv 2) → c1 x4 → c1 x5 → ((zk s i 0 = 2 ∨ zk s i 0 = 4) → (s 6).tmod 2 = 0) → ¬ zk s i 0 = 5 → Go g yB_sees 2 0 0 77 [gR b, gR (b + 6 + i), gI y, gI c, x4, x5, x6] [gI v] (N, F1) (CS N F (gI (zseeM s i y c))) := by
    intro F1 v x4 x5 x6 hF hv hx4 hx5 k1 k5
    have hl : zheld v 0 99 = zlook s i y c := by rw [hv]; rfl
    refine go_is6 dB_sees_77 (Nat.le_of_ble_eq_true rfl) hx5 ?_
    refine go_iload dB_sees_79 rfl ?_
    refine go_iconst dB_sees_81 (inR_of _ rfl) ?_
    refine go_bipush dB_sees_82 (inR_of _ rfl) rfl ?_
    refine go_SNP dB_sees_84 vkB127 (ct_within _ _ _) rfl (by omega) rfl (fun _ => Nat.le_of_ble_eq_true rfl) ?_
    rw [hl]
    refine go_is4 dB_sees_87 (Nat.le_of_ble_eq_true rfl) trivial ?_
    exact tailC F1 _ _ _ hF hlk.1 hlk.2 (fun q => by rw [if_pos (k1 q)]) (fun _ => rfl) k5
  have look : ∀ (F1 : Nat → GC) (x5 x6 : GV), FS F F1 → c1 x5 → ((zk s i 0 = 2 ∨ zk s i 0 = 4) → (s 6).tmod 2 = 0) → ¬ zk s i 0 = 5 → Go g yB_sees 2 0 0 31 [gR b, gR (b + 6 + i), gI y, gI c, gI 99, x5, x6] [] (N, F1) (CS N F (gI (zseeM s i y c))) := by
    intro F1 x5 x6 hF hx5 k1 k5
    have hC := h.fs hF h103
    have ho := hC.1
    have hg := hC.gs hi h10
    have h2' : F1 (b + 2) = cI 6 f2 := by rw [hF.at (by omega)]; exact h2
    refine go_aload_n (i := 0) dB_sees_31 rfl rfl trivial ?_
    refine go_iconst dB_sees_32 (inR_of _ rfl) ?_
    refine go_VX dB_sees_33 vkB119 (by assumption) (List.cons_ne_nil _ _) (qB_lawFor hC hZ.2.1 (w := 0) (by omega)) rfl (by omega) (by omega) (by omega) rfl (fun _ => Nat.le_of_ble_eq_true rfl) ?_
    rintro rr _ ⟨rfl, hrr⟩ -
    rcases hrr with ⟨q, rfl⟩ | ⟨q, a, rfl, hL⟩
    · dsimp only [rp]
      refine go_as5 dB_sees_36 (Nat.le_of_ble_eq_true rfl) trivial trivial ?_
      refine go_aload dB_sees_38 rfl trivial ?_
      refine go_nonnullN dB_sees_40 ?_
      refine go_aload_n (i := 1) dB_sees_43 rfl rfl trivial ?_
      refine go_getf dB_sees_44 flB82 (by assumption) rfl ?_
      refine go_aload_n (i := 1) dB_sees_47 rfl rfl trivial ?_
      refine go_getf dB_sees_48 flB85 (by assumption) rfl ?_
      refine go_iconst dB_sees_51 (inR_of _ rfl) ?_
      refine go_idiv dB_sees_52 (by omega) ?_
      refine go_top ((zk s i 2).tdiv 2) (by (try simp (discharger := (unfold inR; omega)) only [w32_id]) <;> omega) ?_
      refine go_isub dB_sees_53 ?_
      refine go_top (zk s i 1 - (zk s i 2).tdiv 2) (by (try simp (discharger := (unfold inR; omega)) only [w32_id]) <;> omega) ?_
      refine go_goto 77 dB_sees_54 rfl ?_
      exact held F1 _ _ _ _ hF (by rw [if_neg (by have : s (65 + 0) = s 65 := rfl; omega)]) trivial trivial k1 k5
    · dsimp only [rp]
      have hoL := hL.2.1
      refine go_as5 dB_sees_36 (Nat.le_of_ble_eq_true rfl) trivial trivial ?_
      refine go_aload dB_sees_38 rfl trivial ?_
      refine go_nonnullR 57 dB_sees_40 rfl ?_
      refine go_aload dB_sees_57 rfl trivial ?_
      refine go_aload_n (i := 1) dB_sees_59 rfl rfl trivial ?_
      refine go_getf dB_sees_60 flB82 (by assumption) rfl ?_
      refine go_aload_n (i := 1) dB_sees_63 rfl rfl trivial ?_
      refine go_getf dB_sees_64 flB85 (by assumption) rfl ?_
      refine go_aload_n (i := 0) dB_sees_67 rfl rfl trivial ?_
      refine go_getf dB_sees_68 flB17 (by assumption) rfl ?_
      refine go_iload_n (i := 2) dB_sees_71 rfl rfl ?_
      refine go_iald' y.toNat (s (8 + y).toNat) dB_sees_72 h2' (by omega) (by omega) ey ?_
      refine go_iload_n (i := 3) dB_sees_73 rfl rfl ?_
      refine go_VX dB_sees_74 vkB123 (by assumption) (List.cons_ne_nil _ _) (qL_law hZ.2.1 hZ.2.2 (w := 0) (by omega) q hL _ _ _ _) rfl (by omega) (by omega) (by omega) rfl (fun _ => Nat.le_of_ble_eq_true rfl) ?_
      rintro _ _ ⟨rfl, F2, rfl, hF2⟩ -
      dsimp only [rp]
      exact held F2 _ _ _ _ (hF.tr hF2) (by rw [if_pos (show 0 ≤ s 65 from q)]) trivial trivial k1 k5
  refine CT.of' (L0 := [gR b, gR (b + 6 + i), gI y, gI c, gU, gU, gU]) plB (Nat.le_of_ble_eq_true rfl) rfl ?_
  refine go_aload_n (i := 1) dB_sees_0 rfl rfl trivial ?_
  refine go_getf dB_sees_1 flB79 (by assumption) rfl ?_
  refine go_iconst dB_sees_4 (inR_of _ rfl) ?_
  refine go_ic_ne 10 dB_sees_5 rfl (fun h5 => ?_) (fun h5 => ?_)
  · refine go_bipush dB_sees_10 (inR_of _ rfl) rfl ?_
    refine go_is4 dB_sees_12 (Nat.le_of_ble_eq_true rfl) trivial ?_
    refine go_aload_n (i := 1) dB_sees_14 rfl rfl trivial ?_
    refine go_iconst dB_sees_15 (inR_of _ rfl) ?_
    refine go_VP dB_sees_16 vkB115 (by assumption) (List.cons_ne_nil _ _) (cG_isOf hg g0 (by omega)) rfl (by omega) rfl (fun _ => Nat.le_of_ble_eq_true rfl) ?_
    refine go_if_eq 31 dB_sees_19 rfl (fun h19 => ?_) (fun h19 => ?_)
    · exact look F _ _ FK.rf trivial (fun q => by have := hud.mpr q; omega) h5
    · refine go_aload_n (i := 0) dB_sees_22 rfl rfl trivial ?_
      refine go_getf dB_sees_23 flB55 (by assumption) rfl ?_
      refine go_iconst dB_sees_26 (inR_of _ rfl) ?_
      refine go_irem dB_sees_27 (by omega) ?_
      refine go_if_ne 89 dB_sees_28 rfl (fun h28 => ?_) (fun h28 => ?_)
      · refine tailC F _ _ _ FK.rf (by omega) (by omega) (fun q => by rw [if_neg h28]) (fun q => ?_) h5
        have := zunder01 (zk s i 0) 2
        exact absurd (hud.mp (by omega)) q
      · exact look F _ _ FK.rf trivial (fun q => by omega) h5
  · refine go_iconst dB_sees_8 (inR_of _ rfl) ?_
    refine go_iret dB_sees_9 rfl rfl ?_
    exact ⟨by unfold zseeM; rw [if_pos (by omega)], F, rfl, FK.rf⟩
end CSEE
