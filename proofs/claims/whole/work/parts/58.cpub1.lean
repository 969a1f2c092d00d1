/-! ===== the component's public calls: geese, yards, days ===== -/
/-- what holds between the calls -/
def JV (m : Nat → Nat → Int) : Prop := INV m ∧ zP (m 0) ∧ (¬ m 17 6 = 0 → zP (m 1)) ∧ ∀ k : Nat, k < 5 → (0 ≤ m 15 (4 * k) ∧ m 15 (4 * k) ≤ 5) ∧ (m 13 k = 2 → ¬ m 9 (4 + k) < 0)
theorem JV.zg {m : Nat → Nat → Int} (h : JV m) : ZG (m 0) := ⟨h.1.1.1, h.1.1.2.1, h.2.1⟩
theorem zout_or (v lo hi : Int) : (zout v lo hi = 0 ∧ lo ≤ v ∧ v ≤ hi) ∨ (zout v lo hi = 1 ∧ (v < lo ∨ hi < v)) := by unfold zout; split <;> omega
theorem CB.same {N : Nat} {F : Nat → GC} {m : Nat → Nat → Int} {v v' : Int} (h : COMP F m) (e : v' = v) : CB N F (gI v) m (gI v') (N, F) := ⟨by rw [e], F, rfl, h, FK.rf⟩
theorem CB.fs {N : Nat} {F F2 : Nat → GC} {m : Nat → Nat → Int} {v v' : Int} (h : COMP F m) (hF : FS F F2) (e : v' = v) : CB N F (gI v) m (gI v') (N, F2) := ⟨by rw [e], F2, rfl, h.fs hF, hF.a⟩
theorem CB.now {N : Nat} {F F2 : Nat → GC} {m : Nat → Nat → Int} {S S' : Nat → Int} {v v' : Int} (h : COMP F m) (hC : CTY F2 1 S) (hF : FK (inC 1) F F2) (e : v' = v) (eS : S = S') : CB N F (gI v) (va_up m 0 S') (gI v') (N, F2) := ⟨by rw [e], F2, rfl, by rw [← eS]; exact h.now hC hF, hF.c1⟩
theorem CB.up0 {N : Nat} {F : Nat → GC} {m : Nat → Nat → Int} {S' : Nat → Int} {v v' : Int} (h : COMP F m) (e : v' = v) (eS : m 0 = S') : CB N F (gI v) (va_up m 0 S') (gI v') (N, F) := ⟨by rw [e], F, rfl, by rw [← eS, va_up_id]; exact h, FK.rf⟩
section CPUB1
variable {g : GX} {N : Nat} {F : Nat → GC} {m : Nat → Nat → Int}
theorem bA_goose (h : COMP F m) (hJ : JV m) {k a b c : Int} : CT g yA_goose 1 0 0 [gR 0, gI k, gI a, gI b, gI c] (N, F) (CB N F (gI (v_goose (m 0) k a b c)) (va_up m 0 (u_goose (m 0) k a b c))) := by
  have ho := h.1
  have hn := h.2.1.1
  have z1 := zout_or k 0 5
  have z2 := zout_or a 0 99
  have z3 := zout_or b 0 99
  have z4 := zout_or c 0 5
  have hw := hJ.zg.1
  have w0 := hw.1
  have bad : ¬ ((0 ≤ k ∧ k ≤ 5) ∧ (0 ≤ a ∧ a ≤ 99) ∧ (0 ≤ b ∧ b ≤ 99) ∧ (0 ≤ c ∧ c ≤ 5)) → Go g yA_goose 1 0 0 39 [gR 0, gI k, gI a, gI b, gI c] [] (N, F) (CB N F (gI (v_goose (m 0) k a b c)) (va_up m 0 (u_goose (m 0) k a b c))) := by
    intro hb
    refine go_ldc dA_goose_39 kcA65 (inR_of _ rfl) ?_
    refine go_iret dA_goose_41 rfl rfl ?_
    exact CB.up0 h (by unfold v_goose; rw [if_neg hb]) (by unfold u_goose; rw [if_neg (fun q => hb q.1)])
  refine CT.of' (L0 := [gR 0, gI k, gI a, gI b, gI c]) plA (Nat.le_of_ble_eq_true rfl) rfl ?_
  refine go_iload_n (i := 1) dA_goose_0 rfl rfl ?_
  refine go_iconst dA_goose_1 (inR_of _ rfl) ?_
  refine go_iconst dA_goose_2 (inR_of _ rfl) ?_
  refine go_SP dA_goose_3 vkA61 (ct_outside _ _ _) rfl (by omega) rfl (fun _ => Nat.le_of_ble_eq_true rfl) ?_
  refine go_if_ne 39 dA_goose_6 rfl (fun h6 => ?_) (fun h6 => ?_)
  · exact bad (by omega)
  · refine go_iload_n (i := 2) dA_goose_9 rfl rfl ?_
    refine go_iconst dA_goose_10 (inR_of _ rfl) ?_
    refine go_bipush dA_goose_11 (inR_of _ rfl) rfl ?_
    refine go_SP dA_goose_13 vkA61 (ct_outside _ _ _) rfl (by omega) rfl (fun _ => Nat.le_of_ble_eq_true rfl) ?_
    refine go_if_ne 39 dA_goose_16 rfl (fun h16 => ?_) (fun h16 => ?_)
    · exact bad (by omega)
    · refine go_iload_n (i := 3) dA_goose_19 rfl rfl ?_
      refine go_iconst dA_goose_20 (inR_of _ rfl) ?_
      refine go_bipush dA_goose_21 (inR_of _ rfl) rfl ?_
      refine go_SP dA_goose_23 vkA61 (ct_outside _ _ _) rfl (by omega) rfl (fun _ => Nat.le_of_ble_eq_true rfl) ?_
      refine go_if_ne 39 dA_goose_26 rfl (fun h26 => ?_) (fun h26 => ?_)
      · exact bad (by omega)
      · refine go_iload dA_goose_29 rfl ?_
        refine go_iconst dA_goose_31 (inR_of _ rfl) ?_
        refine go_iconst dA_goose_32 (inR_of _ rfl) ?_
        refine go_SP dA_goose_33 vkA61 (ct_outside _ _ _) rfl (by omega) rfl (fun _ => Nat.le_of_ble_eq_true rfl) ?_
        refine go_if_eq 42 dA_goose_36 rfl (fun h36 => ?_) (fun h36 => ?_)
        · have ok : (0 ≤ k ∧ k ≤ 5) ∧ (0 ≤ a ∧ a ≤ 99) ∧ (0 ≤ b ∧ b ≤ 99) ∧ (0 ≤ c ∧ c ≤ 5) := by omega
          refine go_aload_n (i := 0) dA_goose_42 rfl rfl trivial ?_
          refine go_getf dA_goose_43 flA10 (by assumption) rfl ?_
          refine go_iload_n (i := 1) dA_goose_46 rfl rfl ?_
          refine go_iload_n (i := 2) dA_goose_47 rfl rfl ?_
          refine go_iload_n (i := 3) dA_goose_48 rfl rfl ?_
          refine go_iload dA_goose_49 rfl ?_
          refine go_VX dA_goose_51 vkA66 (by assumption) (List.cons_ne_nil _ _) (qB_addGoose h.2.1 (by omega) hw) rfl (by omega) (by omega) (by omega) rfl (fun _ => Nat.le_of_ble_eq_true rfl) ?_
          rintro _ _ ⟨rfl, F2, rfl, hC, hF⟩ -
          dsimp only [rp]
          have ho : F2 0 = cO 0 (aFld m) := by rw [hF.at (by omega) (fun q => by have := q.1; omega)]; exact h.1
          have hn := hC.1
          by_cases c10 : m 0 0 = 10
          · rw [if_pos c10] at hC ⊢
            refine go_if_eq 69 dA_goose_54 rfl (fun h54 => ?_) (fun h54 => absurd (by omega) h54)
            refine go_ldc dA_goose_69 kcA73 (inR_of _ rfl) ?_
            refine go_iret dA_goose_71 rfl rfl ?_
            exact CB.now h hC hF (by unfold v_goose; rw [if_pos ok, if_pos c10]) (by unfold u_goose; rw [if_neg (fun q => q.2 c10)])
          · rw [if_neg c10] at hC hn ⊢
            refine go_if_eq 69 dA_goose_54 rfl (fun h54 => absurd h54 (by omega)) (fun h54 => ?_)
            refine go_aload_n (i := 0) dA_goose_57 rfl rfl trivial ?_
            refine go_getf dA_goose_58 flA10 (by assumption) rfl ?_
            refine go_getf dA_goose_61 flA70 (by assumption) rfl ?_
            rw [zadd_0]
            refine go_iconst dA_goose_64 (inR_of _ rfl) ?_
            refine go_isub dA_goose_65 ?_
            refine go_top (m 0 0) (by (try simp (discharger := (unfold inR; omega)) only [w32_id]) <;> omega) ?_
            refine go_goto 71 dA_goose_66 rfl ?_
            refine go_iret dA_goose_71 rfl rfl ?_
            exact CB.now h hC hF (by unfold v_goose; rw [if_pos ok, if_neg c10]) (by unfold u_goose; rw [if_pos ⟨ok, c10⟩])
        · exact bad (by omega)
theorem bA_told (h : COMP F m) (hJ : JV m) {i w : Int} : CT g yA_told 3 0 0 [gR 0, gI i, gI w] (N, F) (CB N F (gI (v_told (m 0) i w)) m) := by
  have ho := h.1
  have hn := h.2.1.1
  have hr := h.2.1.2.1
  have hZ := hJ.zg
  have w0 := hZ.1.1
  obtain ⟨hz1, hz⟩ := zmany_le hZ.1
  refine CT.of' (L0 := [gR 0, gI i, gI w, gU]) plA (Nat.le_of_ble_eq_true rfl) rfl ?_
  refine go_aload_n (i := 0) dA_told_0 rfl rfl trivial ?_
  refine go_getf dA_told_1 flA10 (by assumption) rfl ?_
  refine go_iload_n (i := 1) dA_told_4 rfl rfl ?_
  refine go_VP dA_told_5 vkA74 (by assumption) (List.cons_ne_nil _ _) (qB_hasGoose h.2.1) rfl (by omega) rfl (fun _ => Nat.le_of_ble_eq_true rfl) ?_
  by_cases c : 0 ≤ i ∧ i < m 0 0
  · rw [if_pos c]
    have hii : ((i.toNat : Nat) : Int) = i := by omega
    have hg := h.2.1.gs (i := i.toNat) (by omega) (by omega)
    rw [hii] at hg
    have hgo := hZ.1.goose c.1 c.2
    refine go_if_ne 14 dA_told_8 rfl (fun h8 => ?_) (fun h8 => absurd h8 (by omega))
    refine go_aload_n (i := 0) dA_told_14 rfl rfl trivial ?_
    refine go_getf dA_told_15 flA10 (by assumption) rfl ?_
    refine go_getf dA_told_18 flA78 (by assumption) rfl ?_
    refine go_iload_n (i := 1) dA_told_21 rfl rfl ?_
    refine go_aald' 1 "GooseCounty$Goose" (i.toNat) (1 + 6 + i.toNat) dA_told_22 (by assumption) rfl (by omega) (by omega) (gRow_at (by omega)) ?_
    refine go_as3 dA_told_23 (Nat.le_of_ble_eq_true rfl) trivial trivial ?_
    refine go_iload_n (i := 2) dA_told_24 rfl rfl ?_
    have done : ∀ x : Int, x = v_told (m 0) i w → CB N F (gI (v_told (m 0) i w)) m (gI x) (N, F) := fun x e => CB.same h e
    refine tabC dA_told_25 121 rfl (fun hq => ?_) (fun n h1 h2 => ?_)
    · refine go_ldc dA_told_121 kcA65 (inR_of _ rfl) ?_
      refine go_iret dA_told_123 rfl rfl ?_
      exact done _ (by unfold v_told; rw [if_pos c, if_neg (by omega), if_neg (by omega), if_neg (by omega), if_neg (by omega), if_neg (by omega)])
    · have tr : (n : Nat) < 5 → Go g yA_told 3 0 0 76 [gR 0, gI i, gI w, gR (1 + 6 + i.toNat)] [] (N, F) (CB N F (gI (v_told (m 0) i w)) m) := by
        intro hn5
        have ew : w = (n : Int) := by omega
        subst ew
        refine go_aload_n (i := 3) dA_told_76 rfl rfl trivial ?_
        refine go_iload_n (i := 2) dA_told_77 rfl rfl ?_
        refine go_VP dA_told_78 vkA82 (by assumption) (List.cons_ne_nil _ _) (qG_trait (f := fun v => zk (m 0) i v) hg hn5) rfl (by omega) rfl (fun _ => Nat.le_of_ble_eq_true rfl) ?_
        refine go_iret dA_told_81 rfl rfl ?_
        exact done _ (by unfold v_told; rw [if_pos c, if_pos (by omega)])
      match n, h1, tr with
      | 0, _, tr => exact ⟨_, rfl, 76, rfl, tr (by omega)⟩
      | 1, _, tr => exact ⟨_, rfl, 76, rfl, tr (by omega)⟩
      | 2, _, tr => exact ⟨_, rfl, 76, rfl, tr (by omega)⟩
      | 3, _, tr => exact ⟨_, rfl, 76, rfl, tr (by omega)⟩
      | 4, _, tr => exact ⟨_, rfl, 76, rfl, tr (by omega)⟩
      | 5, h1, _ =>
        refine ⟨_, rfl, 82, rfl, ?_⟩
        have hcr := zinY_in (m 0) (zk (m 0) i 3) (zmany (m 0))
        have sees := qB_sees (g := g) (N := N) h.2.1 (by omega) hZ (i := i.toNat) (by omega) (y := zk (m 0) i 3) (c := zinY (m 0) (zk (m 0) i 3) (zmany (m 0))) hgo.2.2.2.1 (by omega)
        refine go_aload_n (i := 0) dA_told_82 rfl rfl trivial ?_
        refine go_getf dA_told_83 flA10 (by assumption) rfl ?_
        refine go_aload_n (i := 3) dA_told_86 rfl rfl trivial ?_
        refine go_aload_n (i := 3) dA_told_87 rfl rfl trivial ?_
        refine go_getf dA_told_88 flA88 (by assumption) rfl ?_
        refine go_aload_n (i := 0) dA_told_91 rfl rfl trivial ?_
        refine go_getf dA_told_92 flA10 (by assumption) rfl ?_
        refine go_aload_n (i := 3) dA_told_95 rfl rfl trivial ?_
        refine go_getf dA_told_96 flA88 (by assumption) rfl ?_
        refine go_VP dA_told_99 vkA91 (by assumption) (List.cons_ne_nil _ _) (qB_crowd h.2.1 hZ.1) rfl (by omega) rfl (fun _ => Nat.le_of_ble_eq_true rfl) ?_
        refine go_VX dA_told_102 vkA94 (by assumption) (List.cons_ne_nil _ _) (sees) rfl (by omega) (by omega) (by omega) rfl (fun _ => Nat.le_of_ble_eq_true rfl) ?_
        rintro _ _ ⟨rfl, F2, rfl, hF2⟩ -
        dsimp only [rp]
        refine go_iret dA_told_105 rfl rfl ?_
        refine CB.fs h hF2 ?_
        rw [hii, zseeM_eq (zinY_one (i := i.toNat) (by omega) (by rw [hii]))]
        unfold v_told
        rw [if_pos c, if_neg (by omega), if_pos (by omega)]
        rfl
      | 6, h1, _ =>
        refine ⟨_, rfl, 106, rfl, ?_⟩
        refine go_aload_n (i := 3) dA_told_106 rfl rfl trivial ?_
        refine go_VP dA_told_107 vkA98 (by assumption) (List.cons_ne_nil _ _) (cG_wanders hg hgo.1) rfl (by omega) rfl (fun _ => Nat.le_of_ble_eq_true rfl) ?_
        refine go_iret dA_told_110 rfl rfl ?_
        exact done _ (by unfold v_told; rw [if_pos c, if_neg (by omega), if_neg (by omega), if_pos (by omega)])
      | 7, h1, _ =>
        refine ⟨_, rfl, 111, rfl, ?_⟩
        refine go_aload_n (i := 3) dA_told_111 rfl rfl trivial ?_
        refine go_VP dA_told_112 vkA102 (by assumption) (List.cons_ne_nil _ _) (cG_tallies hg hgo.1) rfl (by omega) rfl (fun _ => Nat.le_of_ble_eq_true rfl) ?_
        refine go_iret dA_told_115 rfl rfl ?_
        exact done _ (by unfold v_told; rw [if_pos c, if_neg (by omega), if_neg (by omega), if_neg (by omega), if_pos (by omega)])
      | 8, h1, _ =>
        refine ⟨_, rfl, 116, rfl, ?_⟩
        refine go_aload_n (i := 3) dA_told_116 rfl rfl trivial ?_
        refine go_VP dA_told_117 vkA105 (by assumption) (List.cons_ne_nil _ _) (cG_worth hg) rfl (by omega) rfl (fun _ => Nat.le_of_ble_eq_true rfl) ?_
        refine go_iret dA_told_120 rfl rfl ?_
        exact done _ (by unfold v_told; rw [if_pos c, if_neg (by omega), if_neg (by omega), if_neg (by omega), if_neg (by omega), if_pos (by omega)])
      | n + 9, h1, _ => omega
  · rw [if_neg c]
    refine go_if_ne 14 dA_told_8 rfl (fun h8 => absurd h8 (by omega)) (fun h8 => ?_)
    refine go_ldc dA_told_11 kcA65 (inR_of _ rfl) ?_
    refine go_iret dA_told_13 rfl rfl ?_
    exact CB.same h (by unfold v_told; rw [if_neg c])
theorem bA_as (h : COMP F m) (hJ : JV m) {i k : Int} : CT g yA_as 1 0 0 [gR 0, gI i, gI k] (N, F) (CB N F (gI (v_as (m 0) i k)) m) := by
  have ho := h.1
  have hn := h.2.1.1
  have hr := h.2.1.2.1
  have hZ := hJ.zg
  have w0 := hZ.1.1
  have z1 := zout_or k 0 5
  refine CT.of' (L0 := [gR 0, gI i, gI k]) plA (Nat.le_of_ble_eq_true rfl) rfl ?_
  refine go_aload_n (i := 0) dA_as_0 rfl rfl trivial ?_
  refine go_getf dA_as_1 flA10 (by assumption) rfl ?_
  refine go_iload_n (i := 1) dA_as_4 rfl rfl ?_
  refine go_VP dA_as_5 vkA74 (by assumption) (List.cons_ne_nil _ _) (qB_hasGoose h.2.1) rfl (by omega) rfl (fun _ => Nat.le_of_ble_eq_true rfl) ?_
  by_cases c : 0 ≤ i ∧ i < m 0 0
  · rw [if_pos c]
    have hii : ((i.toNat : Nat) : Int) = i := by omega
    have hg := h.2.1.gs (i := i.toNat) (by omega) (by omega)
    rw [hii] at hg
    have hgo := hZ.1.goose c.1 c.2
    refine go_if_eq 20 dA_as_8 rfl (fun h8 => absurd h8 (by omega)) (fun h8 => ?_)
    refine go_iload_n (i := 2) dA_as_11 rfl rfl ?_
    refine go_iconst dA_as_12 (inR_of _ rfl) ?_
    refine go_iconst dA_as_13 (inR_of _ rfl) ?_
    refine go_SP dA_as_14 vkA61 (ct_outside _ _ _) rfl (by omega) rfl (fun _ => Nat.le_of_ble_eq_true rfl) ?_
    refine go_if_eq 23 dA_as_17 rfl (fun h17 => ?_) (fun h17 => ?_)
    · refine go_aload_n (i := 0) dA_as_23 rfl rfl trivial ?_
      refine go_getf dA_as_24 flA10 (by assumption) rfl ?_
      refine go_getf dA_as_27 flA78 (by assumption) rfl ?_
      refine go_iload_n (i := 1) dA_as_30 rfl rfl ?_
      refine go_aald' 1 "GooseCounty$Goose" (i.toNat) (1 + 6 + i.toNat) dA_as_31 (by assumption) rfl (by omega) (by omega) (gRow_at (by omega)) ?_
      refine go_iload_n (i := 2) dA_as_32 rfl rfl ?_
      refine go_VP dA_as_33 vkA108 (by assumption) (List.cons_ne_nil _ _) (cG_isOf hg hgo.1 (by omega)) rfl (by omega) rfl (fun _ => Nat.le_of_ble_eq_true rfl) ?_
      refine go_if_eq 54 dA_as_36 rfl (fun h36 => ?_) (fun h36 => ?_)
      · refine go_ldc dA_as_54 kcA114 (inR_of _ rfl) ?_
        refine go_iret dA_as_56 rfl rfl ?_
        exact CB.same h (by unfold v_as; rw [if_pos (by omega), if_neg (by omega)])
      · refine go_aload_n (i := 0) dA_as_39 rfl rfl trivial ?_
        refine go_getf dA_as_40 flA10 (by assumption) rfl ?_
        refine go_getf dA_as_43 flA78 (by assumption) rfl ?_
        refine go_iload_n (i := 1) dA_as_46 rfl rfl ?_
        refine go_aald' 1 "GooseCounty$Goose" (i.toNat) (1 + 6 + i.toNat) dA_as_47 (by assumption) rfl (by omega) (by omega) (gRow_at (by omega)) ?_
        refine go_getf dA_as_48 flA111 (by assumption) rfl ?_
        refine go_goto 56 dA_as_51 rfl ?_
        refine go_iret dA_as_56 rfl rfl ?_
        have := zunder01 (zk (m 0) i 0) k
        exact CB.same h (by unfold v_as; rw [if_pos (by omega), if_pos (by omega)])
    · refine go_ldc dA_as_20 kcA65 (inR_of _ rfl) ?_
      refine go_iret dA_as_22 rfl rfl ?_
      exact CB.same h (by unfold v_as; rw [if_neg (by omega)])
  · rw [if_neg c]
    refine go_if_eq 20 dA_as_8 rfl (fun h8 => ?_) (fun h8 => absurd (by omega) h8)
    refine go_ldc dA_as_20 kcA65 (inR_of _ rfl) ?_
    refine go_iret dA_as_22 rfl rfl ?_
    exact CB.same h (by unfold v_as; rw [if_neg (fun q => c q.1)])
theorem qA_changeTrait (h : COMP F m) (hJ : JV m) {i v : Int} {w : Nat} (hw : w < 5) (c : Prop) [Decidable c] (hc : c ↔ ((0 ≤ i ∧ i < m 0 0) ∧ 0 ≤ v ∧ v ≤ (if (w : Int) = 0 ∨ (w : Int) = 3 then 5 else if (w : Int) = 4 then 9999 else 99))) : CT g yA_changeTrait 1 0 0 [gR 0, gI i, gI (w : Int), gI v] (N, F) (CB N F (gI (v_put (m 0) c (14 + 5 * i + w))) (va_up m 0 (u_put (m 0) c (14 + 5 * i + w) v))) := by
  have ho := h.1
  have hn := h.2.1.1
  have hr := h.2.1.2.1
  have w0 := hJ.zg.1.1
  generalize hmo : (if (w : Int) = 0 ∨ (w : Int) = 3 then (5 : Int) else if (w : Int) = 4 then 9999 else 99) = mo at hc
  have z1 := zout_or v 0 mo
  have bad : ¬ c → Go g yA_changeTrait 1 0 0 24 [gR 0, gI i, gI (w : Int), gI v, gU] [] (N, F) (CB N F (gI (v_put (m 0) c (14 + 5 * i + w))) (va_up m 0 (u_put (m 0) c (14 + 5 * i + w) v))) := by
    intro hb
    refine go_ldc dA_changeTrait_24 kcA65 (inR_of _ rfl) ?_
    refine go_iret dA_changeTrait_26 rfl rfl ?_
    exact CB.up0 h (by unfold v_put; rw [if_neg hb]) (by unfold u_put; rw [if_neg hb])
  refine CT.of' (L0 := [gR 0, gI i, gI (w : Int), gI v, gU]) plA (Nat.le_of_ble_eq_true rfl) rfl ?_
  refine go_aload_n (i := 0) dA_changeTrait_0 rfl rfl trivial ?_
  refine go_getf dA_changeTrait_1 flA10 (by assumption) rfl ?_
  refine go_iload_n (i := 1) dA_changeTrait_4 rfl rfl ?_
  refine go_VP dA_changeTrait_5 vkA74 (by assumption) (List.cons_ne_nil _ _) (qB_hasGoose h.2.1) rfl (by omega) rfl (fun _ => Nat.le_of_ble_eq_true rfl) ?_
  by_cases c1 : 0 ≤ i ∧ i < m 0 0
  · rw [if_pos c1]
    obtain ⟨f, hf, hfw⟩ := h.2.1.2.2.2.2.2.2 i.toNat (by omega)
    have hfw := hfw (by omega) w hw
    refine go_if_eq 24 dA_changeTrait_8 rfl (fun h8 => absurd h8 (by omega)) (fun h8 => ?_)
    refine go_iload_n (i := 3) dA_changeTrait_11 rfl rfl ?_
    refine go_iconst dA_changeTrait_12 (inR_of _ rfl) ?_
    refine go_gets (i := 3) (q := ("MOST_OF_TRAIT", [5, 99, 99, 5, 9999])) dA_changeTrait_13 flA119 rfl ?_
    refine go_iload_n (i := 2) dA_changeTrait_16 rfl rfl ?_
    refine go_stald' mo dA_changeTrait_17 rfl (by rw [← hmo]; exact tb_most (by omega)) ?_
    refine go_SP dA_changeTrait_18 vkA61 (ct_outside _ _ _) rfl (by omega) rfl (fun _ => Nat.le_of_ble_eq_true rfl) ?_
    refine go_if_eq 27 dA_changeTrait_21 rfl (fun h21 => ?_) (fun h21 => ?_)
    · have hcc : c := hc.mpr ⟨c1, by omega⟩
      refine go_aload_n (i := 0) dA_changeTrait_27 rfl rfl trivial ?_
      refine go_getf dA_changeTrait_28 flA10 (by assumption) rfl ?_
      refine go_getf dA_changeTrait_31 flA78 (by assumption) rfl ?_
      refine go_iload_n (i := 1) dA_changeTrait_34 rfl rfl ?_
      refine go_aald' 1 "GooseCounty$Goose" (i.toNat) (1 + 6 + i.toNat) dA_changeTrait_35 (by assumption) rfl (by omega) (by omega) (gRow_at (by omega)) ?_
      refine go_iload_n (i := 2) dA_changeTrait_36 rfl rfl ?_
      refine go_VP dA_changeTrait_37 vkA82 (by assumption) (List.cons_ne_nil _ _) (qG_trait hf hw) rfl (by omega) rfl (fun _ => Nat.le_of_ble_eq_true rfl) ?_
      refine go_is4 dA_changeTrait_40 (Nat.le_of_ble_eq_true rfl) trivial ?_
      refine go_aload_n (i := 0) dA_changeTrait_42 rfl rfl trivial ?_
      refine go_getf dA_changeTrait_43 flA10 (by assumption) rfl ?_
      refine go_getf dA_changeTrait_46 flA78 (by assumption) rfl ?_
      refine go_iload_n (i := 1) dA_changeTrait_49 rfl rfl ?_
      refine go_aald' 1 "GooseCounty$Goose" (i.toNat) (1 + 6 + i.toNat) dA_changeTrait_50 (by assumption) rfl (by omega) (by omega) (gRow_at (by omega)) ?_
      refine go_iload_n (i := 2) dA_changeTrait_51 rfl rfl ?_
      refine go_iload_n (i := 3) dA_changeTrait_52 rfl rfl ?_
      refine go_VX dA_changeTrait_53 vkA122 (by assumption) (List.cons_ne_nil _ _) (qG_change hf hw) rfl (by omega) (by omega) (by omega) rfl (fun _ => Nat.le_of_ble_eq_true rfl) ?_
      rintro _ _ ⟨rfl, rfl⟩ -
      dsimp only [rp]
      refine go_iload dA_changeTrait_56 rfl ?_
      refine go_iret dA_changeTrait_58 rfl rfl ?_
      have ei : (14 + 5 * i + (w : Int)).toNat = 14 + 5 * i.toNat + w := by omega
      refine CB.now h (h.2.1.goose (by omega) (by omega) hw hf) (FK.rf.put (by omega)) ?_ ?_
      · unfold v_put; rw [if_pos hcc, ei]; exact hfw
      · unfold u_put; rw [if_pos hcc, ei]
    · exact bad (fun q => by have := hc.mp q; omega)
  · rw [if_neg c1]
    refine go_if_eq 24 dA_changeTrait_8 rfl (fun h8 => ?_) (fun h8 => absurd (by omega) h8)
    exact bad (fun q => c1 (hc.mp q).1)
theorem bA_turns (h : COMP F m) (hJ : JV m) {i k : Int} : CT g yA_turns 2 0 0 [gR 0, gI i, gI k] (N, F) (CB N F (gI (v_put (m 0) ((0 ≤ i ∧ i < m 0 0) ∧ 0 ≤ k ∧ k ≤ 5) (14 + 5 * i))) (va_up m 0 (u_put (m 0) ((0 ≤ i ∧ i < m 0 0) ∧ 0 ≤ k ∧ k ≤ 5) (14 + 5 * i) k))) := by
  have ho := h.1
  have ct := qA_changeTrait (g := g) (N := N) h hJ (i := i) (v := k) (w := 0) (by omega) ((0 ≤ i ∧ i < m 0 0) ∧ 0 ≤ k ∧ k ≤ 5) (by simp)
  refine CT.of' (L0 := [gR 0, gI i, gI k]) plA (Nat.le_of_ble_eq_true rfl) rfl ?_
  refine go_aload_n (i := 0) dA_turns_0 rfl rfl trivial ?_
  refine go_iload_n (i := 1) dA_turns_1 rfl rfl ?_
  refine go_iconst dA_turns_2 (inR_of _ rfl) ?_
  refine go_iload_n (i := 2) dA_turns_3 rfl rfl ?_
  refine go_VX dA_turns_4 vkA115 (by assumption) (List.cons_ne_nil _ _) (ct) rfl (by omega) (by omega) (by omega) rfl (fun _ => Nat.le_of_ble_eq_true rfl) ?_
  rintro _ _ ⟨rfl, F2, rfl, hC, hF⟩ -
  dsimp only [rp]
  refine go_iret dA_turns_7 rfl rfl ?_
  rw [show 14 + 5 * i + ((0 : Nat) : Int) = 14 + 5 * i by omega] at hC ⊢
  exact ⟨rfl, F2, rfl, hC, hF⟩
theorem bA_set (h : COMP F m) (hJ : JV m) {i w v : Int} [Decidable (c_set (m 0) i w v)] : CT g yA_set 2 0 0 [gR 0, gI i, gI w, gI v] (N, F) (CB N F (gI (v_put (m 0) (c_set (m 0) i w v) (14 + 5 * i + w))) (va_up m 0 (u_put (m 0) (c_set (m 0) i w v) (14 + 5 * i + w) v))) := by
  have ho := h.1
  have z1 := zout_or w 1 4
  refine CT.of' (L0 := [gR 0, gI i, gI w, gI v]) plA (Nat.le_of_ble_eq_true rfl) rfl ?_
  refine go_iload_n (i := 2) dA_set_0 rfl rfl ?_
  refine go_iconst dA_set_1 (inR_of _ rfl) ?_
  refine go_iconst dA_set_2 (inR_of _ rfl) ?_
  refine go_SP dA_set_3 vkA61 (ct_outside _ _ _) rfl (by omega) rfl (fun _ => Nat.le_of_ble_eq_true rfl) ?_
  refine go_if_eq 14 dA_set_6 rfl (fun h6 => ?_) (fun h6 => ?_)
  · have ew : ((w.toNat : Nat) : Int) = w := by omega
    have ct := qA_changeTrait (g := g) (N := N) h hJ (i := i) (v := v) (w := w.toNat) (by omega) (c_set (m 0) i w v) (by
      rw [ew]
      unfold c_set
      constructor
      · rintro ⟨q1, q2, q3⟩; refine ⟨q1, q3.1, ?_⟩; have := q3.2; grind
      · rintro ⟨q1, q3⟩; refine ⟨q1, by omega, q3.1, ?_⟩; have := q3.2; grind)
    rw [ew] at ct
    refine go_aload_n (i := 0) dA_set_14 rfl rfl trivial ?_
    refine go_iload_n (i := 1) dA_set_15 rfl rfl ?_
    refine go_iload_n (i := 2) dA_set_16 rfl rfl ?_
    refine go_iload_n (i := 3) dA_set_17 rfl rfl ?_
    refine go_VX dA_set_18 vkA115 (by assumption) (List.cons_ne_nil _ _) (ct) rfl (by omega) (by omega) (by omega) rfl (fun _ => Nat.le_of_ble_eq_true rfl) ?_
    rintro _ _ ⟨rfl, F2, rfl, hC, hF⟩ -
    dsimp only [rp]
    refine go_iret dA_set_21 rfl rfl ?_
    exact ⟨rfl, F2, rfl, hC, hF⟩
  · have nb : ¬ c_set (m 0) i w v := fun q => by have := q.2.1; omega
    refine go_ldc dA_set_9 kcA65 (inR_of _ rfl) ?_
    refine go_goto 21 dA_set_11 rfl ?_
    refine go_iret dA_set_21 rfl rfl ?_
    exact CB.up0 h (by unfold v_put; rw [if_neg nb]) (by unfold u_put; rw [if_neg nb])
theorem bA_needs (h : COMP F m) {y v : Int} : CT g yA_needs 1 0 0 [gR 0, gI y, gI v] (N, F) (CB N F (gI (v_put (m 0) ((0 ≤ y ∧ y ≤ 5) ∧ 0 ≤ v ∧ v ≤ 99) (8 + y))) (va_up m 0 (u_put (m 0) ((0 ≤ y ∧ y ≤ 5) ∧ 0 ≤ v ∧ v ≤ 99) (8 + y) v))) := by
  have ho := h.1
  have hn := h.2.1.1
  have z1 := zout_or y 0 5
  have z2 := zout_or v 0 99
  have bad : ¬ ((0 ≤ y ∧ y ≤ 5) ∧ 0 ≤ v ∧ v ≤ 99) → Go g yA_needs 1 0 0 19 [gR 0, gI y, gI v, gU] [] (N, F) (CB N F (gI (v_put (m 0) ((0 ≤ y ∧ y ≤ 5) ∧ 0 ≤ v ∧ v ≤ 99) (8 + y))) (va_up m 0 (u_put (m 0) ((0 ≤ y ∧ y ≤ 5) ∧ 0 ≤ v ∧ v ≤ 99) (8 + y) v))) := by
    intro hb
    refine go_ldc dA_needs_19 kcA65 (inR_of _ rfl) ?_
    refine go_iret dA_needs_21 rfl rfl ?_
    exact CB.up0 h (by unfold v_put; rw [if_neg hb]) (by unfold u_put; rw [if_neg hb])
  refine CT.of' (L0 := [gR 0, gI y, gI v, gU]) plA (Nat.le_of_ble_eq_true rfl) rfl ?_
  refine go_iload_n (i := 1) dA_needs_0 rfl rfl ?_
  refine go_iconst dA_needs_1 (inR_of _ rfl) ?_
  refine go_iconst dA_needs_2 (inR_of _ rfl) ?_
  refine go_SP dA_needs_3 vkA61 (ct_outside _ _ _) rfl (by omega) rfl (fun _ => Nat.le_of_ble_eq_true rfl) ?_
  refine go_if_ne 19 dA_needs_6 rfl (fun h6 => ?_) (fun h6 => ?_)
  · exact bad (by omega)
  · refine go_iload_n (i := 2) dA_needs_9 rfl rfl ?_
    refine go_iconst dA_needs_10 (inR_of _ rfl) ?_
    refine go_bipush dA_needs_11 (inR_of _ rfl) rfl ?_
    refine go_SP dA_needs_13 vkA61 (ct_outside _ _ _) rfl (by omega) rfl (fun _ => Nat.le_of_ble_eq_true rfl) ?_
    refine go_if_eq 22 dA_needs_16 rfl (fun h16 => ?_) (fun h16 => ?_)
    · have ok : (0 ≤ y ∧ y ≤ 5) ∧ 0 ≤ v ∧ v ≤ 99 := by omega
      obtain ⟨f2, h2, e2⟩ := h.2.1.nd ok.1
      refine go_aload_n (i := 0) dA_needs_22 rfl rfl trivial ?_
      refine go_getf dA_needs_23 flA10 (by assumption) rfl ?_
      refine go_getf dA_needs_26 flA126 (by assumption) rfl ?_
      refine go_iload_n (i := 1) dA_needs_29 rfl rfl ?_
      refine go_iald' y.toNat _ dA_needs_30 h2 (by omega) (by omega) e2 ?_
      refine go_is3 dA_needs_31 (Nat.le_of_ble_eq_true rfl) trivial ?_
      refine go_aload_n (i := 0) dA_needs_32 rfl rfl trivial ?_
      refine go_getf dA_needs_33 flA10 (by assumption) rfl ?_
      refine go_getf dA_needs_36 flA126 (by assumption) rfl ?_
      refine go_iload_n (i := 1) dA_needs_39 rfl rfl ?_
      refine go_iload_n (i := 2) dA_needs_40 rfl rfl ?_
      refine go_iast' y.toNat dA_needs_41 h2 (by omega) (by omega) ?_
      refine go_iload_n (i := 3) dA_needs_42 rfl rfl ?_
      refine go_iret dA_needs_43 rfl rfl ?_
      refine CB.now h (h.2.1.need (by omega) (y := y.toNat) (by omega) h2) (FK.rf.put (by omega)) ?_ ?_
      · unfold v_put; rw [if_pos ok]
      · unfold u_put; rw [if_pos ok, show (8 + y).toNat = 8 + y.toNat by omega]
    · exact bad (by omega)
theorem bA_yardOf (h : COMP F m) (hJ : JV m) {y w : Int} : CT g yA_yardOf 5 0 0 [gR 0, gI y, gI w] (N, F) (CB N F (gI (v_yardOf (m 0) y w)) m) := by
  have ho := h.1
  have hn := h.2.1.1
  have hZ := hJ.zg
  have z1 := zout_or y 0 5
  obtain ⟨hz1, hz⟩ := zmany_le hZ.1
  refine CT.of' (L0 := [gR 0, gI y, gI w]) plA (Nat.le_of_ble_eq_true rfl) rfl ?_
  refine go_iload_n (i := 1) dA_yardOf_0 rfl rfl ?_
  refine go_iconst dA_yardOf_1 (inR_of _ rfl) ?_
  refine go_iconst dA_yardOf_2 (inR_of _ rfl) ?_
  refine go_SP dA_yardOf_3 vkA61 (ct_outside _ _ _) rfl (by omega) rfl (fun _ => Nat.le_of_ble_eq_true rfl) ?_
  refine go_if_eq 12 dA_yardOf_6 rfl (fun h6 => ?_) (fun h6 => ?_)
  · have hy : 0 ≤ y ∧ y ≤ 5 := by omega
    obtain ⟨f2, h2, e2⟩ := h.2.1.nd hy
    refine go_iload_n (i := 2) dA_yardOf_12 rfl rfl ?_
    refine tabC dA_yardOf_13 109 rfl (fun hq => ?_) (fun n h1 h2' => ?_)
    · refine go_ldc dA_yardOf_109 kcA65 (inR_of _ rfl) ?_
      refine go_iret dA_yardOf_111 rfl rfl ?_
      exact CB.same h (by unfold v_yardOf; rw [if_pos hy, if_neg (by omega), if_neg (by omega), if_neg (by omega), if_neg (by omega), if_neg (by omega)])
    · match n, h1 with
      | 0, h1 =>
        refine ⟨_, rfl, 48, rfl, ?_⟩
        refine go_aload_n (i := 0) dA_yardOf_48 rfl rfl trivial ?_
        refine go_getf dA_yardOf_49 flA10 (by assumption) rfl ?_
        refine go_getf dA_yardOf_52 flA126 (by assumption) rfl ?_
        refine go_iload_n (i := 1) dA_yardOf_55 rfl rfl ?_
        refine go_iald' y.toNat _ dA_yardOf_56 h2 (by omega) (by omega) e2 ?_
        refine go_iret dA_yardOf_57 rfl rfl ?_
        exact CB.same h (by unfold v_yardOf; rw [if_pos hy, if_pos (by omega)])
      | 1, h1 =>
        refine ⟨_, rfl, 58, rfl, ?_⟩
        refine go_aload_n (i := 0) dA_yardOf_58 rfl rfl trivial ?_
        refine go_getf dA_yardOf_59 flA10 (by assumption) rfl ?_
        refine go_aload_n (i := 0) dA_yardOf_62 rfl rfl trivial ?_
        refine go_getf dA_yardOf_63 flA10 (by assumption) rfl ?_
        refine go_iload_n (i := 1) dA_yardOf_66 rfl rfl ?_
        refine go_VX dA_yardOf_67 vkA129 (by assumption) (List.cons_ne_nil _ _) (qB_witnesses h.2.1 (by omega) hZ hy) rfl (by omega) (by omega) (by omega) rfl (fun _ => Nat.le_of_ble_eq_true rfl) ?_
        rintro _ _ ⟨rfl, F2, rfl, hF2⟩ -
        dsimp only [rp]
        have hC := h.2.1.fs hF2 (by omega)
        have hn := hC.1
        refine go_VP dA_yardOf_70 vkA132 (by assumption) (List.cons_ne_nil _ _) (qB_tallyOf hC hZ.1 (zmN_1024 _ hz1)) rfl (by omega) rfl (fun _ => Nat.le_of_ble_eq_true rfl) ?_
        rw [ztly_count]
        refine go_iret dA_yardOf_73 rfl rfl ?_
        exact CB.fs h hF2 (by unfold v_yardOf; rw [if_pos hy, if_neg (by omega), if_pos (by omega)])
      | 2, h1 =>
        refine ⟨_, rfl, 74, rfl, ?_⟩
        refine go_aload_n (i := 0) dA_yardOf_74 rfl rfl trivial ?_
        refine go_getf dA_yardOf_75 flA10 (by assumption) rfl ?_
        refine go_iload_n (i := 1) dA_yardOf_78 rfl rfl ?_
        refine go_VP dA_yardOf_79 vkA135 (by assumption) (List.cons_ne_nil _ _) (qB_geeseIn h.2.1 hZ.1) rfl (by omega) rfl (fun _ => Nat.le_of_ble_eq_true rfl) ?_
        refine go_iret dA_yardOf_82 rfl rfl ?_
        exact CB.same h (by unfold v_yardOf; rw [if_pos hy, if_neg (by omega), if_neg (by omega), if_pos (by omega)]; rfl)
      | 3, h1 =>
        refine ⟨_, rfl, 83, rfl, ?_⟩
        refine go_aload_n (i := 0) dA_yardOf_83 rfl rfl trivial ?_
        refine go_getf dA_yardOf_84 flA10 (by assumption) rfl ?_
        refine go_iload_n (i := 1) dA_yardOf_87 rfl rfl ?_
        refine go_VX dA_yardOf_88 vkA129 (by assumption) (List.cons_ne_nil _ _) (qB_witnesses h.2.1 (by omega) hZ hy) rfl (by omega) (by omega) (by omega) rfl (fun _ => Nat.le_of_ble_eq_true rfl) ?_
        rintro _ _ ⟨rfl, F2, rfl, hF2⟩ -
        dsimp only [rp]
        refine go_iret dA_yardOf_91 rfl rfl ?_
        exact CB.fs h hF2 (by unfold v_yardOf; rw [if_pos hy, if_neg (by omega), if_neg (by omega), if_neg (by omega), if_pos (by omega)])
      | 4, h1 =>
        refine ⟨_, rfl, 92, rfl, ?_⟩
        have z01 := zhold01 (m 0) y
        refine go_aload_n (i := 0) dA_yardOf_92 rfl rfl trivial ?_
        refine go_getf dA_yardOf_93 flA10 (by assumption) rfl ?_
        refine go_iload_n (i := 1) dA_yardOf_96 rfl rfl ?_
        refine go_VX dA_yardOf_97 vkA138 (by assumption) (List.cons_ne_nil _ _) (qB_wouldHold h.2.1 (by omega) hZ hy) rfl (by omega) (by omega) (by omega) rfl (fun _ => Nat.le_of_ble_eq_true rfl) ?_
        rintro _ _ ⟨rfl, F2, rfl, hF2⟩ -
        dsimp only [rp]
        have e : v_yardOf (m 0) y w = zhold (m 0) y := by unfold v_yardOf; rw [if_pos hy, if_neg (by omega), if_neg (by omega), if_neg (by omega), if_neg (by omega), if_pos (by omega)]
        refine go_if_eq 107 dA_yardOf_100 rfl (fun h100 => ?_) (fun h100 => ?_)
        · refine go_iconst dA_yardOf_107 (inR_of _ rfl) ?_
          refine go_iret dA_yardOf_108 rfl rfl ?_
          exact CB.fs h hF2 (by omega)
        · refine go_iconst dA_yardOf_103 (inR_of _ rfl) ?_
          refine go_goto 108 dA_yardOf_104 rfl ?_
          refine go_iret dA_yardOf_108 rfl rfl ?_
          exact CB.fs h hF2 (by omega)
      | n + 5, h1 => omega
  · refine go_ldc dA_yardOf_9 kcA65 (inR_of _ rfl) ?_
    refine go_iret dA_yardOf_11 rfl rfl ?_
    exact CB.same h (by unfold v_yardOf; rw [if_neg (by omega)])
theorem bA_rule (h : COMP F m) {w v : Int} : CT g yA_rule 1 0 0 [gR 0, gI w, gI v] (N, F) (CB N F (gI (v_put (m 0) ((0 ≤ w ∧ w ≤ 1) ∧ 0 ≤ v ∧ v ≤ 99 + w) (1 + w))) (va_up m 0 (u_put (m 0) ((0 ≤ w ∧ w ≤ 1) ∧ 0 ≤ v ∧ v ≤ 99 + w) (1 + w) v))) := by
  have ho := h.1
  have hn := h.2.1.1
  have z1 := zout_or v 0 99
  have z2 := zout_or v 0 100
  have at33 : (w = 0 → ¬ (0 ≤ v ∧ v ≤ 99)) → ∀ x3 : GV, Go g yA_rule 1 0 0 33 [gR 0, gI w, gI v, x3] [] (N, F) (CB N F (gI (v_put (m 0) ((0 ≤ w ∧ w ≤ 1) ∧ 0 ≤ v ∧ v ≤ 99 + w) (1 + w))) (va_up m 0 (u_put (m 0) ((0 ≤ w ∧ w ≤ 1) ∧ 0 ≤ v ∧ v ≤ 99 + w) (1 + w) v))) := by
    intro hb x3
    have bad : ¬ ((0 ≤ w ∧ w ≤ 1) ∧ 0 ≤ v ∧ v ≤ 99 + w) → Go g yA_rule 1 0 0 67 [gR 0, gI w, gI v, x3] [] (N, F) (CB N F (gI (v_put (m 0) ((0 ≤ w ∧ w ≤ 1) ∧ 0 ≤ v ∧ v ≤ 99 + w) (1 + w))) (va_up m 0 (u_put (m 0) ((0 ≤ w ∧ w ≤ 1) ∧ 0 ≤ v ∧ v ≤ 99 + w) (1 + w) v))) := by
      intro hb
      refine go_ldc dA_rule_67 kcA65 (inR_of _ rfl) ?_
      refine go_is3 dA_rule_69 (Nat.le_of_ble_eq_true rfl) trivial ?_
      refine go_iload_n (i := 3) dA_rule_70 rfl rfl ?_
      refine go_iret dA_rule_71 rfl rfl ?_
      exact CB.up0 h (by unfold v_put; rw [if_neg hb]) (by unfold u_put; rw [if_neg hb])
    refine go_iload_n (i := 1) dA_rule_33 rfl rfl ?_
    refine go_iconst dA_rule_34 (inR_of _ rfl) ?_
    refine go_ic_ne 67 dA_rule_35 rfl (fun h35 => ?_) (fun h35 => ?_)
    · exact bad (by omega)
    · refine go_iload_n (i := 2) dA_rule_38 rfl rfl ?_
      refine go_iconst dA_rule_39 (inR_of _ rfl) ?_
      refine go_bipush dA_rule_40 (inR_of _ rfl) rfl ?_
      refine go_SP dA_rule_42 vkA61 (ct_outside _ _ _) rfl (by omega) rfl (fun _ => Nat.le_of_ble_eq_true rfl) ?_
      refine go_if_ne 67 dA_rule_45 rfl (fun h45 => ?_) (fun h45 => ?_)
      · exact bad (by omega)
      · have ok : (0 ≤ w ∧ w ≤ 1) ∧ 0 ≤ v ∧ v ≤ 99 + w := by omega
        refine go_aload_n (i := 0) dA_rule_48 rfl rfl trivial ?_
        refine go_getf dA_rule_49 flA10 (by assumption) rfl ?_
        refine go_getf dA_rule_52 flA144 (by assumption) rfl ?_
        refine go_is3 dA_rule_55 (Nat.le_of_ble_eq_true rfl) trivial ?_
        refine go_aload_n (i := 0) dA_rule_56 rfl rfl trivial ?_
        refine go_getf dA_rule_57 flA10 (by assumption) rfl ?_
        refine go_iload_n (i := 2) dA_rule_60 rfl rfl ?_
        refine go_cpf h.2.1 (by omega) (k := 2) (by omega) dA_rule_61 flA144 (by omega) rfl (fun F1 h1 hF1 => ?_)
        refine go_goto 70 dA_rule_64 rfl ?_
        refine go_iload_n (i := 3) dA_rule_70 rfl rfl ?_
        refine go_iret dA_rule_71 rfl rfl ?_
        exact CB.now h h1 hF1 (by unfold v_put; rw [if_pos ok, show (1 + w).toNat = 2 by omega]) (by unfold u_put; rw [if_pos ok, show (1 + w).toNat = 2 by omega])
  refine CT.of' (L0 := [gR 0, gI w, gI v, gU]) plA (Nat.le_of_ble_eq_true rfl) rfl ?_
  refine go_iload_n (i := 1) dA_rule_0 rfl rfl ?_
  refine go_if_ne 33 dA_rule_1 rfl (fun h1 => ?_) (fun h1 => ?_)
  · exact at33 (by omega) _
  · refine go_iload_n (i := 2) dA_rule_4 rfl rfl ?_
    refine go_iconst dA_rule_5 (inR_of _ rfl) ?_
    refine go_bipush dA_rule_6 (inR_of _ rfl) rfl ?_
    refine go_SP dA_rule_8 vkA61 (ct_outside _ _ _) rfl (by omega) rfl (fun _ => Nat.le_of_ble_eq_true rfl) ?_
    refine go_if_ne 33 dA_rule_11 rfl (fun h11 => ?_) (fun h11 => ?_)
    · exact at33 (by omega) _
    · have ok : (0 ≤ w ∧ w ≤ 1) ∧ 0 ≤ v ∧ v ≤ 99 + w := by omega
      refine go_aload_n (i := 0) dA_rule_14 rfl rfl trivial ?_
      refine go_getf dA_rule_15 flA10 (by assumption) rfl ?_
      refine go_getf dA_rule_18 flA141 (by assumption) rfl ?_
      refine go_is3 dA_rule_21 (Nat.le_of_ble_eq_true rfl) trivial ?_
      refine go_aload_n (i := 0) dA_rule_22 rfl rfl trivial ?_
      refine go_getf dA_rule_23 flA10 (by assumption) rfl ?_
      refine go_iload_n (i := 2) dA_rule_26 rfl rfl ?_
      refine go_cpf h.2.1 (by omega) (k := 1) (by omega) dA_rule_27 flA141 (by omega) rfl (fun F1 h1 hF1 => ?_)
      refine go_goto 70 dA_rule_30 rfl ?_
      refine go_iload_n (i := 3) dA_rule_70 rfl rfl ?_
      refine go_iret dA_rule_71 rfl rfl ?_
      exact CB.now h h1 hF1 (by unfold v_put; rw [if_pos ok, show (1 + w).toNat = 1 by omega]) (by unfold u_put; rw [if_pos ok, show (1 + w).toNat = 1 by omega])
theorem bA_seed (h : COMP F m) {v : Int} : CT g yA_seed 0 0 0 [gR 0, gI v] (N, F) (CB N F (gI (m 0 7)) (va_up m 0 (va_up (m 0) 7 v))) := by
  have ho := h.1
  have hn := h.2.1.1
  refine CT.of' (L0 := [gR 0, gI v, gU]) plA (Nat.le_of_ble_eq_true rfl) rfl ?_
  refine go_aload_n (i := 0) dA_seed_0 rfl rfl trivial ?_
  refine go_getf dA_seed_1 flA10 (by assumption) rfl ?_
  refine go_getf dA_seed_4 flA156 (by assumption) rfl ?_
  refine go_is2 dA_seed_7 (Nat.le_of_ble_eq_true rfl) trivial ?_
  refine go_aload_n (i := 0) dA_seed_8 rfl rfl trivial ?_
  refine go_getf dA_seed_9 flA10 (by assumption) rfl ?_
  refine go_iload_n (i := 1) dA_seed_12 rfl rfl ?_
  refine go_cpf h.2.1 (by omega) (k := 7) (by omega) dA_seed_13 flA156 (by omega) rfl (fun F1 h1 hF1 => ?_)
  refine go_iload_n (i := 2) dA_seed_16 rfl rfl ?_
  refine go_iret dA_seed_17 rfl rfl ?_
  exact CB.now h h1 hF1 rfl rfl
theorem bA_strike (h : COMP F m) (hJ : JV m) {y : Int} : CT g yA_strike 5 0 0 [gR 0, gI y] (N, F) (CB N F (gI (if 0 ≤ y ∧ y ≤ 5 then zhold (m 0) y else BAD)) (va_up m 0 (if 0 ≤ y ∧ y ≤ 5 then zbarg (m 0) y else m 0))) := by
  have ho := h.1
  have hn := h.2.1.1
  have z1 := zout_or y 0 5
  refine CT.of' (L0 := [gR 0, gI y]) plA (Nat.le_of_ble_eq_true rfl) rfl ?_
  refine go_iload_n (i := 1) dA_strike_0 rfl rfl ?_
  refine go_iconst dA_strike_1 (inR_of _ rfl) ?_
  refine go_iconst dA_strike_2 (inR_of _ rfl) ?_
  refine go_SP dA_strike_3 vkA61 (ct_outside _ _ _) rfl (by omega) rfl (fun _ => Nat.le_of_ble_eq_true rfl) ?_
  refine go_if_eq 14 dA_strike_6 rfl (fun h6 => ?_) (fun h6 => ?_)
  · have hy : 0 ≤ y ∧ y ≤ 5 := by omega
    refine go_aload_n (i := 0) dA_strike_14 rfl rfl trivial ?_
    refine go_getf dA_strike_15 flA10 (by assumption) rfl ?_
    refine go_iload_n (i := 1) dA_strike_18 rfl rfl ?_
    refine go_VX dA_strike_19 vkA168 (by assumption) (List.cons_ne_nil _ _) (qB_bargain h.2.1 (by omega) hJ.zg hy) rfl (by omega) (by omega) (by omega) rfl (fun _ => Nat.le_of_ble_eq_true rfl) ?_
    rintro _ _ ⟨rfl, F2, rfl, hC, hF⟩ -
    dsimp only [rp]
    refine go_iret dA_strike_22 rfl rfl ?_
    exact CB.now h hC hF (by rw [if_pos hy]) (by rw [if_pos hy])
  · refine go_ldc dA_strike_9 kcA65 (inR_of _ rfl) ?_
    refine go_goto 22 dA_strike_11 rfl ?_
    refine go_iret dA_strike_22 rfl rfl ?_
    exact CB.up0 h (by rw [if_neg (by omega)]) (by rw [if_neg (by omega)])
theorem bA_days (h : COMP F m) (hJ : JV m) {n : Int} : CT g yA_days 6 0 0 [gR 0, gI n] (N, F) (CB N F (gI (v_days (m 0) n)) (va_up m 0 (u_days (m 0) n))) := by
  have ho := h.1
  have hn := h.2.1.1
  have z1 := zout_or n 1 100
  have w6 := hJ.zg.1.2.2.1
  have hd := hJ.1.1.2.2
  refine CT.of' (L0 := [gR 0, gI n, gU]) plA (Nat.le_of_ble_eq_true rfl) rfl ?_
  refine go_iload_n (i := 1) dA_days_0 rfl rfl ?_
  refine go_iconst dA_days_1 (inR_of _ rfl) ?_
  refine go_bipush dA_days_2 (inR_of _ rfl) rfl ?_
  refine go_SP dA_days_4 vkA61 (ct_outside _ _ _) rfl (by omega) rfl (fun _ => Nat.le_of_ble_eq_true rfl) ?_
  refine go_if_eq 13 dA_days_7 rfl (fun h7 => ?_) (fun h7 => ?_)
  · have hy : 1 ≤ n ∧ n ≤ 100 := by omega
    have hl : (z_left (m 0) n : Int) = iMin n (9999 - m 0 6) := by
      unfold z_left iMin
      repeat' split
      all_goals omega
    have hl2 : m 0 6 + (z_left (m 0) n : Nat) ≤ 9999 ∧ (z_left (m 0) n : Nat) ≤ 100 := by
      unfold z_left
      split <;> omega
    have h3 := (zdays_W hJ.zg.1 (z_left (m 0) n) (by omega)).1.2.1
    have h30 := hJ.zg.1.2.1
    refine go_aload_n (i := 0) dA_days_13 rfl rfl trivial ?_
    refine go_getf dA_days_14 flA10 (by assumption) rfl ?_
    refine go_getf dA_days_17 flA171 (by assumption) rfl ?_
    refine go_is2 dA_days_20 (Nat.le_of_ble_eq_true rfl) trivial ?_
    refine go_aload_n (i := 0) dA_days_21 rfl rfl trivial ?_
    refine go_getf dA_days_22 flA10 (by assumption) rfl ?_
    refine go_iload_n (i := 1) dA_days_25 rfl rfl ?_
    refine go_sipush dA_days_26 (inR_of _ rfl) rfl ?_
    refine go_aload_n (i := 0) dA_days_29 rfl rfl trivial ?_
    refine go_getf dA_days_30 flA10 (by assumption) rfl ?_
    refine go_getf dA_days_33 flA174 (by assumption) rfl ?_
    refine go_isub dA_days_36 ?_
    refine go_top (9999 - m 0 6) (by (try simp (discharger := (unfold inR; omega)) only [w32_id]) <;> omega) ?_
    refine go_mmin dA_days_37 vkA147 (fun _ => Nat.le_of_ble_eq_true rfl) (by omega) ?_
    rw [← hl]
    refine go_VX dA_days_40 vkA177 (by assumption) (List.cons_ne_nil _ _) (qB_pass h.2.1 (by omega) hJ.zg (n := z_left (m 0) n) (by omega) (by omega)) rfl (by omega) (by omega) (by omega) rfl (fun _ => Nat.le_of_ble_eq_true rfl) ?_
    rintro _ _ ⟨rfl, F2, rfl, hC, hF⟩ -
    dsimp only [rp]
    have ho : F2 0 = cO 0 (aFld m) := by rw [hF.at (by omega) (fun q => by have := q.1; omega)]; exact h.1
    have hn := hC.1
    refine go_aload_n (i := 0) dA_days_43 rfl rfl trivial ?_
    refine go_getf dA_days_44 flA10 (by assumption) rfl ?_
    refine go_getf dA_days_47 flA171 (by assumption) rfl ?_
    refine go_iload_n (i := 2) dA_days_50 rfl rfl ?_
    refine go_isub dA_days_51 ?_
    refine go_top (zdays (m 0) (z_left (m 0) n) 3 - m 0 3) (by (try simp (discharger := (unfold inR; omega)) only [w32_id]) <;> omega) ?_
    refine go_iret dA_days_52 rfl rfl ?_
    exact CB.now h hC hF (by unfold v_days; rw [if_pos hy]) (by unfold u_days; rw [if_pos hy])
  · refine go_ldc dA_days_10 kcA65 (inR_of _ rfl) ?_
    refine go_iret dA_days_12 rfl rfl ?_
    exact CB.up0 h (by unfold v_days; rw [if_neg (by omega)]) (by unfold u_days; rw [if_neg (by omega)])
theorem bA_deal (h : COMP F m) (hJ : JV m) {n : Int} : CT g yA_deal 2 0 0 [gR 0, gI n] (N, F) (CB N F (gI (v_deal (m 0) n)) (va_up m 0 (u_deal (m 0) n))) := by
  have ho := h.1
  have hn := h.2.1.1
  have z1 := zout_or n 1 10
  have w0 := hJ.zg.1.1
  have loop : (1 ≤ n ∧ n ≤ 10) → ∀ (k j : Nat), j + k = zdealt (m 0) n → ∀ F1 : Nat → GC, CTY F1 1 (zdeal (m 0) j) → FK (inC 1) F F1 → Go g yA_deal 2 0 0 30 [gR 0, gI n, gI ((zdealt (m 0) n : Nat) : Int), gI (j : Int)] [] (N, F1) (CB N F (gI (v_deal (m 0) n)) (va_up m 0 (u_deal (m 0) n))) := by
    intro hy k
    have hzd : zdealt (m 0) n = min n.toNat (10 - (m 0 0).toNat) := rfl
    induction k with
    | zero =>
      intro j hj F1 hC hF
      refine go_iload_n (i := 3) dA_deal_30 rfl rfl ?_
      refine go_iload_n (i := 2) dA_deal_31 rfl rfl ?_
      refine go_ic_ge 48 dA_deal_32 rfl (fun h32 => ?_) (fun h32 => absurd (by omega) h32)
      refine go_iload_n (i := 2) dA_deal_48 rfl rfl ?_
      refine go_iret dA_deal_49 rfl rfl ?_
      exact CB.now h hC hF (by unfold v_deal; rw [if_pos hy]) (by unfold u_deal; rw [if_pos hy, show j = zdealt (m 0) n by omega])
    | succ k ih =>
      intro j hj F1 hC hF
      have ho : F1 0 = cO 0 (aFld m) := by rw [hF.at (by omega) (fun q => by have := q.1; omega)]; exact h.1
      have hn := hC.1
      obtain ⟨wj, j0, -, -⟩ := zdeal_W hJ.zg.1 j (by omega)
      refine go_iload_n (i := 3) dA_deal_30 rfl rfl ?_
      refine go_iload_n (i := 2) dA_deal_31 rfl rfl ?_
      refine go_ic_ge 48 dA_deal_32 rfl (fun h32 => absurd h32 (by omega)) (fun h32 => ?_)
      refine go_aload_n (i := 0) dA_deal_35 rfl rfl trivial ?_
      refine go_getf dA_deal_36 flA10 (by assumption) rfl ?_
      refine go_VX dA_deal_39 vkA153 (by assumption) (List.cons_ne_nil _ _) (qB_drawGoose hC (by omega) wj (by omega)) rfl (by omega) (by omega) (by omega) rfl (fun _ => Nat.le_of_ble_eq_true rfl) ?_
      rintro _ _ ⟨rfl, F2, rfl, hC2, hF2⟩ -
      dsimp only [rp]
      refine go_inc3 (((j + 1 : Nat) : Int)) dA_deal_42 (Nat.le_of_ble_eq_true rfl) trivial (by (try simp (discharger := (unfold inR; omega)) only [w32_id]) <;> omega) ?_
      refine go_goto 30 dA_deal_45 rfl ?_
      exact ih (j + 1) (by omega) F2 hC2 (hF.tr hF2)
  refine CT.of' (L0 := [gR 0, gI n, gU, gU]) plA (Nat.le_of_ble_eq_true rfl) rfl ?_
  refine go_iload_n (i := 1) dA_deal_0 rfl rfl ?_
  refine go_iconst dA_deal_1 (inR_of _ rfl) ?_
  refine go_bipush dA_deal_2 (inR_of _ rfl) rfl ?_
  refine go_SP dA_deal_4 vkA61 (ct_outside _ _ _) rfl (by omega) rfl (fun _ => Nat.le_of_ble_eq_true rfl) ?_
  refine go_if_eq 13 dA_deal_7 rfl (fun h7 => ?_) (fun h7 => ?_)
  · have hy : 1 ≤ n ∧ n ≤ 10 := by omega
    have hl : (zdealt (m 0) n : Int) = iMin n (10 - m 0 0) := by
      unfold zdealt iMin
      split <;> omega
    refine go_iload_n (i := 1) dA_deal_13 rfl rfl ?_
    refine go_bipush dA_deal_14 (inR_of _ rfl) rfl ?_
    refine go_aload_n (i := 0) dA_deal_16 rfl rfl trivial ?_
    refine go_getf dA_deal_17 flA10 (by assumption) rfl ?_
    refine go_getf dA_deal_20 flA70 (by assumption) rfl ?_
    refine go_isub dA_deal_23 ?_
    refine go_top (10 - m 0 0) (by (try simp (discharger := (unfold inR; omega)) only [w32_id]) <;> omega) ?_
    refine go_mmin dA_deal_24 vkA147 (fun _ => Nat.le_of_ble_eq_true rfl) (by omega) ?_
    rw [← hl]
    refine go_is2 dA_deal_27 (Nat.le_of_ble_eq_true rfl) trivial ?_
    refine go_iconst dA_deal_28 (inR_of _ rfl) ?_
    refine go_is3 dA_deal_29 (Nat.le_of_ble_eq_true rfl) trivial ?_
    exact loop hy (zdealt (m 0) n) 0 (by omega) F h.2.1 FK.rf
  · refine go_ldc dA_deal_10 kcA65 (inR_of _ rfl) ?_
    refine go_iret dA_deal_12 rfl rfl ?_
    exact CB.up0 h (by unfold v_deal; rw [if_neg (by omega)]) (by unfold u_deal; rw [if_neg (by omega)])
/-- what county and behind tell alike -/
theorem qA_figure {b : Nat} {s : Nat → Int} (h : CTY F b s) (h103 : b + 16 ≤ 103) (hZ : ZG s) {w : Int} : CT g yA_figure 6 0 0 [gR b, gI w] (N, F) (CS N F (gI (if 0 ≤ w ∧ w ≤ 2 then s (3 + w).toNat else if w = 3 then ((zmN (fun y : Nat => zhold s y) 6 : Nat) : Int) else if w = 4 then zsum (fun i => zk s i 2) (zmany s) else BAD))) := by
  have ho := h.1
  refine CT.of' (L0 := [gR b, gI w]) plA (Nat.le_of_ble_eq_true rfl) rfl ?_
  refine go_iload_n (i := 1) dA_figure_0 rfl rfl ?_
  refine tabC dA_figure_1 61 rfl (fun hq => ?_) (fun n h1 h2 => ?_)
  · refine go_ldc dA_figure_61 kcA65 (inR_of _ rfl) ?_
    refine go_iret dA_figure_63 rfl rfl ?_
    rw [if_neg (by omega), if_neg (by omega), if_neg (by omega)]
    exact ⟨rfl, F, rfl, FK.rf⟩
  · match n, h1 with
    | 0, h1 =>
      refine ⟨_, rfl, 36, rfl, ?_⟩
      refine go_aload_n (i := 0) dA_figure_36 rfl rfl trivial ?_
      refine go_getf dA_figure_37 flA171 (by assumption) rfl ?_
      refine go_iret dA_figure_40 rfl rfl ?_
      rw [if_pos (by omega), show (3 + w).toNat = 3 by omega]
      exact ⟨rfl, F, rfl, FK.rf⟩
    | 1, h1 =>
      refine ⟨_, rfl, 41, rfl, ?_⟩
      refine go_aload_n (i := 0) dA_figure_41 rfl rfl trivial ?_
      refine go_getf dA_figure_42 flA191 (by assumption) rfl ?_
      refine go_iret dA_figure_45 rfl rfl ?_
      rw [if_pos (by omega), show (3 + w).toNat = 4 by omega]
      exact ⟨rfl, F, rfl, FK.rf⟩
    | 2, h1 =>
      refine ⟨_, rfl, 46, rfl, ?_⟩
      refine go_aload_n (i := 0) dA_figure_46 rfl rfl trivial ?_
      refine go_getf dA_figure_47 flA194 (by assumption) rfl ?_
      refine go_iret dA_figure_50 rfl rfl ?_
      rw [if_pos (by omega), show (3 + w).toNat = 5 by omega]
      exact ⟨rfl, F, rfl, FK.rf⟩
    | 3, h1 =>
      refine ⟨_, rfl, 51, rfl, ?_⟩
      refine go_aload_n (i := 0) dA_figure_51 rfl rfl trivial ?_
      refine go_VX dA_figure_52 vkA197 (by assumption) (List.cons_ne_nil _ _) (qB_yardsThatHold h h103 hZ) rfl (by omega) (by omega) (by omega) rfl (fun _ => Nat.le_of_ble_eq_true rfl) ?_
      rintro _ _ ⟨rfl, F2, rfl, hF2⟩ -
      dsimp only [rp]
      refine go_iret dA_figure_55 rfl rfl ?_
      rw [if_neg (by omega), if_pos (by omega)]
      exact ⟨rfl, F2, rfl, hF2⟩
    | 4, h1 =>
      refine ⟨_, rfl, 56, rfl, ?_⟩
      refine go_aload_n (i := 0) dA_figure_56 rfl rfl trivial ?_
      refine go_VP dA_figure_57 vkA200 (by assumption) (List.cons_ne_nil _ _) (qB_ageTogether h hZ.1) rfl (by omega) rfl (fun _ => Nat.le_of_ble_eq_true rfl) ?_
      refine go_iret dA_figure_60 rfl rfl ?_
      rw [if_neg (by omega), if_neg (by omega), if_pos (by omega)]
      exact ⟨rfl, F, rfl, FK.rf⟩
    | n + 5, h1 => omega
theorem bA_county (h : COMP F m) (hJ : JV m) {w : Int} : CT g yA_county 7 0 0 [gR 0, gI w] (N, F) (CB N F (gI (v_county (m 0) w)) m) := by
  have ho := h.1
  have hn := h.2.1.1
  refine CT.of' (L0 := [gR 0, gI w]) plA (Nat.le_of_ble_eq_true rfl) rfl ?_
  refine go_iload_n (i := 1) dA_county_0 rfl rfl ?_
  refine lookC dA_county_1 rfl (fun off hoff => ?_)
  simp only [Op.lookupswitch.offset_cons] at hoff
  by_cases e1 : 5 = w
  · rw [if_pos e1] at hoff
    subst hoff
    refine ⟨28, rfl, ?_⟩
    refine go_aload_n (i := 0) dA_county_28 rfl rfl trivial ?_
    refine go_getf dA_county_29 flA10 (by assumption) rfl ?_
    refine go_VP dA_county_32 vkA181 (by assumption) (List.cons_ne_nil _ _) (qB_sawTogether h.2.1 hJ.zg.1) rfl (by omega) rfl (fun _ => Nat.le_of_ble_eq_true rfl) ?_
    refine go_iret dA_county_35 rfl rfl ?_
    exact CB.same h (by unfold v_county; rw [if_neg (by omega), if_neg (by omega), if_neg (by omega), if_pos (by omega)])
  · rw [if_neg e1] at hoff
    by_cases e2 : 6 = w
    · rw [if_pos e2] at hoff
      subst hoff
      refine ⟨36, rfl, ?_⟩
      refine go_aload_n (i := 0) dA_county_36 rfl rfl trivial ?_
      refine go_getf dA_county_37 flA10 (by assumption) rfl ?_
      refine go_VP dA_county_40 vkA184 (by assumption) (List.cons_ne_nil _ _) (qB_eldest h.2.1 hJ.zg.1) rfl (by omega) rfl (fun _ => Nat.le_of_ble_eq_true rfl) ?_
      refine go_iret dA_county_43 rfl rfl ?_
      exact CB.same h (by subst e2; simp [v_county])
    · rw [if_neg e2] at hoff
      subst hoff
      refine ⟨44, rfl, ?_⟩
      refine go_aload_n (i := 0) dA_county_44 rfl rfl trivial ?_
      refine go_getf dA_county_45 flA10 (by assumption) rfl ?_
      refine go_iload_n (i := 1) dA_county_48 rfl rfl ?_
      refine go_SX dA_county_49 vkA187 (qA_figure h.2.1 (by omega) hJ.zg) rfl (by omega) (by omega) (by omega) rfl (fun _ => Nat.le_of_ble_eq_true rfl) ?_
      rintro _ _ ⟨rfl, F2, rfl, hF2⟩ -
      dsimp only [rp]
      refine go_iret dA_county_52 rfl rfl ?_
      refine CB.fs h hF2 ?_
      unfold v_county
      by_cases q1 : 0 ≤ w ∧ w ≤ 2
      · rw [if_pos q1, if_pos q1]
      · rw [if_neg q1, if_neg q1]
        by_cases q2 : w = 3
        · rw [if_pos q2, if_pos q2]
        · rw [if_neg q2, if_neg q2]
          by_cases q3 : w = 4
          · rw [if_pos q3, if_pos q3]
          · rw [if_neg q3, if_neg q3, if_neg (by omega), if_neg (by omega)]
theorem bA_count (h : COMP F m) {w : Int} : CT g yA_count 0 0 0 [gR 0, gI w] (N, F) (CB N F (gI (v_count m w)) m) := by
  have ho := h.1
  have hn := h.2.1.1
  obtain ⟨x3, x4, x5, x6, x7, x8, hr⟩ := h.2.2.2.2.1.1
  refine CT.of' (L0 := [gR 0, gI w]) plA (Nat.le_of_ble_eq_true rfl) rfl ?_
  refine go_iload_n (i := 1) dA_count_0 rfl rfl ?_
  refine tabC dA_count_1 109 rfl (fun hq => ?_) (fun n h1 h2 => ?_)
  · refine go_ldc dA_count_109 kcA65 (inR_of _ rfl) ?_
    refine go_iret dA_count_111 rfl rfl ?_
    exact CB.same h (by unfold v_count; grind)
  · match n, h1 with
    | 0, h1 =>
      refine ⟨_, rfl, 48, rfl, ?_⟩
      refine go_aload_n (i := 0) dA_count_48 rfl rfl trivial ?_
      refine go_getf dA_count_49 flA10 (by assumption) rfl ?_
      refine go_getf dA_count_52 flA70 (by assumption) rfl ?_
      refine go_iret dA_count_55 rfl rfl ?_
      exact CB.same h (by unfold v_count; rw [if_pos (by omega)])
    | 1, h1 =>
      refine ⟨_, rfl, 56, rfl, ?_⟩
      refine go_aload_n (i := 0) dA_count_56 rfl rfl trivial ?_
      refine go_getf dA_count_57 flA10 (by assumption) rfl ?_
      refine go_getf dA_count_60 flA174 (by assumption) rfl ?_
      refine go_iret dA_count_63 rfl rfl ?_
      exact CB.same h (by unfold v_count; rw [if_neg (by omega), if_pos (by omega)])
    | 2, h1 =>
      refine ⟨_, rfl, 64, rfl, ?_⟩
      refine go_aload_n (i := 0) dA_count_64 rfl rfl trivial ?_
      refine go_getf dA_count_65 flA10 (by assumption) rfl ?_
      refine go_getf dA_count_68 flA141 (by assumption) rfl ?_
      refine go_iret dA_count_71 rfl rfl ?_
      exact CB.same h (by unfold v_count; rw [if_neg (by omega), if_neg (by omega), if_pos (by omega)])
    | 3, h1 =>
      refine ⟨_, rfl, 72, rfl, ?_⟩
      refine go_aload_n (i := 0) dA_count_72 rfl rfl trivial ?_
      refine go_getf dA_count_73 flA10 (by assumption) rfl ?_
      refine go_getf dA_count_76 flA144 (by assumption) rfl ?_
      refine go_iret dA_count_79 rfl rfl ?_
      exact CB.same h (by unfold v_count; rw [if_neg (by omega), if_neg (by omega), if_neg (by omega), if_pos (by omega)])
    | 4, h1 =>
      refine ⟨_, rfl, 80, rfl, ?_⟩
      refine go_aload_n (i := 0) dA_count_80 rfl rfl trivial ?_
      refine go_getf dA_count_81 flA10 (by assumption) rfl ?_
      refine go_getf dA_count_84 flA270 (by assumption) rfl ?_
      refine go_iret dA_count_87 rfl rfl ?_
      exact CB.same h (by unfold v_count; rw [if_neg (by omega), if_neg (by omega), if_neg (by omega), if_neg (by omega), if_pos (by omega)])
    | 5, h1 =>
      refine ⟨_, rfl, 88, rfl, ?_⟩
      refine go_aload_n (i := 0) dA_count_88 rfl rfl trivial ?_
      refine go_getf dA_count_89 flA51 (by assumption) rfl ?_
      refine go_iret dA_count_92 rfl rfl ?_
      exact CB.same h (by unfold v_count; rw [if_neg (by omega), if_neg (by omega), if_neg (by omega), if_neg (by omega), if_neg (by omega), if_pos (by omega)])
    | 6, h1 =>
      refine ⟨_, rfl, 93, rfl, ?_⟩
      refine go_aload_n (i := 0) dA_count_93 rfl rfl trivial ?_
      refine go_getf dA_count_94 flA25 (by assumption) rfl ?_
      refine go_getf dA_count_97 flA258 (by assumption) rfl ?_
      refine go_iret dA_count_100 rfl rfl ?_
      exact CB.same h (by unfold v_count; rw [if_neg (by omega), if_neg (by omega), if_neg (by omega), if_neg (by omega), if_neg (by omega), if_neg (by omega), if_pos (by omega)])
    | 7, h1 =>
      refine ⟨_, rfl, 101, rfl, ?_⟩
      refine go_aload_n (i := 0) dA_count_101 rfl rfl trivial ?_
      refine go_getf dA_count_102 flA10 (by assumption) rfl ?_
      refine go_getf dA_count_105 flA156 (by assumption) rfl ?_
      refine go_iret dA_count_108 rfl rfl ?_
      exact CB.same h (by unfold v_count; rw [if_neg (by omega), if_neg (by omega), if_neg (by omega), if_neg (by omega), if_neg (by omega), if_neg (by omega), if_neg (by omega), if_pos (by omega)])
    | n + 8, h1 => omega
end CPUB1
