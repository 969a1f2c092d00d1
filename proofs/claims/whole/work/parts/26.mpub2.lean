section MPUB2
variable {g : GX} {N r : Nat} {F : Nat → GC} {m : Nat → Nat → Int}
theorem MB.same (hM : MOD F r m) {v v' : Int} (h : v' = v) : MB N r F (gI v) m (gI v') (N, F) := ⟨by rw [h], F, m, rfl, hM, FR.rf, EQ.rf⟩
theorem MB.st {F2 : Nat → GC} {m2 : Nat → Nat → Int} (h : ST r F m F2 m2) {v v' : Int} (e : v' = v) : MB N r F (gI v) m (gI v') (N, F2) := ⟨by rw [e], F2, m2, rfl, h.1, h.2.1, EQ.sb0 h.2.2.1 h.2.2.2 (by simp)⟩
def v_told (s : Nat → Int) (i w : Int) : Int := if 0 ≤ i ∧ i < s 0 then (if 0 ≤ w ∧ w ≤ 4 then zk s i w else if w = 5 then zsees s i else if w = 6 then zwan (zk s i 0) else if w = 7 then ztal (zk s i 0) else if w = 8 then zworth (zk s i 0) (zk s i 1) (zk s i 2) (zk s i 4) else BAD) else BAD
theorem bM_told (hM : MOD F r m) (hw : zW (m 0)) (hT : zT (m 0)) {i w : Int} : CT g yM_told 5 0 0 [gR r, gI i, gI w] (N, F) (MB N r F (gI (v_told (m 0) i w)) m) := by
  have ho := hM.1
  have hn0 := hw.1.1
  have hn1 := hw.1.2.1
  refine CT.of' (L0 := [gR r, gI i, gI w]) plM (Nat.le_of_ble_eq_true rfl) rfl ?_
  refine go_aload_n (i := 0) dM_told_0 rfl rfl trivial ?_
  refine go_iload_n (i := 1) dM_told_1 rfl rfl ?_
  refine go_VP dM_told_2 vkM92 (by assumption) (List.cons_ne_nil _ _) (qM_isGoose hM _ hn0 hn1) rfl (by omega) rfl (fun _ => Nat.le_of_ble_eq_true rfl) ?_
  refine go_if_ne 11 dM_told_5 rfl (fun h5 => ?_) (fun h5 => ?_)
  · have hi : 0 ≤ i ∧ i < m 0 0 := by grind [zin]
    refine go_iload_n (i := 2) dM_told_11 rfl rfl ?_
    refine tabC dM_told_12 117 rfl (fun h => ?_) (fun n h1 h2 => ?_)
    · refine go_ldc dM_told_117 kcM96 (inR_of _ rfl) ?_
      refine go_iret dM_told_119 rfl rfl ?_
      exact MB.same hM (by unfold v_told; grind)
    · have t64 : 0 ≤ w → w ≤ 4 → Go g yM_told 5 0 0 64 [gR r, gI i, gI w] [] (N, F) (MB N r F (gI (v_told (m 0) i w)) m) := by
        intro w0 w4
        refine go_aload_n (i := 0) dM_told_64 rfl rfl trivial ?_
        refine go_iload_n (i := 1) dM_told_65 rfl rfl ?_
        refine go_iload_n (i := 2) dM_told_66 rfl rfl ?_
        refine go_VP dM_told_67 vkM79 (by assumption) (List.cons_ne_nil _ _) (qM_its hM (by omega) (by omega) (by omega) (by omega)) rfl (by omega) rfl (fun _ => Nat.le_of_ble_eq_true rfl) ?_
        refine go_iret dM_told_70 rfl rfl ?_
        exact MB.same hM (by unfold v_told; rw [if_pos hi, if_pos ⟨w0, w4⟩])
      match n, h1 with
      | 0, h1 => exact ⟨_, rfl, 64, rfl, t64 (by omega) (by omega)⟩
      | 1, h1 => exact ⟨_, rfl, 64, rfl, t64 (by omega) (by omega)⟩
      | 2, h1 => exact ⟨_, rfl, 64, rfl, t64 (by omega) (by omega)⟩
      | 3, h1 => exact ⟨_, rfl, 64, rfl, t64 (by omega) (by omega)⟩
      | 4, h1 => exact ⟨_, rfl, 64, rfl, t64 (by omega) (by omega)⟩
      | 5, h1 =>
        refine ⟨_, rfl, 71, rfl, ?_⟩
        refine go_aload_n (i := 0) dM_told_71 rfl rfl trivial ?_
        refine go_iload_n (i := 1) dM_told_72 rfl rfl ?_
        refine go_VX dM_told_73 vkM113 (by assumption) (List.cons_ne_nil _ _) (sM_sees (ST.rf hM) hw hT hi.1 hi.2) rfl (by omega) (by omega) (by omega) rfl (fun _ => Nat.le_of_ble_eq_true rfl) ?_
        rintro _ _ ⟨rfl, F2, m2, rfl, h2⟩ -
        dsimp only [rp]
        refine go_iret dM_told_76 rfl rfl ?_
        exact MB.st h2 (by unfold v_told; grind)
      | 6, h1 =>
        refine ⟨_, rfl, 77, rfl, ?_⟩
        refine go_aload_n (i := 0) dM_told_77 rfl rfl trivial ?_
        refine go_iload_n (i := 1) dM_told_78 rfl rfl ?_
        refine go_VP dM_told_79 vkM116 (by assumption) (List.cons_ne_nil _ _) (qM_wanders hM _ hi.1 (by omega)) rfl (by omega) rfl (fun _ => Nat.le_of_ble_eq_true rfl) ?_
        refine go_iret dM_told_82 rfl rfl ?_
        exact MB.same hM (by unfold v_told; grind)
      | 7, h1 =>
        refine ⟨_, rfl, 83, rfl, ?_⟩
        refine go_aload_n (i := 0) dM_told_83 rfl rfl trivial ?_
        refine go_iload_n (i := 1) dM_told_84 rfl rfl ?_
        refine go_VP dM_told_85 vkM119 (by assumption) (List.cons_ne_nil _ _) (qM_tallies hM _ hi.1 (by omega)) rfl (by omega) rfl (fun _ => Nat.le_of_ble_eq_true rfl) ?_
        refine go_iret dM_told_88 rfl rfl ?_
        exact MB.same hM (by unfold v_told; grind)
      | 8, h1 =>
        refine ⟨_, rfl, 89, rfl, ?_⟩
        refine go_aload_n (i := 0) dM_told_89 rfl rfl trivial ?_
        refine go_iload_n (i := 1) dM_told_90 rfl rfl ?_
        refine go_iconst dM_told_91 (inR_of _ rfl) ?_
        refine go_VP dM_told_92 vkM79 (by assumption) (List.cons_ne_nil _ _) (qM_its hM (by omega) (by omega) (by omega) (by omega)) rfl (by omega) rfl (fun _ => Nat.le_of_ble_eq_true rfl) ?_
        refine go_aload_n (i := 0) dM_told_95 rfl rfl trivial ?_
        refine go_iload_n (i := 1) dM_told_96 rfl rfl ?_
        refine go_iconst dM_told_97 (inR_of _ rfl) ?_
        refine go_VP dM_told_98 vkM79 (by assumption) (List.cons_ne_nil _ _) (qM_its hM (by omega) (by omega) (by omega) (by omega)) rfl (by omega) rfl (fun _ => Nat.le_of_ble_eq_true rfl) ?_
        refine go_aload_n (i := 0) dM_told_101 rfl rfl trivial ?_
        refine go_iload_n (i := 1) dM_told_102 rfl rfl ?_
        refine go_iconst dM_told_103 (inR_of _ rfl) ?_
        refine go_VP dM_told_104 vkM79 (by assumption) (List.cons_ne_nil _ _) (qM_its hM (by omega) (by omega) (by omega) (by omega)) rfl (by omega) rfl (fun _ => Nat.le_of_ble_eq_true rfl) ?_
        refine go_aload_n (i := 0) dM_told_107 rfl rfl trivial ?_
        refine go_iload_n (i := 1) dM_told_108 rfl rfl ?_
        refine go_iconst dM_told_109 (inR_of _ rfl) ?_
        refine go_VP dM_told_110 vkM79 (by assumption) (List.cons_ne_nil _ _) (qM_its hM (by omega) (by omega) (by omega) (by omega)) rfl (by omega) rfl (fun _ => Nat.le_of_ble_eq_true rfl) ?_
        refine go_SP dM_told_113 vkM122 (ct_worth _ _ _ _) rfl (by omega) rfl (fun _ => Nat.le_of_ble_eq_true rfl) ?_
        refine go_iret dM_told_116 rfl rfl ?_
        exact MB.same hM (by unfold v_told; grind)
      | n + 9, h1 => omega
  · refine go_ldc dM_told_8 kcM96 (inR_of _ rfl) ?_
    refine go_iret dM_told_10 rfl rfl ?_
    exact MB.same hM (by unfold v_told; grind [zin])
def v_as (s : Nat → Int) (i k : Int) : Int := if (0 ≤ i ∧ i < s 0) ∧ 0 ≤ k ∧ k ≤ 5 then (if zunder (zk s i 0) k = 1 then zk s i 1 else -1000000012) else BAD
theorem zunder01 (k o : Int) : zunder k o = 0 ∨ zunder k o = 1 := by unfold zunder; grind
theorem bM_as (hM : MOD F r m) (hw : zW (m 0)) {i k : Int} : CT g yM_as 2 0 0 [gR r, gI i, gI k] (N, F) (MB N r F (gI (v_as (m 0) i k)) m) := by
  have ho := hM.1
  have hn0 := hw.1.1
  have hn1 := hw.1.2.1
  have t15 : ¬ ((0 ≤ i ∧ i < m 0 0) ∧ 0 ≤ k ∧ k ≤ 5) → Go g yM_as 2 0 0 15 [gR r, gI i, gI k] [] (N, F) (MB N r F (gI (v_as (m 0) i k)) m) := by
    intro hc
    refine go_ldc dM_as_15 kcM96 (inR_of _ rfl) ?_
    refine go_iret dM_as_17 rfl rfl ?_
    exact MB.same hM (by unfold v_as; rw [if_neg hc])
  refine CT.of' (L0 := [gR r, gI i, gI k]) plM (Nat.le_of_ble_eq_true rfl) rfl ?_
  refine go_aload_n (i := 0) dM_as_0 rfl rfl trivial ?_
  refine go_iload_n (i := 1) dM_as_1 rfl rfl ?_
  refine go_VP dM_as_2 vkM92 (by assumption) (List.cons_ne_nil _ _) (qM_isGoose hM _ hn0 hn1) rfl (by omega) rfl (fun _ => Nat.le_of_ble_eq_true rfl) ?_
  refine go_if_eq 15 dM_as_5 rfl (fun h5 => ?_) (fun h5 => ?_)
  · exact t15 (by grind [zin])
  · refine go_iload_n (i := 2) dM_as_8 rfl rfl ?_
    refine go_SP dM_as_9 vkM100 (ct_isKind _) rfl (by omega) rfl (fun _ => Nat.le_of_ble_eq_true rfl) ?_
    refine go_if_ne 18 dM_as_12 rfl (fun h12 => ?_) (fun h12 => ?_)
    · have hi : (0 ≤ i ∧ i < m 0 0) ∧ 0 ≤ k ∧ k ≤ 5 := by grind [zin]
      have hu := zunder01 (zk (m 0) i 0) k
      refine go_aload_n (i := 0) dM_as_18 rfl rfl trivial ?_
      refine go_iload_n (i := 1) dM_as_19 rfl rfl ?_
      refine go_iconst dM_as_20 (inR_of _ rfl) ?_
      refine go_VP dM_as_21 vkM79 (by assumption) (List.cons_ne_nil _ _) (qM_its hM (by omega) (by omega) (by omega) (by omega)) rfl (by omega) rfl (fun _ => Nat.le_of_ble_eq_true rfl) ?_
      refine go_iload_n (i := 2) dM_as_24 rfl rfl ?_
      refine go_SP dM_as_25 vkM125 (ct_isUnder _ _) rfl (by omega) rfl (fun _ => Nat.le_of_ble_eq_true rfl) ?_
      refine go_if_eq 40 dM_as_28 rfl (fun h28 => ?_) (fun h28 => ?_)
      · refine go_ldc dM_as_40 kcM129 (inR_of _ rfl) ?_
        refine go_iret dM_as_42 rfl rfl ?_
        exact MB.same hM (by unfold v_as; rw [if_pos hi, if_neg (by omega)])
      · refine go_aload_n (i := 0) dM_as_31 rfl rfl trivial ?_
        refine go_iload_n (i := 1) dM_as_32 rfl rfl ?_
        refine go_iconst dM_as_33 (inR_of _ rfl) ?_
        refine go_VP dM_as_34 vkM79 (by assumption) (List.cons_ne_nil _ _) (qM_its hM (by omega) (by omega) (by omega) (by omega)) rfl (by omega) rfl (fun _ => Nat.le_of_ble_eq_true rfl) ?_
        refine go_goto 42 dM_as_37 rfl ?_
        refine go_iret dM_as_42 rfl rfl ?_
        exact MB.same hM (by unfold v_as; rw [if_pos hi, if_pos (by omega)])
    · exact t15 (by grind [zin])
/-- a call that puts x at the place k of the row, or is BAD -/
def v_put (s : Nat → Int) (c : Prop) [Decidable c] (k : Int) : Int := if c then s k.toNat else BAD
def u_put (s : Nat → Int) (c : Prop) [Decidable c] (k x : Int) : Nat → Int := if c then va_up s k.toNat x else s
theorem MB.put {F2 : Nat → GC} {m2 : Nat → Nat → Int} {c : Prop} [Decidable c] {k x : Int} (hc : c) (hM2 : MOD F2 r m2) (hF2 : FR r F F2) (e2 : m2 0 = va_up (m 0) k.toNat x) (hS2 : SB [0] m m2) : MB N r F (gI (v_put (m 0) c k)) (va_up m 0 (u_put (m 0) c k x)) (gI (m 0 k.toNat)) (N, F2) := by
  refine ⟨by unfold v_put; rw [if_pos hc], F2, m2, rfl, hM2, hF2, EQ.sb ?_ hS2 (by simp)⟩
  unfold u_put; rw [if_pos hc]; exact e2
theorem MB.bad {c : Prop} [Decidable c] {k x : Int} (hc : ¬ c) (hM : MOD F r m) : MB N r F (gI (v_put (m 0) c k)) (va_up m 0 (u_put (m 0) c k x)) (gI BAD) (N, F) := by
  refine ⟨by unfold v_put; rw [if_neg hc], F, m, rfl, hM, FR.rf, ?_⟩
  unfold u_put; rw [if_neg hc, va_up_id]; exact EQ.rf
theorem bM_turns (hM : MOD F r m) (hw : zW (m 0)) {i k : Int} : CT g yM_turns 2 0 0 [gR r, gI i, gI k] (N, F) (MB N r F (gI (v_put (m 0) ((0 ≤ i ∧ i < m 0 0) ∧ 0 ≤ k ∧ k ≤ 5) (14 + 5 * i))) (va_up m 0 (u_put (m 0) ((0 ≤ i ∧ i < m 0 0) ∧ 0 ≤ k ∧ k ≤ 5) (14 + 5 * i) k))) := by
  have ho := hM.1
  have hn0 := hw.1.1
  have hn1 := hw.1.2.1
  have t28 : ¬ ((0 ≤ i ∧ i < m 0 0) ∧ 0 ≤ k ∧ k ≤ 5) → Go g yM_turns 2 0 0 28 [gR r, gI i, gI k] [] (N, F) (MB N r F (gI (v_put (m 0) ((0 ≤ i ∧ i < m 0 0) ∧ 0 ≤ k ∧ k ≤ 5) (14 + 5 * i))) (va_up m 0 (u_put (m 0) ((0 ≤ i ∧ i < m 0 0) ∧ 0 ≤ k ∧ k ≤ 5) (14 + 5 * i) k))) := by
    intro hc
    refine go_ldc dM_turns_28 kcM96 (inR_of _ rfl) ?_
    refine go_iret dM_turns_30 rfl rfl ?_
    exact MB.bad hc hM
  refine CT.of' (L0 := [gR r, gI i, gI k]) plM (Nat.le_of_ble_eq_true rfl) rfl ?_
  refine go_aload_n (i := 0) dM_turns_0 rfl rfl trivial ?_
  refine go_iload_n (i := 1) dM_turns_1 rfl rfl ?_
  refine go_VP dM_turns_2 vkM92 (by assumption) (List.cons_ne_nil _ _) (qM_isGoose hM _ hn0 hn1) rfl (by omega) rfl (fun _ => Nat.le_of_ble_eq_true rfl) ?_
  refine go_if_eq 28 dM_turns_5 rfl (fun h5 => ?_) (fun h5 => ?_)
  · exact t28 (by grind [zin])
  · refine go_iload_n (i := 2) dM_turns_8 rfl rfl ?_
    refine go_SP dM_turns_9 vkM100 (ct_isKind _) rfl (by omega) rfl (fun _ => Nat.le_of_ble_eq_true rfl) ?_
    refine go_if_eq 28 dM_turns_12 rfl (fun h12 => ?_) (fun h12 => ?_)
    · exact t28 (by grind [zin])
    · have hi : (0 ≤ i ∧ i < m 0 0) ∧ 0 ≤ k ∧ k ≤ 5 := by grind [zin]
      refine go_aload_n (i := 0) dM_turns_15 rfl rfl trivial ?_
      refine go_iload_n (i := 1) dM_turns_16 rfl rfl ?_
      refine go_iconst dM_turns_17 (inR_of _ rfl) ?_
      refine go_SP dM_turns_18 vkM61 (ct_spot _ _) rfl (by omega) rfl (fun _ => Nat.le_of_ble_eq_true rfl) ?_
      refine go_top (14 + 5 * i) (by (try simp (discharger := (unfold inR; omega)) only [w32_id]) <;> omega) ?_
      refine go_iload_n (i := 2) dM_turns_21 rfl rfl ?_
      refine go_VX dM_turns_22 vkM130 (by assumption) (List.cons_ne_nil _ _) (qM_changed hM (by omega) (by omega)) rfl (by omega) (by omega) (by omega) rfl (fun _ => Nat.le_of_ble_eq_true rfl) ?_
      rintro _ _ ⟨rfl, F2, m2, rfl, hM2, hF2, e2, hS2⟩ -
      dsimp only [rp]
      refine go_goto 30 dM_turns_25 rfl ?_
      refine go_iret dM_turns_30 rfl rfl ?_
      exact MB.put hi hM2 hF2 e2 hS2
theorem bM_needs (hM : MOD F r m) {y v : Int} : CT g yM_needs 2 0 0 [gR r, gI y, gI v] (N, F) (MB N r F (gI (v_put (m 0) ((0 ≤ y ∧ y ≤ 5) ∧ 0 ≤ v ∧ v ≤ 99) (8 + y))) (va_up m 0 (u_put (m 0) ((0 ≤ y ∧ y ≤ 5) ∧ 0 ≤ v ∧ v ≤ 99) (8 + y) v))) := by
  have ho := hM.1
  have t31 : ¬ ((0 ≤ y ∧ y ≤ 5) ∧ 0 ≤ v ∧ v ≤ 99) → Go g yM_needs 2 0 0 31 [gR r, gI y, gI v] [] (N, F) (MB N r F (gI (v_put (m 0) ((0 ≤ y ∧ y ≤ 5) ∧ 0 ≤ v ∧ v ≤ 99) (8 + y))) (va_up m 0 (u_put (m 0) ((0 ≤ y ∧ y ≤ 5) ∧ 0 ≤ v ∧ v ≤ 99) (8 + y) v))) := by
    intro hc
    refine go_ldc dM_needs_31 kcM96 (inR_of _ rfl) ?_
    refine go_iret dM_needs_33 rfl rfl ?_
    exact MB.bad hc hM
  refine CT.of' (L0 := [gR r, gI y, gI v]) plM (Nat.le_of_ble_eq_true rfl) rfl ?_
  refine go_iload_n (i := 1) dM_needs_0 rfl rfl ?_
  refine go_SP dM_needs_1 vkM105 (ct_isYard _) rfl (by omega) rfl (fun _ => Nat.le_of_ble_eq_true rfl) ?_
  refine go_if_eq 31 dM_needs_4 rfl (fun h4 => ?_) (fun h4 => ?_)
  · exact t31 (by grind [zin])
  · refine go_iload_n (i := 2) dM_needs_7 rfl rfl ?_
    refine go_i2l dM_needs_8 ?_
    refine go_lconst (x := 0) dM_needs_9 (inL_of2 _ rfl) rfl ?_
    refine go_ldc2 dM_needs_10 kcM103 (inL_of2 _ rfl) ?_
    refine go_SP dM_needs_13 vkM65 (ct_in _ _ _) rfl (by omega) rfl (fun _ => Nat.le_of_ble_eq_true rfl) ?_
    refine go_if_eq 31 dM_needs_16 rfl (fun h16 => ?_) (fun h16 => ?_)
    · exact t31 (by grind [zin])
    · have hi : (0 ≤ y ∧ y ≤ 5) ∧ 0 ≤ v ∧ v ≤ 99 := by grind [zin]
      refine go_aload_n (i := 0) dM_needs_19 rfl rfl trivial ?_
      refine go_bipush dM_needs_20 (inR_of _ rfl) rfl ?_
      refine go_iload_n (i := 1) dM_needs_22 rfl rfl ?_
      refine go_iadd dM_needs_23 ?_
      refine go_top (8 + y) (by (try simp (discharger := (unfold inR; omega)) only [w32_id]) <;> omega) ?_
      refine go_iload_n (i := 2) dM_needs_24 rfl rfl ?_
      refine go_VX dM_needs_25 vkM130 (by assumption) (List.cons_ne_nil _ _) (qM_changed hM (by omega) (by omega)) rfl (by omega) (by omega) (by omega) rfl (fun _ => Nat.le_of_ble_eq_true rfl) ?_
      rintro _ _ ⟨rfl, F2, m2, rfl, hM2, hF2, e2, hS2⟩ -
      dsimp only [rp]
      refine go_goto 33 dM_needs_28 rfl ?_
      refine go_iret dM_needs_33 rfl rfl ?_
      exact MB.put hi hM2 hF2 e2 hS2
def c_set (s : Nat → Int) (i w v : Int) : Prop := (0 ≤ i ∧ i < s 0) ∧ (1 ≤ w ∧ w ≤ 4) ∧ 0 ≤ v ∧ v ≤ (if w = 3 then 5 else if w = 4 then 9999 else 99)
theorem bM_set (hM : MOD F r m) (hw : zW (m 0)) {i w v : Int} [Decidable (c_set (m 0) i w v)] : CT g yM_set 2 0 0 [gR r, gI i, gI w, gI v] (N, F) (MB N r F (gI (v_put (m 0) (c_set (m 0) i w v) (14 + 5 * i + w))) (va_up m 0 (u_put (m 0) (c_set (m 0) i w v) (14 + 5 * i + w) v))) := by
  have ho := hM.1
  have hn0 := hw.1.1
  have hn1 := hw.1.2.1
  have t79 : ∀ x : Int, ¬ c_set (m 0) i w v → Go g yM_set 2 0 0 79 [gR r, gI i, gI w, gI v, gI x] [] (N, F) (MB N r F (gI (v_put (m 0) (c_set (m 0) i w v) (14 + 5 * i + w))) (va_up m 0 (u_put (m 0) (c_set (m 0) i w v) (14 + 5 * i + w) v))) := by
    intro x hc
    refine go_ldc dM_set_79 kcM96 (inR_of _ rfl) ?_
    refine go_iret dM_set_81 rfl rfl ?_
    exact MB.bad hc hM
  have t51 : ∀ x : Int, (x = 0 ∨ x = 1) → (x = 1 ↔ ((1 ≤ w ∧ w ≤ 4) ∧ 0 ≤ v ∧ v ≤ (if w = 3 then 5 else if w = 4 then 9999 else 99))) → Go g yM_set 2 0 0 51 [gR r, gI i, gI w, gI v, gU] [gI x] (N, F) (MB N r F (gI (v_put (m 0) (c_set (m 0) i w v) (14 + 5 * i + w))) (va_up m 0 (u_put (m 0) (c_set (m 0) i w v) (14 + 5 * i + w) v))) := by
    intro x hx hx2
    refine go_is4 dM_set_51 (Nat.le_of_ble_eq_true rfl) trivial ?_
    refine go_aload_n (i := 0) dM_set_53 rfl rfl trivial ?_
    refine go_iload_n (i := 1) dM_set_54 rfl rfl ?_
    refine go_VP dM_set_55 vkM92 (by assumption) (List.cons_ne_nil _ _) (qM_isGoose hM _ hn0 hn1) rfl (by omega) rfl (fun _ => Nat.le_of_ble_eq_true rfl) ?_
    refine go_if_eq 79 dM_set_58 rfl (fun h58 => ?_) (fun h58 => ?_)
    · exact t79 _ (by unfold c_set; grind [zin])
    · refine go_iload dM_set_61 rfl ?_
      refine go_if_eq 79 dM_set_63 rfl (fun h63 => ?_) (fun h63 => ?_)
      · exact t79 _ (by unfold c_set; grind [zin])
      · have hc : c_set (m 0) i w v := by unfold c_set; grind [zin]
        have hc2 := hc
        unfold c_set at hc2
        refine go_aload_n (i := 0) dM_set_66 rfl rfl trivial ?_
        refine go_iload_n (i := 1) dM_set_67 rfl rfl ?_
        refine go_iload_n (i := 2) dM_set_68 rfl rfl ?_
        refine go_SP dM_set_69 vkM61 (ct_spot _ _) rfl (by omega) rfl (fun _ => Nat.le_of_ble_eq_true rfl) ?_
        refine go_top (14 + 5 * i + w) (by (try simp (discharger := (unfold inR; omega)) only [w32_id]) <;> omega) ?_
        refine go_iload_n (i := 3) dM_set_72 rfl rfl ?_
        refine go_VX dM_set_73 vkM130 (by assumption) (List.cons_ne_nil _ _) (qM_changed hM (by omega) (by omega)) rfl (by omega) (by omega) (by omega) rfl (fun _ => Nat.le_of_ble_eq_true rfl) ?_
        rintro _ _ ⟨rfl, F2, m2, rfl, hM2, hF2, e2, hS2⟩ -
        dsimp only [rp]
        refine go_goto 81 dM_set_76 rfl ?_
        refine go_iret dM_set_81 rfl rfl ?_
        exact MB.put hc hM2 hF2 e2 hS2
  have t40 : ∀ b : Int, b = (if w = 3 then 5 else if w = 4 then 9999 else 99) → 1 ≤ w → w ≤ 4 → Go g yM_set 2 0 0 40 [gR r, gI i, gI w, gI v, gU] [gL b, gL 0, gL v] (N, F) (MB N r F (gI (v_put (m 0) (c_set (m 0) i w v) (14 + 5 * i + w))) (va_up m 0 (u_put (m 0) (c_set (m 0) i w v) (14 + 5 * i + w) v))) := by
    intro b hb w1 w4
    refine go_SP dM_set_40 vkM65 (ct_in _ _ _) rfl (by omega) rfl (fun _ => Nat.le_of_ble_eq_true rfl) ?_
    refine go_if_eq 50 dM_set_43 rfl (fun h43 => ?_) (fun h43 => ?_)
    · refine go_iconst dM_set_50 (inR_of _ rfl) ?_
      exact t51 0 (by simp) (by grind [zin])
    · refine go_iconst dM_set_46 (inR_of _ rfl) ?_
      refine go_goto 51 dM_set_47 rfl ?_
      exact t51 1 (by simp) (by grind [zin])
  refine CT.of' (L0 := [gR r, gI i, gI w, gI v, gU]) plM (Nat.le_of_ble_eq_true rfl) rfl ?_
  refine go_iload_n (i := 2) dM_set_0 rfl rfl ?_
  refine go_i2l dM_set_1 ?_
  refine go_lconst (x := 1) dM_set_2 (inL_of2 _ rfl) rfl ?_
  refine go_ldc2 dM_set_3 kcM133 (inL_of2 _ rfl) ?_
  refine go_SP dM_set_6 vkM65 (ct_in _ _ _) rfl (by omega) rfl (fun _ => Nat.le_of_ble_eq_true rfl) ?_
  refine go_if_eq 50 dM_set_9 rfl (fun h9 => ?_) (fun h9 => ?_)
  · refine go_iconst dM_set_50 (inR_of _ rfl) ?_
    exact t51 0 (by simp) (by grind [zin])
  · have w1 : 1 ≤ w ∧ w ≤ 4 := by grind [zin]
    refine go_iload_n (i := 3) dM_set_12 rfl rfl ?_
    refine go_i2l dM_set_13 ?_
    refine go_lconst (x := 0) dM_set_14 (inL_of2 _ rfl) rfl ?_
    refine go_iload_n (i := 2) dM_set_15 rfl rfl ?_
    refine go_iconst dM_set_16 (inR_of _ rfl) ?_
    refine go_ic_ne 26 dM_set_17 rfl (fun h17 => ?_) (fun h17 => ?_)
    · refine go_iload_n (i := 2) dM_set_26 rfl rfl ?_
      refine go_iconst dM_set_27 (inR_of _ rfl) ?_
      refine go_ic_ne 37 dM_set_28 rfl (fun h28 => ?_) (fun h28 => ?_)
      · refine go_ldc2 dM_set_37 kcM103 (inL_of2 _ rfl) ?_
        exact t40 99 (by grind) w1.1 w1.2
      · refine go_ldc2 dM_set_31 kcM135 (inL_of2 _ rfl) ?_
        refine go_goto 40 dM_set_34 rfl ?_
        exact t40 9999 (by grind) w1.1 w1.2
    · refine go_ldc2 dM_set_20 kcM69 (inL_of2 _ rfl) ?_
      refine go_goto 40 dM_set_23 rfl ?_
      exact t40 5 (by grind) w1.1 w1.2
theorem bM_seed (hM : MOD F r m) {v : Int} : CT g yM_seed 1 0 0 [gR r, gI v] (N, F) (MB N r F (gI (m 0 7)) (va_up m 0 (va_up (m 0) 7 v))) := by
  have ho := hM.1
  refine CT.of' (L0 := [gR r, gI v]) plM (Nat.le_of_ble_eq_true rfl) rfl ?_
  refine go_aload_n (i := 0) dM_seed_0 rfl rfl trivial ?_
  refine go_bipush dM_seed_1 (inR_of _ rfl) rfl ?_
  refine go_iload_n (i := 1) dM_seed_3 rfl rfl ?_
  refine go_VX dM_seed_4 vkM130 (by assumption) (List.cons_ne_nil _ _) (qM_changed hM (by omega) (by omega)) rfl (by omega) (by omega) (by omega) rfl (fun _ => Nat.le_of_ble_eq_true rfl) ?_
  rintro _ _ ⟨rfl, F2, m2, rfl, hM2, hF2, e2, hS2⟩ -
  dsimp only [rp]
  refine go_iret dM_seed_7 rfl rfl ?_
  exact ⟨rfl, F2, m2, rfl, hM2, hF2, EQ.sb e2 hS2 (by simp)⟩
end MPUB2
