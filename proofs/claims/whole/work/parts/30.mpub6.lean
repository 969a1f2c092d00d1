section MPUB6
variable {g : GX} {N r : Nat} {F F1 : Nat → GC} {m m1 : Nat → Nat → Int}
def v_fee (s : Nat → Int) : Int := if 0 ≤ s 66 then zlaw s 1 (znm (s 3) (s 4) 0 0) else s 3
theorem bM_fee (hM : MOD F r m) (hT : zT (m 0)) : CT g yM_fee 3 0 0 [gR r] (N, F) (MB N r F (gI (v_fee (m 0))) m) := by
  have ho := hM.1
  have a0 := hM.a0
  refine CT.of' (L0 := [gR r]) plM (Nat.le_of_ble_eq_true rfl) rfl ?_
  refine go_aload_n (i := 0) dM_fee_0 rfl rfl trivial ?_
  refine go_getf dM_fee_1 flM25 (by assumption) rfl ?_
  refine go_iconst dM_fee_4 (inR_of _ rfl) ?_
  refine go_aload_n (i := 0) dM_fee_5 rfl rfl trivial ?_
  refine go_getf dM_fee_6 flM7 (by assumption) rfl ?_
  refine go_iconst dM_fee_9 (inR_of _ rfl) ?_
  refine go_iald' 3 _ dM_fee_10 (by assumption) rfl (by omega) rfl ?_
  refine go_mst (i := 5) (k := 0) hM (by omega) dM_fee_11 rfl rfl (by decide) (fun F1 m1 hM1 hF1 e1 => ?_)
  have e10 : m1 0 = m 0 := by rw [e1]; rfl
  have ho1 := hM1.1
  have a1 := hM1.a0
  refine go_aload_n (i := 0) dM_fee_12 rfl rfl trivial ?_
  refine go_getf dM_fee_13 flM25 (by assumption) rfl ?_
  refine go_iconst dM_fee_16 (inR_of _ rfl) ?_
  refine go_aload_n (i := 0) dM_fee_17 rfl rfl trivial ?_
  refine go_getf dM_fee_18 flM7 (by assumption) rfl ?_
  refine go_iconst dM_fee_21 (inR_of _ rfl) ?_
  refine go_iald' 4 _ dM_fee_22 (by assumption) rfl (by omega) rfl ?_
  refine go_mst (i := 5) (k := 1) hM1 (by omega) dM_fee_23 rfl rfl (by decide) (fun F2 m2 hM2 hF2 e2 => ?_)
  have e20 : m2 0 = m 0 := by rw [e2]; exact e10
  have ho2 := hM2.1
  have a2 := hM2.a0
  have hS2 : SB [0, 4, 5] m m2 := by
    rw [e2, e1]
    exact (SB.rf.put (by simp)).put (by simp)
  have hS : ST r F m F2 m2 := ⟨hM2, hF1.tr hF2, e20, hS2⟩
  refine go_aload_n (i := 0) dM_fee_24 rfl rfl trivial ?_
  refine go_getf dM_fee_25 flM7 (by assumption) rfl ?_
  refine go_bipush dM_fee_28 (inR_of _ rfl) rfl ?_
  refine go_iald' 66 _ dM_fee_30 (by assumption) rfl (by omega) rfl ?_
  refine go_if_ge 43 dM_fee_31 rfl (fun h31 => ?_) (fun h31 => ?_)
  · rw [e20] at h31
    obtain ⟨t, n, ht, h65, h82, hn, hwf⟩ := hT.law (w := 1) (by omega) (by show 0 ≤ m 0 66; omega)
    refine go_aload_n (i := 0) dM_fee_43 rfl rfl trivial ?_
    refine go_aload_n (i := 0) dM_fee_44 rfl rfl trivial ?_
    refine go_getf dM_fee_45 flM7 (by assumption) rfl ?_
    refine go_bipush dM_fee_48 (inR_of _ rfl) rfl ?_
    refine go_iald' 66 ((t : Nat) : Int) dM_fee_50 hM2.a0 rfl (by omega) (by rw [e20]; exact h65) ?_
    refine go_VX dM_fee_51 vkM86 (by assumption) (List.cons_ne_nil _ _) (qM_worked hM2 t n 2 ht (by omega) (by rw [e20]; exact h82) (by omega) (by rw [e20]; exact hwf)) rfl (by omega) (by omega) (by omega) rfl (fun _ => Nat.le_of_ble_eq_true rfl) ?_
    rintro _ _ ⟨rfl, F5, m5, rfl, hM5, hF5, e5, hS5⟩ -
    dsimp only [rp]
    refine go_iret dM_fee_54 rfl rfl ?_
    refine MB.st (hS.tr ⟨hM5, hF5, e5, hS5.mono (by simp)⟩) ?_
    unfold v_fee
    rw [if_pos (by omega), zlaw_eq _ h65 h82, e20]
    refine zwork_nm hwf (fun j hj => ?_)
    rw [if_neg (by omega)] at hj
    rw [e2, e1] at *
    match j, hj with
    | 0, _ => rfl
    | 1, _ => rfl
    | j + 2, hj => omega
  · rw [e20] at h31
    refine go_aload_n (i := 0) dM_fee_34 rfl rfl trivial ?_
    refine go_getf dM_fee_35 flM7 (by assumption) rfl ?_
    refine go_iconst dM_fee_38 (inR_of _ rfl) ?_
    refine go_iald' 3 _ dM_fee_39 (by assumption) rfl (by omega) rfl ?_
    refine go_goto 54 dM_fee_40 rfl ?_
    refine go_iret dM_fee_54 rfl rfl ?_
    exact MB.st hS (by unfold v_fee; rw [if_neg (by omega), e20])
def v_fine (s : Nat → Int) (i : Int) : Int := if 0 ≤ i ∧ i < s 0 then (if 0 ≤ s 67 then zlaw s 2 (znm (zk s i 1) (zk s i 4) 0 0) else zk s i 1) else BAD
theorem bM_fine (hM : MOD F r m) (hw : zW (m 0)) (hT : zT (m 0)) {i : Int} : CT g yM_fine 3 0 0 [gR r, gI i] (N, F) (MB N r F (gI (v_fine (m 0) i)) m) := by
  have ho := hM.1
  have a0 := hM.a0
  have hn0 := hw.1.1
  have hn1 := hw.1.2.1
  refine CT.of' (L0 := [gR r, gI i]) plM (Nat.le_of_ble_eq_true rfl) rfl ?_
  refine go_aload_n (i := 0) dM_fine_0 rfl rfl trivial ?_
  refine go_iload_n (i := 1) dM_fine_1 rfl rfl ?_
  refine go_VP dM_fine_2 vkM92 (by assumption) (List.cons_ne_nil _ _) (qM_isGoose hM _ hn0 hn1) rfl (by omega) rfl (fun _ => Nat.le_of_ble_eq_true rfl) ?_
  refine go_if_ne 11 dM_fine_5 rfl (fun h5 => ?_) (fun h5 => ?_)
  · have hi : 0 ≤ i ∧ i < m 0 0 := by grind [zin]
    refine go_aload_n (i := 0) dM_fine_11 rfl rfl trivial ?_
    refine go_getf dM_fine_12 flM25 (by assumption) rfl ?_
    refine go_iconst dM_fine_15 (inR_of _ rfl) ?_
    refine go_aload_n (i := 0) dM_fine_16 rfl rfl trivial ?_
    refine go_iload_n (i := 1) dM_fine_17 rfl rfl ?_
    refine go_iconst dM_fine_18 (inR_of _ rfl) ?_
    refine go_VP dM_fine_19 vkM79 (by assumption) (List.cons_ne_nil _ _) (qM_its hM (by omega) (by omega) (by omega) (by omega)) rfl (by omega) rfl (fun _ => Nat.le_of_ble_eq_true rfl) ?_
    refine go_mst (i := 5) (k := 0) hM (by omega) dM_fine_22 rfl rfl (by decide) (fun F1 m1 hM1 hF1 e1 => ?_)
    have e10 : m1 0 = m 0 := by rw [e1]; rfl
    have ho1 := hM1.1
    refine go_aload_n (i := 0) dM_fine_23 rfl rfl trivial ?_
    refine go_getf dM_fine_24 flM25 (by assumption) rfl ?_
    refine go_iconst dM_fine_27 (inR_of _ rfl) ?_
    refine go_aload_n (i := 0) dM_fine_28 rfl rfl trivial ?_
    refine go_iload_n (i := 1) dM_fine_29 rfl rfl ?_
    refine go_iconst dM_fine_30 (inR_of _ rfl) ?_
    refine go_VP dM_fine_31 vkM79 (by assumption) (List.cons_ne_nil _ _) (qM_its hM1 (by omega) (by omega) (by omega) (by omega)) rfl (by omega) rfl (fun _ => Nat.le_of_ble_eq_true rfl) ?_
    refine go_mst (i := 5) (k := 1) hM1 (by omega) dM_fine_34 rfl rfl (by decide) (fun F2 m2 hM2 hF2 e2 => ?_)
    have e20 : m2 0 = m 0 := by rw [e2]; exact e10
    have ho2 := hM2.1
    have a2 := hM2.a0
    have hS2 : SB [0, 4, 5] m m2 := by
      rw [e2, e1]
      exact (SB.rf.put (by simp)).put (by simp)
    have hS : ST r F m F2 m2 := ⟨hM2, hF1.tr hF2, e20, hS2⟩
    refine go_aload_n (i := 0) dM_fine_35 rfl rfl trivial ?_
    refine go_getf dM_fine_36 flM7 (by assumption) rfl ?_
    refine go_bipush dM_fine_39 (inR_of _ rfl) rfl ?_
    refine go_iald' 67 _ dM_fine_41 (by assumption) rfl (by omega) rfl ?_
    refine go_if_ge 54 dM_fine_42 rfl (fun h42 => ?_) (fun h42 => ?_)
    · rw [e20] at h42
      obtain ⟨t, n, ht, h65, h82, hn, hwf⟩ := hT.law (w := 2) (by omega) (by show 0 ≤ m 0 67; omega)
      refine go_aload_n (i := 0) dM_fine_54 rfl rfl trivial ?_
      refine go_aload_n (i := 0) dM_fine_55 rfl rfl trivial ?_
      refine go_getf dM_fine_56 flM7 (by assumption) rfl ?_
      refine go_bipush dM_fine_59 (inR_of _ rfl) rfl ?_
      refine go_iald' 67 ((t : Nat) : Int) dM_fine_61 hM2.a0 rfl (by omega) (by rw [e20]; exact h65) ?_
      refine go_VX dM_fine_62 vkM86 (by assumption) (List.cons_ne_nil _ _) (qM_worked hM2 t n 2 ht (by omega) (by rw [e20]; exact h82) (by omega) (by rw [e20]; exact hwf)) rfl (by omega) (by omega) (by omega) rfl (fun _ => Nat.le_of_ble_eq_true rfl) ?_
      rintro _ _ ⟨rfl, F5, m5, rfl, hM5, hF5, e5, hS5⟩ -
      dsimp only [rp]
      refine go_iret dM_fine_65 rfl rfl ?_
      refine MB.st (hS.tr ⟨hM5, hF5, e5, hS5.mono (by simp)⟩) ?_
      unfold v_fine
      rw [if_pos hi, if_pos (by omega), zlaw_eq _ h65 h82, e20]
      refine zwork_nm hwf (fun j hj => ?_)
      rw [if_neg (by omega)] at hj
      rw [e2, e1] at *
      match j, hj with
      | 0, _ => rfl
      | 1, _ => rfl
      | j + 2, hj => omega
    · rw [e20] at h42
      refine go_aload_n (i := 0) dM_fine_45 rfl rfl trivial ?_
      refine go_iload_n (i := 1) dM_fine_46 rfl rfl ?_
      refine go_iconst dM_fine_47 (inR_of _ rfl) ?_
      refine go_VP dM_fine_48 vkM79 (by assumption) (List.cons_ne_nil _ _) (qM_its hM2 (by omega) (by omega) (by omega) (by omega)) rfl (by omega) rfl (fun _ => Nat.le_of_ble_eq_true rfl) ?_
      refine go_goto 65 dM_fine_51 rfl ?_
      refine go_iret dM_fine_65 rfl rfl ?_
      exact MB.st hS (by unfold v_fine; rw [if_pos hi, if_neg (by omega), e20])
  · refine go_ldc dM_fine_8 kcM96 (inR_of _ rfl) ?_
    refine go_iret dM_fine_10 rfl rfl ?_
    exact MB.same hM (by unfold v_fine; grind [zin])
end MPUB6
