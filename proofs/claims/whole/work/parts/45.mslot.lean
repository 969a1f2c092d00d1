/-! ===== the model's slots ===== -/
section MSLOT
variable {g : GX} {N r : Nat} {F F1 F2 : Nat → GC} {m m1 m2 : Nat → Nat → Int}
theorem ct_isSlot (v : Int) : CT g yM_isSlot 1 0 0 [gI v] (N, F) (RV (zin v 0 4) (N, F)) := by
  have h := zin01 (v := v) (lo := 0) (hi := 4)
  refine CT.of' (L0 := [gI v]) plM (Nat.le_of_ble_eq_true rfl) rfl ?_
  refine go_iload_n (i := 0) dM_isSlot_0 rfl rfl ?_
  refine go_i2l dM_isSlot_1 ?_
  refine go_lconst (x := 0) dM_isSlot_2 (inL_of2 _ rfl) rfl ?_
  refine go_ldc2 dM_isSlot_3 kcM133 (inL_of2 _ rfl) ?_
  refine go_SP dM_isSlot_6 vkM65 (ct_in _ _ _) rfl (by omega) rfl (fun _ => Nat.le_of_ble_eq_true rfl) ?_
  refine go_iret dM_isSlot_9 rfl (zb (by omega)) ?_
  exact ⟨rfl, rfl⟩
theorem zcp_miss {T : Nat → Int} {b : Nat} {f : Nat → Int} : ∀ {n j : Nat}, (j < b ∨ b + n ≤ j) → zcp T b f n j = T j
  | 0, _, _ => rfl
  | n + 1, j, h => by
    show va_up (zcp T b f n) (b + n) (f n) j = T j
    rw [va_up_ne _ _ (by omega)]
    exact zcp_miss (by omega)
def u_hg (m : Nat → Nat → Int) (k i : Nat) : Nat → Nat → Int := va_up m 15 (va_up (va_up (va_up (va_up (m 15) (4 * k) (zk (m 0) i 0)) (4 * k + 1) (zk (m 0) i 1)) (4 * k + 2) (zk (m 0) i 2)) (4 * k + 3) (zk (m 0) i 4))
theorem qM_holdsGoose (hM : MOD F r m) {k i : Nat} (hk : k < 5) (hi : i < 10) : CT g yM_holdsGoose 2 0 0 [gR r, gI (k : Int), gI (i : Int)] (N, F) (fun rr M' => rr = gU ∧ ∃ (F2 : Nat → GC) (m2 : Nat → Nat → Int), M' = (N, F2) ∧ MOD F2 r m2 ∧ FR r F F2 ∧ m2 = u_hg m k i) := by
  have ho := hM.1
  refine CT.of' (L0 := [gR r, gI (k : Int), gI (i : Int)]) plM (Nat.le_of_ble_eq_true rfl) rfl ?_
  refine go_aload_n (i := 0) dM_holdsGoose_0 rfl rfl trivial ?_
  refine go_getf dM_holdsGoose_1 flM55 (by assumption) rfl ?_
  refine go_iconst dM_holdsGoose_4 (inR_of _ rfl) ?_
  refine go_iload_n (i := 1) dM_holdsGoose_5 rfl rfl ?_
  refine go_imul dM_holdsGoose_6 ?_
  refine go_top (((4 * k : Nat) : Int)) (by (try simp (discharger := (unfold inR; omega)) only [w32_id]) <;> omega) ?_
  refine go_aload_n (i := 0) dM_holdsGoose_7 rfl rfl trivial ?_
  refine go_iload_n (i := 2) dM_holdsGoose_8 rfl rfl ?_
  refine go_iconst dM_holdsGoose_9 (inR_of _ rfl) ?_
  refine go_VP dM_holdsGoose_10 vkM79 (by assumption) (List.cons_ne_nil _ _) (qM_its hM (by omega) (by omega) (by omega) (by omega)) rfl (by omega) rfl (fun _ => Nat.le_of_ble_eq_true rfl) ?_
  refine go_mst (i := 15) (k := 4 * k) hM (by omega) dM_holdsGoose_13 rfl rfl (by show _ < 20; omega) (fun F1 m1 hM1 hF1 e1 => ?_)
  have ho1 := hM1.1
  have s1 : m1 0 = m 0 := by rw [e1]; rfl
  refine go_aload_n (i := 0) dM_holdsGoose_14 rfl rfl trivial ?_
  refine go_getf dM_holdsGoose_15 flM55 (by assumption) rfl ?_
  refine go_iconst dM_holdsGoose_18 (inR_of _ rfl) ?_
  refine go_iload_n (i := 1) dM_holdsGoose_19 rfl rfl ?_
  refine go_imul dM_holdsGoose_20 ?_
  refine go_iconst dM_holdsGoose_21 (inR_of _ rfl) ?_
  refine go_iadd dM_holdsGoose_22 ?_
  refine go_top (((4 * k + 1 : Nat) : Int)) (by (try simp (discharger := (unfold inR; omega)) only [w32_id]) <;> omega) ?_
  refine go_aload_n (i := 0) dM_holdsGoose_23 rfl rfl trivial ?_
  refine go_iload_n (i := 2) dM_holdsGoose_24 rfl rfl ?_
  refine go_iconst dM_holdsGoose_25 (inR_of _ rfl) ?_
  refine go_VP dM_holdsGoose_26 vkM79 (by assumption) (List.cons_ne_nil _ _) (qM_its hM1 (by omega) (by omega) (by omega) (by omega)) rfl (by omega) rfl (fun _ => Nat.le_of_ble_eq_true rfl) ?_
  rw [s1]
  refine go_mst (i := 15) (k := 4 * k + 1) hM1 (by omega) dM_holdsGoose_29 rfl rfl (by show _ < 20; omega) (fun F2 m2 hM2 hF2 e2 => ?_)
  have ho2 := hM2.1
  have s2 : m2 0 = m 0 := by rw [e2]; exact s1
  refine go_aload_n (i := 0) dM_holdsGoose_30 rfl rfl trivial ?_
  refine go_getf dM_holdsGoose_31 flM55 (by assumption) rfl ?_
  refine go_iconst dM_holdsGoose_34 (inR_of _ rfl) ?_
  refine go_iload_n (i := 1) dM_holdsGoose_35 rfl rfl ?_
  refine go_imul dM_holdsGoose_36 ?_
  refine go_iconst dM_holdsGoose_37 (inR_of _ rfl) ?_
  refine go_iadd dM_holdsGoose_38 ?_
  refine go_top (((4 * k + 2 : Nat) : Int)) (by (try simp (discharger := (unfold inR; omega)) only [w32_id]) <;> omega) ?_
  refine go_aload_n (i := 0) dM_holdsGoose_39 rfl rfl trivial ?_
  refine go_iload_n (i := 2) dM_holdsGoose_40 rfl rfl ?_
  refine go_iconst dM_holdsGoose_41 (inR_of _ rfl) ?_
  refine go_VP dM_holdsGoose_42 vkM79 (by assumption) (List.cons_ne_nil _ _) (qM_its hM2 (by omega) (by omega) (by omega) (by omega)) rfl (by omega) rfl (fun _ => Nat.le_of_ble_eq_true rfl) ?_
  rw [s2]
  refine go_mst (i := 15) (k := 4 * k + 2) hM2 (by omega) dM_holdsGoose_45 rfl rfl (by show _ < 20; omega) (fun F3 m3 hM3 hF3 e3 => ?_)
  have ho3 := hM3.1
  have s3 : m3 0 = m 0 := by rw [e3]; exact s2
  refine go_aload_n (i := 0) dM_holdsGoose_46 rfl rfl trivial ?_
  refine go_getf dM_holdsGoose_47 flM55 (by assumption) rfl ?_
  refine go_iconst dM_holdsGoose_50 (inR_of _ rfl) ?_
  refine go_iload_n (i := 1) dM_holdsGoose_51 rfl rfl ?_
  refine go_imul dM_holdsGoose_52 ?_
  refine go_iconst dM_holdsGoose_53 (inR_of _ rfl) ?_
  refine go_iadd dM_holdsGoose_54 ?_
  refine go_top (((4 * k + 3 : Nat) : Int)) (by (try simp (discharger := (unfold inR; omega)) only [w32_id]) <;> omega) ?_
  refine go_aload_n (i := 0) dM_holdsGoose_55 rfl rfl trivial ?_
  refine go_iload_n (i := 2) dM_holdsGoose_56 rfl rfl ?_
  refine go_iconst dM_holdsGoose_57 (inR_of _ rfl) ?_
  refine go_VP dM_holdsGoose_58 vkM79 (by assumption) (List.cons_ne_nil _ _) (qM_its hM3 (by omega) (by omega) (by omega) (by omega)) rfl (by omega) rfl (fun _ => Nat.le_of_ble_eq_true rfl) ?_
  rw [s3]
  refine go_mst (i := 15) (k := 4 * k + 3) hM3 (by omega) dM_holdsGoose_61 rfl rfl (by show _ < 20; omega) (fun F4 m4 hM4 hF4 e4 => ?_)
  refine go_vret dM_holdsGoose_62 rfl ?_
  refine ⟨rfl, F4, m4, rfl, hM4, ((hF1.tr hF2).tr hF3).tr hF4, ?_⟩
  unfold u_hg
  rw [e4, e3, bx_uu, e2, bx_uu, e1, bx_uu]
  rfl
def u_hs (m : Nat → Nat → Int) (k v : Nat) : Nat → Nat → Int := va_up (va_up (va_up m 9 (va_up (m 9) (4 + k) (m 9 v))) 10 (va_up (m 10) (4 + k) (m 10 v))) 11 (zcp (m 11) (24 * (4 + k)) (fun i => m 11 (24 * v + i)) 24)
theorem qM_holdsSheet (hM : MOD F r m) {k v : Nat} (hk : k < 5) (hv : v < 4) : CT g yM_holdsSheet 0 0 0 [gR r, gI (k : Int), gI (v : Int)] (N, F) (fun rr M' => rr = gU ∧ ∃ (F2 : Nat → GC) (m2 : Nat → Nat → Int), M' = (N, F2) ∧ MOD F2 r m2 ∧ FR r F F2 ∧ m2 = u_hs m k v) := by
  have ho := hM.1
  have loop : ∀ (j i : Nat), i + j = 24 → ∀ (F1 : Nat → GC) (m1 : Nat → Nat → Int), MOD F1 r m1 → FR r F F1 → m1 = va_up (va_up (va_up m 9 (va_up (m 9) (4 + k) (m 9 v))) 10 (va_up (m 10) (4 + k) (m 10 v))) 11 (zcp (m 11) (24 * (4 + k)) (fun i => m 11 (24 * v + i)) i) → Go g yM_holdsSheet 0 0 0 30 [gR r, gI (k : Int), gI (v : Int), gI i] [] (N, F1) (fun rr M' => rr = gU ∧ ∃ (F2 : Nat → GC) (m2 : Nat → Nat → Int), M' = (N, F2) ∧ MOD F2 r m2 ∧ FR r F F2 ∧ m2 = u_hs m k v) := by
    intro j
    induction j with
    | zero =>
      intro i hi F1 m1 hM1 hF1 e1
      have hi : i = 24 := by omega
      subst hi
      refine go_iload_n (i := 3) dM_holdsSheet_30 rfl rfl ?_
      refine go_bipush dM_holdsSheet_31 (inR_of _ rfl) rfl ?_
      refine go_ic_ge 66 dM_holdsSheet_33 rfl (fun h33 => ?_) (fun h33 => absurd (by omega) h33)
      refine go_vret dM_holdsSheet_66 rfl ?_
      exact ⟨rfl, F1, m1, rfl, hM1, hF1, e1⟩
    | succ j ih =>
      intro i hi F1 m1 hM1 hF1 e1
      have ho := hM1.1
      have e11 : m1 11 (24 * v + i) = m 11 (24 * v + i) := by
        rw [e1]
        show zcp (m 11) (24 * (4 + k)) (fun i => m 11 (24 * v + i)) i (24 * v + i) = _
        exact zcp_miss (by omega)
      refine go_iload_n (i := 3) dM_holdsSheet_30 rfl rfl ?_
      refine go_bipush dM_holdsSheet_31 (inR_of _ rfl) rfl ?_
      refine go_ic_ge 66 dM_holdsSheet_33 rfl (fun h33 => absurd h33 (by omega)) (fun h33 => ?_)
      refine go_aload_n (i := 0) dM_holdsSheet_36 rfl rfl trivial ?_
      refine go_getf dM_holdsSheet_37 flM43 (by assumption) rfl ?_
      refine go_bipush dM_holdsSheet_40 (inR_of _ rfl) rfl ?_
      refine go_iconst dM_holdsSheet_42 (inR_of _ rfl) ?_
      refine go_iload_n (i := 1) dM_holdsSheet_43 rfl rfl ?_
      refine go_iadd dM_holdsSheet_44 ?_
      refine go_imul dM_holdsSheet_45 ?_
      refine go_iload_n (i := 3) dM_holdsSheet_46 rfl rfl ?_
      refine go_iadd dM_holdsSheet_47 ?_
      refine go_top (((24 * (4 + k) + i : Nat) : Int)) (by (try simp (discharger := (unfold inR; omega)) only [w32_id]) <;> omega) ?_
      refine go_aload_n (i := 0) dM_holdsSheet_48 rfl rfl trivial ?_
      refine go_getf dM_holdsSheet_49 flM43 (by assumption) rfl ?_
      refine go_bipush dM_holdsSheet_52 (inR_of _ rfl) rfl ?_
      refine go_iload_n (i := 2) dM_holdsSheet_54 rfl rfl ?_
      refine go_imul dM_holdsSheet_55 ?_
      refine go_iload_n (i := 3) dM_holdsSheet_56 rfl rfl ?_
      refine go_iadd dM_holdsSheet_57 ?_
      refine go_top (((24 * v + i : Nat) : Int)) (by (try simp (discharger := (unfold inR; omega)) only [w32_id]) <;> omega) ?_
      refine go_iald' (24 * v + i) _ dM_holdsSheet_58 hM1.a11 rfl (by omega) e11 ?_
      refine go_mst (i := 11) (k := 24 * (4 + k) + i) hM1 (by omega) dM_holdsSheet_59 rfl rfl (by show _ < 216; omega) (fun F2 m2 hM2 hF2 e2 => ?_)
      refine go_inc3 (((i + 1 : Nat) : Int)) dM_holdsSheet_60 (Nat.le_of_ble_eq_true rfl) trivial (by (try simp (discharger := (unfold inR; omega)) only [w32_id]) <;> omega) ?_
      refine go_goto 30 dM_holdsSheet_63 rfl ?_
      refine ih (i + 1) (by omega) F2 m2 hM2 (hF1.tr hF2) ?_
      rw [e2, e1, bx_uu]
      rfl
  refine CT.of' (L0 := [gR r, gI (k : Int), gI (v : Int), gU]) plM (Nat.le_of_ble_eq_true rfl) rfl ?_
  refine go_aload_n (i := 0) dM_holdsSheet_0 rfl rfl trivial ?_
  refine go_getf dM_holdsSheet_1 flM37 (by assumption) rfl ?_
  refine go_iconst dM_holdsSheet_4 (inR_of _ rfl) ?_
  refine go_iload_n (i := 1) dM_holdsSheet_5 rfl rfl ?_
  refine go_iadd dM_holdsSheet_6 ?_
  refine go_top (((4 + k : Nat) : Int)) (by (try simp (discharger := (unfold inR; omega)) only [w32_id]) <;> omega) ?_
  refine go_aload_n (i := 0) dM_holdsSheet_7 rfl rfl trivial ?_
  refine go_getf dM_holdsSheet_8 flM37 (by assumption) rfl ?_
  refine go_iload_n (i := 2) dM_holdsSheet_11 rfl rfl ?_
  refine go_iald' v _ dM_holdsSheet_12 hM.a9 rfl (by omega) rfl ?_
  refine go_mst (i := 9) (k := 4 + k) hM (by omega) dM_holdsSheet_13 rfl rfl (by show _ < 9; omega) (fun F1 m1 hM1 hF1 e1 => ?_)
  have ho1 := hM1.1
  have e10 : m1 10 v = m 10 v := by rw [e1]; rfl
  refine go_aload_n (i := 0) dM_holdsSheet_14 rfl rfl trivial ?_
  refine go_getf dM_holdsSheet_15 flM40 (by assumption) rfl ?_
  refine go_iconst dM_holdsSheet_18 (inR_of _ rfl) ?_
  refine go_iload_n (i := 1) dM_holdsSheet_19 rfl rfl ?_
  refine go_iadd dM_holdsSheet_20 ?_
  refine go_top (((4 + k : Nat) : Int)) (by (try simp (discharger := (unfold inR; omega)) only [w32_id]) <;> omega) ?_
  refine go_aload_n (i := 0) dM_holdsSheet_21 rfl rfl trivial ?_
  refine go_getf dM_holdsSheet_22 flM40 (by assumption) rfl ?_
  refine go_iload_n (i := 2) dM_holdsSheet_25 rfl rfl ?_
  refine go_iald' v _ dM_holdsSheet_26 hM1.a10 rfl (by omega) e10 ?_
  refine go_mst (i := 10) (k := 4 + k) hM1 (by omega) dM_holdsSheet_27 rfl rfl (by show _ < 9; omega) (fun F2 m2 hM2 hF2 e2 => ?_)
  refine go_iconst dM_holdsSheet_28 (inR_of _ rfl) ?_
  refine go_is3 dM_holdsSheet_29 (Nat.le_of_ble_eq_true rfl) trivial ?_
  refine loop 24 0 (by omega) F2 m2 hM2 (hF1.tr hF2) ?_
  rw [e2, e1]
  show va_up (va_up m 9 (va_up (m 9) (4 + k) (m 9 v))) 10 (va_up (m 10) (4 + k) (m 10 v)) = _
  funext q
  by_cases c : q = 11
  · subst c; rfl
  · rw [va_up_ne _ (zcp (m 11) (24 * (4 + k)) (fun i => m 11 (24 * v + i)) 0) c]
def u_laid (m : Nat → Nat → Int) (k : Nat) (w v : Int) : Nat → Nat → Int :=
  if w = 1 then u_hg (va_up (va_up m 13 (va_up (m 13) k w)) 14 (va_up (m 14) k v)) k v.toNat
  else if w = 2 then u_hs (va_up (va_up m 13 (va_up (m 13) k w)) 14 (va_up (m 14) k v)) k v.toNat
  else va_up (va_up m 13 (va_up (m 13) k w)) 14 (va_up (m 14) k v)
theorem qM_laid (hM : MOD F r m) {k : Nat} {w v : Int} (hk : k < 5) (h1 : w = 1 → 0 ≤ v ∧ v < 10) (h2 : w = 2 → 0 ≤ v ∧ v < 4) : CT g yM_laid 3 0 0 [gR r, gI (k : Int), gI w, gI v] (N, F) (MB N r F (gI (m 13 k)) (u_laid m k w v)) := by
  have ho := hM.1
  refine CT.of' (L0 := [gR r, gI (k : Int), gI w, gI v, gU]) plM (Nat.le_of_ble_eq_true rfl) rfl ?_
  refine go_aload_n (i := 0) dM_laid_0 rfl rfl trivial ?_
  refine go_getf dM_laid_1 flM49 (by assumption) rfl ?_
  refine go_iload_n (i := 1) dM_laid_4 rfl rfl ?_
  refine go_iald' k _ dM_laid_5 hM.a13 rfl (by omega) rfl ?_
  refine go_is4 dM_laid_6 (Nat.le_of_ble_eq_true rfl) trivial ?_
  refine go_aload_n (i := 0) dM_laid_8 rfl rfl trivial ?_
  refine go_getf dM_laid_9 flM49 (by assumption) rfl ?_
  refine go_iload_n (i := 1) dM_laid_12 rfl rfl ?_
  refine go_iload_n (i := 2) dM_laid_13 rfl rfl ?_
  refine go_mst (i := 13) (k := k) hM (by omega) dM_laid_14 rfl rfl (by show _ < 5; omega) (fun F1 m1 hM1 hF1 e1 => ?_)
  have ho1 := hM1.1
  refine go_aload_n (i := 0) dM_laid_15 rfl rfl trivial ?_
  refine go_getf dM_laid_16 flM52 (by assumption) rfl ?_
  refine go_iload_n (i := 1) dM_laid_19 rfl rfl ?_
  refine go_iload_n (i := 3) dM_laid_20 rfl rfl ?_
  refine go_mst (i := 14) (k := k) hM1 (by omega) dM_laid_21 rfl rfl (by show _ < 5; omega) (fun F2 m2 hM2 hF2 e2 => ?_)
  have e2' : m2 = va_up (va_up m 13 (va_up (m 13) k w)) 14 (va_up (m 14) k v) := by rw [e2, e1]; rfl
  have ho2 := hM2.1
  refine go_iload_n (i := 2) dM_laid_22 rfl rfl ?_
  refine go_iconst dM_laid_23 (inR_of _ rfl) ?_
  refine go_ic_ne 33 dM_laid_24 rfl (fun h24 => ?_) (fun h24 => ?_)
  · refine go_iload_n (i := 2) dM_laid_33 rfl rfl ?_
    refine go_iconst dM_laid_34 (inR_of _ rfl) ?_
    refine go_ic_ne 44 dM_laid_35 rfl (fun h35 => ?_) (fun h35 => ?_)
    · refine go_iload dM_laid_44 rfl ?_
      refine go_iret dM_laid_46 rfl rfl ?_
      exact MB.eq hM2 (hF1.tr hF2) (by rw [e2']; unfold u_laid; rw [if_neg h24, if_neg h35]) rfl
    · have hv := h2 h35
      rw [show v = ((v.toNat : Nat) : Int) by omega]
      refine go_aload_n (i := 0) dM_laid_38 rfl rfl trivial ?_
      refine go_iload_n (i := 1) dM_laid_39 rfl rfl ?_
      refine go_iload_n (i := 3) dM_laid_40 rfl rfl ?_
      refine go_VX dM_laid_41 vkM346 (by assumption) (List.cons_ne_nil _ _) (qM_holdsSheet hM2 (k := k) (v := v.toNat) hk (by omega)) rfl (by omega) (by omega) (by omega) rfl (fun _ => Nat.le_of_ble_eq_true rfl) ?_
      rintro _ _ ⟨rfl, F3, m3, rfl, hM3, hF3, e3⟩ -
      dsimp only [rp]
      refine go_iload dM_laid_44 rfl ?_
      refine go_iret dM_laid_46 rfl rfl ?_
      refine MB.eq hM3 ((hF1.tr hF2).tr hF3) ?_ rfl
      rw [e3, e2']
      unfold u_laid
      rw [if_neg h24, if_pos h35, ← show v = ((v.toNat : Nat) : Int) by omega]
  · have hv := h1 h24
    rw [show v = ((v.toNat : Nat) : Int) by omega]
    refine go_aload_n (i := 0) dM_laid_27 rfl rfl trivial ?_
    refine go_iload_n (i := 1) dM_laid_28 rfl rfl ?_
    refine go_iload_n (i := 3) dM_laid_29 rfl rfl ?_
    refine go_VX dM_laid_30 vkM342 (by assumption) (List.cons_ne_nil _ _) (qM_holdsGoose hM2 (k := k) (i := v.toNat) hk (by omega)) rfl (by omega) (by omega) (by omega) rfl (fun _ => Nat.le_of_ble_eq_true rfl) ?_
    rintro _ _ ⟨rfl, F3, m3, rfl, hM3, hF3, e3⟩ -
    dsimp only [rp]
    refine go_iload_n (i := 2) dM_laid_33 rfl rfl ?_
    refine go_iconst dM_laid_34 (inR_of _ rfl) ?_
    refine go_ic_ne 44 dM_laid_35 rfl (fun h35 => ?_) (fun h35 => ?_)
    · refine go_iload dM_laid_44 rfl ?_
      refine go_iret dM_laid_46 rfl rfl ?_
      refine MB.eq hM3 ((hF1.tr hF2).tr hF3) ?_ rfl
      rw [e3, e2']
      unfold u_laid
      rw [if_pos h24, ← show v = ((v.toNat : Nat) : Int) by omega]
    · omega
def c_lay (m : Nat → Nat → Int) (k w v : Int) : Bool := decide ((0 ≤ k ∧ k ≤ 4) ∧ (w = 0 ∨ w = 3 ∨ (w = 1 ∧ 0 ≤ v ∧ v < m 0 0) ∨ (w = 2 ∧ 0 ≤ v ∧ v ≤ 3)))
def v_lay (m : Nat → Nat → Int) (k w v : Int) : Int := if c_lay m k w v = true then (if w = 2 ∧ m 9 v.toNat < 0 then MISSING else m 13 k.toNat) else BAD
def u_layS (m : Nat → Nat → Int) (k w v : Int) : Nat → Nat → Int := if c_lay m k w v = true then (if w = 2 ∧ m 9 v.toNat < 0 then m else u_laid m k.toNat w v) else m
theorem bM_lay (hM : MOD F r m) (hw : zW (m 0)) {k w v : Int} : CT g yM_lay 4 0 0 [gR r, gI k, gI w, gI v] (N, F) (MB N r F (gI (v_lay m k w v)) (u_layS m k w v)) := by
  have ho := hM.1
  have hn0 := hw.1.1
  have hn1 := hw.1.2.1
  have t53 : ∀ x4 : GV, c_lay m k w v = false → Go g yM_lay 4 0 0 53 [gR r, gI k, gI w, gI v, x4] [] (N, F) (MB N r F (gI (v_lay m k w v)) (u_layS m k w v)) := by
    intro x4 hc
    have hc : ¬ c_lay m k w v = true := by rw [hc]; decide
    refine go_ldc dM_lay_53 kcM96 (inR_of _ rfl) ?_
    refine go_iret dM_lay_55 rfl rfl ?_
    exact MB.eq hM FR.rf (by unfold u_layS; rw [if_neg hc]) (by unfold v_lay; rw [if_neg hc])
  have t39 : ∀ x : Int, (x ≠ 0 ↔ (w = 0 ∨ w = 3 ∨ (w = 1 ∧ 0 ≤ v ∧ v < m 0 0) ∨ (w = 2 ∧ 0 ≤ v ∧ v ≤ 3))) → Go g yM_lay 4 0 0 39 [gR r, gI k, gI w, gI v, gU] [gI x] (N, F) (MB N r F (gI (v_lay m k w v)) (u_layS m k w v)) := by
    intro x hx
    refine go_is4 dM_lay_39 (Nat.le_of_ble_eq_true rfl) trivial ?_
    refine go_iload_n (i := 1) dM_lay_41 rfl rfl ?_
    refine go_SP dM_lay_42 vkM349 (ct_isSlot k) rfl (by omega) rfl (fun _ => Nat.le_of_ble_eq_true rfl) ?_
    refine go_if_eq 53 dM_lay_45 rfl (fun h45 => ?_) (fun h45 => ?_)
    · exact t53 _ (decide_eq_false (fun h => by grind [zin]))
    · refine go_iload dM_lay_48 rfl ?_
      refine go_if_ne 56 dM_lay_50 rfl (fun h50 => ?_) (fun h50 => ?_)
      · have hk : 0 ≤ k ∧ k ≤ 4 := by grind [zin]
        have hcp := hx.mp h50
        have hc : c_lay m k w v = true := decide_eq_true ⟨hk, hcp⟩
        have t75 : ∀ x4 : GV, ¬ (w = 2 ∧ m 9 v.toNat < 0) → Go g yM_lay 4 0 0 75 [gR r, gI k, gI w, gI v, x4] [] (N, F) (MB N r F (gI (v_lay m k w v)) (u_layS m k w v)) := by
          intro x4 hn
          have hv : v_lay m k w v = m 13 k.toNat := by unfold v_lay; rw [if_pos hc, if_neg hn]
          have hu : u_layS m k w v = u_laid m k.toNat w v := by unfold u_layS; rw [if_pos hc, if_neg hn]
          rw [hv, hu]
          have ek : k = ((k.toNat : Nat) : Int) := by omega
          generalize k.toNat = kk at *
          subst ek
          refine go_aload_n (i := 0) dM_lay_75 rfl rfl trivial ?_
          refine go_iload_n (i := 1) dM_lay_76 rfl rfl ?_
          refine go_iload_n (i := 2) dM_lay_77 rfl rfl ?_
          refine go_iload_n (i := 3) dM_lay_78 rfl rfl ?_
          refine go_VX dM_lay_79 vkM352 (by assumption) (List.cons_ne_nil _ _) (qM_laid hM (k := kk) (w := w) (v := v) (by omega) (fun e => by omega) (fun e => by omega)) rfl (by omega) (by omega) (by omega) rfl (fun _ => Nat.le_of_ble_eq_true rfl) ?_
          rintro _ _ ⟨rfl, F3, m3, rfl, h3⟩ -
          dsimp only [rp]
          refine go_iret dM_lay_82 rfl rfl ?_
          exact ⟨rfl, F3, m3, rfl, h3⟩
        refine go_iload_n (i := 2) dM_lay_56 rfl rfl ?_
        refine go_iconst dM_lay_57 (inR_of _ rfl) ?_
        refine go_ic_ne 75 dM_lay_58 rfl (fun h58 => ?_) (fun h58 => ?_)
        · exact t75 _ (fun h => h58 h.1)
        · refine go_aload_n (i := 0) dM_lay_61 rfl rfl trivial ?_
          refine go_getf dM_lay_62 flM37 (by assumption) rfl ?_
          refine go_iload_n (i := 3) dM_lay_65 rfl rfl ?_
          refine go_iald' v.toNat _ dM_lay_66 hM.a9 (by omega) (by omega) rfl ?_
          refine go_if_ge 75 dM_lay_67 rfl (fun h67 => ?_) (fun h67 => ?_)
          · exact t75 _ (fun h => by omega)
          · refine go_ldc dM_lay_70 kcM218 (inR_of _ rfl) ?_
            refine go_goto 82 dM_lay_72 rfl ?_
            refine go_iret dM_lay_82 rfl rfl ?_
            exact MB.eq hM FR.rf (by unfold u_layS; rw [if_pos hc, if_pos ⟨h58, by omega⟩]) (by unfold v_lay; rw [if_pos hc, if_pos ⟨h58, by omega⟩])
      · exact t53 _ (decide_eq_false (fun h => hx.mpr h.2 (by omega)))
  refine CT.of' (L0 := [gR r, gI k, gI w, gI v, gU]) plM (Nat.le_of_ble_eq_true rfl) rfl ?_
  refine go_iload_n (i := 2) dM_lay_0 rfl rfl ?_
  refine go_iconst dM_lay_1 (inR_of _ rfl) ?_
  refine go_ic_ne 13 dM_lay_2 rfl (fun h2 => ?_) (fun h2 => ?_)
  · refine go_iload_n (i := 2) dM_lay_13 rfl rfl ?_
    refine go_iconst dM_lay_14 (inR_of _ rfl) ?_
    refine go_ic_ne 25 dM_lay_15 rfl (fun h15 => ?_) (fun h15 => ?_)
    · refine go_iload_n (i := 2) dM_lay_25 rfl rfl ?_
      refine go_if_eq 34 dM_lay_26 rfl (fun h26 => ?_) (fun h26 => ?_)
      · refine go_iconst dM_lay_34 (inR_of _ rfl) ?_
        refine go_goto 39 dM_lay_35 rfl ?_
        exact t39 1 (by simp; omega)
      · refine go_iload_n (i := 2) dM_lay_29 rfl rfl ?_
        refine go_iconst dM_lay_30 (inR_of _ rfl) ?_
        refine go_ic_ne 38 dM_lay_31 rfl (fun h31 => ?_) (fun h31 => ?_)
        · refine go_iconst dM_lay_38 (inR_of _ rfl) ?_
          exact t39 0 (by simp; omega)
        · refine go_iconst dM_lay_34 (inR_of _ rfl) ?_
          refine go_goto 39 dM_lay_35 rfl ?_
          exact t39 1 (by simp; omega)
    · refine go_iload_n (i := 3) dM_lay_18 rfl rfl ?_
      refine go_SP dM_lay_19 vkM215 (ct_isSheet v) rfl (by omega) rfl (fun _ => Nat.le_of_ble_eq_true rfl) ?_
      refine go_goto 39 dM_lay_22 rfl ?_
      exact t39 _ (by grind [zin])
  · refine go_aload_n (i := 0) dM_lay_5 rfl rfl trivial ?_
    refine go_iload_n (i := 3) dM_lay_6 rfl rfl ?_
    refine go_VP dM_lay_7 vkM92 (by assumption) (List.cons_ne_nil _ _) (qM_isGoose hM _ hn0 hn1) rfl (by omega) rfl (fun _ => Nat.le_of_ble_eq_true rfl) ?_
    refine go_goto 39 dM_lay_10 rfl ?_
    exact t39 _ (by grind [zin])
end MSLOT
