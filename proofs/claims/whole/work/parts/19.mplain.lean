section MPLAIN
variable {g : GX} {N r : Nat} {F : Nat → GC} {m : Nat → Nat → Int}
/-- a store into a row of the model -/
theorem go_mst {y : GY} {d bc bs pc : Nat} {L st : List GV} {Q : GV → GM → Prop} {i k a : Nat} {j x : Int} (hM : MOD F r m) (hi : i < 17) (hd : decode y.2.1 pc = .ok (.iastore, 1)) (ha : a = r + (i + 1)) (hj : j = (k : Int)) (hk : k < mLen i)
    (kk : ∀ (F1 : Nat → GC) (m1 : Nat → Nat → Int), MOD F1 r m1 → FR r F F1 → m1 = va_up m i (va_up (m i) k x) → Go g y d bc bs (pc + 1) L st (N, F1) Q) : Go g y d bc bs pc L (gI x :: gI j :: gR a :: st) (N, F) Q := by
  subst ha
  have e : r + (i + 1) = r + 1 + i := by omega
  rw [e]
  exact go_iast' k hd (hM.2 i hi) hj hk (kk _ _ (hM.put i hi _) (FR.rf.put (by omega) (by omega)) rfl)
/-- a number of the model is put -/
theorem qM_plain (hM : MOD F r m) (hw : zW (m 0)) (hT : zT (m 0)) (i : Int) (h0 : 0 ≤ i) (h1 : i < m 0 0) : CT g yM_plain 3 0 0 [gR r, gI i] (N, F) (MP N r F m (gI (zlook (m 0) i (zk (m 0) i 3) (zinY (m 0) (zk (m 0) i 3) (zmany (m 0))))) (m 0) [4, 5]) := by
  have ho := hM.1
  have a0 := hM.a0
  have hn1 := hw.1.2.1
  have hg := hw.goose h0 h1
  have hd2 : (zk (m 0) i 2).tdiv 2 = zk (m 0) i 2 / 2 := Int.tdiv_eq_ediv_of_nonneg hg.2.2.1.1
  have tail : ∀ (F1 : Nat → GC) (m1 : Nat → Nat → Int) (v : Int), MOD F1 r m1 → FR r F F1 → SB [0, 4, 5] m m1 → m1 0 = m 0 → zheld v 0 99 = zlook (m 0) i (zk (m 0) i 3) (zinY (m 0) (zk (m 0) i 3) (zmany (m 0))) → Go g yM_plain 3 0 0 98 [gR r, gI i, gI v] [] (N, F1) (MP N r F m (gI (zlook (m 0) i (zk (m 0) i 3) (zinY (m 0) (zk (m 0) i 3) (zmany (m 0))))) (m 0) [4, 5]) := by
    intro F1 m1 v hM1 hF1 hS1 e1 hv
    refine go_iload_n (i := 2) dM_plain_98 rfl rfl ?_
    refine go_iconst dM_plain_99 (inR_of _ rfl) ?_
    refine go_bipush dM_plain_100 (inR_of _ rfl) rfl ?_
    refine go_SP dM_plain_102 vkM89 (ct_held _ _ _) rfl (by omega) rfl (fun _ => Nat.le_of_ble_eq_true rfl) ?_
    refine go_iret dM_plain_105 rfl rfl ?_
    exact ⟨by rw [hv], F1, m1, rfl, hM1, hF1, e1, hS1⟩
  refine CT.of' (L0 := [gR r, gI i, gU]) plM (Nat.le_of_ble_eq_true rfl) rfl ?_
  refine go_aload_n (i := 0) dM_plain_0 rfl rfl trivial ?_
  refine go_iload_n (i := 1) dM_plain_1 rfl rfl ?_
  refine go_iconst dM_plain_2 (inR_of _ rfl) ?_
  refine go_VP dM_plain_3 vkM79 (by assumption) (List.cons_ne_nil _ _) (qM_its hM (by omega) (by omega) (by omega) (by omega)) rfl (by omega) rfl (fun _ => Nat.le_of_ble_eq_true rfl) ?_
  refine go_aload_n (i := 0) dM_plain_6 rfl rfl trivial ?_
  refine go_iload_n (i := 1) dM_plain_7 rfl rfl ?_
  refine go_iconst dM_plain_8 (inR_of _ rfl) ?_
  refine go_VP dM_plain_9 vkM79 (by assumption) (List.cons_ne_nil _ _) (qM_its hM (by omega) (by omega) (by omega) (by omega)) rfl (by omega) rfl (fun _ => Nat.le_of_ble_eq_true rfl) ?_
  refine go_iconst dM_plain_12 (inR_of _ rfl) ?_
  refine go_idiv dM_plain_13 (by omega) ?_
  refine go_isub dM_plain_14 ?_
  refine go_is2 dM_plain_15 (Nat.le_of_ble_eq_true rfl) trivial ?_
  refine go_aload_n (i := 0) dM_plain_16 rfl rfl trivial ?_
  refine go_getf dM_plain_17 flM7 (by assumption) rfl ?_
  refine go_bipush dM_plain_20 (inR_of _ rfl) rfl ?_
  refine go_iald' 65 _ dM_plain_22 (by assumption) rfl (by omega) rfl ?_
  refine go_if_lt 98 dM_plain_23 rfl (fun h23 => ?_) (fun h23 => ?_)
  · refine tail F m _ hM FR.rf SB.rf rfl ?_
    unfold zlook
    rw [if_neg (by omega), w32_id (x := (zk (m 0) i 2).tdiv 2) (by unfold inR; omega), w32_id (by unfold inR; omega)]
  · obtain ⟨t, n, ht, h65, h82, hn, hwf⟩ := hT.law (w := 0) (by omega) (by show 0 ≤ m 0 65; omega)
    refine go_aload_n (i := 0) dM_plain_26 rfl rfl trivial ?_
    refine go_getf dM_plain_27 flM25 (by assumption) rfl ?_
    refine go_iconst dM_plain_30 (inR_of _ rfl) ?_
    refine go_aload_n (i := 0) dM_plain_31 rfl rfl trivial ?_
    refine go_iload_n (i := 1) dM_plain_32 rfl rfl ?_
    refine go_iconst dM_plain_33 (inR_of _ rfl) ?_
    refine go_VP dM_plain_34 vkM79 (by assumption) (List.cons_ne_nil _ _) (qM_its hM (by omega) (by omega) (by omega) (by omega)) rfl (by omega) rfl (fun _ => Nat.le_of_ble_eq_true rfl) ?_
    refine go_mst (i := 5) (k := 0) hM (by omega) dM_plain_37 rfl rfl (by decide) (fun F1 m1 hM1 hF1 e1 => ?_)
    have e10 : m1 0 = m 0 := by rw [e1]; rfl
    have ho1 := hM1.1
    refine go_aload_n (i := 0) dM_plain_38 rfl rfl trivial ?_
    refine go_getf dM_plain_39 flM25 (by assumption) rfl ?_
    refine go_iconst dM_plain_42 (inR_of _ rfl) ?_
    refine go_aload_n (i := 0) dM_plain_43 rfl rfl trivial ?_
    refine go_iload_n (i := 1) dM_plain_44 rfl rfl ?_
    refine go_iconst dM_plain_45 (inR_of _ rfl) ?_
    refine go_VP dM_plain_46 vkM79 (by assumption) (List.cons_ne_nil _ _) (qM_its hM1 (by omega) (by omega) (by omega) (by omega)) rfl (by omega) rfl (fun _ => Nat.le_of_ble_eq_true rfl) ?_
    refine go_mst (i := 5) (k := 1) hM1 (by omega) dM_plain_49 rfl rfl (by decide) (fun F2 m2 hM2 hF2 e2 => ?_)
    have e20 : m2 0 = m 0 := by rw [e2]; exact e10
    have ho2 := hM2.1
    have hnd := hw.need hg.2.2.2.1.1 hg.2.2.2.1.2
    have hy2 : zk (m2 0) i 3 = zk (m 0) i 3 := by rw [e20]
    refine go_aload_n (i := 0) dM_plain_50 rfl rfl trivial ?_
    refine go_getf dM_plain_51 flM25 (by assumption) rfl ?_
    refine go_iconst dM_plain_54 (inR_of _ rfl) ?_
    refine go_aload_n (i := 0) dM_plain_55 rfl rfl trivial ?_
    refine go_getf dM_plain_56 flM7 (by assumption) rfl ?_
    refine go_bipush dM_plain_59 (inR_of _ rfl) rfl ?_
    refine go_aload_n (i := 0) dM_plain_61 rfl rfl trivial ?_
    refine go_iload_n (i := 1) dM_plain_62 rfl rfl ?_
    refine go_iconst dM_plain_63 (inR_of _ rfl) ?_
    refine go_VP dM_plain_64 vkM79 (by assumption) (List.cons_ne_nil _ _) (qM_its hM2 (by omega) (by omega) (by omega) (by omega)) rfl (by omega) rfl (fun _ => Nat.le_of_ble_eq_true rfl) ?_
    refine go_iadd dM_plain_67 ?_
    refine go_top (8 + zk (m2 0) i 3) (by (try simp (discharger := (unfold inR; omega)) only [w32_id]) <;> omega) ?_
    refine go_iald' (8 + zk (m2 0) i 3).toNat _ dM_plain_68 hM2.a0 (by rw [e20]; omega) (by rw [e20]; omega) rfl ?_
    refine go_mst (i := 5) (k := 2) hM2 (by omega) dM_plain_69 rfl rfl (by decide) (fun F3 m3 hM3 hF3 e3 => ?_)
    have e30 : m3 0 = m 0 := by rw [e3]; exact e20
    have ho3 := hM3.1
    refine go_aload_n (i := 0) dM_plain_70 rfl rfl trivial ?_
    refine go_getf dM_plain_71 flM25 (by assumption) rfl ?_
    refine go_iconst dM_plain_74 (inR_of _ rfl) ?_
    refine go_aload_n (i := 0) dM_plain_75 rfl rfl trivial ?_
    refine go_aload_n (i := 0) dM_plain_76 rfl rfl trivial ?_
    refine go_iload_n (i := 1) dM_plain_77 rfl rfl ?_
    refine go_iconst dM_plain_78 (inR_of _ rfl) ?_
    refine go_VP dM_plain_79 vkM79 (by assumption) (List.cons_ne_nil _ _) (qM_its hM3 (by omega) (by omega) (by omega) (by omega)) rfl (by omega) rfl (fun _ => Nat.le_of_ble_eq_true rfl) ?_
    refine go_VP dM_plain_82 vkM82 (by assumption) (List.cons_ne_nil _ _) (qM_inYard hM3 (by rw [e30]; exact hw) _) rfl (by omega) rfl (fun _ => Nat.le_of_ble_eq_true rfl) ?_
    refine go_mst (i := 5) (k := 3) hM3 (by omega) dM_plain_85 rfl rfl (by decide) (fun F4 m4 hM4 hF4 e4 => ?_)
    have e40 : m4 0 = m 0 := by rw [e4]; exact e30
    have ho4 := hM4.1
    have a4 := hM4.a0
    have hS4 : SB [0, 4, 5] m m4 := by
      rw [e4, e3, e2, e1]
      exact (((SB.rf.put (by simp)).put (by simp)).put (by simp)).put (by simp)
    refine go_aload_n (i := 0) dM_plain_86 rfl rfl trivial ?_
    refine go_aload_n (i := 0) dM_plain_87 rfl rfl trivial ?_
    refine go_getf dM_plain_88 flM7 (by assumption) rfl ?_
    refine go_bipush dM_plain_91 (inR_of _ rfl) rfl ?_
    refine go_iald' 65 ((t : Nat) : Int) dM_plain_93 hM4.a0 rfl (by omega) (by rw [e40]; exact h65) ?_
    refine go_VX dM_plain_94 vkM86 (by assumption) (List.cons_ne_nil _ _) (qM_worked hM4 t n 4 ht (by omega) (by rw [e40]; exact h82) (by omega) (by rw [e40]; exact hwf)) rfl (by omega) (by omega) (by omega) rfl (fun _ => Nat.le_of_ble_eq_true rfl) ?_
    rintro _ _ ⟨rfl, F5, m5, rfl, hM5, hF5, e5, hS5⟩ -
    dsimp only [rp]
    refine go_is2 dM_plain_97 (Nat.le_of_ble_eq_true rfl) trivial ?_
    refine tail F5 m5 _ hM5 ((((hF1.tr hF2).tr hF3).tr hF4).tr hF5) (hS4.tr (hS5.mono (by simp))) (e5.trans e40) ?_
    unfold zlook
    rw [if_pos (by omega), zlaw_eq _ h65 h82]
    congr 1
    rw [e40]
    refine zwork_nm hwf (fun j hj => ?_)
    rw [if_pos rfl] at hj
    rw [e4, e3, e2, e1] at *
    match j, hj with
    | 0, _ => rfl
    | 1, _ => rfl
    | 2, _ => rfl
    | 3, _ => rfl
    | j + 4, hj => omega
end MPLAIN
