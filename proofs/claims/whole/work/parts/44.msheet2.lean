section MSHEET2
variable {g : GX} {N r : Nat} {F F1 F2 : Nat → GC} {m m1 m2 : Nat → Nat → Int}
def zpo (s nums : Nat → Int) (i : Nat) : Int := if nums i = NONE then zk s i 1 else zheld (nums i) 0 99
def zpc (s nums : Nat → Int) (n : Nat) : Int := zsum (fun i => if zk s i 1 = zpo s nums i then 0 else 1) n
theorem zpc_in (s nums : Nat → Int) (n : Nat) : 0 ≤ zpc s nums n ∧ zpc s nums n ≤ n := by
  have := zsum_le (f := fun i => if zk s i 1 = zpo s nums i then 0 else 1) (a := 0) (b := 1) (n := n) (fun i _ => by split <;> omega)
  unfold zpc
  omega
def zmn (s : Nat → Int) (z : Int) : Nat := min (zmany s) z.toNat
def v_pour (m : Nat → Nat → Int) (k : Int) : Int := if 0 ≤ k ∧ k ≤ 3 then (if m 9 k.toNat < 0 then MISSING else zpc (m 0) (fun d => m 11 (24 * k.toNat + d)) (zmn (m 0) (m 10 k.toNat))) else BAD
def u_pour (m : Nat → Nat → Int) (k : Int) : Nat → Nat → Int := if (0 ≤ k ∧ k ≤ 3) ∧ ¬ m 9 k.toNat < 0 then va_up m 0 (zset (m 0) 1 (zpo (m 0) (fun d => m 11 (24 * k.toNat + d))) (zmn (m 0) (m 10 k.toNat))) else m
theorem bM_pour (hM : MOD F r m) (hw : zW (m 0)) (hs : mSh m) {k : Int} : CT g yM_pour 2 0 0 [gR r, gI k] (N, F) (MB N r F (gI (v_pour m k)) (u_pour m k)) := by
  have ho := hM.1
  have hm := zmany_le hw
  refine CT.of' (L0 := [gR r, gI k, gU, gU, gU, gU]) plM (Nat.le_of_ble_eq_true rfl) rfl ?_
  refine go_iload_n (i := 1) dM_pour_0 rfl rfl ?_
  refine go_SP dM_pour_1 vkM215 (ct_isSheet k) rfl (by omega) rfl (fun _ => Nat.le_of_ble_eq_true rfl) ?_
  refine go_if_ne 10 dM_pour_4 rfl (fun h4 => ?_) (fun h4 => ?_)
  · have hc : 0 ≤ k ∧ k ≤ 3 := by grind [zin]
    have h9 := hs k.toNat (by omega)
    refine go_aload_n (i := 0) dM_pour_10 rfl rfl trivial ?_
    refine go_getf dM_pour_11 flM37 (by assumption) rfl ?_
    refine go_iload_n (i := 1) dM_pour_14 rfl rfl ?_
    refine go_iald' k.toNat _ dM_pour_15 hM.a9 (by omega) (by omega) rfl ?_
    refine go_if_ge 22 dM_pour_16 rfl (fun h16 => ?_) (fun h16 => ?_)
    · have hv : v_pour m k = zpc (m 0) (fun d => m 11 (24 * k.toNat + d)) (zmn (m 0) (m 10 k.toNat)) := by unfold v_pour; rw [if_pos hc, if_neg (by omega)]
      have hu : u_pour m k = va_up m 0 (zset (m 0) 1 (zpo (m 0) (fun d => m 11 (24 * k.toNat + d))) (zmn (m 0) (m 10 k.toNat))) := by unfold u_pour; rw [if_pos ⟨hc, by omega⟩]
      rw [hv, hu]
      generalize hnums : (fun d => m 11 (24 * k.toNat + d)) = nums
      have hnum : ∀ d, m 11 (24 * k.toNat + d) = nums d := fun d => by rw [← hnums]
      have hzn : zmn (m 0) (m 10 k.toNat) = min (zmany (m 0)) (m 10 k.toNat).toNat := rfl
      generalize zmn (m 0) (m 10 k.toNat) = P at hzn ⊢
      have last : ∀ (x4 x5 : GV) (F1 : Nat → GC) (m1 : Nat → Nat → Int), MOD F1 r m1 → FR r F F1 → SB [0] m m1 → m1 0 = zset (m 0) 1 (zpo (m 0) nums) P → Go g yM_pour 2 0 0 118 [gR r, gI k, gI (zpc (m 0) nums P), gI P, x4, x5] [] (N, F1) (MB N r F (gI (zpc (m 0) nums P)) (va_up m 0 (zset (m 0) 1 (zpo (m 0) nums) P))) := by
        intro x4 x5 F1 m1 hM1 hF1 hS1 e1
        refine go_iload_n (i := 2) dM_pour_118 rfl rfl ?_
        refine go_iret dM_pour_119 rfl rfl ?_
        exact ⟨rfl, F1, m1, rfl, hM1, hF1, EQ.sb e1 hS1 (by simp)⟩
      have loop : ∀ (j i : Nat), i + j = P → ∀ (x4 x5 : GV) (F1 : Nat → GC) (m1 : Nat → Nat → Int), MOD F1 r m1 → FR r F F1 → SB [0] m m1 → m1 0 = zset (m 0) 1 (zpo (m 0) nums) i → Go g yM_pour 2 0 0 26 [gR r, gI k, gI (zpc (m 0) nums i), gI i, x4, x5] [] (N, F1) (MB N r F (gI (zpc (m 0) nums P)) (va_up m 0 (zset (m 0) 1 (zpo (m 0) nums) P))) := by
        intro j
        induction j with
        | zero =>
          intro i hi x4 x5 F1 m1 hM1 hF1 hS1 e1
          have ho := hM1.1
          have a0 := hM1.a0
          have hiP : i = P := by omega
          have e0 : m1 0 0 = m 0 0 := by rw [e1]; exact zset_miss (fun i hi => by omega)
          have e10 : m1 10 k.toNat = m 10 k.toNat := by rw [hS1 10 (by decide)]
          rw [hiP] at e1 ⊢
          refine go_iload_n (i := 3) dM_pour_26 rfl rfl ?_
          refine go_aload_n (i := 0) dM_pour_27 rfl rfl trivial ?_
          refine go_getf dM_pour_28 flM7 (by assumption) rfl ?_
          refine go_iconst dM_pour_31 (inR_of _ rfl) ?_
          refine go_iald' 0 _ dM_pour_32 (by assumption) rfl (by omega) rfl ?_
          rw [e0]
          refine go_ic_ge 118 dM_pour_33 rfl (fun h33 => ?_) (fun h33 => ?_)
          · exact last _ _ F1 m1 hM1 hF1 hS1 e1
          · refine go_iload_n (i := 3) dM_pour_36 rfl rfl ?_
            refine go_aload_n (i := 0) dM_pour_37 rfl rfl trivial ?_
            refine go_getf dM_pour_38 flM40 (by assumption) rfl ?_
            refine go_iload_n (i := 1) dM_pour_41 rfl rfl ?_
            refine go_iald' k.toNat _ dM_pour_42 hM1.a10 (by omega) (by omega) e10 ?_
            refine go_ic_ge 118 dM_pour_43 rfl (fun h43 => ?_) (fun h43 => absurd (by omega) h43)
            exact last _ _ F1 m1 hM1 hF1 hS1 e1
        | succ j ih =>
          intro i hi x4 x5 F1 m1 hM1 hF1 hS1 e1
          have ho := hM1.1
          have a0 := hM1.a0
          have e0 : m1 0 0 = m 0 0 := by rw [e1]; exact zset_miss (fun i hi => by omega)
          have e10 : m1 10 k.toNat = m 10 k.toNat := by rw [hS1 10 (by decide)]
          have e11 : m1 11 (24 * k.toNat + i) = nums i := by rw [hS1 11 (by decide)]; exact hnum i
          have ei : zk (m1 0) i 1 = zk (m 0) i 1 := by
            unfold zk
            rw [e1]
            exact zset_miss (fun q hq => by omega)
          have hg := hw.goose (i := (i : Int)) (by omega) (by omega)
          have hpc := zpc_in (m 0) nums i
          have hs1 : zpc (m 0) nums (i + 1) = zpc (m 0) nums i + (if zk (m 0) i 1 = zpo (m 0) nums i then 0 else 1) := zsum_succ _ _
          have t107 : ∀ (v : Int) (F2 : Nat → GC) (m2 : Nat → Nat → Int), MOD F2 r m2 → FR r F F2 → SB [0] m m2 → m2 0 = zset (m 0) 1 (zpo (m 0) nums) (i + 1) → v = (if zk (m 0) i 1 = zpo (m 0) nums i then 0 else 1) → Go g yM_pour 2 0 0 107 [gR r, gI k, gI (zpc (m 0) nums i), gI i, gI (nums i), gI (zpo (m 0) nums i)] [gI v, gI (zpc (m 0) nums i)] (N, F2) (MB N r F (gI (zpc (m 0) nums P)) (va_up m 0 (zset (m 0) 1 (zpo (m 0) nums) P))) := by
            intro v F2 m2 hM2 hF2 hS2 e2 hv
            have hvt : ztruth v = v := by rw [hv]; unfold ztruth; split <;> simp_all
            refine go_SP dM_pour_107 vkM71 (ct_truth _) rfl (by omega) rfl (fun _ => Nat.le_of_ble_eq_true rfl) ?_
            rw [hvt]
            have hv01 : v = 0 ∨ v = 1 := by rw [hv]; split <;> simp
            rw [← hv] at hs1
            refine go_iadd dM_pour_110 ?_
            refine go_top (zpc (m 0) nums (i + 1)) (by (try simp (discharger := (unfold inR; omega)) only [w32_id]) <;> omega) ?_
            refine go_is2 dM_pour_111 (Nat.le_of_ble_eq_true rfl) trivial ?_
            refine go_inc3 (((i + 1 : Nat) : Int)) dM_pour_112 (Nat.le_of_ble_eq_true rfl) trivial (by (try simp (discharger := (unfold inR; omega)) only [w32_id]) <;> omega) ?_
            refine go_goto 26 dM_pour_115 rfl ?_
            exact ih (i + 1) (by omega) _ _ F2 m2 hM2 hF2 hS2 e2
          have t83 : ∀ x5 : GV, Go g yM_pour 2 0 0 83 [gR r, gI k, gI (zpc (m 0) nums i), gI i, gI (nums i), x5] [gI (zpo (m 0) nums i)] (N, F1) (MB N r F (gI (zpc (m 0) nums P)) (va_up m 0 (zset (m 0) 1 (zpo (m 0) nums) P))) := by
            intro x5
            refine go_is5 dM_pour_83 (Nat.le_of_ble_eq_true rfl) trivial ?_
            refine go_iload_n (i := 2) dM_pour_85 rfl rfl ?_
            refine go_aload_n (i := 0) dM_pour_86 rfl rfl trivial ?_
            refine go_iload_n (i := 3) dM_pour_87 rfl rfl ?_
            refine go_iconst dM_pour_88 (inR_of _ rfl) ?_
            refine go_SP dM_pour_89 vkM61 (ct_spot _ _) rfl (by omega) rfl (fun _ => Nat.le_of_ble_eq_true rfl) ?_
            refine go_top (((14 + 5 * i + 1 : Nat)) : Int) (by (try simp (discharger := (unfold inR; omega)) only [w32_id]) <;> omega) ?_
            refine go_iload dM_pour_92 rfl ?_
            refine go_VX dM_pour_94 vkM130 (by assumption) (List.cons_ne_nil _ _) (qM_changed hM1 (by omega) (by omega)) rfl (by omega) (by omega) (by omega) rfl (fun _ => Nat.le_of_ble_eq_true rfl) ?_
            rintro _ _ ⟨rfl, F2, m2, rfl, hM2, hF2, e2, hS2⟩ -
            dsimp only [rp]
            have eo : m1 0 (((14 + 5 * i + 1 : Nat)) : Int).toNat = zk (m 0) i 1 := by rw [← ei]; rfl
            rw [eo]
            have e2' : m2 0 = zset (m 0) 1 (zpo (m 0) nums) (i + 1) := by rw [e2, e1]; rfl
            refine go_iload dM_pour_97 rfl ?_
            refine go_ic_eq 106 dM_pour_99 rfl (fun h99 => ?_) (fun h99 => ?_)
            · refine go_iconst dM_pour_106 (inR_of _ rfl) ?_
              exact t107 0 F2 m2 hM2 (hF1.tr hF2) (hS1.tr hS2) e2' (by rw [if_pos h99])
            · refine go_iconst dM_pour_102 (inR_of _ rfl) ?_
              refine go_goto 107 dM_pour_103 rfl ?_
              exact t107 1 F2 m2 hM2 (hF1.tr hF2) (hS1.tr hS2) e2' (by rw [if_neg h99])
          refine go_iload_n (i := 3) dM_pour_26 rfl rfl ?_
          refine go_aload_n (i := 0) dM_pour_27 rfl rfl trivial ?_
          refine go_getf dM_pour_28 flM7 (by assumption) rfl ?_
          refine go_iconst dM_pour_31 (inR_of _ rfl) ?_
          refine go_iald' 0 _ dM_pour_32 (by assumption) rfl (by omega) rfl ?_
          rw [e0]
          refine go_ic_ge 118 dM_pour_33 rfl (fun h33 => absurd h33 (by omega)) (fun h33 => ?_)
          refine go_iload_n (i := 3) dM_pour_36 rfl rfl ?_
          refine go_aload_n (i := 0) dM_pour_37 rfl rfl trivial ?_
          refine go_getf dM_pour_38 flM40 (by assumption) rfl ?_
          refine go_iload_n (i := 1) dM_pour_41 rfl rfl ?_
          refine go_iald' k.toNat _ dM_pour_42 hM1.a10 (by omega) (by omega) e10 ?_
          refine go_ic_ge 118 dM_pour_43 rfl (fun h43 => absurd h43 (by omega)) (fun h43 => ?_)
          refine go_aload_n (i := 0) dM_pour_46 rfl rfl trivial ?_
          refine go_getf dM_pour_47 flM43 (by assumption) rfl ?_
          refine go_bipush dM_pour_50 (inR_of _ rfl) rfl ?_
          refine go_iload_n (i := 1) dM_pour_52 rfl rfl ?_
          refine go_imul dM_pour_53 ?_
          refine go_iload_n (i := 3) dM_pour_54 rfl rfl ?_
          refine go_iadd dM_pour_55 ?_
          refine go_top (((24 * k.toNat + i : Nat) : Int)) (by (try simp (discharger := (unfold inR; omega)) only [w32_id]) <;> omega) ?_
          refine go_iald' (24 * k.toNat + i) (nums i) dM_pour_56 hM1.a11 rfl (by omega) e11 ?_
          refine go_is4 dM_pour_57 (Nat.le_of_ble_eq_true rfl) trivial ?_
          refine go_iload dM_pour_59 rfl ?_
          refine go_ldc dM_pour_61 kcM169 (inR_of _ rfl) ?_
          refine go_ic_ne 75 dM_pour_63 rfl (fun h63 => ?_) (fun h63 => ?_)
          · refine go_iload dM_pour_75 rfl ?_
            refine go_iconst dM_pour_77 (inR_of _ rfl) ?_
            refine go_bipush dM_pour_78 (inR_of _ rfl) rfl ?_
            refine go_SP dM_pour_80 vkM89 (ct_held _ _ _) rfl (by omega) rfl (fun _ => Nat.le_of_ble_eq_true rfl) ?_
            rw [show zheld (nums i) 0 99 = zpo (m 0) nums i by unfold zpo; rw [if_neg h63]]
            exact t83 _
          · refine go_aload_n (i := 0) dM_pour_66 rfl rfl trivial ?_
            refine go_iload_n (i := 3) dM_pour_67 rfl rfl ?_
            refine go_iconst dM_pour_68 (inR_of _ rfl) ?_
            refine go_VP dM_pour_69 vkM79 (by assumption) (List.cons_ne_nil _ _) (qM_its hM1 (by omega) (by omega) (by omega) (by omega)) rfl (by omega) rfl (fun _ => Nat.le_of_ble_eq_true rfl) ?_
            refine go_goto 83 dM_pour_72 rfl ?_
            rw [ei, show zk (m 0) i 1 = zpo (m 0) nums i by unfold zpo; rw [if_pos h63]]
            exact t83 _
      refine go_iconst dM_pour_22 (inR_of _ rfl) ?_
      refine go_is2 dM_pour_23 (Nat.le_of_ble_eq_true rfl) trivial ?_
      refine go_iconst dM_pour_24 (inR_of _ rfl) ?_
      refine go_is3 dM_pour_25 (Nat.le_of_ble_eq_true rfl) trivial ?_
      exact loop P 0 (by omega) _ _ F m hM FR.rf SB.rf rfl
    · refine go_ldc dM_pour_19 kcM218 (inR_of _ rfl) ?_
      refine go_iret dM_pour_21 rfl rfl ?_
      exact MB.eq hM FR.rf (by unfold u_pour; rw [if_neg (fun h => h.2 (by omega))]) (by unfold v_pour; rw [if_pos hc, if_pos (by omega)])
  · refine go_ldc dM_pour_7 kcM96 (inR_of _ rfl) ?_
    refine go_iret dM_pour_9 rfl rfl ?_
    exact MB.eq hM FR.rf (by unfold u_pour; rw [if_neg (fun h => by grind [zin])]) (by unfold v_pour; rw [if_neg (by grind [zin])])
def zrd (s nums : Nat → Int) (p : Nat) : Int := if ¬ nums p = NONE ∧ ¬ ((p : Int) < s 0 ∧ zk s p 3 = nums p) then 1 else 0
def v_reads (m : Nat → Nat → Int) (k : Int) : Int := if 0 ≤ k ∧ k ≤ 3 then (if m 9 k.toNat < 0 then MISSING else if zfst (zrd (m 0) (fun d => m 11 (24 * k.toNat + d))) (m 10 k.toNat).toNat 0 < (m 10 k.toNat).toNat then ((zfst (zrd (m 0) (fun d => m 11 (24 * k.toNat + d))) (m 10 k.toNat).toNat 0 : Nat) : Int) else NONE) else BAD
theorem zfst_ge (p : Nat → Int) : ∀ n i, i ≤ zfst p n i ∧ zfst p n i ≤ i + n
  | 0, i => ⟨Nat.le_refl _, Nat.le_refl _⟩
  | n + 1, i => by
    have := zfst_ge p n (i + 1)
    unfold zfst
    split <;> omega
theorem bM_reads (hM : MOD F r m) (hw : zW (m 0)) (hs : mSh m) {k : Int} : CT g yM_reads 2 0 0 [gR r, gI k] (N, F) (MB N r F (gI (v_reads m k)) m) := by
  have ho := hM.1
  have hn0 := hw.1.1
  have hn1 := hw.1.2.1
  refine CT.of' (L0 := [gR r, gI k, gU, gU]) plM (Nat.le_of_ble_eq_true rfl) rfl ?_
  refine go_iload_n (i := 1) dM_reads_0 rfl rfl ?_
  refine go_SP dM_reads_1 vkM215 (ct_isSheet k) rfl (by omega) rfl (fun _ => Nat.le_of_ble_eq_true rfl) ?_
  refine go_if_ne 10 dM_reads_4 rfl (fun h4 => ?_) (fun h4 => ?_)
  · have hc : 0 ≤ k ∧ k ≤ 3 := by grind [zin]
    have h9 := hs k.toNat (by omega)
    refine go_aload_n (i := 0) dM_reads_10 rfl rfl trivial ?_
    refine go_getf dM_reads_11 flM37 (by assumption) rfl ?_
    refine go_iload_n (i := 1) dM_reads_14 rfl rfl ?_
    refine go_iald' k.toNat _ dM_reads_15 hM.a9 (by omega) (by omega) rfl ?_
    refine go_if_ge 22 dM_reads_16 rfl (fun h16 => ?_) (fun h16 => ?_)
    · have hv : v_reads m k = if zfst (zrd (m 0) (fun d => m 11 (24 * k.toNat + d))) (m 10 k.toNat).toNat 0 < (m 10 k.toNat).toNat then ((zfst (zrd (m 0) (fun d => m 11 (24 * k.toNat + d))) (m 10 k.toNat).toNat 0 : Nat) : Int) else NONE := by unfold v_reads; rw [if_pos hc, if_neg (by omega)]
      rw [hv]
      generalize hnums : (fun d => m 11 (24 * k.toNat + d)) = nums
      have hnum : ∀ d, m 11 (24 * k.toNat + d) = nums d := fun d => by rw [← hnums]
      generalize hP : (m 10 k.toNat).toNat = P
      have loop : ∀ (j i : Nat), i + j = P → ∀ x3 : GV, zfst (zrd (m 0) nums) P 0 = zfst (zrd (m 0) nums) j i → Go g yM_reads 2 0 0 24 [gR r, gI k, gI i, x3] [] (N, F) (MB N r F (gI (if zfst (zrd (m 0) nums) P 0 < P then ((zfst (zrd (m 0) nums) P 0 : Nat) : Int) else NONE)) m) := by
        intro j
        induction j with
        | zero =>
          intro i hi x3 hz
          have hz : zfst (zrd (m 0) nums) P 0 = i := hz
          rw [hz]
          refine go_iload_n (i := 2) dM_reads_24 rfl rfl ?_
          refine go_aload_n (i := 0) dM_reads_25 rfl rfl trivial ?_
          refine go_getf dM_reads_26 flM40 (by assumption) rfl ?_
          refine go_iload_n (i := 1) dM_reads_29 rfl rfl ?_
          refine go_iald' k.toNat _ dM_reads_30 hM.a10 (by omega) (by omega) rfl ?_
          refine go_ic_ge 78 dM_reads_31 rfl (fun h31 => ?_) (fun h31 => absurd (by omega) h31)
          refine go_ldc dM_reads_78 kcM169 (inR_of _ rfl) ?_
          refine go_iret dM_reads_80 rfl rfl ?_
          exact MB.same hM (by rw [if_neg (by omega)])
        | succ j ih =>
          intro i hi x3 hz
          have hz : zfst (zrd (m 0) nums) P 0 = if zrd (m 0) nums i = 1 then i else zfst (zrd (m 0) nums) j (i + 1) := hz
          have more : ∀ x3 : GV, ¬ (zrd (m 0) nums i = 1) → Go g yM_reads 2 0 0 72 [gR r, gI k, gI i, x3] [] (N, F) (MB N r F (gI (if zfst (zrd (m 0) nums) P 0 < P then ((zfst (zrd (m 0) nums) P 0 : Nat) : Int) else NONE)) m) := by
            intro x3 hn
            rw [if_neg hn] at hz
            refine go_inc2 (((i + 1 : Nat) : Int)) dM_reads_72 (Nat.le_of_ble_eq_true rfl) trivial (by (try simp (discharger := (unfold inR; omega)) only [w32_id]) <;> omega) ?_
            refine go_goto 24 dM_reads_75 rfl ?_
            exact ih (i + 1) (by omega) _ hz
          have stop : ∀ x3 : GV, zrd (m 0) nums i = 1 → Go g yM_reads 2 0 0 70 [gR r, gI k, gI i, x3] [] (N, F) (MB N r F (gI (if zfst (zrd (m 0) nums) P 0 < P then ((zfst (zrd (m 0) nums) P 0 : Nat) : Int) else NONE)) m) := by
            intro x3 hn
            rw [if_pos hn] at hz
            rw [hz, if_pos (by omega)]
            refine go_iload_n (i := 2) dM_reads_70 rfl rfl ?_
            refine go_iret dM_reads_71 rfl rfl ?_
            exact MB.same hM rfl
          refine go_iload_n (i := 2) dM_reads_24 rfl rfl ?_
          refine go_aload_n (i := 0) dM_reads_25 rfl rfl trivial ?_
          refine go_getf dM_reads_26 flM40 (by assumption) rfl ?_
          refine go_iload_n (i := 1) dM_reads_29 rfl rfl ?_
          refine go_iald' k.toNat _ dM_reads_30 hM.a10 (by omega) (by omega) rfl ?_
          refine go_ic_ge 78 dM_reads_31 rfl (fun h31 => absurd h31 (by omega)) (fun h31 => ?_)
          refine go_aload_n (i := 0) dM_reads_34 rfl rfl trivial ?_
          refine go_getf dM_reads_35 flM43 (by assumption) rfl ?_
          refine go_bipush dM_reads_38 (inR_of _ rfl) rfl ?_
          refine go_iload_n (i := 1) dM_reads_40 rfl rfl ?_
          refine go_imul dM_reads_41 ?_
          refine go_iload_n (i := 2) dM_reads_42 rfl rfl ?_
          refine go_iadd dM_reads_43 ?_
          refine go_top (((24 * k.toNat + i : Nat) : Int)) (by (try simp (discharger := (unfold inR; omega)) only [w32_id]) <;> omega) ?_
          refine go_iald' (24 * k.toNat + i) (nums i) dM_reads_44 hM.a11 rfl (by omega) (hnum i) ?_
          refine go_is3 dM_reads_45 (Nat.le_of_ble_eq_true rfl) trivial ?_
          refine go_iload_n (i := 3) dM_reads_46 rfl rfl ?_
          refine go_ldc dM_reads_47 kcM169 (inR_of _ rfl) ?_
          refine go_ic_eq 72 dM_reads_49 rfl (fun h49 => ?_) (fun h49 => ?_)
          · exact more _ (by unfold zrd; rw [if_neg (fun h => h.1 h49)]; omega)
          · refine go_aload_n (i := 0) dM_reads_52 rfl rfl trivial ?_
            refine go_iload_n (i := 2) dM_reads_53 rfl rfl ?_
            refine go_VP dM_reads_54 vkM92 (by assumption) (List.cons_ne_nil _ _) (qM_isGoose hM _ hn0 hn1) rfl (by omega) rfl (fun _ => Nat.le_of_ble_eq_true rfl) ?_
            refine go_if_eq 70 dM_reads_57 rfl (fun h57 => ?_) (fun h57 => ?_)
            · exact stop _ (by unfold zrd; rw [if_pos ⟨h49, fun h => by grind [zin]⟩])
            · refine go_aload_n (i := 0) dM_reads_60 rfl rfl trivial ?_
              refine go_iload_n (i := 2) dM_reads_61 rfl rfl ?_
              refine go_iconst dM_reads_62 (inR_of _ rfl) ?_
              refine go_VP dM_reads_63 vkM79 (by assumption) (List.cons_ne_nil _ _) (qM_its hM (by omega) (by omega) (by omega) (by omega)) rfl (by omega) rfl (fun _ => Nat.le_of_ble_eq_true rfl) ?_
              refine go_iload_n (i := 3) dM_reads_66 rfl rfl ?_
              refine go_ic_eq 72 dM_reads_67 rfl (fun h67 => ?_) (fun h67 => ?_)
              · exact more _ (by unfold zrd; rw [if_neg (fun h => h.2 ⟨by grind [zin], h67⟩)]; omega)
              · exact stop _ (by unfold zrd; rw [if_pos ⟨h49, fun h => h67 h.2⟩])
      refine go_iconst dM_reads_22 (inR_of _ rfl) ?_
      refine go_is2 dM_reads_23 (Nat.le_of_ble_eq_true rfl) trivial ?_
      exact loop P 0 (by omega) _ rfl
    · refine go_ldc dM_reads_19 kcM218 (inR_of _ rfl) ?_
      refine go_iret dM_reads_21 rfl rfl ?_
      exact MB.same hM (by unfold v_reads; rw [if_pos hc, if_pos (by omega)])
  · refine go_ldc dM_reads_7 kcM96 (inR_of _ rfl) ?_
    refine go_iret dM_reads_9 rfl rfl ?_
    exact MB.same hM (by unfold v_reads; rw [if_neg (by grind [zin])])
def c_there (m : Nat → Nat → Int) (k p n : Int) : Bool := decide (0 ≤ p ∧ 0 ≤ n ∧ n ≤ m 10 k.toNat - p)
theorem qM_isThere (hM : MOD F r m) (hs : mSh m) {k p n : Int} (hk : 0 ≤ k ∧ k ≤ 3) (hp : inR p) : CT g yM_isThere 0 0 0 [gR r, gI k, gI p, gI n] (N, F) (RV (if c_there m k p n = true then 1 else 0) (N, F)) := by
  have ho := hM.1
  have h9 := hs k.toNat (by omega)
  have t24 : ¬ (0 ≤ p ∧ 0 ≤ n ∧ n ≤ m 10 k.toNat - p) → Go g yM_isThere 0 0 0 24 [gR r, gI k, gI p, gI n] [] (N, F) (RV (if c_there m k p n = true then 1 else 0) (N, F)) := by
    intro h
    refine go_iconst dM_isThere_24 (inR_of _ rfl) ?_
    refine go_iret dM_isThere_25 rfl (zb (by simp)) ?_
    exact ⟨by unfold c_there; rw [if_neg (fun hh => h (of_decide_eq_true hh))], rfl⟩
  refine CT.of' (L0 := [gR r, gI k, gI p, gI n]) plM (Nat.le_of_ble_eq_true rfl) rfl ?_
  refine go_iload_n (i := 2) dM_isThere_0 rfl rfl ?_
  refine go_if_lt 24 dM_isThere_1 rfl (fun h1 => ?_) (fun h1 => ?_)
  · exact t24 (by omega)
  · refine go_iload_n (i := 3) dM_isThere_4 rfl rfl ?_
    refine go_if_lt 24 dM_isThere_5 rfl (fun h5 => ?_) (fun h5 => ?_)
    · exact t24 (by omega)
    · refine go_iload_n (i := 3) dM_isThere_8 rfl rfl ?_
      refine go_aload_n (i := 0) dM_isThere_9 rfl rfl trivial ?_
      refine go_getf dM_isThere_10 flM40 (by assumption) rfl ?_
      refine go_iload_n (i := 1) dM_isThere_13 rfl rfl ?_
      refine go_iald' k.toNat _ dM_isThere_14 hM.a10 (by omega) (by omega) rfl ?_
      refine go_iload_n (i := 2) dM_isThere_15 rfl rfl ?_
      unfold inR at hp
      refine go_isub dM_isThere_16 ?_
      refine go_top (m 10 k.toNat - p) (by (try simp (discharger := (unfold inR; omega)) only [w32_id]) <;> omega) ?_
      refine go_ic_gt 24 dM_isThere_17 rfl (fun h17 => ?_) (fun h17 => ?_)
      · exact t24 (by omega)
      · refine go_iconst dM_isThere_20 (inR_of _ rfl) ?_
        refine go_goto 25 dM_isThere_21 rfl ?_
        refine go_iret dM_isThere_25 rfl (zb (by simp)) ?_
        exact ⟨by unfold c_there; rw [if_pos (decide_eq_true ⟨by omega, by omega, by omega⟩)], rfl⟩
def v_copy (m : Nat → Nat → Int) (k p k2 p2 n : Int) : Int := if (0 ≤ k ∧ k ≤ 3) ∧ 0 ≤ k2 ∧ k2 ≤ 3 then (if m 9 k.toNat < 0 ∨ m 9 k2.toNat < 0 then MISSING else if ¬ m 9 k.toNat = m 9 k2.toNat then WRONG else if c_there m k p n = true ∧ c_there m k2 p2 n = true then n else OUT) else BAD
def c_copy (m : Nat → Nat → Int) (k p k2 p2 n : Int) : Bool := decide (((0 ≤ k ∧ k ≤ 3) ∧ 0 ≤ k2 ∧ k2 ≤ 3) ∧ ¬ (m 9 k.toNat < 0 ∨ m 9 k2.toNat < 0) ∧ m 9 k.toNat = m 9 k2.toNat ∧ c_there m k p n = true ∧ c_there m k2 p2 n = true)
def u_copy (m : Nat → Nat → Int) (k p k2 p2 n : Int) : Nat → Nat → Int := if c_copy m k p k2 p2 n = true then va_up m 11 (zcp (m 11) (24 * k2.toNat + p2.toNat) (fun i => m 11 (24 * k.toNat + p.toNat + i)) n.toNat) else m
theorem bM_copy (hM : MOD F r m) (hs : mSh m) {k p k2 p2 n : Int} (hp : inR p) (hp2 : inR p2) : CT g yM_copy 2 0 0 [gR r, gI k, gI p, gI k2, gI p2, gI n] (N, F) (MB N r F (gI (v_copy m k p k2 p2 n)) (u_copy m k p k2 p2 n)) := by
  have ho := hM.1
  have bad : ∀ v : Int, c_copy m k p k2 p2 n = false → v = v_copy m k p k2 p2 n → MB N r F (gI (v_copy m k p k2 p2 n)) (u_copy m k p k2 p2 n) (gI v) (N, F) := fun v hc hv => MB.eq hM FR.rf (by unfold u_copy; rw [if_neg (by rw [hc]; decide)]) hv
  have t14 : ¬ ((0 ≤ k ∧ k ≤ 3) ∧ 0 ≤ k2 ∧ k2 ≤ 3) → Go g yM_copy 2 0 0 14 [gR r, gI k, gI p, gI k2, gI p2, gI n, gU] [] (N, F) (MB N r F (gI (v_copy m k p k2 p2 n)) (u_copy m k p k2 p2 n)) := by
    intro hc
    refine go_ldc dM_copy_14 kcM96 (inR_of _ rfl) ?_
    refine go_iret dM_copy_16 rfl rfl ?_
    exact bad _ (decide_eq_false (fun h => hc h.1)) (by unfold v_copy; rw [if_neg hc])
  refine CT.of' (L0 := [gR r, gI k, gI p, gI k2, gI p2, gI n, gU]) plM (Nat.le_of_ble_eq_true rfl) rfl ?_
  refine go_iload_n (i := 1) dM_copy_0 rfl rfl ?_
  refine go_SP dM_copy_1 vkM215 (ct_isSheet k) rfl (by omega) rfl (fun _ => Nat.le_of_ble_eq_true rfl) ?_
  refine go_if_eq 14 dM_copy_4 rfl (fun h4 => ?_) (fun h4 => ?_)
  · exact t14 (by grind [zin])
  · refine go_iload_n (i := 3) dM_copy_7 rfl rfl ?_
    refine go_SP dM_copy_8 vkM215 (ct_isSheet k2) rfl (by omega) rfl (fun _ => Nat.le_of_ble_eq_true rfl) ?_
    refine go_if_ne 17 dM_copy_11 rfl (fun h11 => ?_) (fun h11 => ?_)
    · have hk : 0 ≤ k ∧ k ≤ 3 := by grind [zin]
      have hk2 : 0 ≤ k2 ∧ k2 ≤ 3 := by grind [zin]
      have h9 := hs k.toNat (by omega)
      have h92 := hs k2.toNat (by omega)
      have t35 : (m 9 k.toNat < 0 ∨ m 9 k2.toNat < 0) → Go g yM_copy 2 0 0 35 [gR r, gI k, gI p, gI k2, gI p2, gI n, gU] [] (N, F) (MB N r F (gI (v_copy m k p k2 p2 n)) (u_copy m k p k2 p2 n)) := by
        intro hc
        refine go_ldc dM_copy_35 kcM218 (inR_of _ rfl) ?_
        refine go_iret dM_copy_37 rfl rfl ?_
        exact bad _ (decide_eq_false (fun h => h.2.1 hc)) (by unfold v_copy; rw [if_pos ⟨hk, hk2⟩, if_pos hc])
      refine go_aload_n (i := 0) dM_copy_17 rfl rfl trivial ?_
      refine go_getf dM_copy_18 flM37 (by assumption) rfl ?_
      refine go_iload_n (i := 1) dM_copy_21 rfl rfl ?_
      refine go_iald' k.toNat _ dM_copy_22 hM.a9 (by omega) (by omega) rfl ?_
      refine go_if_lt 35 dM_copy_23 rfl (fun h23 => ?_) (fun h23 => ?_)
      · exact t35 (Or.inl h23)
      · refine go_aload_n (i := 0) dM_copy_26 rfl rfl trivial ?_
        refine go_getf dM_copy_27 flM37 (by assumption) rfl ?_
        refine go_iload_n (i := 3) dM_copy_30 rfl rfl ?_
        refine go_iald' k2.toNat _ dM_copy_31 hM.a9 (by omega) (by omega) rfl ?_
        refine go_if_ge 38 dM_copy_32 rfl (fun h32 => ?_) (fun h32 => ?_)
        · have hm : ¬ (m 9 k.toNat < 0 ∨ m 9 k2.toNat < 0) := by omega
          refine go_aload_n (i := 0) dM_copy_38 rfl rfl trivial ?_
          refine go_getf dM_copy_39 flM37 (by assumption) rfl ?_
          refine go_iload_n (i := 1) dM_copy_42 rfl rfl ?_
          refine go_iald' k.toNat _ dM_copy_43 hM.a9 (by omega) (by omega) rfl ?_
          refine go_aload_n (i := 0) dM_copy_44 rfl rfl trivial ?_
          refine go_getf dM_copy_45 flM37 (by assumption) rfl ?_
          refine go_iload_n (i := 3) dM_copy_48 rfl rfl ?_
          refine go_iald' k2.toNat _ dM_copy_49 hM.a9 (by omega) (by omega) rfl ?_
          refine go_ic_eq 56 dM_copy_50 rfl (fun h50 => ?_) (fun h50 => ?_)
          · have t79 : ¬ (c_there m k p n = true ∧ c_there m k2 p2 n = true) → Go g yM_copy 2 0 0 79 [gR r, gI k, gI p, gI k2, gI p2, gI n, gU] [] (N, F) (MB N r F (gI (v_copy m k p k2 p2 n)) (u_copy m k p k2 p2 n)) := by
              intro hc
              refine go_ldcw dM_copy_79 kcM333 (inR_of _ rfl) ?_
              refine go_iret dM_copy_82 rfl rfl ?_
              exact bad _ (decide_eq_false (fun h => hc h.2.2.2)) (by unfold v_copy; rw [if_pos ⟨hk, hk2⟩, if_neg hm, if_neg (fun h => h h50), if_neg hc])
            refine go_aload_n (i := 0) dM_copy_56 rfl rfl trivial ?_
            refine go_iload_n (i := 1) dM_copy_57 rfl rfl ?_
            refine go_iload_n (i := 2) dM_copy_58 rfl rfl ?_
            refine go_iload dM_copy_59 rfl ?_
            refine go_VP dM_copy_61 vkM339 (by assumption) (List.cons_ne_nil _ _) (qM_isThere hM hs hk hp) rfl (by omega) rfl (fun _ => Nat.le_of_ble_eq_true rfl) ?_
            refine go_if_eq 79 dM_copy_64 rfl (fun h64 => ?_) (fun h64 => ?_)
            · exact t79 (fun h => sgN h64 h.1)
            · refine go_aload_n (i := 0) dM_copy_67 rfl rfl trivial ?_
              refine go_iload_n (i := 3) dM_copy_68 rfl rfl ?_
              refine go_iload dM_copy_69 rfl ?_
              refine go_iload dM_copy_71 rfl ?_
              refine go_VP dM_copy_73 vkM339 (by assumption) (List.cons_ne_nil _ _) (qM_isThere hM hs hk2 hp2) rfl (by omega) rfl (fun _ => Nat.le_of_ble_eq_true rfl) ?_
              refine go_if_ne 83 dM_copy_76 rfl (fun h76 => ?_) (fun h76 => ?_)
              · have c1 := sgP h64
                have c2 := sgP h76
                have d1 : 0 ≤ p ∧ 0 ≤ n ∧ n ≤ m 10 k.toNat - p := of_decide_eq_true c1
                have d2 : 0 ≤ p2 ∧ 0 ≤ n ∧ n ≤ m 10 k2.toNat - p2 := of_decide_eq_true c2
                have hv : v_copy m k p k2 p2 n = n := by unfold v_copy; rw [if_pos ⟨hk, hk2⟩, if_neg hm, if_neg (fun h => h h50), if_pos ⟨c1, c2⟩]
                have hu : u_copy m k p k2 p2 n = va_up m 11 (zcp (m 11) (24 * k2.toNat + p2.toNat) (fun i => m 11 (24 * k.toNat + p.toNat + i)) n.toNat) := by unfold u_copy; rw [if_pos (show c_copy m k p k2 p2 n = true from decide_eq_true ⟨⟨hk, hk2⟩, hm, h50, c1, c2⟩)]
                rw [hv, hu]
                have loop2 : ∀ (j i : Nat), i + j = n.toNat → ∀ (F1 : Nat → GC) (m1 : Nat → Nat → Int), MOD F1 r m1 → FR r F F1 → SB [11, 12] m m1 → (∀ x : Nat, x < n.toNat → m1 12 x = m 11 (24 * k.toNat + p.toNat + x)) → m1 11 = zcp (m 11) (24 * k2.toNat + p2.toNat) (fun i => m 11 (24 * k.toNat + p.toNat + i)) i → Go g yM_copy 2 0 0 123 [gR r, gI k, gI p, gI k2, gI p2, gI n, gI i] [] (N, F1) (MB N r F (gI n) (va_up m 11 (zcp (m 11) (24 * k2.toNat + p2.toNat) (fun i => m 11 (24 * k.toNat + p.toNat + i)) n.toNat))) := by
                  intro j
                  induction j with
                  | zero =>
                    intro i hi F1 m1 hM1 hF1 hS1 h12 e11
                    refine go_iload dM_copy_123 rfl ?_
                    refine go_iload dM_copy_125 rfl ?_
                    refine go_ic_ge 158 dM_copy_127 rfl (fun h127 => ?_) (fun h127 => absurd (by omega) h127)
                    refine go_iload dM_copy_158 rfl ?_
                    refine go_iret dM_copy_160 rfl rfl ?_
                    refine ⟨rfl, F1, m1, rfl, hM1, hF1, fun q hq => ?_, fun q hq => ?_⟩
                    · by_cases c : q = 11
                      · subst c; rw [va_up_self, e11, show i = n.toNat by omega]
                      · rw [va_up_ne _ _ c]
                        exact hS1 q (by simp at hq ⊢; omega)
                    · rw [va_up_ne _ _ (by omega), hS1 17 (by decide)]
                  | succ j ih =>
                    intro i hi F1 m1 hM1 hF1 hS1 h12 e11
                    have ho := hM1.1
                    refine go_iload dM_copy_123 rfl ?_
                    refine go_iload dM_copy_125 rfl ?_
                    refine go_ic_ge 158 dM_copy_127 rfl (fun h127 => absurd h127 (by omega)) (fun h127 => ?_)
                    refine go_aload_n (i := 0) dM_copy_130 rfl rfl trivial ?_
                    refine go_getf dM_copy_131 flM43 (by assumption) rfl ?_
                    refine go_bipush dM_copy_134 (inR_of _ rfl) rfl ?_
                    refine go_iload_n (i := 3) dM_copy_136 rfl rfl ?_
                    refine go_imul dM_copy_137 ?_
                    refine go_iload dM_copy_138 rfl ?_
                    refine go_iadd dM_copy_140 ?_
                    refine go_iload dM_copy_141 rfl ?_
                    refine go_iadd dM_copy_143 ?_
                    refine go_top (((24 * k2.toNat + p2.toNat + i : Nat) : Int)) (by (try simp (discharger := (unfold inR; omega)) only [w32_id]) <;> omega) ?_
                    refine go_aload_n (i := 0) dM_copy_144 rfl rfl trivial ?_
                    refine go_getf dM_copy_145 flM46 (by assumption) rfl ?_
                    refine go_iload dM_copy_148 rfl ?_
                    refine go_iald' i _ dM_copy_150 hM1.a12 rfl (by omega) (h12 i (by omega)) ?_
                    refine go_mst (i := 11) (k := 24 * k2.toNat + p2.toNat + i) hM1 (by omega) dM_copy_151 rfl rfl (by show _ < 216; omega) (fun F2 m2 hM2 hF2 e2 => ?_)
                    refine go_inc6 (((i + 1 : Nat) : Int)) dM_copy_152 (Nat.le_of_ble_eq_true rfl) trivial (by (try simp (discharger := (unfold inR; omega)) only [w32_id]) <;> omega) ?_
                    refine go_goto 123 dM_copy_155 rfl ?_
                    refine ih (i + 1) (by omega) F2 m2 hM2 (hF1.tr hF2) (by rw [e2]; exact hS1.put (by simp)) (fun x hx => by rw [e2]; exact h12 x hx) ?_
                    rw [e2]
                    show va_up (m1 11) _ _ = _
                    rw [e11]
                    rfl
                have loop1 : ∀ (j i : Nat), i + j = n.toNat → ∀ (F1 : Nat → GC) (m1 : Nat → Nat → Int), MOD F1 r m1 → FR r F F1 → SB [12] m m1 → (∀ x : Nat, x < i → m1 12 x = m 11 (24 * k.toNat + p.toNat + x)) → Go g yM_copy 2 0 0 86 [gR r, gI k, gI p, gI k2, gI p2, gI n, gI i] [] (N, F1) (MB N r F (gI n) (va_up m 11 (zcp (m 11) (24 * k2.toNat + p2.toNat) (fun i => m 11 (24 * k.toNat + p.toNat + i)) n.toNat))) := by
                  intro j
                  induction j with
                  | zero =>
                    intro i hi F1 m1 hM1 hF1 hS1 h12
                    refine go_iload dM_copy_86 rfl ?_
                    refine go_iload dM_copy_88 rfl ?_
                    refine go_ic_ge 120 dM_copy_90 rfl (fun h90 => ?_) (fun h90 => absurd (by omega) h90)
                    refine go_iconst dM_copy_120 (inR_of _ rfl) ?_
                    refine go_is6 dM_copy_121 (Nat.le_of_ble_eq_true rfl) trivial ?_
                    exact loop2 n.toNat 0 (by omega) F1 m1 hM1 hF1 (hS1.mono (by simp)) (fun x hx => h12 x (by omega)) (hS1 11 (by decide))
                  | succ j ih =>
                    intro i hi F1 m1 hM1 hF1 hS1 h12
                    have ho := hM1.1
                    have e11 : m1 11 (24 * k.toNat + p.toNat + i) = m 11 (24 * k.toNat + p.toNat + i) := by rw [hS1 11 (by decide)]
                    refine go_iload dM_copy_86 rfl ?_
                    refine go_iload dM_copy_88 rfl ?_
                    refine go_ic_ge 120 dM_copy_90 rfl (fun h90 => absurd h90 (by omega)) (fun h90 => ?_)
                    refine go_aload_n (i := 0) dM_copy_93 rfl rfl trivial ?_
                    refine go_getf dM_copy_94 flM46 (by assumption) rfl ?_
                    refine go_iload dM_copy_97 rfl ?_
                    refine go_aload_n (i := 0) dM_copy_99 rfl rfl trivial ?_
                    refine go_getf dM_copy_100 flM43 (by assumption) rfl ?_
                    refine go_bipush dM_copy_103 (inR_of _ rfl) rfl ?_
                    refine go_iload_n (i := 1) dM_copy_105 rfl rfl ?_
                    refine go_imul dM_copy_106 ?_
                    refine go_iload_n (i := 2) dM_copy_107 rfl rfl ?_
                    refine go_iadd dM_copy_108 ?_
                    refine go_iload dM_copy_109 rfl ?_
                    refine go_iadd dM_copy_111 ?_
                    refine go_top (((24 * k.toNat + p.toNat + i : Nat) : Int)) (by (try simp (discharger := (unfold inR; omega)) only [w32_id]) <;> omega) ?_
                    refine go_iald' (24 * k.toNat + p.toNat + i) _ dM_copy_112 hM1.a11 rfl (by omega) e11 ?_
                    refine go_mst (i := 12) (k := i) hM1 (by omega) dM_copy_113 rfl rfl (by show i < 24; omega) (fun F2 m2 hM2 hF2 e2 => ?_)
                    refine go_inc6 (((i + 1 : Nat) : Int)) dM_copy_114 (Nat.le_of_ble_eq_true rfl) trivial (by (try simp (discharger := (unfold inR; omega)) only [w32_id]) <;> omega) ?_
                    refine go_goto 86 dM_copy_117 rfl ?_
                    refine ih (i + 1) (by omega) F2 m2 hM2 (hF1.tr hF2) (by rw [e2]; exact hS1.put (by simp)) (fun x hx => ?_)
                    rw [e2]
                    show va_up (m1 12) i _ x = _
                    by_cases c : x = i
                    · subst c; rw [va_up_self]
                    · rw [va_up_ne _ _ c]; exact h12 x (by omega)
                refine go_iconst dM_copy_83 (inR_of _ rfl) ?_
                refine go_is6 dM_copy_84 (Nat.le_of_ble_eq_true rfl) trivial ?_
                exact loop1 n.toNat 0 (by omega) F m hM FR.rf SB.rf (fun x hx => by omega)
              · exact t79 (fun h => sgN (by omega) h.2)
          · refine go_ldc dM_copy_53 kcM129 (inR_of _ rfl) ?_
            refine go_iret dM_copy_55 rfl rfl ?_
            exact bad _ (decide_eq_false (fun h => h50 h.2.2.1)) (by unfold v_copy; rw [if_pos ⟨hk, hk2⟩, if_neg hm, if_pos h50])
        · exact t35 (by omega)
    · exact t14 (by grind [zin])
end MSHEET2
