/-! ===== the model's public calls: what will be ===== -/
section MPUB4
variable {g : GX} {N r : Nat} {F F1 : Nat → GC} {m m1 : Nat → Nat → Int}
/-- as ST, with what is laid aside too; the row is S -/
def SA (r : Nat) (F : Nat → GC) (m : Nat → Nat → Int) (S : Nat → Int) (F1 : Nat → GC) (m1 : Nat → Nat → Int) : Prop := MOD F1 r m1 ∧ FR r F F1 ∧ m1 0 = S ∧ SB [0, 2, 4, 5] m m1
theorem MB.sa {F2 : Nat → GC} {m2 : Nat → Nat → Int} (h : SA r F m (m 0) F2 m2) {v v' : Int} (e : v' = v) : MB N r F (gI v) m (gI v') (N, F2) := ⟨by rw [e], F2, m2, rfl, h.1, h.2.1, EQ.sb0 h.2.2.1 h.2.2.2 (by simp)⟩
theorem SA.back {S s2 : Nat → Int} {m2 : Nat → Nat → Int} (h1 : ∀ k, k < 64 → m2 2 k = S k) (h2 : m2 0 = s2) (h3 : ∀ k, 64 ≤ k → s2 k = S k) : (fun k => if k < 64 then m2 2 k else m2 0 k) = S := by
  funext k
  by_cases c : k < 64
  · rw [if_pos c]; exact h1 k c
  · rw [if_neg c, h2]; exact h3 k (by omega)
def v_behind (s : Nat → Int) (n w : Int) : Int := if (0 ≤ n ∧ n ≤ 100) ∧ 0 ≤ w ∧ w ≤ 4 + s 0 then (if w < 3 then zdays s n.toNat (3 + w).toNat else if w = 3 then ((zmN (fun y : Nat => zhold (zdays s n.toNat) y) 6 : Nat) : Int) else if w = 4 then zsum (fun i => zk (zdays s n.toNat) i 2) (zmany s) else zk (zdays s n.toNat) (w - 5) 4) else BAD
theorem bM_behind (hM : MOD F r m) (hw : zW (m 0)) (hT : zT (m 0)) (hd : m 0 6 ≤ 9999) {n w : Int} : CT g yM_behind 11 0 0 [gR r, gI n, gI w] (N, F) (MB N r F (gI (v_behind (m 0) n w)) m) := by
  have ho := hM.1
  have a0 := hM.a0
  have hn0 := hw.1.1
  have hn1 := hw.1.2.1
  have t30 : ¬ ((0 ≤ n ∧ n ≤ 100) ∧ 0 ≤ w ∧ w ≤ 4 + m 0 0) → Go g yM_behind 11 0 0 30 [gR r, gI n, gI w, gU] [] (N, F) (MB N r F (gI (v_behind (m 0) n w)) m) := by
    intro hc
    refine go_ldc dM_behind_30 kcM96 (inR_of _ rfl) ?_
    refine go_iret dM_behind_32 rfl rfl ?_
    exact MB.same hM (by unfold v_behind; rw [if_neg hc])
  refine CT.of' (L0 := [gR r, gI n, gI w, gU]) plM (Nat.le_of_ble_eq_true rfl) rfl ?_
  refine go_iload_n (i := 1) dM_behind_0 rfl rfl ?_
  refine go_i2l dM_behind_1 ?_
  refine go_lconst (x := 0) dM_behind_2 (inL_of2 _ rfl) rfl ?_
  refine go_ldc2 dM_behind_3 kcM180 (inL_of2 _ rfl) ?_
  refine go_SP dM_behind_6 vkM65 (ct_in _ _ _) rfl (by omega) rfl (fun _ => Nat.le_of_ble_eq_true rfl) ?_
  refine go_if_eq 30 dM_behind_9 rfl (fun h9 => ?_) (fun h9 => ?_)
  · exact t30 (by grind [zin])
  · refine go_iload_n (i := 2) dM_behind_12 rfl rfl ?_
    refine go_i2l dM_behind_13 ?_
    refine go_lconst (x := 0) dM_behind_14 (inL_of2 _ rfl) rfl ?_
    refine go_iconst dM_behind_15 (inR_of _ rfl) ?_
    refine go_aload_n (i := 0) dM_behind_16 rfl rfl trivial ?_
    refine go_getf dM_behind_17 flM7 (by assumption) rfl ?_
    refine go_iconst dM_behind_20 (inR_of _ rfl) ?_
    refine go_iald' 0 _ dM_behind_21 (by assumption) rfl (by omega) rfl ?_
    refine go_iadd dM_behind_22 ?_
    refine go_top (4 + m 0 0) (by (try simp (discharger := (unfold inR; omega)) only [w32_id]) <;> omega) ?_
    refine go_i2l dM_behind_23 ?_
    refine go_SP dM_behind_24 vkM65 (ct_in _ _ _) rfl (by omega) rfl (fun _ => Nat.le_of_ble_eq_true rfl) ?_
    refine go_if_ne 33 dM_behind_27 rfl (fun h27 => ?_) (fun h27 => ?_)
    · have hc : (0 ≤ n ∧ n ≤ 100) ∧ 0 ≤ w ∧ w ≤ 4 + m 0 0 := by grind [zin]
      refine go_aload_n (i := 0) dM_behind_33 rfl rfl trivial ?_
      refine go_VX dM_behind_34 vkM157 (by assumption) (List.cons_ne_nil _ _) (qM_laysAside hM) rfl (by omega) (by omega) (by omega) rfl (fun _ => Nat.le_of_ble_eq_true rfl) ?_
      rintro _ _ ⟨rfl, F2, m2, rfl, hM2, hF2, l2, hS2⟩ -
      dsimp only [rp]
      have ho2 := hM2.1
      have e2 : m2 0 = m 0 := hS2 0 (by decide)
      refine go_aload_n (i := 0) dM_behind_37 rfl rfl trivial ?_
      refine go_iload_n (i := 1) dM_behind_38 rfl rfl ?_
      refine go_VX dM_behind_39 vkM185 (by assumption) (List.cons_ne_nil _ _) (qM_daysGo hM2 (by rw [e2]; exact hw) (by rw [e2]; exact hT) hc.1.1 (by omega) (by rw [e2]; omega)) rfl (by omega) (by omega) (by omega) rfl (fun _ => Nat.le_of_ble_eq_true rfl) ?_
      rintro _ _ ⟨rfl, F3, m3, rfl, hM3, hF3, e3, hS3⟩ -
      dsimp only [rp]
      rw [e2] at e3
      obtain ⟨W, k, l⟩ := zdays_W hw n.toNat (by omega)
      have hT3 : zT (zdays (m 0) n.toNat) := zT_keep hT k.2.2.2.2.2
      have l3 : ∀ k, k < 64 → m3 2 k = m 0 k := fun k hk => by rw [hS3 2 (by decide)]; exact l2 k hk
      have tail : ∀ (v : Int) (F4 : Nat → GC) (m4 : Nat → Nat → Int), ST r F3 m3 F4 m4 → v = v_behind (m 0) n w → Go g yM_behind 11 0 0 91 [gR r, gI n, gI w, gU] [gI v] (N, F4) (MB N r F (gI (v_behind (m 0) n w)) m) := by
        intro v F4 m4 h4 hv
        have ho4 := h4.1.1
        refine go_is3 dM_behind_91 (Nat.le_of_ble_eq_true rfl) trivial ?_
        refine go_aload_n (i := 0) dM_behind_92 rfl rfl trivial ?_
        refine go_iload_n (i := 3) dM_behind_93 rfl rfl ?_
        refine go_VX dM_behind_94 vkM160 (by assumption) (List.cons_ne_nil _ _) (qM_takesBack h4.1 _) rfl (by omega) (by omega) (by omega) rfl (fun _ => Nat.le_of_ble_eq_true rfl) ?_
        rintro _ _ ⟨rfl, F5, m5, rfl, hM5, hF5, e5, hS5⟩ -
        dsimp only [rp]
        refine go_iret dM_behind_97 rfl rfl ?_
        refine MB.sa ⟨hM5, ((hF2.tr hF3).tr h4.2.1).tr hF5, ?_, ?_⟩ hv
        · rw [e5]
          exact SA.back (fun k hk => by rw [h4.2.2.2 2 (by decide)]; exact l3 k hk) (h4.2.2.1.trans e3) k.2.2.2.2.2
        · exact (((hS2.mono (by simp)).tr (hS3.mono (by simp))).tr (h4.2.2.2.mono (by simp))).tr (hS5.mono (by simp))
      have ho3 := hM3.1
      have hW3 : zW (m3 0) := by rw [e3]; exact W
      have hT3' : zT (m3 0) := by rw [e3]; exact hT3
      refine go_iload_n (i := 2) dM_behind_42 rfl rfl ?_
      refine go_iconst dM_behind_43 (inR_of _ rfl) ?_
      refine go_ic_ge 58 dM_behind_44 rfl (fun h44 => ?_) (fun h44 => ?_)
      · refine go_iload_n (i := 2) dM_behind_58 rfl rfl ?_
        refine go_iconst dM_behind_59 (inR_of _ rfl) ?_
        refine go_ic_ne 70 dM_behind_60 rfl (fun h60 => ?_) (fun h60 => ?_)
        · refine go_iload_n (i := 2) dM_behind_70 rfl rfl ?_
          refine go_iconst dM_behind_71 (inR_of _ rfl) ?_
          refine go_ic_ne 83 dM_behind_72 rfl (fun h72 => ?_) (fun h72 => ?_)
          · refine go_aload_n (i := 0) dM_behind_83 rfl rfl trivial ?_
            refine go_iload_n (i := 2) dM_behind_84 rfl rfl ?_
            refine go_iconst dM_behind_85 (inR_of _ rfl) ?_
            refine go_isub dM_behind_86 ?_
            refine go_top (w - 5) (by (try simp (discharger := (unfold inR; omega)) only [w32_id]) <;> omega) ?_
            refine go_iconst dM_behind_87 (inR_of _ rfl) ?_
            refine go_VP dM_behind_88 vkM79 (by assumption) (List.cons_ne_nil _ _) (qM_its hM3 (by omega) (by omega) (by omega) (by omega)) rfl (by omega) rfl (fun _ => Nat.le_of_ble_eq_true rfl) ?_
            exact tail _ F3 m3 (ST.rf hM3) (by unfold v_behind; rw [if_pos hc, if_neg (by omega), if_neg h60, if_neg h72, e3])
          · refine go_aload_n (i := 0) dM_behind_75 rfl rfl trivial ?_
            refine go_iconst dM_behind_76 (inR_of _ rfl) ?_
            refine go_VP dM_behind_77 vkM192 (by assumption) (List.cons_ne_nil _ _) (qM_together hM3 hW3 (by omega)) rfl (by omega) rfl (fun _ => Nat.le_of_ble_eq_true rfl) ?_
            refine go_goto 91 dM_behind_80 rfl ?_
            refine tail _ F3 m3 (ST.rf hM3) ?_
            unfold v_behind
            rw [if_pos hc, if_neg (by omega), if_neg h60, if_pos h72, e3, k.many]
        · refine go_aload_n (i := 0) dM_behind_63 rfl rfl trivial ?_
          refine go_VX dM_behind_64 vkM189 (by assumption) (List.cons_ne_nil _ _) (sM_holdingYards (ST.rf hM3) hW3 hT3') rfl (by omega) (by omega) (by omega) rfl (fun _ => Nat.le_of_ble_eq_true rfl) ?_
          rintro _ _ ⟨rfl, F4, m4, rfl, h4⟩ -
          dsimp only [rp]
          refine go_goto 91 dM_behind_67 rfl ?_
          exact tail _ F4 m4 h4 (by unfold v_behind; rw [if_pos hc, if_neg (by omega), if_pos h60, e3])
      · refine go_aload_n (i := 0) dM_behind_47 rfl rfl trivial ?_
        refine go_getf dM_behind_48 flM7 (by assumption) rfl ?_
        refine go_iconst dM_behind_51 (inR_of _ rfl) ?_
        refine go_iload_n (i := 2) dM_behind_52 rfl rfl ?_
        refine go_iadd dM_behind_53 ?_
        refine go_iald' (3 + w).toNat _ dM_behind_54 hM3.a0 (by (try simp (discharger := (unfold inR; omega)) only [w32_id]) <;> omega) (by omega) rfl ?_
        refine go_goto 91 dM_behind_55 rfl ?_
        exact tail _ F3 m3 (ST.rf hM3) (by unfold v_behind; rw [if_pos hc, if_pos (by omega), e3])
    · exact t30 (by grind [zin])
/-- from i on, at most n looks: the first at which p is 1 -/
def zfst (p : Nat → Int) : Nat → Nat → Nat
  | 0, i => i
  | n + 1, i => if p i = 1 then i else zfst p n (i + 1)
theorem qM_toldAt (hM : MOD F r m) {n : Int} : CT g yM_toldAt 1 0 0 [gR r, gI n] (N, F) (MP N r F m (gI (if 200 < n then NONE else n)) (fun k => if k < 64 then m 2 k else m 0 k) []) := by
  have ho := hM.1
  refine CT.of' (L0 := [gR r, gI n, gU]) plM (Nat.le_of_ble_eq_true rfl) rfl ?_
  refine go_aload_n (i := 0) dM_toldAt_0 rfl rfl trivial ?_
  refine go_iload_n (i := 1) dM_toldAt_1 rfl rfl ?_
  refine go_VX dM_toldAt_2 vkM160 (by assumption) (List.cons_ne_nil _ _) (qM_takesBack hM _) rfl (by omega) (by omega) (by omega) rfl (fun _ => Nat.le_of_ble_eq_true rfl) ?_
  rintro _ _ ⟨rfl, F2, m2, rfl, hM2, hF2, e2, hS2⟩ -
  dsimp only [rp]
  refine go_is2 dM_toldAt_5 (Nat.le_of_ble_eq_true rfl) trivial ?_
  refine go_iload_n (i := 2) dM_toldAt_6 rfl rfl ?_
  refine go_sipush dM_toldAt_7 (inR_of _ rfl) rfl ?_
  refine go_ic_le 18 dM_toldAt_10 rfl (fun h10 => ?_) (fun h10 => ?_)
  · refine go_iload_n (i := 2) dM_toldAt_18 rfl rfl ?_
    refine go_iret dM_toldAt_19 rfl rfl ?_
    exact ⟨by rw [if_neg (by omega)], F2, m2, rfl, hM2, hF2, e2, hS2⟩
  · refine go_ldc dM_toldAt_13 kcM169 (inR_of _ rfl) ?_
    refine go_goto 19 dM_toldAt_15 rfl ?_
    refine go_iret dM_toldAt_19 rfl rfl ?_
    exact ⟨by rw [if_pos (by omega)], F2, m2, rfl, hM2, hF2, e2, hS2⟩
def z_none (d : Nat) : Int := if 200 < d then NONE else d
def v_holds (s : Nat → Int) (y : Int) : Int := if 0 ≤ y ∧ y ≤ 5 then z_none (zfst (fun d => zhold (zdays s d) y) 201 0) else BAD
theorem bM_holds (hM : MOD F r m) (hw : zW (m 0)) (hT : zT (m 0)) (hd : m 0 6 ≤ 9999) {y : Int} : CT g yM_holds 11 0 0 [gR r, gI y] (N, F) (MB N r F (gI (v_holds (m 0) y)) m) := by
  have ho := hM.1
  refine CT.of' (L0 := [gR r, gI y, gU]) plM (Nat.le_of_ble_eq_true rfl) rfl ?_
  refine go_iload_n (i := 1) dM_holds_0 rfl rfl ?_
  refine go_SP dM_holds_1 vkM105 (ct_isYard _) rfl (by omega) rfl (fun _ => Nat.le_of_ble_eq_true rfl) ?_
  refine go_if_ne 10 dM_holds_4 rfl (fun h4 => ?_) (fun h4 => ?_)
  · have hy : 0 ≤ y ∧ y ≤ 5 := by grind [zin]
    have last : ∀ (d : Nat) (F2 : Nat → GC) (m2 : Nat → Nat → Int), MOD F2 r m2 → FR r F F2 → (∀ k, k < 64 → m2 2 k = m 0 k) → (∀ k, 64 ≤ k → m2 0 k = m 0 k) → SB [0, 2, 4, 5] m m2 → d = zfst (fun d => zhold (zdays (m 0) d) y) 201 0 → Go g yM_holds 11 0 0 41 [gR r, gI y, gI d] [] (N, F2) (MB N r F (gI (v_holds (m 0) y)) m) := by
      intro d F2 m2 hM2 hF2 l2 u2 hS2 hdd
      have ho2 := hM2.1
      refine go_aload_n (i := 0) dM_holds_41 rfl rfl trivial ?_
      refine go_iload_n (i := 2) dM_holds_42 rfl rfl ?_
      refine go_VX dM_holds_43 vkM198 (by assumption) (List.cons_ne_nil _ _) (qM_toldAt hM2) rfl (by omega) (by omega) (by omega) rfl (fun _ => Nat.le_of_ble_eq_true rfl) ?_
      rintro _ _ ⟨rfl, F3, m3, rfl, hM3, hF3, e3, hS3⟩ -
      dsimp only [rp]
      refine go_iret dM_holds_46 rfl rfl ?_
      refine MB.sa ⟨hM3, hF2.tr hF3, ?_, hS2.tr (hS3.mono (by simp))⟩ ?_
      · rw [e3]; exact SA.back l2 rfl u2
      · unfold v_holds
        rw [if_pos hy, ← hdd]
        unfold z_none
        by_cases c : 200 < d
        · rw [if_pos c, if_pos (by omega)]
        · rw [if_neg c, if_neg (by omega)]
    have loop : ∀ (n d : Nat), d + n = 201 → ∀ (F2 : Nat → GC) (m2 : Nat → Nat → Int), MOD F2 r m2 → FR r F F2 → (∀ k, k < 64 → m2 2 k = m 0 k) → m2 0 = zdays (m 0) d → SB [0, 2, 4, 5] m m2 → zfst (fun d => zhold (zdays (m 0) d) y) 201 0 = zfst (fun d => zhold (zdays (m 0) d) y) n d → Go g yM_holds 11 0 0 16 [gR r, gI y, gI d] [] (N, F2) (MB N r F (gI (v_holds (m 0) y)) m) := by
      intro n
      induction n with
      | zero =>
        intro d hdn F2 m2 hM2 hF2 l2 e2 hS2 hf
        obtain ⟨W, k, l⟩ := zdays_W hw d (by omega)
        refine go_iload_n (i := 2) dM_holds_16 rfl rfl ?_
        refine go_sipush dM_holds_17 (inR_of _ rfl) rfl ?_
        refine go_ic_gt 41 dM_holds_20 rfl (fun h20 => ?_) (fun h20 => absurd (by omega) h20)
        exact last d F2 m2 hM2 hF2 l2 (fun j hj => by rw [e2]; exact k.2.2.2.2.2 j hj) hS2 (by rw [hf]; rfl)
      | succ n ih =>
        intro d hdn F2 m2 hM2 hF2 l2 e2 hS2 hf
        obtain ⟨W, k, l⟩ := zdays_W hw d (by omega)
        have hT2 : zT (zdays (m 0) d) := zT_keep hT k.2.2.2.2.2
        have ho2 := hM2.1
        have hstep : zfst (fun d => zhold (zdays (m 0) d) y) (n + 1) d = if zhold (zdays (m 0) d) y = 1 then d else zfst (fun d => zhold (zdays (m 0) d) y) n (d + 1) := rfl
        have h01 := zhold01 (zdays (m 0) d) y
        refine go_iload_n (i := 2) dM_holds_16 rfl rfl ?_
        refine go_sipush dM_holds_17 (inR_of _ rfl) rfl ?_
        refine go_ic_gt 41 dM_holds_20 rfl (fun h20 => absurd h20 (by omega)) (fun h20 => ?_)
        refine go_aload_n (i := 0) dM_holds_23 rfl rfl trivial ?_
        refine go_iload_n (i := 1) dM_holds_24 rfl rfl ?_
        refine go_VX dM_holds_25 vkM147 (by assumption) (List.cons_ne_nil _ _) (sM_isHolding (ST.rf hM2) (by rw [e2]; exact W) (by rw [e2]; exact hT2) hy.1 hy.2) rfl (by omega) (by omega) (by omega) rfl (fun _ => Nat.le_of_ble_eq_true rfl) ?_
        rintro _ _ ⟨rfl, F3, m3, rfl, h3⟩ -
        dsimp only [rp]
        rw [e2]
        have e3 : m3 0 = zdays (m 0) d := h3.2.2.1.trans e2
        have l3 : ∀ k, k < 64 → m3 2 k = m 0 k := fun k hk => by rw [h3.2.2.2 2 (by decide)]; exact l2 k hk
        have hS3 : SB [0, 2, 4, 5] m m3 := hS2.tr (h3.2.2.2.mono (by simp))
        refine go_if_ne 41 dM_holds_28 rfl (fun h28 => ?_) (fun h28 => ?_)
        · exact last d F3 m3 h3.1 (hF2.tr h3.2.1) l3 (fun j hj => by rw [e3]; exact k.2.2.2.2.2 j hj) hS3 (by rw [hf, hstep, if_pos (by omega)])
        · have ho3 := h3.1.1
          refine go_aload_n (i := 0) dM_holds_31 rfl rfl trivial ?_
          refine go_VX dM_holds_32 vkM177 (by assumption) (List.cons_ne_nil _ _) (qM_day h3.1 (by rw [e3]; exact W) (by rw [e3]; exact hT2) (by rw [e3, l]; omega)) rfl (by omega) (by omega) (by omega) rfl (fun _ => Nat.le_of_ble_eq_true rfl) ?_
          rintro _ _ ⟨rfl, F4, m4, rfl, hM4, hF4, e4, hS4⟩ -
          dsimp only [rp]
          refine go_inc2 (((d + 1 : Nat) : Int)) dM_holds_35 (Nat.le_of_ble_eq_true rfl) trivial (by (try simp (discharger := (unfold inR; omega)) only [w32_id]) <;> omega) ?_
          refine go_goto 16 dM_holds_38 rfl ?_
          exact ih (d + 1) (by omega) F4 m4 hM4 ((hF2.tr h3.2.1).tr hF4) (fun k hk => by rw [hS4 2 (by decide)]; exact l3 k hk) (by rw [e4, e3]; rfl) (hS3.tr (hS4.mono (by simp))) (by rw [hf, hstep, if_neg (by omega)])
    refine go_aload_n (i := 0) dM_holds_10 rfl rfl trivial ?_
    refine go_VX dM_holds_11 vkM157 (by assumption) (List.cons_ne_nil _ _) (qM_laysAside hM) rfl (by omega) (by omega) (by omega) rfl (fun _ => Nat.le_of_ble_eq_true rfl) ?_
    rintro _ _ ⟨rfl, F2, m2, rfl, hM2, hF2, l2, hS2⟩ -
    dsimp only [rp]
    refine go_iconst dM_holds_14 (inR_of _ rfl) ?_
    refine go_is2 dM_holds_15 (Nat.le_of_ble_eq_true rfl) trivial ?_
    exact loop 201 0 rfl F2 m2 hM2 hF2 l2 (hS2 0 (by decide)) (hS2.mono (by simp)) rfl
  · refine go_ldc dM_holds_7 kcM96 (inR_of _ rfl) ?_
    refine go_iret dM_holds_9 rfl rfl ?_
    exact MB.same hM (by unfold v_holds; grind [zin])
def v_meets (s : Nat → Int) (i o : Int) : Int := if (0 ≤ i ∧ i < s 0) ∧ (0 ≤ o ∧ o < s 0) ∧ i ≠ o then z_none (zfst (fun d => if zk (zdays s d) i 3 = zk (zdays s d) o 3 then 1 else 0) 201 0) else BAD
theorem bM_meets (hM : MOD F r m) (hw : zW (m 0)) (hT : zT (m 0)) (hd : m 0 6 ≤ 9999) {i o : Int} : CT g yM_meets 11 0 0 [gR r, gI i, gI o] (N, F) (MB N r F (gI (v_meets (m 0) i o)) m) := by
  have ho := hM.1
  have hn0 := hw.1.1
  have hn1 := hw.1.2.1
  have t21 : ¬ ((0 ≤ i ∧ i < m 0 0) ∧ (0 ≤ o ∧ o < m 0 0) ∧ i ≠ o) → Go g yM_meets 11 0 0 21 [gR r, gI i, gI o, gU] [] (N, F) (MB N r F (gI (v_meets (m 0) i o)) m) := by
    intro hc
    refine go_ldc dM_meets_21 kcM96 (inR_of _ rfl) ?_
    refine go_iret dM_meets_23 rfl rfl ?_
    exact MB.same hM (by unfold v_meets; rw [if_neg hc])
  refine CT.of' (L0 := [gR r, gI i, gI o, gU]) plM (Nat.le_of_ble_eq_true rfl) rfl ?_
  refine go_aload_n (i := 0) dM_meets_0 rfl rfl trivial ?_
  refine go_iload_n (i := 1) dM_meets_1 rfl rfl ?_
  refine go_VP dM_meets_2 vkM92 (by assumption) (List.cons_ne_nil _ _) (qM_isGoose hM _ hn0 hn1) rfl (by omega) rfl (fun _ => Nat.le_of_ble_eq_true rfl) ?_
  refine go_if_eq 21 dM_meets_5 rfl (fun h5 => ?_) (fun h5 => ?_)
  · exact t21 (by grind [zin])
  · refine go_aload_n (i := 0) dM_meets_8 rfl rfl trivial ?_
    refine go_iload_n (i := 2) dM_meets_9 rfl rfl ?_
    refine go_VP dM_meets_10 vkM92 (by assumption) (List.cons_ne_nil _ _) (qM_isGoose hM _ hn0 hn1) rfl (by omega) rfl (fun _ => Nat.le_of_ble_eq_true rfl) ?_
    refine go_if_eq 21 dM_meets_13 rfl (fun h13 => ?_) (fun h13 => ?_)
    · exact t21 (by grind [zin])
    · refine go_iload_n (i := 1) dM_meets_16 rfl rfl ?_
      refine go_iload_n (i := 2) dM_meets_17 rfl rfl ?_
      refine go_ic_ne 24 dM_meets_18 rfl (fun h18 => ?_) (fun h18 => ?_)
      · have hy : (0 ≤ i ∧ i < m 0 0) ∧ (0 ≤ o ∧ o < m 0 0) ∧ i ≠ o := by grind [zin]
        have last : ∀ (d : Nat) (F2 : Nat → GC) (m2 : Nat → Nat → Int), MOD F2 r m2 → FR r F F2 → (∀ k, k < 64 → m2 2 k = m 0 k) → (∀ k, 64 ≤ k → m2 0 k = m 0 k) → SB [0, 2, 4, 5] m m2 → d = zfst (fun d => if zk (zdays (m 0) d) i 3 = zk (zdays (m 0) d) o 3 then 1 else 0) 201 0 → Go g yM_meets 11 0 0 62 [gR r, gI i, gI o, gI d] [] (N, F2) (MB N r F (gI (v_meets (m 0) i o)) m) := by
          intro d F2 m2 hM2 hF2 l2 u2 hS2 hdd
          have ho2 := hM2.1
          refine go_aload_n (i := 0) dM_meets_62 rfl rfl trivial ?_
          refine go_iload_n (i := 3) dM_meets_63 rfl rfl ?_
          refine go_VX dM_meets_64 vkM198 (by assumption) (List.cons_ne_nil _ _) (qM_toldAt hM2) rfl (by omega) (by omega) (by omega) rfl (fun _ => Nat.le_of_ble_eq_true rfl) ?_
          rintro _ _ ⟨rfl, F3, m3, rfl, hM3, hF3, e3, hS3⟩ -
          dsimp only [rp]
          refine go_iret dM_meets_67 rfl rfl ?_
          refine MB.sa ⟨hM3, hF2.tr hF3, ?_, hS2.tr (hS3.mono (by simp))⟩ ?_
          · rw [e3]; exact SA.back l2 rfl u2
          · unfold v_meets
            rw [if_pos hy, ← hdd]
            unfold z_none
            by_cases c : 200 < d
            · rw [if_pos c, if_pos (by omega)]
            · rw [if_neg c, if_neg (by omega)]
        have loop : ∀ (n d : Nat), d + n = 201 → ∀ (F2 : Nat → GC) (m2 : Nat → Nat → Int), MOD F2 r m2 → FR r F F2 → (∀ k, k < 64 → m2 2 k = m 0 k) → m2 0 = zdays (m 0) d → SB [0, 2, 4, 5] m m2 → zfst (fun d => if zk (zdays (m 0) d) i 3 = zk (zdays (m 0) d) o 3 then 1 else 0) 201 0 = zfst (fun d => if zk (zdays (m 0) d) i 3 = zk (zdays (m 0) d) o 3 then 1 else 0) n d → Go g yM_meets 11 0 0 30 [gR r, gI i, gI o, gI d] [] (N, F2) (MB N r F (gI (v_meets (m 0) i o)) m) := by
          intro n
          induction n with
          | zero =>
            intro d hdn F2 m2 hM2 hF2 l2 e2 hS2 hf
            obtain ⟨W, k, l⟩ := zdays_W hw d (by omega)
            refine go_iload_n (i := 3) dM_meets_30 rfl rfl ?_
            refine go_sipush dM_meets_31 (inR_of _ rfl) rfl ?_
            refine go_ic_gt 62 dM_meets_34 rfl (fun h34 => ?_) (fun h34 => absurd (by omega) h34)
            exact last d F2 m2 hM2 hF2 l2 (fun j hj => by rw [e2]; exact k.2.2.2.2.2 j hj) hS2 (by rw [hf]; rfl)
          | succ n ih =>
            intro d hdn F2 m2 hM2 hF2 l2 e2 hS2 hf
            obtain ⟨W, k, l⟩ := zdays_W hw d (by omega)
            have hT2 : zT (zdays (m 0) d) := zT_keep hT k.2.2.2.2.2
            have ho2 := hM2.1
            have hstep : zfst (fun d => if zk (zdays (m 0) d) i 3 = zk (zdays (m 0) d) o 3 then 1 else 0) (n + 1) d = if (if zk (zdays (m 0) d) i 3 = zk (zdays (m 0) d) o 3 then (1 : Int) else 0) = 1 then d else zfst (fun d => if zk (zdays (m 0) d) i 3 = zk (zdays (m 0) d) o 3 then 1 else 0) n (d + 1) := rfl
            refine go_iload_n (i := 3) dM_meets_30 rfl rfl ?_
            refine go_sipush dM_meets_31 (inR_of _ rfl) rfl ?_
            refine go_ic_gt 62 dM_meets_34 rfl (fun h34 => absurd h34 (by omega)) (fun h34 => ?_)
            refine go_aload_n (i := 0) dM_meets_37 rfl rfl trivial ?_
            refine go_iload_n (i := 1) dM_meets_38 rfl rfl ?_
            refine go_iconst dM_meets_39 (inR_of _ rfl) ?_
            refine go_VP dM_meets_40 vkM79 (by assumption) (List.cons_ne_nil _ _) (qM_its hM2 (by omega) (by omega) (by omega) (by omega)) rfl (by omega) rfl (fun _ => Nat.le_of_ble_eq_true rfl) ?_
            refine go_aload_n (i := 0) dM_meets_43 rfl rfl trivial ?_
            refine go_iload_n (i := 2) dM_meets_44 rfl rfl ?_
            refine go_iconst dM_meets_45 (inR_of _ rfl) ?_
            refine go_VP dM_meets_46 vkM79 (by assumption) (List.cons_ne_nil _ _) (qM_its hM2 (by omega) (by omega) (by omega) (by omega)) rfl (by omega) rfl (fun _ => Nat.le_of_ble_eq_true rfl) ?_
            rw [e2]
            refine go_ic_eq 62 dM_meets_49 rfl (fun h49 => ?_) (fun h49 => ?_)
            · exact last d F2 m2 hM2 hF2 l2 (fun j hj => by rw [e2]; exact k.2.2.2.2.2 j hj) hS2 (by rw [hf, hstep, if_pos h49, if_pos rfl])
            · refine go_aload_n (i := 0) dM_meets_52 rfl rfl trivial ?_
              refine go_VX dM_meets_53 vkM177 (by assumption) (List.cons_ne_nil _ _) (qM_day hM2 (by rw [e2]; exact W) (by rw [e2]; exact hT2) (by rw [e2, l]; omega)) rfl (by omega) (by omega) (by omega) rfl (fun _ => Nat.le_of_ble_eq_true rfl) ?_
              rintro _ _ ⟨rfl, F4, m4, rfl, hM4, hF4, e4, hS4⟩ -
              dsimp only [rp]
              refine go_inc3 (((d + 1 : Nat) : Int)) dM_meets_56 (Nat.le_of_ble_eq_true rfl) trivial (by (try simp (discharger := (unfold inR; omega)) only [w32_id]) <;> omega) ?_
              refine go_goto 30 dM_meets_59 rfl ?_
              exact ih (d + 1) (by omega) F4 m4 hM4 (hF2.tr hF4) (fun k hk => by rw [hS4 2 (by decide)]; exact l2 k hk) (by rw [e4, e2]; rfl) (hS2.tr (hS4.mono (by simp))) (by rw [hf, hstep, if_neg h49, if_neg (by omega)])
        refine go_aload_n (i := 0) dM_meets_24 rfl rfl trivial ?_
        refine go_VX dM_meets_25 vkM157 (by assumption) (List.cons_ne_nil _ _) (qM_laysAside hM) rfl (by omega) (by omega) (by omega) rfl (fun _ => Nat.le_of_ble_eq_true rfl) ?_
        rintro _ _ ⟨rfl, F2, m2, rfl, hM2, hF2, l2, hS2⟩ -
        dsimp only [rp]
        refine go_iconst dM_meets_28 (inR_of _ rfl) ?_
        refine go_is3 dM_meets_29 (Nat.le_of_ble_eq_true rfl) trivial ?_
        exact loop 201 0 rfl F2 m2 hM2 hF2 l2 (hS2 0 (by decide)) (hS2.mono (by simp)) rfl
      · exact t21 (by grind [zin])
theorem qM_heldBehind (hM : MOD F r m) (hw : zW (m 0)) (hT : zT (m 0)) (hd : m 0 6 ≤ 9999) {n : Int} (h0 : 0 ≤ n) (h1 : n ≤ 100) : CT g yM_heldBehind 11 0 0 [gR r, gI n] (N, F) (fun rr M' => rr = gI (zdays (m 0) n.toNat 3) ∧ ∃ (F2 : Nat → GC) (m2 : Nat → Nat → Int), M' = (N, F2) ∧ SA r F m (m 0) F2 m2) := by
  have ho := hM.1
  refine CT.of' (L0 := [gR r, gI n]) plM (Nat.le_of_ble_eq_true rfl) rfl ?_
  refine go_aload_n (i := 0) dM_heldBehind_0 rfl rfl trivial ?_
  refine go_VX dM_heldBehind_1 vkM157 (by assumption) (List.cons_ne_nil _ _) (qM_laysAside hM) rfl (by omega) (by omega) (by omega) rfl (fun _ => Nat.le_of_ble_eq_true rfl) ?_
  rintro _ _ ⟨rfl, F2, m2, rfl, hM2, hF2, l2, hS2⟩ -
  dsimp only [rp]
  have ho2 := hM2.1
  have e2 : m2 0 = m 0 := hS2 0 (by decide)
  refine go_aload_n (i := 0) dM_heldBehind_4 rfl rfl trivial ?_
  refine go_iload_n (i := 1) dM_heldBehind_5 rfl rfl ?_
  refine go_VX dM_heldBehind_6 vkM185 (by assumption) (List.cons_ne_nil _ _) (qM_daysGo hM2 (by rw [e2]; exact hw) (by rw [e2]; exact hT) h0 (by omega) (by rw [e2]; omega)) rfl (by omega) (by omega) (by omega) rfl (fun _ => Nat.le_of_ble_eq_true rfl) ?_
  rintro _ _ ⟨rfl, F3, m3, rfl, hM3, hF3, e3, hS3⟩ -
  dsimp only [rp]
  rw [e2] at e3
  obtain ⟨W, k, l⟩ := zdays_W hw n.toNat (by omega)
  have ho3 := hM3.1
  refine go_aload_n (i := 0) dM_heldBehind_9 rfl rfl trivial ?_
  refine go_aload_n (i := 0) dM_heldBehind_10 rfl rfl trivial ?_
  refine go_getf dM_heldBehind_11 flM7 (by assumption) rfl ?_
  refine go_iconst dM_heldBehind_14 (inR_of _ rfl) ?_
  refine go_iald' 3 (zdays (m 0) n.toNat 3) dM_heldBehind_15 hM3.a0 rfl (by omega) (by rw [e3]) ?_
  refine go_VX dM_heldBehind_16 vkM160 (by assumption) (List.cons_ne_nil _ _) (qM_takesBack hM3 _) rfl (by omega) (by omega) (by omega) rfl (fun _ => Nat.le_of_ble_eq_true rfl) ?_
  rintro _ _ ⟨rfl, F5, m5, rfl, hM5, hF5, e5, hS5⟩ -
  dsimp only [rp]
  refine go_iret dM_heldBehind_19 rfl rfl ?_
  refine ⟨rfl, F5, m5, rfl, hM5, (hF2.tr hF3).tr hF5, ?_, ((hS2.mono (by simp)).tr (hS3.mono (by simp))).tr (hS5.mono (by simp))⟩
  rw [e5]
  exact SA.back (fun k hk => by rw [hS3 2 (by decide)]; exact l2 k hk) e3 k.2.2.2.2.2
end MPUB4
