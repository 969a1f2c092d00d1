/-! ===== the model: sees, witnesses, counts, masks ===== -/
/-- the model's own row stands, what is worked out on may be otherwise -/
def ST (r : Nat) (F : Nat → GC) (m : Nat → Nat → Int) (F1 : Nat → GC) (m1 : Nat → Nat → Int) : Prop := MOD F1 r m1 ∧ FR r F F1 ∧ m1 0 = m 0 ∧ SB [0, 4, 5] m m1
def MS (N r : Nat) (F : Nat → GC) (m : Nat → Nat → Int) (v : GV) : GV → GM → Prop := fun rr M' => rr = v ∧ ∃ (F2 : Nat → GC) (m2 : Nat → Nat → Int), M' = (N, F2) ∧ ST r F m F2 m2
theorem ST.rf {r : Nat} {F : Nat → GC} {m : Nat → Nat → Int} (h : MOD F r m) : ST r F m F m := ⟨h, FR.rf, rfl, SB.rf⟩
theorem ST.tr {r : Nat} {F F1 F2 : Nat → GC} {m m1 m2 : Nat → Nat → Int} (h1 : ST r F m F1 m1) (h2 : ST r F1 m1 F2 m2) : ST r F m F2 m2 := ⟨h2.1, h1.2.1.tr h2.2.1, h2.2.2.1.trans h1.2.2.1, h1.2.2.2.tr h2.2.2.2⟩
theorem MS.of {g : GX} {y : GY} {d N r : Nat} {as : List GV} {F F1 : Nat → GC} {m m1 : Nat → Nat → Int} {v : GV} (h : ST r F m F1 m1) (k : CT g y d 0 0 as (N, F1) (MP N r F1 m1 v (m1 0) [4, 5])) : CT g y d 0 0 as (N, F1) (MS N r F m v) :=
  k.mono (fun rr M' hq => by
    obtain ⟨e, F', m', e2, h1, h2, h3, h4⟩ := hq
    exact ⟨e, F', m', e2, h.tr ⟨h1, h2, h3, h4⟩⟩)
theorem MS.to {g : GX} {y : GY} {d N r : Nat} {as : List GV} {F : Nat → GC} {m : Nat → Nat → Int} {v : GV} (k : CT g y d 0 0 as (N, F) (MS N r F m v)) : CT g y d 0 0 as (N, F) (MP N r F m v (m 0) [4, 5]) :=
  k.mono (fun rr M' hq => by
    obtain ⟨e, F', m', e2, h1, h2, h3, h4⟩ := hq
    exact ⟨e, F', m', e2, h1, h2, h3, h4⟩)
section MSEES
variable {g : GX} {N r : Nat} {F F1 : Nat → GC} {m m1 : Nat → Nat → Int}
theorem sM_plain (h : ST r F m F1 m1) (hw : zW (m 0)) (hT : zT (m 0)) {i : Int} (h0 : 0 ≤ i) (h1 : i < m 0 0) : CT g yM_plain 3 0 0 [gR r, gI i] (N, F1) (MS N r F m (gI (zlook (m 0) i (zk (m 0) i 3) (zinY (m 0) (zk (m 0) i 3) (zmany (m 0)))))) := by
  have e := h.2.2.1
  have := MS.of (N := N) h (qM_plain (g := g) h.1 (by rw [e]; exact hw) (by rw [e]; exact hT) i h0 (by rw [e]; exact h1))
  rw [e] at this
  exact this
theorem sM_sees (h : ST r F m F1 m1) (hw : zW (m 0)) (hT : zT (m 0)) {i : Int} (h0 : 0 ≤ i) (h1 : i < m 0 0) : CT g yM_sees 4 0 0 [gR r, gI i] (N, F1) (MS N r F m (gI (zsees (m 0) i))) := by
  have hn1 := hw.1.2.1
  have hg := hw.goose h0 h1
  have hlk := zlook_in (m 0) i (zk (m 0) i 3) (zinY (m 0) (zk (m 0) i 3) (zmany (m 0)))
  have hiy := zinY_in (m 0) (zk (m 0) i 3) (zmany (m 0))
  have hz : (zmany (m 0) : Int) = m 0 0 := by unfold zmany; omega
  have tail : ∀ (F1 : Nat → GC) (m1 : Nat → Nat → Int) (v : Int), ST r F m F1 m1 → v = (if (m 0 6).tmod 2 = 0 then zlook (m 0) i (zk (m 0) i 3) (zinY (m 0) (zk (m 0) i 3) (zmany (m 0))) else 99) → Go g yM_sees 4 0 0 22 [gR r, gI i, gU] [gI v] (N, F1) (MS N r F m (gI (zsees (m 0) i))) := by
    intro F1 m1 v h hv
    have ho := h.1.1
    have hM := h.1
    have hv2 : 0 ≤ v ∧ v ≤ 99 := by rw [hv]; split <;> omega
    refine go_is2 dM_sees_22 (Nat.le_of_ble_eq_true rfl) trivial ?_
    refine go_aload_n (i := 0) dM_sees_23 rfl rfl trivial ?_
    refine go_iload_n (i := 1) dM_sees_24 rfl rfl ?_
    refine go_iconst dM_sees_25 (inR_of _ rfl) ?_
    refine go_VP dM_sees_26 vkM79 (by assumption) (List.cons_ne_nil _ _) (qM_its hM (by omega) (by omega) (by omega) (by omega)) rfl (by omega) rfl (fun _ => Nat.le_of_ble_eq_true rfl) ?_
    rw [h.2.2.1]
    refine tabC dM_sees_29 96 rfl (fun hk => ?_) (fun n hk1 hk2 => ?_)
    · refine go_aload_n (i := 0) dM_sees_96 rfl rfl trivial ?_
      refine go_iload_n (i := 1) dM_sees_97 rfl rfl ?_
      refine go_VX dM_sees_98 vkM97 (by assumption) (List.cons_ne_nil _ _) (sM_plain h hw hT h0 h1) rfl (by omega) (by omega) (by omega) rfl (fun _ => Nat.le_of_ble_eq_true rfl) ?_
      rintro _ _ ⟨rfl, F2, m2, rfl, h2⟩ -
      dsimp only [rp]
      refine go_iret dM_sees_101 rfl rfl ?_
      exact ⟨by unfold zsees zsee; grind, F2, m2, rfl, h2⟩
    · match n, hk1 with
      | 0, hk1 =>
        refine ⟨_, rfl, 68, rfl, ?_⟩
        refine go_iload_n (i := 2) dM_sees_68 rfl rfl ?_
        refine go_iret dM_sees_69 rfl rfl ?_
        exact ⟨by unfold zsees zsee; grind, F1, m1, rfl, h⟩
      | 1, hk1 =>
        refine ⟨_, rfl, 60, rfl, ?_⟩
        refine go_aload_n (i := 0) dM_sees_60 rfl rfl trivial ?_
        refine go_iload_n (i := 1) dM_sees_61 rfl rfl ?_
        refine go_VX dM_sees_62 vkM97 (by assumption) (List.cons_ne_nil _ _) (sM_plain h hw hT h0 h1) rfl (by omega) (by omega) (by omega) rfl (fun _ => Nat.le_of_ble_eq_true rfl) ?_
        rintro _ _ ⟨rfl, F2, m2, rfl, h2⟩ -
        dsimp only [rp]
        have hd3 := Int.tdiv_eq_ediv_of_nonneg (b := 3) hlk.1
        refine go_iconst dM_sees_65 (inR_of _ rfl) ?_
        refine go_idiv dM_sees_66 (by omega) ?_
        refine go_top ((zlook (m 0) i (zk (m 0) i 3) (zinY (m 0) (zk (m 0) i 3) (zmany (m 0)))).tdiv 3) (by (try simp (discharger := (unfold inR; omega)) only [w32_id]) <;> omega) ?_
        refine go_iret dM_sees_67 rfl rfl ?_
        exact ⟨by unfold zsees zsee; grind, F2, m2, rfl, h2⟩
      | 2, hk1 =>
        refine ⟨_, rfl, 70, rfl, ?_⟩
        refine go_iload_n (i := 2) dM_sees_70 rfl rfl ?_
        refine go_bipush dM_sees_71 (inR_of _ rfl) rfl ?_
        refine go_aload_n (i := 0) dM_sees_73 rfl rfl trivial ?_
        refine go_aload_n (i := 0) dM_sees_74 rfl rfl trivial ?_
        refine go_iload_n (i := 1) dM_sees_75 rfl rfl ?_
        refine go_iconst dM_sees_76 (inR_of _ rfl) ?_
        refine go_VP dM_sees_77 vkM79 (by assumption) (List.cons_ne_nil _ _) (qM_its hM (by omega) (by omega) (by omega) (by omega)) rfl (by omega) rfl (fun _ => Nat.le_of_ble_eq_true rfl) ?_
        rw [h.2.2.1]
        refine go_VP dM_sees_80 vkM82 (by assumption) (List.cons_ne_nil _ _) (qM_inYard h.1 (by rw [h.2.2.1]; exact hw) _) rfl (by omega) rfl (fun _ => Nat.le_of_ble_eq_true rfl) ?_
        rw [h.2.2.1]
        refine go_iconst dM_sees_83 (inR_of _ rfl) ?_
        refine go_isub dM_sees_84 ?_
        refine go_imul dM_sees_85 ?_
        refine go_isub dM_sees_86 ?_
        refine go_top (v - 9 * (zinY (m 0) (zk (m 0) i 3) (zmany (m 0)) - 1)) (by (try simp (discharger := (unfold inR; omega)) only [w32_id]) <;> omega) ?_
        refine go_iconst dM_sees_87 (inR_of _ rfl) ?_
        refine go_bipush dM_sees_88 (inR_of _ rfl) rfl ?_
        refine go_SP dM_sees_90 vkM89 (ct_held _ _ _) rfl (by omega) rfl (fun _ => Nat.le_of_ble_eq_true rfl) ?_
        refine go_iret dM_sees_93 rfl rfl ?_
        exact ⟨by unfold zsees zsee; grind, F1, m1, rfl, h⟩
      | 3, hk1 =>
        refine ⟨_, rfl, 94, rfl, ?_⟩
        refine go_iconst dM_sees_94 (inR_of _ rfl) ?_
        refine go_iret dM_sees_95 rfl rfl ?_
        exact ⟨by unfold zsees zsee; grind, F1, m1, rfl, h⟩
      | n + 4, hk1 => omega
  have ho := h.1.1
  have hM := h.1
  have a0 := h.1.a0
  refine CT.of' (L0 := [gR r, gI i, gU]) plM (Nat.le_of_ble_eq_true rfl) rfl ?_
  refine go_aload_n (i := 0) dM_sees_0 rfl rfl trivial ?_
  refine go_getf dM_sees_1 flM7 (by assumption) rfl ?_
  refine go_bipush dM_sees_4 (inR_of _ rfl) rfl ?_
  refine go_iald' 6 _ dM_sees_6 (by assumption) rfl (by omega) rfl ?_
  refine go_iconst dM_sees_7 (inR_of _ rfl) ?_
  refine go_irem dM_sees_8 (by omega) ?_
  rw [h.2.2.1]
  refine go_if_ne 20 dM_sees_9 rfl (fun h9 => ?_) (fun h9 => ?_)
  · refine go_bipush dM_sees_20 (inR_of _ rfl) rfl ?_
    exact tail F1 m1 99 h (by rw [if_neg h9])
  · refine go_aload_n (i := 0) dM_sees_12 rfl rfl trivial ?_
    refine go_iload_n (i := 1) dM_sees_13 rfl rfl ?_
    refine go_VX dM_sees_14 vkM97 (by assumption) (List.cons_ne_nil _ _) (sM_plain h hw hT h0 h1) rfl (by omega) (by omega) (by omega) rfl (fun _ => Nat.le_of_ble_eq_true rfl) ?_
    rintro _ _ ⟨rfl, F2, m2, rfl, h2⟩ -
    dsimp only [rp]
    refine go_goto 22 dM_sees_17 rfl ?_
    exact tail F2 m2 _ h2 (by rw [if_pos h9])
theorem sM_isWitness (h : ST r F m F1 m1) (hw : zW (m 0)) (hT : zT (m 0)) {i y : Int} (h0 : 0 ≤ i) (h1 : i < m 0 0) : CT g yM_isWitness 5 0 0 [gR r, gI i, gI y] (N, F1) (MS N r F m (gI (zwit (m 0) i y))) := by
  have hn1 := hw.1.2.1
  have hM := h.1
  have ho := h.1.1
  have t28 : ∀ (F1 : Nat → GC) (m1 : Nat → Nat → Int), ST r F m F1 m1 → zwit (m 0) i y = 0 → Go g yM_isWitness 5 0 0 28 [gR r, gI i, gI y] [] (N, F1) (MS N r F m (gI (zwit (m 0) i y))) := by
    intro F1 m1 h e
    refine go_iconst dM_isWitness_28 (inR_of _ rfl) ?_
    refine go_iret dM_isWitness_29 rfl (zb (by simp)) ?_
    exact ⟨by rw [e], F1, m1, rfl, h⟩
  refine CT.of' (L0 := [gR r, gI i, gI y]) plM (Nat.le_of_ble_eq_true rfl) rfl ?_
  refine go_aload_n (i := 0) dM_isWitness_0 rfl rfl trivial ?_
  refine go_iload_n (i := 1) dM_isWitness_1 rfl rfl ?_
  refine go_iconst dM_isWitness_2 (inR_of _ rfl) ?_
  refine go_VP dM_isWitness_3 vkM79 (by assumption) (List.cons_ne_nil _ _) (qM_its hM (by omega) (by omega) (by omega) (by omega)) rfl (by omega) rfl (fun _ => Nat.le_of_ble_eq_true rfl) ?_
  rw [h.2.2.1]
  refine go_iload_n (i := 2) dM_isWitness_6 rfl rfl ?_
  refine go_ic_ne 28 dM_isWitness_7 rfl (fun h7 => ?_) (fun h7 => ?_)
  · exact t28 F1 m1 h (by unfold zwit; grind)
  · refine go_aload_n (i := 0) dM_isWitness_10 rfl rfl trivial ?_
    refine go_iload_n (i := 1) dM_isWitness_11 rfl rfl ?_
    refine go_VX dM_isWitness_12 vkM113 (by assumption) (List.cons_ne_nil _ _) (sM_sees h hw hT h0 h1) rfl (by omega) (by omega) (by omega) rfl (fun _ => Nat.le_of_ble_eq_true rfl) ?_
    rintro _ _ ⟨rfl, F2, m2, rfl, h2⟩ -
    dsimp only [rp]
    have ho := h2.1.1
    have a0 := h2.1.a0
    refine go_aload_n (i := 0) dM_isWitness_15 rfl rfl trivial ?_
    refine go_getf dM_isWitness_16 flM7 (by assumption) rfl ?_
    refine go_iconst dM_isWitness_19 (inR_of _ rfl) ?_
    refine go_iald' 1 _ dM_isWitness_20 (by assumption) rfl (by omega) rfl ?_
    rw [h2.2.2.1]
    refine go_ic_lt 28 dM_isWitness_21 rfl (fun h21 => ?_) (fun h21 => ?_)
    · exact t28 F2 m2 h2 (by unfold zwit; grind)
    · refine go_iconst dM_isWitness_24 (inR_of _ rfl) ?_
      refine go_goto 29 dM_isWitness_25 rfl ?_
      refine go_iret dM_isWitness_29 rfl (zb (by simp)) ?_
      exact ⟨by unfold zwit; grind, F2, m2, rfl, h2⟩
theorem sM_counted (h : ST r F m F1 m1) (hw : zW (m 0)) (hT : zT (m 0)) {y : Int} : CT g yM_counted 6 0 0 [gR r, gI y] (N, F1) (MS N r F m (gI (zcount (m 0) y))) := by
  have hn0 := hw.1.1
  have hn1 := hw.1.2.1
  have hz : (zmany (m 0) : Int) = m 0 0 := by unfold zmany; omega
  have loop : ∀ (n i : Nat), i + n = zmany (m 0) → ∀ (F1 : Nat → GC) (m1 : Nat → Nat → Int), ST r F m F1 m1 → Go g yM_counted 6 0 0 4 [gR r, gI y, gI (zsum (fun i => if zwit (m 0) i y = 1 then ztal (zk (m 0) i 0) else 0) i), gI i] [] (N, F1) (MS N r F m (gI (zcount (m 0) y))) := by
    intro n
    induction n with
    | zero =>
      intro i hi F1 m1 h
      have ho := h.1.1
      have a0 := h.1.a0
      refine go_iload_n (i := 3) dM_counted_4 rfl rfl ?_
      refine go_aload_n (i := 0) dM_counted_5 rfl rfl trivial ?_
      refine go_getf dM_counted_6 flM7 (by assumption) rfl ?_
      refine go_iconst dM_counted_9 (inR_of _ rfl) ?_
      refine go_iald' 0 _ dM_counted_10 (by assumption) rfl (by omega) rfl ?_
      rw [h.2.2.1]
      refine go_ic_ge 41 dM_counted_11 rfl (fun h11 => ?_) (fun h11 => absurd (by omega) h11)
      refine go_iload_n (i := 2) dM_counted_41 rfl rfl ?_
      refine go_iret dM_counted_42 rfl rfl ?_
      have : i = zmany (m 0) := by omega
      exact ⟨by rw [this]; rfl, F1, m1, rfl, h⟩
    | succ n ih =>
      intro i hi F1 m1 h
      have ho := h.1.1
      have a0 := h.1.a0
      have hs := zsum_le (f := fun i => if zwit (m 0) i y = 1 then ztal (zk (m 0) i 0) else 0) (a := -2) (b := 4) (n := i) (fun i _ => by have := ztal_in (zk (m 0) i 0); split <;> omega)
      have htl := ztal_in (zk (m 0) i 0)
      have tail : ∀ (x : Int) (F1 : Nat → GC) (m1 : Nat → Nat → Int), ST r F m F1 m1 → x = (if zwit (m 0) i y = 1 then ztal (zk (m 0) i 0) else 0) → Go g yM_counted 6 0 0 33 [gR r, gI y, gI (zsum (fun i => if zwit (m 0) i y = 1 then ztal (zk (m 0) i 0) else 0) i), gI i] [gI x, gI (zsum (fun i => if zwit (m 0) i y = 1 then ztal (zk (m 0) i 0) else 0) i)] (N, F1) (MS N r F m (gI (zcount (m 0) y))) := by
        intro x F1 m1 h hx
        have hx2 : zsum (fun i => if zwit (m 0) i y = 1 then ztal (zk (m 0) i 0) else 0) (i + 1) = zsum (fun i => if zwit (m 0) i y = 1 then ztal (zk (m 0) i 0) else 0) i + x := by rw [hx]; rfl
        have hx3 : -2 ≤ x ∧ x ≤ 4 := by rw [hx]; split <;> omega
        refine go_iadd dM_counted_33 ?_
        refine go_top (zsum (fun i => if zwit (m 0) i y = 1 then ztal (zk (m 0) i 0) else 0) (i + 1)) (by (try simp (discharger := (unfold inR; omega)) only [w32_id]) <;> omega) ?_
        refine go_is2 dM_counted_34 (Nat.le_of_ble_eq_true rfl) trivial ?_
        refine go_inc3 (((i + 1 : Nat) : Int)) dM_counted_35 (Nat.le_of_ble_eq_true rfl) trivial (by (try simp (discharger := (unfold inR; omega)) only [w32_id]) <;> omega) ?_
        refine go_goto 4 dM_counted_38 rfl ?_
        exact ih (i + 1) (by omega) F1 m1 h
      refine go_iload_n (i := 3) dM_counted_4 rfl rfl ?_
      refine go_aload_n (i := 0) dM_counted_5 rfl rfl trivial ?_
      refine go_getf dM_counted_6 flM7 (by assumption) rfl ?_
      refine go_iconst dM_counted_9 (inR_of _ rfl) ?_
      refine go_iald' 0 _ dM_counted_10 (by assumption) rfl (by omega) rfl ?_
      rw [h.2.2.1]
      refine go_ic_ge 41 dM_counted_11 rfl (fun h11 => absurd h11 (by omega)) (fun h11 => ?_)
      refine go_iload_n (i := 2) dM_counted_14 rfl rfl ?_
      refine go_aload_n (i := 0) dM_counted_15 rfl rfl trivial ?_
      refine go_iload_n (i := 3) dM_counted_16 rfl rfl ?_
      refine go_iload_n (i := 1) dM_counted_17 rfl rfl ?_
      refine go_VX dM_counted_18 vkM137 (by assumption) (List.cons_ne_nil _ _) (sM_isWitness h hw hT (by omega) (by omega)) rfl (by omega) (by omega) (by omega) rfl (fun _ => Nat.le_of_ble_eq_true rfl) ?_
      rintro _ _ ⟨rfl, F2, m2, rfl, h2⟩ -
      dsimp only [rp]
      have ho := h2.1.1
      refine go_if_eq 32 dM_counted_21 rfl (fun h21 => ?_) (fun h21 => ?_)
      · refine go_iconst dM_counted_32 (inR_of _ rfl) ?_
        exact tail 0 F2 m2 h2 (by rw [if_neg (by omega)])
      · refine go_aload_n (i := 0) dM_counted_24 rfl rfl trivial ?_
        refine go_iload_n (i := 3) dM_counted_25 rfl rfl ?_
        refine go_VP dM_counted_26 vkM119 (by assumption) (List.cons_ne_nil _ _) (qM_tallies h2.1 _ (by omega) (by omega)) rfl (by omega) rfl (fun _ => Nat.le_of_ble_eq_true rfl) ?_
        refine go_goto 33 dM_counted_29 rfl ?_
        refine tail _ F2 m2 h2 ?_
        rw [if_pos (by have := zwit01 (m 0) i y; omega), h2.2.2.1]
  refine CT.of' (L0 := [gR r, gI y, gU, gU]) plM (Nat.le_of_ble_eq_true rfl) rfl ?_
  refine go_iconst dM_counted_0 (inR_of _ rfl) ?_
  refine go_is2 dM_counted_1 (Nat.le_of_ble_eq_true rfl) trivial ?_
  refine go_iconst dM_counted_2 (inR_of _ rfl) ?_
  refine go_is3 dM_counted_3 (Nat.le_of_ble_eq_true rfl) trivial ?_
  exact loop (zmany (m 0)) 0 (by omega) F1 m1 h
theorem sM_isHolding (h : ST r F m F1 m1) (hw : zW (m 0)) (hT : zT (m 0)) {y : Int} (h0 : 0 ≤ y) (h1 : y ≤ 5) : CT g yM_isHolding 7 0 0 [gR r, gI y] (N, F1) (MS N r F m (gI (zhold (m 0) y))) := by
  have ho := h.1.1
  have hc := zcount_in hw y
  refine CT.of' (L0 := [gR r, gI y]) plM (Nat.le_of_ble_eq_true rfl) rfl ?_
  refine go_aload_n (i := 0) dM_isHolding_0 rfl rfl trivial ?_
  refine go_iload_n (i := 1) dM_isHolding_1 rfl rfl ?_
  refine go_VX dM_isHolding_2 vkM140 (by assumption) (List.cons_ne_nil _ _) (sM_counted h hw hT) rfl (by omega) (by omega) (by omega) rfl (fun _ => Nat.le_of_ble_eq_true rfl) ?_
  rintro _ _ ⟨rfl, F2, m2, rfl, h2⟩ -
  dsimp only [rp]
  have ho := h2.1.1
  refine go_aload_n (i := 0) dM_isHolding_5 rfl rfl trivial ?_
  refine go_getf dM_isHolding_6 flM7 (by assumption) rfl ?_
  refine go_bipush dM_isHolding_9 (inR_of _ rfl) rfl ?_
  refine go_iload_n (i := 1) dM_isHolding_11 rfl rfl ?_
  refine go_iadd dM_isHolding_12 ?_
  refine go_iald' (8 + y).toNat _ dM_isHolding_13 h2.1.a0 (by (try simp (discharger := (unfold inR; omega)) only [w32_id]) <;> omega) (by omega) rfl ?_
  rw [h2.2.2.1]
  refine go_ic_lt 21 dM_isHolding_14 rfl (fun h14 => ?_) (fun h14 => ?_)
  · refine go_iconst dM_isHolding_21 (inR_of _ rfl) ?_
    refine go_iret dM_isHolding_22 rfl (zb (by simp)) ?_
    exact ⟨by unfold zhold; rw [if_neg (by omega)], F2, m2, rfl, h2⟩
  · refine go_iconst dM_isHolding_17 (inR_of _ rfl) ?_
    refine go_goto 22 dM_isHolding_18 rfl ?_
    refine go_iret dM_isHolding_22 rfl (zb (by simp)) ?_
    exact ⟨by unfold zhold; rw [if_pos (by omega)], F2, m2, rfl, h2⟩
end MSEES
