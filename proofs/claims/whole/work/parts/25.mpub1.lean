/-! ===== the model's public calls: geese, yards ===== -/
/-- the parts of the model's state that later calls show -/
def EQ (U m' : Nat → Nat → Int) : Prop := (∀ i : Nat, i ∈ [0, 1, 3, 7, 9, 10, 11, 13, 14, 15] → m' i = U i) ∧ ∀ j : Nat, j ∈ [6, 7, 11] → m' 17 j = U 17 j
theorem EQ.rf {m : Nat → Nat → Int} : EQ m m := ⟨fun _ _ => rfl, fun _ _ => rfl⟩
theorem EQ.tr {m m1 m2 : Nat → Nat → Int} (h1 : EQ m m1) (h2 : EQ m1 m2) : EQ m m2 := ⟨fun i hi => (h2.1 i hi).trans (h1.1 i hi), fun j hj => (h2.2 j hj).trans (h1.2 j hj)⟩
def MB (N r : Nat) (F : Nat → GC) (v : GV) (U : Nat → Nat → Int) : GV → GM → Prop := fun rr M' => rr = v ∧ ∃ (F2 : Nat → GC) (m2 : Nat → Nat → Int), M' = (N, F2) ∧ MOD F2 r m2 ∧ FR r F F2 ∧ EQ U m2
theorem EQ.sb {m m' : Nat → Nat → Int} {S : Nat → Int} {l : List Nat} (h0 : m' 0 = S) (h : SB l m m') (hl : ∀ i ∈ l, i = 0 ∨ i ∈ [2, 4, 5, 6, 8, 12, 16]) : EQ (va_up m 0 S) m' := by
  have h17 : m' 17 = m 17 := h 17 (fun hm => by rcases hl 17 hm with h | h <;> simp at h)
  refine ⟨fun i hi => ?_, fun j _ => ?_⟩
  · by_cases e : i = 0
    · subst e; rw [h0, va_up_self]
    · rw [va_up_ne _ _ e]
      refine h i (fun hm => ?_)
      rcases hl i hm with h | h
      · exact e h
      · simp at hi h; omega
  · rw [h17, va_up_ne _ _ (by omega)]
theorem va_up_id {α : Type} (f : Nat → α) (k : Nat) : va_up f k (f k) = f := by
  funext j
  unfold va_up
  by_cases e : j = k
  · rw [if_pos e, e]
  · rw [if_neg e]
theorem EQ.sb0 {m m' : Nat → Nat → Int} {l : List Nat} (h0 : m' 0 = m 0) (h : SB l m m') (hl : ∀ i ∈ l, i = 0 ∨ i ∈ [2, 4, 5, 6, 8, 12, 16]) : EQ m m' := by
  have := EQ.sb h0 h hl
  rwa [va_up_id] at this
section MPUB1
variable {g : GX} {N r : Nat} {F : Nat → GC} {m : Nat → Nat → Int}
abbrev BAD : Int := -1000000001
abbrev FULL : Int := -1000000003
def zadd (s : Nat → Int) (k a b c : Int) : Nat → Int := va_up (va_up (va_up (va_up (va_up (va_up s 0 (s 0 + 1)) (14 + 5 * (s 0).toNat) k) (15 + 5 * (s 0).toNat) a) (16 + 5 * (s 0).toNat) b) (17 + 5 * (s 0).toNat) c) (18 + 5 * (s 0).toNat) 0
theorem qM_adds (hM : MOD F r m) (hn0 : 0 ≤ m 0 0) (hn1 : m 0 0 < 10) {k a b c : Int} : CT g yM_adds 1 0 0 [gR r, gI k, gI a, gI b, gI c] (N, F) (MU N r F m (gI (m 0 0)) (zadd (m 0) k a b c)) := by
  have ho := hM.1
  have a0 := hM.a0
  generalize hi : (m 0 0).toNat = i
  have ei : m 0 0 = (i : Int) := by omega
  refine CT.of' (L0 := [gR r, gI k, gI a, gI b, gI c, gU]) plM (Nat.le_of_ble_eq_true rfl) rfl ?_
  refine go_aload_n (i := 0) dM_adds_0 rfl rfl trivial ?_
  refine go_getf dM_adds_1 flM7 (by assumption) rfl ?_
  refine go_iconst dM_adds_4 (inR_of _ rfl) ?_
  refine go_iald' 0 ((i : Nat) : Int) dM_adds_5 hM.a0 rfl (by omega) ei ?_
  refine go_is5 dM_adds_6 (Nat.le_of_ble_eq_true rfl) trivial ?_
  refine go_aload_n (i := 0) dM_adds_8 rfl rfl trivial ?_
  refine go_getf dM_adds_9 flM7 (by assumption) rfl ?_
  refine go_iconst dM_adds_12 (inR_of _ rfl) ?_
  refine go_dup2 dM_adds_13 trivial trivial ?_
  refine go_iald' 0 ((i : Nat) : Int) dM_adds_14 hM.a0 rfl (by omega) ei ?_
  refine go_iconst dM_adds_15 (inR_of _ rfl) ?_
  refine go_iadd dM_adds_16 ?_
  refine go_top (((i + 1 : Nat) : Int)) (by (try simp (discharger := (unfold inR; omega)) only [w32_id]) <;> omega) ?_
  refine go_mst (i := 0) (k := 0) hM (by omega) dM_adds_17 rfl rfl (by decide) (fun F1 m1 hM1 hF1 e1 => ?_)
  have ho1 := hM1.1
  refine go_aload_n (i := 0) dM_adds_18 rfl rfl trivial ?_
  refine go_getf dM_adds_19 flM7 (by assumption) rfl ?_
  refine go_iload dM_adds_22 rfl ?_
  refine go_iconst dM_adds_24 (inR_of _ rfl) ?_
  refine go_SP dM_adds_25 vkM61 (ct_spot _ _) rfl (by omega) rfl (fun _ => Nat.le_of_ble_eq_true rfl) ?_
  refine go_iload_n (i := 1) dM_adds_28 rfl rfl ?_
  refine go_mst (i := 0) (k := 14 + 5 * i) hM1 (by omega) dM_adds_29 rfl ?_ (by show _ < 1510; omega) (fun F2 m2 hM2 hF2 e2 => ?_)
  · (try simp (discharger := (unfold inR; omega)) only [w32_id]) <;> omega
  have ho2 := hM2.1
  refine go_aload_n (i := 0) dM_adds_30 rfl rfl trivial ?_
  refine go_getf dM_adds_31 flM7 (by assumption) rfl ?_
  refine go_iload dM_adds_34 rfl ?_
  refine go_iconst dM_adds_36 (inR_of _ rfl) ?_
  refine go_SP dM_adds_37 vkM61 (ct_spot _ _) rfl (by omega) rfl (fun _ => Nat.le_of_ble_eq_true rfl) ?_
  refine go_iload_n (i := 2) dM_adds_40 rfl rfl ?_
  refine go_mst (i := 0) (k := 15 + 5 * i) hM2 (by omega) dM_adds_41 rfl ?_ (by show _ < 1510; omega) (fun F3 m3 hM3 hF3 e3 => ?_)
  · (try simp (discharger := (unfold inR; omega)) only [w32_id]) <;> omega
  have ho3 := hM3.1
  refine go_aload_n (i := 0) dM_adds_42 rfl rfl trivial ?_
  refine go_getf dM_adds_43 flM7 (by assumption) rfl ?_
  refine go_iload dM_adds_46 rfl ?_
  refine go_iconst dM_adds_48 (inR_of _ rfl) ?_
  refine go_SP dM_adds_49 vkM61 (ct_spot _ _) rfl (by omega) rfl (fun _ => Nat.le_of_ble_eq_true rfl) ?_
  refine go_iload_n (i := 3) dM_adds_52 rfl rfl ?_
  refine go_mst (i := 0) (k := 16 + 5 * i) hM3 (by omega) dM_adds_53 rfl ?_ (by show _ < 1510; omega) (fun F4 m4 hM4 hF4 e4 => ?_)
  · (try simp (discharger := (unfold inR; omega)) only [w32_id]) <;> omega
  have ho4 := hM4.1
  refine go_aload_n (i := 0) dM_adds_54 rfl rfl trivial ?_
  refine go_getf dM_adds_55 flM7 (by assumption) rfl ?_
  refine go_iload dM_adds_58 rfl ?_
  refine go_iconst dM_adds_60 (inR_of _ rfl) ?_
  refine go_SP dM_adds_61 vkM61 (ct_spot _ _) rfl (by omega) rfl (fun _ => Nat.le_of_ble_eq_true rfl) ?_
  refine go_iload dM_adds_64 rfl ?_
  refine go_mst (i := 0) (k := 17 + 5 * i) hM4 (by omega) dM_adds_66 rfl ?_ (by show _ < 1510; omega) (fun F5 m5 hM5 hF5 e5 => ?_)
  · (try simp (discharger := (unfold inR; omega)) only [w32_id]) <;> omega
  have ho5 := hM5.1
  refine go_aload_n (i := 0) dM_adds_67 rfl rfl trivial ?_
  refine go_getf dM_adds_68 flM7 (by assumption) rfl ?_
  refine go_iload dM_adds_71 rfl ?_
  refine go_iconst dM_adds_73 (inR_of _ rfl) ?_
  refine go_SP dM_adds_74 vkM61 (ct_spot _ _) rfl (by omega) rfl (fun _ => Nat.le_of_ble_eq_true rfl) ?_
  refine go_iconst dM_adds_77 (inR_of _ rfl) ?_
  refine go_mst (i := 0) (k := 18 + 5 * i) hM5 (by omega) dM_adds_78 rfl ?_ (by show _ < 1510; omega) (fun F6 m6 hM6 hF6 e6 => ?_)
  · (try simp (discharger := (unfold inR; omega)) only [w32_id]) <;> omega
  refine go_iload dM_adds_79 rfl ?_
  refine go_iret dM_adds_81 rfl rfl ?_
  refine ⟨by rw [ei], F6, m6, rfl, hM6, ((((hF1.tr hF2).tr hF3).tr hF4).tr hF5).tr hF6, ?_, ?_⟩
  · unfold zadd
    rw [hi, e6]
    show va_up (m5 0) (18 + 5 * i) 0 = _
    rw [e5]
    show va_up (va_up (m4 0) (17 + 5 * i) c) (18 + 5 * i) 0 = _
    rw [e4]
    show va_up (va_up (va_up (m3 0) (16 + 5 * i) b) (17 + 5 * i) c) (18 + 5 * i) 0 = _
    rw [e3]
    show va_up (va_up (va_up (va_up (m2 0) (15 + 5 * i) a) (16 + 5 * i) b) (17 + 5 * i) c) (18 + 5 * i) 0 = _
    rw [e2]
    show va_up (va_up (va_up (va_up (va_up (m1 0) (14 + 5 * i) k) (15 + 5 * i) a) (16 + 5 * i) b) (17 + 5 * i) c) (18 + 5 * i) 0 = _
    rw [e1]
    show va_up (va_up (va_up (va_up (va_up (va_up (m 0) 0 ((i + 1 : Nat) : Int)) (14 + 5 * i) k) (15 + 5 * i) a) (16 + 5 * i) b) (17 + 5 * i) c) (18 + 5 * i) 0 = _
    rw [ei]
    rfl
  · rw [e6, e5, e4, e3, e2, e1]
    exact (((((SB.rf.put (by simp)).put (by simp)).put (by simp)).put (by simp)).put (by simp)).put (by simp)
def v_goose (s : Nat → Int) (k a b c : Int) : Int := if (0 ≤ k ∧ k ≤ 5) ∧ (0 ≤ a ∧ a ≤ 99) ∧ (0 ≤ b ∧ b ≤ 99) ∧ (0 ≤ c ∧ c ≤ 5) then (if s 0 = 10 then FULL else s 0) else BAD
def u_goose (s : Nat → Int) (k a b c : Int) : Nat → Int := if ((0 ≤ k ∧ k ≤ 5) ∧ (0 ≤ a ∧ a ≤ 99) ∧ (0 ≤ b ∧ b ≤ 99) ∧ (0 ≤ c ∧ c ≤ 5)) ∧ s 0 ≠ 10 then zadd s k a b c else s
theorem bM_goose (hM : MOD F r m) (hw : zW (m 0)) {k a b c : Int} : CT g yM_goose 2 0 0 [gR r, gI k, gI a, gI b, gI c] (N, F) (MB N r F (gI (v_goose (m 0) k a b c)) (va_up m 0 (u_goose (m 0) k a b c))) := by
  have ho := hM.1
  have a0 := hM.a0
  have hn0 := hw.1.1
  have hn1 := hw.1.2.1
  have same : ∀ v : Int, v = v_goose (m 0) k a b c → u_goose (m 0) k a b c = m 0 → MB N r F (gI (v_goose (m 0) k a b c)) (va_up m 0 (u_goose (m 0) k a b c)) (gI v) (N, F) := by
    intro v hv hu
    exact ⟨by rw [hv], F, m, rfl, hM, FR.rf, by rw [hu, va_up_id]; exact EQ.rf⟩
  have t39 : ¬ ((0 ≤ k ∧ k ≤ 5) ∧ (0 ≤ a ∧ a ≤ 99) ∧ (0 ≤ b ∧ b ≤ 99) ∧ (0 ≤ c ∧ c ≤ 5)) → Go g yM_goose 2 0 0 39 [gR r, gI k, gI a, gI b, gI c] [] (N, F) (MB N r F (gI (v_goose (m 0) k a b c)) (va_up m 0 (u_goose (m 0) k a b c))) := by
    intro hc
    refine go_ldc dM_goose_39 kcM96 (inR_of _ rfl) ?_
    refine go_iret dM_goose_41 rfl rfl ?_
    exact same _ (by unfold v_goose; rw [if_neg hc]) (by unfold u_goose; rw [if_neg (fun h => hc h.1)])
  refine CT.of' (L0 := [gR r, gI k, gI a, gI b, gI c]) plM (Nat.le_of_ble_eq_true rfl) rfl ?_
  refine go_iload_n (i := 1) dM_goose_0 rfl rfl ?_
  refine go_SP dM_goose_1 vkM100 (ct_isKind _) rfl (by omega) rfl (fun _ => Nat.le_of_ble_eq_true rfl) ?_
  refine go_if_eq 39 dM_goose_4 rfl (fun h4 => ?_) (fun h4 => ?_)
  · exact t39 (by grind [zin])
  · refine go_iload_n (i := 2) dM_goose_7 rfl rfl ?_
    refine go_i2l dM_goose_8 ?_
    refine go_lconst (x := 0) dM_goose_9 (inL_of2 _ rfl) rfl ?_
    refine go_ldc2 dM_goose_10 kcM103 (inL_of2 _ rfl) ?_
    refine go_SP dM_goose_13 vkM65 (ct_in _ _ _) rfl (by omega) rfl (fun _ => Nat.le_of_ble_eq_true rfl) ?_
    refine go_if_eq 39 dM_goose_16 rfl (fun h16 => ?_) (fun h16 => ?_)
    · exact t39 (by grind [zin])
    · refine go_iload_n (i := 3) dM_goose_19 rfl rfl ?_
      refine go_i2l dM_goose_20 ?_
      refine go_lconst (x := 0) dM_goose_21 (inL_of2 _ rfl) rfl ?_
      refine go_ldc2 dM_goose_22 kcM103 (inL_of2 _ rfl) ?_
      refine go_SP dM_goose_25 vkM65 (ct_in _ _ _) rfl (by omega) rfl (fun _ => Nat.le_of_ble_eq_true rfl) ?_
      refine go_if_eq 39 dM_goose_28 rfl (fun h28 => ?_) (fun h28 => ?_)
      · exact t39 (by grind [zin])
      · refine go_iload dM_goose_31 rfl ?_
        refine go_SP dM_goose_33 vkM105 (ct_isYard _) rfl (by omega) rfl (fun _ => Nat.le_of_ble_eq_true rfl) ?_
        refine go_if_ne 42 dM_goose_36 rfl (fun h36 => ?_) (fun h36 => ?_)
        · refine go_aload_n (i := 0) dM_goose_42 rfl rfl trivial ?_
          refine go_getf dM_goose_43 flM7 (by assumption) rfl ?_
          refine go_iconst dM_goose_46 (inR_of _ rfl) ?_
          refine go_iald' 0 _ dM_goose_47 (by assumption) rfl (by omega) rfl ?_
          refine go_bipush dM_goose_48 (inR_of _ rfl) rfl ?_
          refine go_ic_ne 58 dM_goose_50 rfl (fun h50 => ?_) (fun h50 => ?_)
          · refine go_aload_n (i := 0) dM_goose_58 rfl rfl trivial ?_
            refine go_iload_n (i := 1) dM_goose_59 rfl rfl ?_
            refine go_iload_n (i := 2) dM_goose_60 rfl rfl ?_
            refine go_iload_n (i := 3) dM_goose_61 rfl rfl ?_
            refine go_iload dM_goose_62 rfl ?_
            refine go_VX dM_goose_64 vkM109 (by assumption) (List.cons_ne_nil _ _) (qM_adds hM hn0 (by omega)) rfl (by omega) (by omega) (by omega) rfl (fun _ => Nat.le_of_ble_eq_true rfl) ?_
            rintro _ _ ⟨rfl, F2, m2, rfl, hM2, hF2, e2, hS2⟩ -
            dsimp only [rp]
            refine go_iret dM_goose_67 rfl rfl ?_
            have hc : (0 ≤ k ∧ k ≤ 5) ∧ (0 ≤ a ∧ a ≤ 99) ∧ (0 ≤ b ∧ b ≤ 99) ∧ (0 ≤ c ∧ c ≤ 5) := by grind [zin]
            refine ⟨by unfold v_goose; rw [if_pos hc, if_neg h50], F2, m2, rfl, hM2, hF2, EQ.sb ?_ hS2 (by simp)⟩
            unfold u_goose
            rw [if_pos ⟨hc, h50⟩]
            exact e2
          · refine go_ldc dM_goose_53 kcM108 (inR_of _ rfl) ?_
            refine go_goto 67 dM_goose_55 rfl ?_
            refine go_iret dM_goose_67 rfl rfl ?_
            have hc : (0 ≤ k ∧ k ≤ 5) ∧ (0 ≤ a ∧ a ≤ 99) ∧ (0 ≤ b ∧ b ≤ 99) ∧ (0 ≤ c ∧ c ≤ 5) := by grind [zin]
            exact same _ (by unfold v_goose; rw [if_pos hc, if_pos h50]) (by unfold u_goose; rw [if_neg (fun h => h.2 h50)])
        · exact t39 (by grind [zin])
end MPUB1
