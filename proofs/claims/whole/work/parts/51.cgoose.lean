/-! ===== the component: small calls, geese ===== -/
def zout (v lo hi : Int) : Int := if v < lo ∨ hi < v then 1 else 0
section CGOOSE
variable {g : GX} {N a : Nat} {F : Nat → GC} {f : Nat → Int}
theorem ct_outside (v lo hi : Int) : CT g yA_outside 0 0 0 [gI v, gI lo, gI hi] (N, F) (RV (zout v lo hi) (N, F)) := by
  refine CT.of' (L0 := [gI v, gI lo, gI hi]) plA (Nat.le_of_ble_eq_true rfl) rfl ?_
  refine go_iload_n (i := 0) dA_outside_0 rfl rfl ?_
  refine go_iload_n (i := 1) dA_outside_1 rfl rfl ?_
  refine go_ic_lt 10 dA_outside_2 rfl (fun h2 => ?_) (fun h2 => ?_)
  · refine go_iconst dA_outside_10 (inR_of _ rfl) ?_
    refine go_goto 15 dA_outside_11 rfl ?_
    refine go_iret dA_outside_15 rfl (zb (by simp)) ?_
    exact ⟨by unfold zout; rw [if_pos (by omega)], rfl⟩
  · refine go_iload_n (i := 0) dA_outside_5 rfl rfl ?_
    refine go_iload_n (i := 2) dA_outside_6 rfl rfl ?_
    refine go_ic_le 14 dA_outside_7 rfl (fun h7 => ?_) (fun h7 => ?_)
    · refine go_iconst dA_outside_14 (inR_of _ rfl) ?_
      refine go_iret dA_outside_15 rfl (zb (by simp)) ?_
      exact ⟨by unfold zout; rw [if_neg (by omega)], rfl⟩
    · refine go_iconst dA_outside_10 (inR_of _ rfl) ?_
      refine go_goto 15 dA_outside_11 rfl ?_
      refine go_iret dA_outside_15 rfl (zb (by simp)) ?_
      exact ⟨by unfold zout; rw [if_pos (by omega)], rfl⟩
theorem ct_within (v lo hi : Int) : CT g yA_within 0 0 0 [gI v, gI lo, gI hi] (N, F) (RV (zheld v lo hi) (N, F)) := by
  refine CT.of' (L0 := [gI v, gI lo, gI hi]) plA (Nat.le_of_ble_eq_true rfl) rfl ?_
  refine go_iload_n (i := 0) dA_within_0 rfl rfl ?_
  refine go_iload_n (i := 1) dA_within_1 rfl rfl ?_
  refine go_ic_ge 9 dA_within_2 rfl (fun h2 => ?_) (fun h2 => ?_)
  · refine go_iload_n (i := 0) dA_within_9 rfl rfl ?_
    refine go_iload_n (i := 2) dA_within_10 rfl rfl ?_
    refine go_ic_le 18 dA_within_11 rfl (fun h11 => ?_) (fun h11 => ?_)
    · refine go_iload_n (i := 0) dA_within_18 rfl rfl ?_
      refine go_iret dA_within_19 rfl rfl ?_
      exact ⟨by unfold zheld; grind, rfl⟩
    · refine go_iload_n (i := 2) dA_within_14 rfl rfl ?_
      refine go_goto 19 dA_within_15 rfl ?_
      refine go_iret dA_within_19 rfl rfl ?_
      exact ⟨by unfold zheld; grind, rfl⟩
  · refine go_iload_n (i := 1) dA_within_5 rfl rfl ?_
    refine go_goto 19 dA_within_6 rfl ?_
    refine go_iret dA_within_19 rfl rfl ?_
    exact ⟨by unfold zheld; grind, rfl⟩
theorem kinds {k : Int} (h : 0 ≤ k ∧ k ≤ 5) : k = 0 ∨ k = 1 ∨ k = 2 ∨ k = 3 ∨ k = 4 ∨ k = 5 := by omega
theorem tb_under {k : Int} (h : 0 ≤ k ∧ k ≤ 5) : 0 ≤ k ∧ k < ([-1, 0, 0, 1, 2, 0] : List Int).length ∧ ([-1, 0, 0, 1, 2, 0] : List Int).getD k.toNat 0 = (if k = 0 then -1 else if k = 3 then 1 else if k = 4 then 2 else 0) := by
  refine ⟨h.1, by show k < 6; omega, ?_⟩
  rcases kinds h with rfl | rfl | rfl | rfl | rfl | rfl <;> rfl
theorem tb_tal {k : Int} (h : 0 ≤ k ∧ k ≤ 5) : 0 ≤ k ∧ k < ([2, 1, 3, -2, 3, 4] : List Int).length ∧ ([2, 1, 3, -2, 3, 4] : List Int).getD k.toNat 0 = ztal k := by
  refine ⟨h.1, by show k < 6; omega, ?_⟩
  rcases kinds h with rfl | rfl | rfl | rfl | rfl | rfl <;> rfl
theorem tb_wan {k : Int} (h : 0 ≤ k ∧ k ≤ 5) : 0 ≤ k ∧ k < ([0, 1, 0, 2, 3, 0] : List Int).length ∧ ([0, 1, 0, 2, 3, 0] : List Int).getD k.toNat 0 = zwan k := by
  refine ⟨h.1, by show k < 6; omega, ?_⟩
  rcases kinds h with rfl | rfl | rfl | rfl | rfl | rfl <;> rfl
theorem tb_most {k : Int} (h : 0 ≤ k ∧ k ≤ 4) : 0 ≤ k ∧ k < ([5, 99, 99, 5, 9999] : List Int).length ∧ ([5, 99, 99, 5, 9999] : List Int).getD k.toNat 0 = (if k = 0 ∨ k = 3 then 5 else if k = 4 then 9999 else 99) := by
  refine ⟨h.1, by show k < 5; omega, ?_⟩
  have : k = 0 ∨ k = 1 ∨ k = 2 ∨ k = 3 ∨ k = 4 := by omega
  rcases this with rfl | rfl | rfl | rfl | rfl <;> rfl
theorem qG_tallies (hg : F a = cO 2 (g5 f)) (hk : 0 ≤ f 0 ∧ f 0 ≤ 5) : CT g yG_tallies 0 0 0 [gR a] (N, F) (RV (ztal (f 0)) (N, F)) := by
  refine CT.of' (L0 := [gR a]) plG (Nat.le_of_ble_eq_true rfl) rfl ?_
  refine go_getsN (i := 1) (j := 2) dG_tallies_0 rfl rfl rfl ?_
  refine go_aload_n (i := 0) dG_tallies_3 rfl rfl trivial ?_
  refine go_getf dG_tallies_4 flG9 (by assumption) rfl ?_
  refine go_stald' (ztal (f 0)) dG_tallies_7 rfl (tb_tal hk) ?_
  refine go_iret dG_tallies_8 rfl rfl ?_
  exact ⟨rfl, rfl⟩
theorem qG_wanders (hg : F a = cO 2 (g5 f)) (hk : 0 ≤ f 0 ∧ f 0 ≤ 5) : CT g yG_wanders 0 0 0 [gR a] (N, F) (RV (zwan (f 0)) (N, F)) := by
  refine CT.of' (L0 := [gR a]) plG (Nat.le_of_ble_eq_true rfl) rfl ?_
  refine go_getsN (i := 2) (j := 1) dG_wanders_0 rfl rfl rfl ?_
  refine go_aload_n (i := 0) dG_wanders_3 rfl rfl trivial ?_
  refine go_getf dG_wanders_4 flG9 (by assumption) rfl ?_
  refine go_stald' (zwan (f 0)) dG_wanders_7 rfl (tb_wan hk) ?_
  refine go_iret dG_wanders_8 rfl rfl ?_
  exact ⟨rfl, rfl⟩
theorem qG_worth (hg : F a = cO 2 (g5 f)) : CT g yG_worth 0 0 0 [gR a] (N, F) (RV (zworth (f 0) (f 1) (f 2) (f 4)) (N, F)) := by
  refine CT.of' (L0 := [gR a]) plG (Nat.le_of_ble_eq_true rfl) rfl ?_
  refine go_aload_n (i := 0) dG_worth_0 rfl rfl trivial ?_
  refine go_getf dG_worth_1 flG9 (by assumption) rfl ?_
  refine tabC dG_worth_4 85 rfl (fun h => ?_) (fun n h1 h2 => ?_)
  · refine go_aload_n (i := 0) dG_worth_85 rfl rfl trivial ?_
    refine go_getf dG_worth_86 flG15 (by assumption) rfl ?_
    refine go_iret dG_worth_89 rfl rfl ?_
    exact ⟨by unfold zworth; grind, rfl⟩
  · match n, h1 with
    | 0, h1 =>
      refine ⟨_, rfl, 40, rfl, ?_⟩
      refine go_aload_n (i := 0) dG_worth_40 rfl rfl trivial ?_
      refine go_getf dG_worth_41 flG15 (by assumption) rfl ?_
      refine go_aload_n (i := 0) dG_worth_44 rfl rfl trivial ?_
      refine go_getf dG_worth_45 flG24 (by assumption) rfl ?_
      refine go_iadd dG_worth_48 ?_
      refine go_iret dG_worth_49 rfl rfl ?_
      exact ⟨by unfold zworth; grind, rfl⟩
    | 1, h1 =>
      refine ⟨_, rfl, 62, rfl, ?_⟩
      refine go_bipush dG_worth_62 (inR_of _ rfl) rfl ?_
      refine go_aload_n (i := 0) dG_worth_64 rfl rfl trivial ?_
      refine go_getf dG_worth_65 flG18 (by assumption) rfl ?_
      refine go_isub dG_worth_68 ?_
      refine go_iret dG_worth_69 rfl rfl ?_
      exact ⟨by unfold zworth; grind, rfl⟩
    | 2, h1 =>
      refine ⟨_, rfl, 50, rfl, ?_⟩
      refine go_aload_n (i := 0) dG_worth_50 rfl rfl trivial ?_
      refine go_getf dG_worth_51 flG15 (by assumption) rfl ?_
      refine go_aload_n (i := 0) dG_worth_54 rfl rfl trivial ?_
      refine go_getf dG_worth_55 flG24 (by assumption) rfl ?_
      refine go_iadd dG_worth_58 ?_
      refine go_iconst dG_worth_59 (inR_of _ rfl) ?_
      refine go_idiv dG_worth_60 (by omega) ?_
      refine go_iret dG_worth_61 rfl rfl ?_
      exact ⟨by unfold zworth; grind, rfl⟩
    | 3, h1 =>
      refine ⟨_, rfl, 70, rfl, ?_⟩
      refine go_bipush dG_worth_70 (inR_of _ rfl) rfl ?_
      refine go_aload_n (i := 0) dG_worth_72 rfl rfl trivial ?_
      refine go_getf dG_worth_73 flG18 (by assumption) rfl ?_
      refine go_isub dG_worth_76 ?_
      refine go_iconst dG_worth_77 (inR_of _ rfl) ?_
      refine go_iadd dG_worth_78 ?_
      refine go_iret dG_worth_79 rfl rfl ?_
      exact ⟨by unfold zworth; grind, rfl⟩
    | 4, h1 =>
      refine ⟨_, rfl, 80, rfl, ?_⟩
      refine go_aload_n (i := 0) dG_worth_80 rfl rfl trivial ?_
      refine go_getf dG_worth_81 flG24 (by assumption) rfl ?_
      refine go_iret dG_worth_84 rfl rfl ?_
      exact ⟨by unfold zworth; grind, rfl⟩
    | n + 5, h1 => omega
theorem qG_trait (hg : F a = cO 2 (g5 f)) {w : Nat} (hw : w < 5) : CT g yG_trait 0 0 0 [gR a, gI (w : Int)] (N, F) (RV (f w) (N, F)) := by
  refine CT.of' (L0 := [gR a, gI (w : Int)]) plG (Nat.le_of_ble_eq_true rfl) rfl ?_
  refine go_iload_n (i := 1) dG_trait_0 rfl rfl ?_
  refine tabC dG_trait_1 52 rfl (fun h => ?_) (fun n h1 h2 => ?_)
  · refine go_aload_n (i := 0) dG_trait_52 rfl rfl trivial ?_
    refine go_getf dG_trait_53 flG24 (by assumption) rfl ?_
    refine go_iret dG_trait_56 rfl rfl ?_
    have : w = 4 := by omega
    subst this
    exact ⟨rfl, rfl⟩
  · have : w = n := by omega
    subst this
    match w, hw, h2 with
    | 0, _, _ =>
      refine ⟨_, rfl, 32, rfl, ?_⟩
      refine go_aload_n (i := 0) dG_trait_32 rfl rfl trivial ?_
      refine go_getf dG_trait_33 flG9 (by assumption) rfl ?_
      refine go_iret dG_trait_36 rfl rfl ?_
      exact ⟨rfl, rfl⟩
    | 1, _, _ =>
      refine ⟨_, rfl, 37, rfl, ?_⟩
      refine go_aload_n (i := 0) dG_trait_37 rfl rfl trivial ?_
      refine go_getf dG_trait_38 flG15 (by assumption) rfl ?_
      refine go_iret dG_trait_41 rfl rfl ?_
      exact ⟨rfl, rfl⟩
    | 2, _, _ =>
      refine ⟨_, rfl, 42, rfl, ?_⟩
      refine go_aload_n (i := 0) dG_trait_42 rfl rfl trivial ?_
      refine go_getf dG_trait_43 flG18 (by assumption) rfl ?_
      refine go_iret dG_trait_46 rfl rfl ?_
      exact ⟨rfl, rfl⟩
    | 3, _, _ =>
      refine ⟨_, rfl, 47, rfl, ?_⟩
      refine go_aload_n (i := 0) dG_trait_47 rfl rfl trivial ?_
      refine go_getf dG_trait_48 flG21 (by assumption) rfl ?_
      refine go_iret dG_trait_51 rfl rfl ?_
      exact ⟨rfl, rfl⟩
    | 4, _, h2 => omega
theorem qG_change (hg : F a = cO 2 (g5 f)) {w : Nat} (hw : w < 5) {x : Int} : CT g yG_change 0 0 0 [gR a, gI (w : Int), gI x] (N, F) (fun rr M' => rr = gU ∧ M' = (N, va_up F a (cO 2 ((g5 f).set w (gI x))))) := by
  refine CT.of' (L0 := [gR a, gI (w : Int), gI x]) plG (Nat.le_of_ble_eq_true rfl) rfl ?_
  refine go_iload_n (i := 1) dG_change_0 rfl rfl ?_
  refine tabC dG_change_1 64 rfl (fun h => ?_) (fun n h1 h2 => ?_)
  · refine go_aload_n (i := 0) dG_change_64 rfl rfl trivial ?_
    refine go_iload_n (i := 2) dG_change_65 rfl rfl ?_
    refine go_putf dG_change_66 flG24 (by assumption) (Nat.le_of_ble_eq_true rfl) rfl rfl ?_
    refine go_vret dG_change_69 rfl ?_
    have : w = 4 := by omega
    subst this
    exact ⟨rfl, rfl⟩
  · have : w = n := by omega
    subst this
    match w, hw, h2 with
    | 0, _, _ =>
      refine ⟨_, rfl, 32, rfl, ?_⟩
      refine go_aload_n (i := 0) dG_change_32 rfl rfl trivial ?_
      refine go_iload_n (i := 2) dG_change_33 rfl rfl ?_
      refine go_putf dG_change_34 flG9 (by assumption) (Nat.le_of_ble_eq_true rfl) rfl rfl ?_
      refine go_goto 69 dG_change_37 rfl ?_
      refine go_vret dG_change_69 rfl ?_
      exact ⟨rfl, rfl⟩
    | 1, _, _ =>
      refine ⟨_, rfl, 40, rfl, ?_⟩
      refine go_aload_n (i := 0) dG_change_40 rfl rfl trivial ?_
      refine go_iload_n (i := 2) dG_change_41 rfl rfl ?_
      refine go_putf dG_change_42 flG15 (by assumption) (Nat.le_of_ble_eq_true rfl) rfl rfl ?_
      refine go_goto 69 dG_change_45 rfl ?_
      refine go_vret dG_change_69 rfl ?_
      exact ⟨rfl, rfl⟩
    | 2, _, _ =>
      refine ⟨_, rfl, 48, rfl, ?_⟩
      refine go_aload_n (i := 0) dG_change_48 rfl rfl trivial ?_
      refine go_iload_n (i := 2) dG_change_49 rfl rfl ?_
      refine go_putf dG_change_50 flG18 (by assumption) (Nat.le_of_ble_eq_true rfl) rfl rfl ?_
      refine go_goto 69 dG_change_53 rfl ?_
      refine go_vret dG_change_69 rfl ?_
      exact ⟨rfl, rfl⟩
    | 3, _, _ =>
      refine ⟨_, rfl, 56, rfl, ?_⟩
      refine go_aload_n (i := 0) dG_change_56 rfl rfl trivial ?_
      refine go_iload_n (i := 2) dG_change_57 rfl rfl ?_
      refine go_putf dG_change_58 flG21 (by assumption) (Nat.le_of_ble_eq_true rfl) rfl rfl ?_
      refine go_goto 69 dG_change_61 rfl ?_
      refine go_vret dG_change_69 rfl ?_
      exact ⟨rfl, rfl⟩
    | 4, _, h2 => omega
theorem qG_isOf (hg : F a = cO 2 (g5 f)) (hk : 0 ≤ f 0 ∧ f 0 ≤ 5) {o : Int} (ho : 0 ≤ o ∧ o ≤ 5) : CT g yG_isOf 0 0 0 [gR a, gI o] (N, F) (RV (zunder (f 0) o) (N, F)) := by
  have step : ∀ (j : Nat) (x : Int) (n : Nat), -1 ≤ x → x ≤ 5 → n + j ≤ 6 → (x = -1 → 1 ≤ j) → (x = 0 → 2 ≤ j) → (0 < x → 3 ≤ j) → (3 ≤ x → 4 ≤ j) → Go g yG_isOf 0 0 0 7 [gR a, gI o, gI x, gI (n : Int)] [] (N, F) (RV (if 0 ≤ x then zunder x o else 0) (N, F)) := by
    intro j
    induction j with
    | zero => intro x n h1 h2 h3 h4 h5 h6 h7; omega
    | succ j ih =>
      intro x n h1 h2 h3 h4 h5 h6 h7
      refine go_iload_n (i := 3) dG_isOf_7 rfl rfl ?_
      refine go_bipush dG_isOf_8 (inR_of _ rfl) rfl ?_
      refine go_ic_ge 36 dG_isOf_10 rfl (fun h10 => absurd h10 (by omega)) (fun h10 => ?_)
      refine go_iload_n (i := 2) dG_isOf_13 rfl rfl ?_
      refine go_if_lt 36 dG_isOf_14 rfl (fun h14 => ?_) (fun h14 => ?_)
      · refine go_iconst dG_isOf_36 (inR_of _ rfl) ?_
        refine go_iret dG_isOf_37 rfl (zb (by simp)) ?_
        exact ⟨by rw [if_neg (by omega)], rfl⟩
      · refine go_iload_n (i := 2) dG_isOf_17 rfl rfl ?_
        refine go_iload_n (i := 1) dG_isOf_18 rfl rfl ?_
        refine go_ic_ne 24 dG_isOf_19 rfl (fun h19 => ?_) (fun h19 => ?_)
        · refine go_getsN (i := 0) (j := 0) dG_isOf_24 rfl rfl rfl ?_
          refine go_iload_n (i := 2) dG_isOf_27 rfl rfl ?_
          refine go_stald' _ dG_isOf_28 rfl (tb_under (by omega)) ?_
          refine go_is2 dG_isOf_29 (Nat.le_of_ble_eq_true rfl) trivial ?_
          refine go_inc3 (((n + 1 : Nat) : Int)) dG_isOf_30 (Nat.le_of_ble_eq_true rfl) trivial (by (try simp (discharger := (unfold inR; omega)) only [w32_id]) <;> omega) ?_
          refine go_goto 7 dG_isOf_33 rfl ?_
          have key : (if 0 ≤ x then zunder x o else 0) = (if 0 ≤ (if x = 0 then -1 else if x = 3 then 1 else if x = 4 then 2 else 0) then zunder (if x = 0 then -1 else if x = 3 then 1 else if x = 4 then 2 else 0) o else 0) := by
            unfold zunder; grind
          rw [key]
          have hx : ∀ z : Int, z = (if x = 0 then -1 else if x = 3 then 1 else if x = 4 then 2 else 0) → Go g yG_isOf 0 0 0 7 [gR a, gI o, gI z, gI ((n + 1 : Nat) : Int)] [] (N, F) (RV (if 0 ≤ z then zunder z o else 0) (N, F)) := by
            intro z hz
            exact ih z (n + 1) (by grind) (by grind) (by omega) (by grind) (by grind) (by grind) (by grind)
          exact hx _ rfl
        · refine go_iconst dG_isOf_22 (inR_of _ rfl) ?_
          refine go_iret dG_isOf_23 rfl (zb (by simp)) ?_
          exact ⟨by rw [if_pos (by omega)]; unfold zunder; rw [if_pos (by omega)], rfl⟩
  refine CT.of' (L0 := [gR a, gI o, gU, gU]) plG (Nat.le_of_ble_eq_true rfl) rfl ?_
  refine go_aload_n (i := 0) dG_isOf_0 rfl rfl trivial ?_
  refine go_getf dG_isOf_1 flG9 (by assumption) rfl ?_
  refine go_is2 dG_isOf_4 (Nat.le_of_ble_eq_true rfl) trivial ?_
  refine go_iconst dG_isOf_5 (inR_of _ rfl) ?_
  refine go_is3 dG_isOf_6 (Nat.le_of_ble_eq_true rfl) trivial ?_
  have := step 6 (f 0) 0 (by omega) (by omega) (by omega) (by omega) (by omega) (by omega) (by omega)
  rw [if_pos hk.1] at this
  exact this
theorem qG_become {a2 : Nat} {f2 : Nat → Int} (hg : F a = cO 2 (g5 f)) (hg2 : F a2 = cO 2 (g5 f2)) : CT g yG_become 0 0 0 [gR a, gR a2] (N, F) (fun rr M' => rr = gU ∧ M' = (N, va_up F a (cO 2 (g5 f2)))) := by
  by_cases e : a2 = a
  · subst e
    have e1 : f2 0 = f 0 ∧ f2 1 = f 1 ∧ f2 2 = f 2 ∧ f2 3 = f 3 ∧ f2 4 = f 4 := by
      rw [hg] at hg2
      injection hg2 with e; injection e with e; injection e with _ e
      injection e with e0 e; injection e with e1 e; injection e with e2 e; injection e with e3 e; injection e with e4 _
      injection e0 with e0; injection e1 with e1; injection e2 with e2; injection e3 with e3; injection e4 with e4
      exact ⟨e0.symm, e1.symm, e2.symm, e3.symm, e4.symm⟩
    have up : ∀ (H : Nat → GC) (c c' : GC), va_up (va_up H a2 c) a2 c' = va_up H a2 c' := by
      intro H c c'; funext k
      by_cases q : k = a2
      · subst q; rw [va_up_self, va_up_self]
      · rw [va_up_ne _ _ q, va_up_ne _ _ q, va_up_ne _ _ q]
    refine CT.of' (L0 := [gR a2, gR a2]) plG (Nat.le_of_ble_eq_true rfl) rfl ?_
    refine go_aload_n (i := 0) dG_become_0 rfl rfl trivial ?_
    refine go_aload_n (i := 1) dG_become_1 rfl rfl trivial ?_
    refine go_getf dG_become_2 flG9 (by assumption) rfl ?_
    refine go_putf dG_become_5 flG9 hg (by show 0 < 5; omega) rfl rfl ?_
    refine go_aload_n (i := 0) dG_become_8 rfl rfl trivial ?_
    refine go_aload_n (i := 1) dG_become_9 rfl rfl trivial ?_
    refine go_getf dG_become_10 flG15 (va_up_self _ _ _) rfl ?_
    refine go_putf dG_become_13 flG15 (va_up_self _ _ _) (by show 1 < 5; omega) rfl rfl ?_
    rw [up]
    refine go_aload_n (i := 0) dG_become_16 rfl rfl trivial ?_
    refine go_aload_n (i := 1) dG_become_17 rfl rfl trivial ?_
    refine go_getf dG_become_18 flG18 (va_up_self _ _ _) rfl ?_
    refine go_putf dG_become_21 flG18 (va_up_self _ _ _) (by show 2 < 5; omega) rfl rfl ?_
    rw [up]
    refine go_aload_n (i := 0) dG_become_24 rfl rfl trivial ?_
    refine go_aload_n (i := 1) dG_become_25 rfl rfl trivial ?_
    refine go_getf dG_become_26 flG21 (va_up_self _ _ _) rfl ?_
    refine go_putf dG_become_29 flG21 (va_up_self _ _ _) (by show 3 < 5; omega) rfl rfl ?_
    rw [up]
    refine go_aload_n (i := 0) dG_become_32 rfl rfl trivial ?_
    refine go_aload_n (i := 1) dG_become_33 rfl rfl trivial ?_
    refine go_getf dG_become_34 flG24 (va_up_self _ _ _) rfl ?_
    refine go_putf dG_become_37 flG24 (va_up_self _ _ _) (by show 4 < 5; omega) rfl rfl ?_
    rw [up]
    refine go_vret dG_become_40 rfl ?_
    refine ⟨rfl, ?_⟩
    obtain ⟨q0, q1, q2, q3, q4⟩ := e1
    show (N, va_up F a2 (cO 2 [gI (f 0), gI (f 1), gI (f 2), gI (f 3), gI (f 4)])) = _
    unfold g5
    rw [q0, q1, q2, q3, q4]
  · have up : ∀ (H : Nat → GC) (c c' : GC), va_up (va_up H a c) a c' = va_up H a c' := by
      intro H c c'; funext k
      by_cases q : k = a
      · subst q; rw [va_up_self, va_up_self]
      · rw [va_up_ne _ _ q, va_up_ne _ _ q, va_up_ne _ _ q]
    have hh : ∀ c : GC, va_up F a c a2 = cO 2 (g5 f2) := fun c => by rw [va_up_ne _ _ e]; exact hg2
    refine CT.of' (L0 := [gR a, gR a2]) plG (Nat.le_of_ble_eq_true rfl) rfl ?_
    refine go_aload_n (i := 0) dG_become_0 rfl rfl trivial ?_
    refine go_aload_n (i := 1) dG_become_1 rfl rfl trivial ?_
    refine go_getf dG_become_2 flG9 hg2 rfl ?_
    refine go_putf dG_become_5 flG9 hg (by show 0 < 5; omega) rfl rfl ?_
    refine go_aload_n (i := 0) dG_become_8 rfl rfl trivial ?_
    refine go_aload_n (i := 1) dG_become_9 rfl rfl trivial ?_
    refine go_getf dG_become_10 flG15 (hh _) rfl ?_
    refine go_putf dG_become_13 flG15 (va_up_self _ _ _) (by show 1 < 5; omega) rfl rfl ?_
    rw [up]
    refine go_aload_n (i := 0) dG_become_16 rfl rfl trivial ?_
    refine go_aload_n (i := 1) dG_become_17 rfl rfl trivial ?_
    refine go_getf dG_become_18 flG18 (hh _) rfl ?_
    refine go_putf dG_become_21 flG18 (va_up_self _ _ _) (by show 2 < 5; omega) rfl rfl ?_
    rw [up]
    refine go_aload_n (i := 0) dG_become_24 rfl rfl trivial ?_
    refine go_aload_n (i := 1) dG_become_25 rfl rfl trivial ?_
    refine go_getf dG_become_26 flG21 (hh _) rfl ?_
    refine go_putf dG_become_29 flG21 (va_up_self _ _ _) (by show 3 < 5; omega) rfl rfl ?_
    rw [up]
    refine go_aload_n (i := 0) dG_become_32 rfl rfl trivial ?_
    refine go_aload_n (i := 1) dG_become_33 rfl rfl trivial ?_
    refine go_getf dG_become_34 flG24 (hh _) rfl ?_
    refine go_putf dG_become_37 flG24 (va_up_self _ _ _) (by show 4 < 5; omega) rfl rfl ?_
    rw [up]
    refine go_vret dG_become_40 rfl ?_
    exact ⟨rfl, rfl⟩
end CGOOSE
