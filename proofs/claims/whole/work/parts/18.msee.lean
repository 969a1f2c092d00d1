/-! ===== the model: what geese see, who counts ===== -/
section MSEE
variable {g : GX} {N r : Nat} {F : Nat → GC} {m : Nat → Nat → Int}
theorem qM_inYard (hM : MOD F r m) (hw : zW (m 0)) (y : Int) : CT g yM_inYard 2 0 0 [gR r, gI y] (N, F) (RV (zinY (m 0) y (zmany (m 0))) (N, F)) := by
  have ho := hM.1
  have a0 := hM.a0
  have hn0 := hw.1.1
  have hn1 := hw.1.2.1
  have hz : (zmany (m 0) : Int) = m 0 0 := by unfold zmany; omega
  have loop : ∀ (n i : Nat), i + n = zmany (m 0) → Go g yM_inYard 2 0 0 4 [gR r, gI y, gI (zinY (m 0) y i), gI i] [] (N, F) (RV (zinY (m 0) y (zmany (m 0))) (N, F)) := by
    intro n
    induction n with
    | zero =>
      intro i hi
      refine go_iload_n (i := 3) dM_inYard_4 rfl rfl ?_
      refine go_aload_n (i := 0) dM_inYard_5 rfl rfl trivial ?_
      refine go_getf dM_inYard_6 flM7 (by assumption) rfl ?_
      refine go_iconst dM_inYard_9 (inR_of _ rfl) ?_
      refine go_iald' 0 _ dM_inYard_10 (by assumption) rfl (by omega) rfl ?_
      refine go_ic_ge 38 dM_inYard_11 rfl (fun h11 => ?_) (fun h11 => absurd (by omega) h11)
      refine go_iload_n (i := 2) dM_inYard_38 rfl rfl ?_
      refine go_iret dM_inYard_39 rfl rfl ?_
      have : i = zmany (m 0) := by omega
      exact ⟨by rw [this], rfl⟩
    | succ n ih =>
      intro i hi
      have hs := zinY_in (m 0) y i
      have tail : ∀ x : Int, x = (if zk (m 0) i 3 = y then 1 else 0) → Go g yM_inYard 2 0 0 30 [gR r, gI y, gI (zinY (m 0) y i), gI i] [gI x, gI (zinY (m 0) y i)] (N, F) (RV (zinY (m 0) y (zmany (m 0))) (N, F)) := by
        intro x hx
        have hx2 : zinY (m 0) y (i + 1) = zinY (m 0) y i + x := by rw [hx]; rfl
        have hx3 : 0 ≤ x ∧ x ≤ 1 := by rw [hx]; split <;> omega
        refine go_iadd dM_inYard_30 ?_
        refine go_top (zinY (m 0) y (i + 1)) (by (try simp (discharger := (unfold inR; omega)) only [w32_id]) <;> omega) ?_
        refine go_is2 dM_inYard_31 (Nat.le_of_ble_eq_true rfl) trivial ?_
        refine go_inc3 (((i + 1 : Nat) : Int)) dM_inYard_32 (Nat.le_of_ble_eq_true rfl) trivial (by (try simp (discharger := (unfold inR; omega)) only [w32_id]) <;> omega) ?_
        refine go_goto 4 dM_inYard_35 rfl ?_
        exact ih (i + 1) (by omega)
      refine go_iload_n (i := 3) dM_inYard_4 rfl rfl ?_
      refine go_aload_n (i := 0) dM_inYard_5 rfl rfl trivial ?_
      refine go_getf dM_inYard_6 flM7 (by assumption) rfl ?_
      refine go_iconst dM_inYard_9 (inR_of _ rfl) ?_
      refine go_iald' 0 _ dM_inYard_10 (by assumption) rfl (by omega) rfl ?_
      refine go_ic_ge 38 dM_inYard_11 rfl (fun h11 => absurd h11 (by omega)) (fun h11 => ?_)
      refine go_iload_n (i := 2) dM_inYard_14 rfl rfl ?_
      refine go_aload_n (i := 0) dM_inYard_15 rfl rfl trivial ?_
      refine go_iload_n (i := 3) dM_inYard_16 rfl rfl ?_
      refine go_iconst dM_inYard_17 (inR_of _ rfl) ?_
      refine go_VP dM_inYard_18 vkM79 (by assumption) (List.cons_ne_nil _ _) (qM_its hM (by omega) (by omega) (by omega) (by omega)) rfl (by omega) rfl (fun _ => Nat.le_of_ble_eq_true rfl) ?_
      refine go_iload_n (i := 1) dM_inYard_21 rfl rfl ?_
      refine go_ic_ne 29 dM_inYard_22 rfl (fun h22 => ?_) (fun h22 => ?_)
      · refine go_iconst dM_inYard_29 (inR_of _ rfl) ?_
        exact tail 0 (by rw [if_neg h22])
      · refine go_iconst dM_inYard_25 (inR_of _ rfl) ?_
        refine go_goto 30 dM_inYard_26 rfl ?_
        exact tail 1 (by rw [if_pos h22])
  refine CT.of' (L0 := [gR r, gI y, gU, gU]) plM (Nat.le_of_ble_eq_true rfl) rfl ?_
  refine go_iconst dM_inYard_0 (inR_of _ rfl) ?_
  refine go_is2 dM_inYard_1 (Nat.le_of_ble_eq_true rfl) trivial ?_
  refine go_iconst dM_inYard_2 (inR_of _ rfl) ?_
  refine go_is3 dM_inYard_3 (Nat.le_of_ble_eq_true rfl) trivial ?_
  exact loop (zmany (m 0)) 0 (by omega)
theorem qM_tallies (hM : MOD F r m) (i : Int) (h0 : 0 ≤ i) (h1 : i < 10) : CT g yM_tallies 2 0 0 [gR r, gI i] (N, F) (RV (ztal (zk (m 0) i 0)) (N, F)) := by
  have ho := hM.1
  refine CT.of' (L0 := [gR r, gI i]) plM (Nat.le_of_ble_eq_true rfl) rfl ?_
  refine go_aload_n (i := 0) dM_tallies_0 rfl rfl trivial ?_
  refine go_iload_n (i := 1) dM_tallies_1 rfl rfl ?_
  refine go_iconst dM_tallies_2 (inR_of _ rfl) ?_
  refine go_VP dM_tallies_3 vkM79 (by assumption) (List.cons_ne_nil _ _) (qM_its hM (by omega) (by omega) (by omega) (by omega)) rfl (by omega) rfl (fun _ => Nat.le_of_ble_eq_true rfl) ?_
  generalize zk (m 0) i 0 = k
  refine tabC dM_tallies_6 49 rfl (fun h => ?_) (fun n h1 h2 => ?_)
  · refine go_iconst dM_tallies_49 (inR_of _ rfl) ?_
    refine go_iret dM_tallies_50 rfl rfl ?_
    exact ⟨by unfold ztal; grind, rfl⟩
  · match n, h1 with
    | 0, h1 =>
      refine ⟨_, rfl, 40, rfl, ?_⟩
      refine go_iconst dM_tallies_40 (inR_of _ rfl) ?_
      refine go_iret dM_tallies_41 rfl rfl ?_
      exact ⟨by unfold ztal; grind, rfl⟩
    | 1, h1 =>
      refine ⟨_, rfl, 45, rfl, ?_⟩
      refine go_iconst dM_tallies_45 (inR_of _ rfl) ?_
      refine go_iret dM_tallies_46 rfl rfl ?_
      exact ⟨by unfold ztal; grind, rfl⟩
    | 2, h1 =>
      refine ⟨_, rfl, 42, rfl, ?_⟩
      refine go_bipush dM_tallies_42 (inR_of _ rfl) rfl ?_
      refine go_iret dM_tallies_44 rfl rfl ?_
      exact ⟨by unfold ztal; grind, rfl⟩
    | 3, h1 =>
      refine ⟨_, rfl, 45, rfl, ?_⟩
      refine go_iconst dM_tallies_45 (inR_of _ rfl) ?_
      refine go_iret dM_tallies_46 rfl rfl ?_
      exact ⟨by unfold ztal; grind, rfl⟩
    | 4, h1 =>
      refine ⟨_, rfl, 47, rfl, ?_⟩
      refine go_iconst dM_tallies_47 (inR_of _ rfl) ?_
      refine go_iret dM_tallies_48 rfl rfl ?_
      exact ⟨by unfold ztal; grind, rfl⟩
    | n + 5, h1 => omega
theorem qM_wanders (hM : MOD F r m) (i : Int) (h0 : 0 ≤ i) (h1 : i < 10) : CT g yM_wanders 2 0 0 [gR r, gI i] (N, F) (RV (zwan (zk (m 0) i 0)) (N, F)) := by
  have ho := hM.1
  refine CT.of' (L0 := [gR r, gI i, gU]) plM (Nat.le_of_ble_eq_true rfl) rfl ?_
  refine go_aload_n (i := 0) dM_wanders_0 rfl rfl trivial ?_
  refine go_iload_n (i := 1) dM_wanders_1 rfl rfl ?_
  refine go_iconst dM_wanders_2 (inR_of _ rfl) ?_
  refine go_VP dM_wanders_3 vkM79 (by assumption) (List.cons_ne_nil _ _) (qM_its hM (by omega) (by omega) (by omega) (by omega)) rfl (by omega) rfl (fun _ => Nat.le_of_ble_eq_true rfl) ?_
  refine go_is2 dM_wanders_6 (Nat.le_of_ble_eq_true rfl) trivial ?_
  refine go_iload_n (i := 2) dM_wanders_7 rfl rfl ?_
  refine go_iconst dM_wanders_8 (inR_of _ rfl) ?_
  refine go_ic_ne 16 dM_wanders_9 rfl (fun h9 => ?_) (fun h9 => ?_)
  · refine go_iload_n (i := 2) dM_wanders_16 rfl rfl ?_
    refine go_iconst dM_wanders_17 (inR_of _ rfl) ?_
    refine go_ic_ne 25 dM_wanders_18 rfl (fun h18 => ?_) (fun h18 => ?_)
    · refine go_iload_n (i := 2) dM_wanders_25 rfl rfl ?_
      refine go_iconst dM_wanders_26 (inR_of _ rfl) ?_
      refine go_ic_ne 34 dM_wanders_27 rfl (fun h27 => ?_) (fun h27 => ?_)
      · refine go_iconst dM_wanders_34 (inR_of _ rfl) ?_
        refine go_iret dM_wanders_35 rfl rfl ?_
        exact ⟨by unfold zwan; grind, rfl⟩
      · refine go_iconst dM_wanders_30 (inR_of _ rfl) ?_
        refine go_goto 35 dM_wanders_31 rfl ?_
        refine go_iret dM_wanders_35 rfl rfl ?_
        exact ⟨by unfold zwan; grind, rfl⟩
    · refine go_iconst dM_wanders_21 (inR_of _ rfl) ?_
      refine go_goto 35 dM_wanders_22 rfl ?_
      refine go_iret dM_wanders_35 rfl rfl ?_
      exact ⟨by unfold zwan; grind, rfl⟩
  · refine go_iconst dM_wanders_12 (inR_of _ rfl) ?_
    refine go_goto 35 dM_wanders_13 rfl ?_
    refine go_iret dM_wanders_35 rfl rfl ?_
    exact ⟨by unfold zwan; grind, rfl⟩
theorem zT.law {s : Nat → Int} (h : zT s) {w : Nat} (hw : w < 3) (h0 : 0 ≤ s (65 + w)) : ∃ t n : Nat, t < 14 ∧ s (65 + w) = (t : Int) ∧ s (82 + t) = (n : Int) ∧ n ≤ 96 ∧ zwf (fun k => s (110 + 100 * t + k)) n (if w = 0 then 4 else 2) := by
  obtain ⟨h1, h2, h3, h4⟩ := h
  have a := h2 w hw
  have b := h3 w hw h0
  have c := h4 (s (65 + w)).toNat (by omega)
  refine ⟨(s (65 + w)).toNat, (s (82 + (s (65 + w)).toNat)).toNat, by omega, by omega, by omega, by omega, ?_⟩
  have c4 := c.2.2.2
  rw [b] at c4
  have e : (if (w : Int) = 0 then 4 else 2) = (if w = 0 then 4 else 2) := by
    by_cases h : w = 0
    · rw [if_pos h, if_pos (by omega)]
    · rw [if_neg h, if_neg (by omega)]
  rw [e] at c4
  exact c4
theorem zlaw_eq {s : Nat → Int} {w t n : Nat} (nm : Nat → Int) (h1 : s (65 + w) = (t : Int)) (h2 : s (82 + t) = (n : Int)) : zlaw s w nm = zwork nm (fun k => s (110 + 100 * t + k)) n := by
  unfold zlaw
  rw [h1, Int.toNat_natCast, h2, Int.toNat_natCast]
theorem inR_zwork {nm code : Nat → Int} {n : Nat} (h1 : ∀ k, inR (nm k)) (h2 : ∀ k, inR (code k)) : ∀ v ∈ zrun nm code n, inR v := by
  induction n with
  | zero => intro v hv; cases hv
  | succ n ih =>
    intro v hv
    have hv : v ∈ zst nm (code n) (zrun nm code n) := hv
    have one : ∀ x : Int, x = 0 ∨ x = 1 → inR x := by intro x hx; unfold inR; omega
    unfold zst at hv
    by_cases c0 : 0 ≤ code n
    · rw [if_pos c0] at hv
      rcases List.mem_cons.mp hv with rfl | h
      · exact h2 n
      · exact ih v h
    · rw [if_neg c0] at hv
      by_cases c1 : -10 < code n
      · rw [if_pos c1] at hv
        rcases List.mem_cons.mp hv with rfl | h
        · exact h1 _
        · exact ih v h
      · rw [if_neg c1] at hv
        by_cases c2 : code n = -43
        · rw [if_pos c2] at hv
          cases hl : zrun nm code n with
          | nil => rw [hl] at hv; cases hv
          | cons a t =>
            rw [hl] at hv ih
            rcases List.mem_cons.mp hv with rfl | h
            · exact one _ (by split <;> simp)
            · exact ih v (List.mem_cons_of_mem _ h)
        · rw [if_neg c2] at hv
          cases hl : zrun nm code n with
          | nil => rw [hl] at hv; cases hv
          | cons a t =>
            cases t with
            | nil => rw [hl] at hv ih; exact ih v hv
            | cons a2 t =>
              rw [hl] at hv ih
              rcases List.mem_cons.mp hv with rfl | h
              · unfold ztwo
                have w := w32_in
                have := one 0 (by simp)
                have := one 1 (by simp)
                grind
              · exact ih v (List.mem_cons_of_mem _ (List.mem_cons_of_mem _ h))
end MSEE
