/-! ===== the law comes to its end with true ===== -/
theorem zW_z0 : zW z0 := by
  refine ⟨by decide, by decide, ⟨by decide, by decide, by unfold inR; decide⟩, fun y hy => ?_, fun i hi => absurd (show (i : Int) < 0 from hi) (by omega)⟩
  have e : z0 (8 + y) = 2 := by unfold z0; rw [if_neg (by omega), if_neg (by omega), if_pos (by omega)]
  rw [e]; omega
theorem zT_z0 : zT z0 := by
  have e : ∀ w : Nat, w < 3 → z0 (65 + w) = -1 := fun w hw => by unfold z0; rw [if_neg (by omega), if_neg (by omega), if_neg (by omega), if_pos (by omega)]
  have e64 : z0 64 = 0 := rfl
  refine ⟨by decide, fun w hw => ?_, fun w hw h => ?_, fun t ht => absurd (show (t : Int) < 0 from ht) (by omega)⟩
  · rw [e w hw, e64]; omega
  · rw [e w hw] at h; omega
theorem JV_m0 : JV m0 := by
  have e9 : ∀ k : Nat, k < 9 → m0 9 k = -1 := fun k hk => by show m9 k = -1; unfold m9; rw [if_pos hk]
  have k0 : ∀ P : Prop, ¬ m0 17 6 = 0 → P := fun P h => absurd rfl h
  refine ⟨⟨⟨zW_z0, zT_z0, by show z0 6 ≤ 9999; decide⟩, k0 _, fun k hk => ?_, ⟨by show (0 : Int) ≤ 0; omega, by show (0 : Int) ≤ 96; omega, fun k hk => absurd (show (k : Int) < 0 from hk) (by omega)⟩, by show (0 : Int) ≤ 0; omega, by show (0 : Int) ≤ 60; omega⟩, fun t ht => absurd (show (t : Int) < 0 from ht) (by omega), k0 _, fun k hk => ⟨by show (0 : Int) ≤ 0 ∧ (0 : Int) ≤ 5; omega, fun q => absurd (show (0 : Int) = 2 from q) (by omega)⟩⟩
  rw [e9 k hk]
  exact ⟨by omega, by show (0 : Int) ≤ 0 ∧ (0 : Int) ≤ 24; omega⟩
theorem lw_go {g : GX} {nm : String} (hL : xL g ≤ 3072) (hX : ∀ j, inR (xX g j)) : Go g (ylw nm) 102 1700 120000 0 [gS 30, gU, gU, gU] [] (0, fun _ => gBad) (fun rr _ => rr = gI 1) := by
  refine go_new (fs := [gN, gN, gN, gN, gN, gN, gN, gN, gN, gI 0, gI 0]) dlaw_0 cls_0 kllaw7 ki0 kj0 (fun g j hj => by match j, hj with | 0, _ => rfl | 1, _ => rfl | 2, _ => rfl | 3, _ => rfl | 4, _ => rfl | 5, _ => rfl | 6, _ => rfl | 7, _ => rfl | 8, _ => rfl | 9, _ => rfl | 10, _ => rfl) (List.cons_ne_nil _ _) (fun v hv => by simp at hv; rcases hv with rfl | rfl <;> first | exact inR_0 | trivial) (by omega) (by omega) ?_
  refine go_dup dlaw_3 trivial ?_
  refine go_callI dlaw_4 vklaw9.1 vklaw9.2.1 vklaw9.2.2.1 vklaw9.2.2.2.1 vklaw9.2.2.2.2 (qA_init (va_up_self _ _ _)) rfl (by omega) (by omega) (by omega) rfl (fun _ => Nat.le_of_ble_eq_true rfl) ?_
  rintro _ _ ⟨rfl, F2, rfl, hC⟩ -
  dsimp only [rp]
  refine go_free ?_
  intro hfree
  refine go_as1 dlaw_7 (Nat.le_of_ble_eq_true rfl) trivial trivial ?_
  refine go_new (fs := [gN, gN, gN, gN, gN, gN, gI 0, gI 0, gN, gN, gN, gI 0, gI 0, gI 0, gI 0, gI 0, gI 0, gI 0, gI 0, gI 0, gI 0, gN, gN, gN, gN, gN, gN, gN, gN]) dlaw_8 cls_7 kllaw10 ki7 kj7 (fun g j hj => by match j, hj with | 0, _ => rfl | 1, _ => rfl | 2, _ => rfl | 3, _ => rfl | 4, _ => rfl | 5, _ => rfl | 6, _ => rfl | 7, _ => rfl | 8, _ => rfl | 9, _ => rfl | 10, _ => rfl | 11, _ => rfl | 12, _ => rfl | 13, _ => rfl | 14, _ => rfl | 15, _ => rfl | 16, _ => rfl | 17, _ => rfl | 18, _ => rfl | 19, _ => rfl | 20, _ => rfl | 21, _ => rfl | 22, _ => rfl | 23, _ => rfl | 24, _ => rfl | 25, _ => rfl | 26, _ => rfl | 27, _ => rfl | 28, _ => rfl | k + 29, hj => exact absurd hj (by simp)) (List.cons_ne_nil _ _) (fun v hv => by simp at hv; rcases hv with rfl | rfl | rfl | rfl | rfl <;> first | exact inR_0 | trivial) (by omega) (by omega) ?_
  refine go_dup dlaw_11 trivial ?_
  refine go_callI dlaw_12 vklaw12.1 vklaw12.2.1 vklaw12.2.2.1 vklaw12.2.2.2.1 vklaw12.2.2.2.2 (qM_init (r := 85) (va_up_self _ _ _)) rfl (by omega) (by omega) (by omega) rfl (fun _ => Nat.le_of_ble_eq_true rfl) ?_
  rintro _ _ ⟨rfl, F3, rfl, hM, hF3⟩ -
  dsimp only [rp]
  refine go_as2 dlaw_15 (Nat.le_of_ble_eq_true rfl) trivial trivial ?_
  refine go_iconst dlaw_16 (inR_of _ rfl) ?_
  refine go_is3 dlaw_17 (Nat.le_of_ble_eq_true rfl) trivial ?_
  have lo : ∀ k : Nat, k < 85 → F3 k = F2 k := fun k hk => by rw [hF3 k hk, va_up_ne _ _ (by omega)]
  have hC3 : COMP F3 m0 := hC.grow (fun k hk => by
    by_cases q : k < 85
    · exact lo k q
    · exact absurd (hfree k (by omega)) hk) lo
  exact go_room (by omega) (by omega) (lw_loop hL hX (by omega) 512 0 103 F3 m0 (by omega) (by omega) ⟨hC3, hM, JV_m0, by omega, by omega⟩)
