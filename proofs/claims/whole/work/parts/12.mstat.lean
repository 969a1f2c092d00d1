/-! ===== the model's functions of numbers alone ===== -/
def zin (v lo hi : Int) : Int := if lo ≤ v ∧ v ≤ hi then 1 else 0
def zheld (v lo hi : Int) : Int := if v < lo then lo else if hi < v then hi else v
def zunder (k o : Int) : Int := if o = 0 ∨ k = o ∨ (k = 3 ∧ o = 1) ∨ (k = 4 ∧ o = 2) then 1 else 0
def ztruth (x : Int) : Int := if x = 0 then 0 else 1
def zworth (k s a w : Int) : Int := if k = 1 then w32 (s + w) else if k = 3 then w32 ((w32 (s + w)).tdiv 2) else if k = 2 then w32 (99 - a) else if k = 4 then w32 (w32 (99 - a) + 5) else if k = 5 then w else s
section MSTAT
variable {g : GX} {N : Nat} {F : Nat → GC}
theorem zb {x : Int} (h : x = 0 ∨ x = 1) : narrow .boolean (.int (Int32.ofInt x)) = .int (Int32.ofInt x) := by rcases h with rfl | rfl <;> rfl
theorem ct_in (v lo hi : Int) : CT g yM_in 0 0 0 [gL v, gL lo, gL hi] (N, F) (RV (zin v lo hi) (N, F)) := by
  refine CT.of' plM (Nat.le_of_ble_eq_true rfl) rfl ?_
  refine go_lload_n (i := 0) dM_in_0 rfl rfl ?_
  refine go_lload_n (i := 2) dM_in_1 rfl rfl ?_
  refine go_lcmp dM_in_2 ?_
  refine go_if_lt 17 dM_in_3 rfl (fun h3 => ?_) (fun h3 => ?_)
  · refine go_iconst dM_in_17 (inR_of _ rfl) ?_
    refine go_iret dM_in_18 rfl (zb (by simp)) ?_
    exact ⟨by unfold iCmp at h3; unfold zin; grind, rfl⟩
  · refine go_lload_n (i := 0) dM_in_6 rfl rfl ?_
    refine go_lload dM_in_7 rfl ?_
    refine go_lcmp dM_in_9 ?_
    refine go_if_gt 17 dM_in_10 rfl (fun h10 => ?_) (fun h10 => ?_)
    · refine go_iconst dM_in_17 (inR_of _ rfl) ?_
      refine go_iret dM_in_18 rfl (zb (by simp)) ?_
      exact ⟨by unfold iCmp at h3 h10; unfold zin; grind, rfl⟩
    · refine go_iconst dM_in_13 (inR_of _ rfl) ?_
      refine go_goto 18 dM_in_14 rfl ?_
      refine go_iret dM_in_18 rfl (zb (by simp)) ?_
      exact ⟨by unfold iCmp at h3 h10; unfold zin; grind, rfl⟩
theorem ct_held (v lo hi : Int) : CT g yM_held 0 0 0 [gI v, gI lo, gI hi] (N, F) (RV (zheld v lo hi) (N, F)) := by
  refine CT.of' plM (Nat.le_of_ble_eq_true rfl) rfl ?_
  refine go_iload_n (i := 0) dM_held_0 rfl rfl ?_
  refine go_iload_n (i := 1) dM_held_1 rfl rfl ?_
  refine go_ic_ge 9 dM_held_2 rfl (fun h2 => ?_) (fun h2 => ?_)
  · refine go_iload_n (i := 0) dM_held_9 rfl rfl ?_
    refine go_iload_n (i := 2) dM_held_10 rfl rfl ?_
    refine go_ic_le 18 dM_held_11 rfl (fun h11 => ?_) (fun h11 => ?_)
    · refine go_iload_n (i := 0) dM_held_18 rfl rfl ?_
      refine go_iret dM_held_19 rfl rfl ?_
      exact ⟨by unfold zheld; grind, rfl⟩
    · refine go_iload_n (i := 2) dM_held_14 rfl rfl ?_
      refine go_goto 19 dM_held_15 rfl ?_
      refine go_iret dM_held_19 rfl rfl ?_
      exact ⟨by unfold zheld; grind, rfl⟩
  · refine go_iload_n (i := 1) dM_held_5 rfl rfl ?_
    refine go_goto 19 dM_held_6 rfl ?_
    refine go_iret dM_held_19 rfl rfl ?_
    exact ⟨by unfold zheld; grind, rfl⟩
theorem ct_spot (a b : Int) : CT g yM_spot 0 0 0 [gI a, gI b] (N, F) (RV (w32 (w32 (14 + w32 (5 * a)) + b)) (N, F)) := by
  refine CT.of' plM (Nat.le_of_ble_eq_true rfl) rfl ?_
  refine go_bipush dM_spot_0 (inR_of _ rfl) rfl ?_
  refine go_iconst dM_spot_2 (inR_of _ rfl) ?_
  refine go_iload_n (i := 0) dM_spot_3 rfl rfl ?_
  refine go_imul dM_spot_4 ?_
  refine go_iadd dM_spot_5 ?_
  refine go_iload_n (i := 1) dM_spot_6 rfl rfl ?_
  refine go_iadd dM_spot_7 ?_
  refine go_iret dM_spot_8 rfl rfl ?_
  exact ⟨rfl, rfl⟩
theorem ct_isKind (v : Int) : CT g yM_isKind 1 0 0 [gI v] (N, F) (RV (zin v 0 5) (N, F)) := by
  refine CT.of' plM (Nat.le_of_ble_eq_true rfl) rfl ?_
  refine go_iload_n (i := 0) dM_isKind_0 rfl rfl ?_
  refine go_i2l dM_isKind_1 ?_
  refine go_lconst (x := 0) dM_isKind_2 (inL_of2 _ rfl) rfl ?_
  refine go_ldc2 dM_isKind_3 kcM69 (inL_of2 _ rfl) ?_
  refine go_SP dM_isKind_6 vkM65 (ct_in v 0 5) rfl (by omega) rfl (fun _ => Nat.le_of_ble_eq_true rfl) ?_
  refine go_iret dM_isKind_9 rfl (zb (by unfold zin; grind)) ?_
  exact ⟨rfl, rfl⟩
theorem ct_isUnder (k o : Int) : CT g yM_isUnder 0 0 0 [gI k, gI o] (N, F) (RV (zunder k o) (N, F)) := by
  refine CT.of' (L0 := [gI k, gI o]) plM (Nat.le_of_ble_eq_true rfl) rfl ?_
  have t1 : zunder k o = 1 → Go g yM_isUnder 0 0 0 29 [gI k, gI o] [] (N, F) (RV (zunder k o) (N, F)) := by
    intro e
    refine go_iconst dM_isUnder_29 (inR_of _ rfl) ?_
    refine go_goto 34 dM_isUnder_30 rfl ?_
    refine go_iret dM_isUnder_34 rfl (zb (by simp)) ?_
    exact ⟨by rw [e], rfl⟩
  have t0 : zunder k o = 0 → Go g yM_isUnder 0 0 0 33 [gI k, gI o] [] (N, F) (RV (zunder k o) (N, F)) := by
    intro e
    refine go_iconst dM_isUnder_33 (inR_of _ rfl) ?_
    refine go_iret dM_isUnder_34 rfl (zb (by simp)) ?_
    exact ⟨by rw [e], rfl⟩
  have t2 : ¬ o = 0 → ¬ k = o → ¬ (k = 3 ∧ o = 1) → Go g yM_isUnder 0 0 0 19 [gI k, gI o] [] (N, F) (RV (zunder k o) (N, F)) := by
    intro e1 e2 e3
    refine go_iload_n (i := 0) dM_isUnder_19 rfl rfl ?_
    refine go_iconst dM_isUnder_20 (inR_of _ rfl) ?_
    refine go_ic_ne 33 dM_isUnder_21 rfl (fun h21 => ?_) (fun h21 => ?_)
    · exact t0 (by unfold zunder; grind)
    · refine go_iload_n (i := 1) dM_isUnder_24 rfl rfl ?_
      refine go_iconst dM_isUnder_25 (inR_of _ rfl) ?_
      refine go_ic_ne 33 dM_isUnder_26 rfl (fun h26 => ?_) (fun h26 => ?_)
      · exact t0 (by unfold zunder; grind)
      · exact t1 (by unfold zunder; grind)
  show Go g yM_isUnder 0 0 0 0 [gI k, gI o] [] (N, F) (RV (zunder k o) (N, F))
  refine go_iload_n (i := 1) dM_isUnder_0 rfl rfl ?_
  refine go_if_eq 29 dM_isUnder_1 rfl (fun h1 => ?_) (fun h1 => ?_)
  · exact t1 (by unfold zunder; grind)
  · refine go_iload_n (i := 0) dM_isUnder_4 rfl rfl ?_
    refine go_iload_n (i := 1) dM_isUnder_5 rfl rfl ?_
    refine go_ic_eq 29 dM_isUnder_6 rfl (fun h6 => ?_) (fun h6 => ?_)
    · exact t1 (by unfold zunder; grind)
    · refine go_iload_n (i := 0) dM_isUnder_9 rfl rfl ?_
      refine go_iconst dM_isUnder_10 (inR_of _ rfl) ?_
      refine go_ic_ne 19 dM_isUnder_11 rfl (fun h11 => ?_) (fun h11 => ?_)
      · exact t2 (by grind) (by grind) (by grind)
      · refine go_iload_n (i := 1) dM_isUnder_14 rfl rfl ?_
        refine go_iconst dM_isUnder_15 (inR_of _ rfl) ?_
        refine go_ic_eq 29 dM_isUnder_16 rfl (fun h16 => ?_) (fun h16 => ?_)
        · exact t1 (by unfold zunder; grind)
        · exact t2 (by grind) (by grind) (by grind)
theorem ct_isYard (v : Int) : CT g yM_isYard 1 0 0 [gI v] (N, F) (RV (zin v 0 5) (N, F)) := by
  refine CT.of' (L0 := [gI v]) plM (Nat.le_of_ble_eq_true rfl) rfl ?_
  refine go_iload_n (i := 0) dM_isYard_0 rfl rfl ?_
  refine go_i2l dM_isYard_1 ?_
  refine go_lconst (x := 0) dM_isYard_2 (inL_of2 _ rfl) rfl ?_
  refine go_ldc2 dM_isYard_3 kcM69 (inL_of2 _ rfl) ?_
  refine go_SP dM_isYard_6 vkM65 (ct_in v 0 5) rfl (by omega) rfl (fun _ => Nat.le_of_ble_eq_true rfl) ?_
  refine go_iret dM_isYard_9 rfl (zb (by unfold zin; grind)) ?_
  exact ⟨rfl, rfl⟩
theorem ct_truth (v : Int) : CT g yM_truth 0 0 0 [gI v] (N, F) (RV (ztruth v) (N, F)) := by
  refine CT.of' (L0 := [gI v]) plM (Nat.le_of_ble_eq_true rfl) rfl ?_
  refine go_iload_n (i := 0) dM_truth_0 rfl rfl ?_
  refine go_if_eq 8 dM_truth_1 rfl (fun h1 => ?_) (fun h1 => ?_)
  · refine go_iconst dM_truth_8 (inR_of _ rfl) ?_
    refine go_iret dM_truth_9 rfl rfl ?_
    exact ⟨by unfold ztruth; grind, rfl⟩
  · refine go_iconst dM_truth_4 (inR_of _ rfl) ?_
    refine go_goto 9 dM_truth_5 rfl ?_
    refine go_iret dM_truth_9 rfl rfl ?_
    exact ⟨by unfold ztruth; grind, rfl⟩
theorem tabC {y : GY} {d bc bs pc : Nat} {L st : List GV} {M : GM} {Q : GV → GM → Prop} {a dflt lo hi : Int} {offs : Array Int} {len : Nat} (hd : decode y.2.1 pc = .ok (.tableswitch dflt lo hi offs, len)) (t0 : Nat) (ht : (pc : Int) + dflt = (t0 : Int)) (k0 : (a < lo ∨ hi < a) → Go g y d bc bs t0 L st M Q) (k1 : ∀ (n : Nat), a = lo + n → a ≤ hi → ∃ off, offs[n]? = some off ∧ ∃ tgt : Nat, (pc : Int) + off = (tgt : Int) ∧ Go g y d bc bs tgt L st M Q) : Go g y d bc bs pc L (gI a :: st) M Q := by
  by_cases h : a < lo ∨ hi < a
  · exact go_tabOut t0 hd h ht (k0 h)
  · obtain ⟨off, h1, tgt, h2, h3⟩ := k1 (a - lo).toNat (by omega) (by omega)
    exact go_tabIn tgt hd (by omega) (by omega) h1 h2 h3
theorem ct_worth (k s a w : Int) : CT g yM_worth 0 0 0 [gI k, gI s, gI a, gI w] (N, F) (RV (zworth k s a w) (N, F)) := by
  refine CT.of' (L0 := [gI k, gI s, gI a, gI w]) plM (Nat.le_of_ble_eq_true rfl) rfl ?_
  refine go_iload_n (i := 0) dM_worth_0 rfl rfl ?_
  refine tabC dM_worth_1 60 rfl (fun h => ?_) (fun n h1 h2 => ?_)
  · refine go_iload_n (i := 1) dM_worth_60 rfl rfl ?_
    refine go_iret dM_worth_61 rfl rfl ?_
    exact ⟨by unfold zworth; grind, rfl⟩
  · match n, h1 with
    | 0, h1 =>
      refine ⟨_, rfl, 36, rfl, ?_⟩
      refine go_iload_n (i := 1) dM_worth_36 rfl rfl ?_
      refine go_iload_n (i := 3) dM_worth_37 rfl rfl ?_
      refine go_iadd dM_worth_38 ?_
      refine go_iret dM_worth_39 rfl rfl ?_
      exact ⟨by unfold zworth; grind, rfl⟩
    | 1, h1 =>
      refine ⟨_, rfl, 46, rfl, ?_⟩
      refine go_bipush dM_worth_46 (inR_of _ rfl) rfl ?_
      refine go_iload_n (i := 2) dM_worth_48 rfl rfl ?_
      refine go_isub dM_worth_49 ?_
      refine go_iret dM_worth_50 rfl rfl ?_
      exact ⟨by unfold zworth; grind, rfl⟩
    | 2, h1 =>
      refine ⟨_, rfl, 40, rfl, ?_⟩
      refine go_iload_n (i := 1) dM_worth_40 rfl rfl ?_
      refine go_iload_n (i := 3) dM_worth_41 rfl rfl ?_
      refine go_iadd dM_worth_42 ?_
      refine go_iconst dM_worth_43 (inR_of _ rfl) ?_
      refine go_idiv dM_worth_44 (by omega) ?_
      refine go_iret dM_worth_45 rfl rfl ?_
      exact ⟨by unfold zworth; grind, rfl⟩
    | 3, h1 =>
      refine ⟨_, rfl, 51, rfl, ?_⟩
      refine go_bipush dM_worth_51 (inR_of _ rfl) rfl ?_
      refine go_iload_n (i := 2) dM_worth_53 rfl rfl ?_
      refine go_isub dM_worth_54 ?_
      refine go_iconst dM_worth_55 (inR_of _ rfl) ?_
      refine go_iadd dM_worth_56 ?_
      refine go_iret dM_worth_57 rfl rfl ?_
      exact ⟨by unfold zworth; grind, rfl⟩
    | 4, h1 =>
      refine ⟨_, rfl, 58, rfl, ?_⟩
      refine go_iload_n (i := 3) dM_worth_58 rfl rfl ?_
      refine go_iret dM_worth_59 rfl rfl ?_
      exact ⟨by unfold zworth; grind, rfl⟩
    | n + 5, h1 => omega
end MSTAT
