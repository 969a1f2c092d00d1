/-! ===== the model's readers and its own row ===== -/
def zk (s : Nat → Int) (i w : Int) : Int := s (14 + 5 * i + w).toNat
section MBASE
variable {g : GX} {N r : Nat} {F : Nat → GC} {m : Nat → Nat → Int}
theorem zin01 {v lo hi : Int} : zin v lo hi = 0 ∨ zin v lo hi = 1 := by unfold zin; grind
theorem qM_its (hM : MOD F r m) {i w : Int} (h0 : 0 ≤ 14 + 5 * i + w) (h1 : 14 + 5 * i + w < 1510) (h2 : -1000 ≤ w) (h3 : w ≤ 1000) : CT g yM_its 1 0 0 [gR r, gI i, gI w] (N, F) (RV (zk (m 0) i w) (N, F)) := by
  have ho := hM.1
  refine CT.of' (L0 := [gR r, gI i, gI w]) plM (Nat.le_of_ble_eq_true rfl) rfl ?_
  refine go_aload_n (i := 0) dM_its_0 rfl rfl trivial ?_
  refine go_getf dM_its_1 flM7 (by assumption) rfl ?_
  refine go_iload_n (i := 1) dM_its_4 rfl rfl ?_
  refine go_iload_n (i := 2) dM_its_5 rfl rfl ?_
  refine go_SP dM_its_6 vkM61 (ct_spot i w) rfl (by omega) rfl (fun _ => Nat.le_of_ble_eq_true rfl) ?_
  refine go_iald' (14 + 5 * i + w).toNat _ dM_its_9 hM.a0 (by (try simp (discharger := (unfold inR; omega)) only [w32_id]) <;> omega) (by omega) rfl ?_
  refine go_iret dM_its_10 rfl rfl ?_
  exact ⟨rfl, rfl⟩
theorem qM_isGoose (hM : MOD F r m) (v : Int) (h0 : 0 ≤ m 0 0) (h1 : m 0 0 ≤ 10) : CT g yM_isGoose 1 0 0 [gR r, gI v] (N, F) (RV (zin v 0 (m 0 0 - 1)) (N, F)) := by
  have ho := hM.1
  refine CT.of' (L0 := [gR r, gI v]) plM (Nat.le_of_ble_eq_true rfl) rfl ?_
  refine go_iload_n (i := 1) dM_isGoose_0 rfl rfl ?_
  refine go_i2l dM_isGoose_1 ?_
  refine go_lconst (x := 0) dM_isGoose_2 (inL_of2 _ rfl) rfl ?_
  refine go_aload_n (i := 0) dM_isGoose_3 rfl rfl trivial ?_
  refine go_getf dM_isGoose_4 flM7 (by assumption) rfl ?_
  refine go_iconst dM_isGoose_7 (inR_of _ rfl) ?_
  refine go_iald' 0 _ dM_isGoose_8 hM.a0 rfl (by omega) rfl ?_
  refine go_iconst dM_isGoose_9 (inR_of _ rfl) ?_
  refine go_isub dM_isGoose_10 ?_
  refine go_top (m 0 0 - 1) (by (try simp (discharger := (unfold inR; omega)) only [w32_id]) <;> omega) ?_
  refine go_i2l dM_isGoose_11 ?_
  refine go_SP dM_isGoose_12 vkM65 (ct_in v 0 (m 0 0 - 1)) rfl (by omega) rfl (fun _ => Nat.le_of_ble_eq_true rfl) ?_
  refine go_iret dM_isGoose_15 rfl (zb zin01) ?_
  exact ⟨rfl, rfl⟩
theorem qM_changed (hM : MOD F r m) {k x : Int} (h0 : 0 ≤ k) (h1 : k < 1510) : CT g yM_changed 0 0 0 [gR r, gI k, gI x] (N, F) (MP N r F m (gI (m 0 k.toNat)) (va_up (m 0) k.toNat x) []) := by
  have ho := hM.1
  refine CT.of' (L0 := [gR r, gI k, gI x, gU]) plM (Nat.le_of_ble_eq_true rfl) rfl ?_
  refine go_aload_n (i := 0) dM_changed_0 rfl rfl trivial ?_
  refine go_getf dM_changed_1 flM7 (by assumption) rfl ?_
  refine go_iload_n (i := 1) dM_changed_4 rfl rfl ?_
  refine go_iald' k.toNat _ dM_changed_5 hM.a0 (by omega) (by omega) rfl ?_
  refine go_is3 dM_changed_6 (Nat.le_of_ble_eq_true rfl) trivial ?_
  refine go_aload_n (i := 0) dM_changed_7 rfl rfl trivial ?_
  refine go_getf dM_changed_8 flM7 (by assumption) rfl ?_
  refine go_iload_n (i := 1) dM_changed_11 rfl rfl ?_
  refine go_iload_n (i := 2) dM_changed_12 rfl rfl ?_
  refine go_iast' k.toNat dM_changed_13 hM.a0 (by omega) (by omega) ?_
  refine go_iload_n (i := 3) dM_changed_14 rfl rfl ?_
  refine go_iret dM_changed_15 rfl rfl ?_
  exact ⟨rfl, _, _, rfl, hM.p0 _, FR.rf.put (by omega) (by omega), rfl, SB.rf.put (by simp)⟩
theorem qM_laysAside (hM : MOD F r m) : CT g yM_laysAside 0 0 0 [gR r] (N, F) (fun rr M' => rr = gU ∧ ∃ (F' : Nat → GC) (m' : Nat → Nat → Int), M' = (N, F') ∧ MOD F' r m' ∧ FR r F F' ∧ (∀ k, k < 64 → m' 2 k = m 0 k) ∧ SB [2] m m') := by
  have loop : ∀ (n i : Nat), i + n = 64 → ∀ (F1 : Nat → GC) (m1 : Nat → Nat → Int), MOD F1 r m1 → FR r F F1 → (∀ k, k < i → m1 2 k = m 0 k) → SB [2] m m1 → Go g yM_laysAside 0 0 0 2 [gR r, gI i] [] (N, F1) (fun rr M' => rr = gU ∧ ∃ (F' : Nat → GC) (m' : Nat → Nat → Int), M' = (N, F') ∧ MOD F' r m' ∧ FR r F F' ∧ (∀ k, k < 64 → m' 2 k = m 0 k) ∧ SB [2] m m') := by
    intro n
    induction n with
    | zero =>
      intro i hi F1 m1 hM1 hF1 h1 h2
      refine go_iload_n (i := 1) dM_laysAside_2 rfl rfl ?_
      refine go_bipush dM_laysAside_3 (inR_of _ rfl) rfl ?_
      refine go_ic_ge 26 dM_laysAside_5 rfl (fun h5 => ?_) (fun h5 => absurd (by omega) h5)
      refine go_vret dM_laysAside_26 rfl ?_
      exact ⟨rfl, F1, m1, rfl, hM1, hF1, fun k hk => h1 k (by omega), h2⟩
    | succ n ih =>
      intro i hi F1 m1 hM1 hF1 h1 h2
      have ho := hM1.1
      refine go_iload_n (i := 1) dM_laysAside_2 rfl rfl ?_
      refine go_bipush dM_laysAside_3 (inR_of _ rfl) rfl ?_
      refine go_ic_ge 26 dM_laysAside_5 rfl (fun h5 => absurd h5 (by omega)) (fun h5 => ?_)
      refine go_aload_n (i := 0) dM_laysAside_8 rfl rfl trivial ?_
      refine go_getf dM_laysAside_9 flM16 (by assumption) rfl ?_
      refine go_iload_n (i := 1) dM_laysAside_12 rfl rfl ?_
      refine go_aload_n (i := 0) dM_laysAside_13 rfl rfl trivial ?_
      refine go_getf dM_laysAside_14 flM7 (by assumption) rfl ?_
      refine go_iload_n (i := 1) dM_laysAside_17 rfl rfl ?_
      refine go_iald' i _ dM_laysAside_18 hM1.a0 rfl (by omega) rfl ?_
      refine go_iast' i dM_laysAside_19 hM1.a2 rfl (by omega) ?_
      refine go_inc1 (((i + 1 : Nat) : Int)) dM_laysAside_20 (Nat.le_of_ble_eq_true rfl) trivial (by (try simp (discharger := (unfold inR; omega)) only [w32_id]) <;> omega) ?_
      refine go_goto 2 dM_laysAside_23 rfl ?_
      refine ih (i + 1) (by omega) _ _ (hM1.p2 _) (hF1.put (by omega) (by omega)) (fun k hk => ?_) (h2.put (by simp))
      rw [va_up_self]
      by_cases e : k = i
      · subst e; rw [va_up_self, h2 0 (by simp)]
      · rw [va_up_ne _ _ e]; exact h1 k (by omega)
  refine CT.of' (L0 := [gR r, gU]) plM (Nat.le_of_ble_eq_true rfl) rfl ?_
  refine go_iconst dM_laysAside_0 (inR_of _ rfl) ?_
  refine go_is1 dM_laysAside_1 (Nat.le_of_ble_eq_true rfl) trivial ?_
  exact loop 64 0 rfl F m hM FR.rf (fun k hk => absurd hk (by omega)) SB.rf
theorem qM_takesBack (hM : MOD F r m) (v : Int) : CT g yM_takesBack 0 0 0 [gR r, gI v] (N, F) (MP N r F m (gI v) (fun k => if k < 64 then m 2 k else m 0 k) []) := by
  have loop : ∀ (n i : Nat), i + n = 64 → ∀ (F1 : Nat → GC) (m1 : Nat → Nat → Int), MOD F1 r m1 → FR r F F1 → (∀ k, m1 0 k = if k < i then m 2 k else m 0 k) → SB [0] m m1 → Go g yM_takesBack 0 0 0 2 [gR r, gI v, gI i] [] (N, F1) (MP N r F m (gI v) (fun k => if k < 64 then m 2 k else m 0 k) []) := by
    intro n
    induction n with
    | zero =>
      intro i hi F1 m1 hM1 hF1 h1 h2
      refine go_iload_n (i := 2) dM_takesBack_2 rfl rfl ?_
      refine go_bipush dM_takesBack_3 (inR_of _ rfl) rfl ?_
      refine go_ic_ge 26 dM_takesBack_5 rfl (fun h5 => ?_) (fun h5 => absurd (by omega) h5)
      refine go_iload_n (i := 1) dM_takesBack_26 rfl rfl ?_
      refine go_iret dM_takesBack_27 rfl rfl ?_
      have : i = 64 := by omega
      subst this
      exact ⟨rfl, F1, m1, rfl, hM1, hF1, funext h1, h2⟩
    | succ n ih =>
      intro i hi F1 m1 hM1 hF1 h1 h2
      have ho := hM1.1
      refine go_iload_n (i := 2) dM_takesBack_2 rfl rfl ?_
      refine go_bipush dM_takesBack_3 (inR_of _ rfl) rfl ?_
      refine go_ic_ge 26 dM_takesBack_5 rfl (fun h5 => absurd h5 (by omega)) (fun h5 => ?_)
      refine go_aload_n (i := 0) dM_takesBack_8 rfl rfl trivial ?_
      refine go_getf dM_takesBack_9 flM7 (by assumption) rfl ?_
      refine go_iload_n (i := 2) dM_takesBack_12 rfl rfl ?_
      refine go_aload_n (i := 0) dM_takesBack_13 rfl rfl trivial ?_
      refine go_getf dM_takesBack_14 flM16 (by assumption) rfl ?_
      refine go_iload_n (i := 2) dM_takesBack_17 rfl rfl ?_
      refine go_iald' i _ dM_takesBack_18 hM1.a2 rfl (by omega) rfl ?_
      refine go_iast' i dM_takesBack_19 hM1.a0 rfl (by omega) ?_
      refine go_inc2 (((i + 1 : Nat) : Int)) dM_takesBack_20 (Nat.le_of_ble_eq_true rfl) trivial (by (try simp (discharger := (unfold inR; omega)) only [w32_id]) <;> omega) ?_
      refine go_goto 2 dM_takesBack_23 rfl ?_
      refine ih (i + 1) (by omega) _ _ (hM1.p0 _) (hF1.put (by omega) (by omega)) (fun k => ?_) (h2.put (by simp))
      rw [va_up_self]
      by_cases e : k = i
      · subst e; rw [va_up_self, if_pos (by omega), h2 2 (by simp)]
      · rw [va_up_ne _ _ e, h1 k]
        grind
  refine CT.of' (L0 := [gR r, gI v, gU]) plM (Nat.le_of_ble_eq_true rfl) rfl ?_
  refine go_iconst dM_takesBack_0 (inR_of _ rfl) ?_
  refine go_is2 dM_takesBack_1 (Nat.le_of_ble_eq_true rfl) trivial ?_
  exact loop 64 0 rfl F m hM FR.rf (fun k => by simp) SB.rf
end MBASE
