/-! ===== the model's parser: words and signs ===== -/
section MTOK
variable {g : GX} {N r : Nat} {F F1 : Nat → GC} {m m1 : Nat → Nat → Int}
def zBT (T : Nat → Int) (n k : Nat) : Int := if k < n then T k else -1
theorem zBT_ok {T : Nat → Int} {n : Nat} (hn : n ≤ 96) (h : ∀ k : Nat, k < n → 0 ≤ T k ∧ T k ≤ 255) : BYT (zBT T n) n := by
  refine ⟨hn, fun k hk => ?_, fun k hk => ?_⟩
  · unfold zBT; rw [if_pos hk]; exact h k hk
  · unfold zBT; rw [if_neg (by omega)]
theorem qM_byteAt (hM : MOD F r m) {T : Nat → Int} {n : Nat} (h7 : m 7 = T) (h11 : m 17 11 = (n : Int)) (hn : n ≤ 96) (k : Nat) : CT g yM_byteAt 0 0 0 [gR r, gI (k : Int)] (N, F) (RV (zBT T n k) (N, F)) := by
  have ho := hM.1
  refine CT.of' (L0 := [gR r, gI (k : Int)]) plM (Nat.le_of_ble_eq_true rfl) rfl ?_
  refine go_iload_n (i := 1) dM_byteAt_0 rfl rfl ?_
  refine go_aload_n (i := 0) dM_byteAt_1 rfl rfl trivial ?_
  refine go_getf dM_byteAt_2 flM227 (by assumption) rfl ?_
  refine go_ic_ge 17 dM_byteAt_5 rfl (fun h5 => ?_) (fun h5 => ?_)
  · refine go_iconst dM_byteAt_17 (inR_of _ rfl) ?_
    refine go_iret dM_byteAt_18 rfl rfl ?_
    exact ⟨by unfold zBT; rw [if_neg (by omega)], rfl⟩
  · refine go_aload_n (i := 0) dM_byteAt_8 rfl rfl trivial ?_
    refine go_getf dM_byteAt_9 flM31 (by assumption) rfl ?_
    refine go_iload_n (i := 1) dM_byteAt_12 rfl rfl ?_
    refine go_iald' k _ dM_byteAt_13 hM.a7 rfl (by omega) rfl ?_
    refine go_goto 18 dM_byteAt_14 rfl ?_
    refine go_iret dM_byteAt_18 rfl rfl ?_
    exact ⟨by unfold zBT; rw [if_pos (by omega), h7], rfl⟩
theorem ct_isLetter (v : Int) : CT g yM_isLetter 1 0 0 [gI v] (N, F) (RV (zin v 97 122) (N, F)) := by
  have h := zin01 (v := v) (lo := 97) (hi := 122)
  refine CT.of' (L0 := [gI v]) plM (Nat.le_of_ble_eq_true rfl) rfl ?_
  refine go_iload_n (i := 0) dM_isLetter_0 rfl rfl ?_
  refine go_i2l dM_isLetter_1 ?_
  refine go_ldc2 dM_isLetter_2 kcM219 (inL_of2 _ rfl) ?_
  refine go_ldc2 dM_isLetter_5 kcM221 (inL_of2 _ rfl) ?_
  refine go_SP dM_isLetter_8 vkM65 (ct_in _ _ _) rfl (by omega) rfl (fun _ => Nat.le_of_ble_eq_true rfl) ?_
  refine go_iret dM_isLetter_11 rfl (zb (by omega)) ?_
  exact ⟨rfl, rfl⟩
theorem ct_isDigit (v : Int) : CT g yM_isDigit 1 0 0 [gI v] (N, F) (RV (zin v 48 57) (N, F)) := by
  have h := zin01 (v := v) (lo := 48) (hi := 57)
  refine CT.of' (L0 := [gI v]) plM (Nat.le_of_ble_eq_true rfl) rfl ?_
  refine go_iload_n (i := 0) dM_isDigit_0 rfl rfl ?_
  refine go_i2l dM_isDigit_1 ?_
  refine go_ldc2 dM_isDigit_2 kcM223 (inL_of2 _ rfl) ?_
  refine go_ldc2 dM_isDigit_5 kcM225 (inL_of2 _ rfl) ?_
  refine go_SP dM_isDigit_8 vkM65 (ct_in _ _ _) rfl (by omega) rfl (fun _ => Nat.le_of_ble_eq_true rfl) ?_
  refine go_iret dM_isDigit_11 rfl (zb (by omega)) ?_
  exact ⟨rfl, rfl⟩
theorem zs0_l {c : Int} : zs0 c = 1 ↔ zin c 97 122 ≠ 0 := by unfold zs0 zin; grind
theorem zs0_d {c : Int} : zs0 c = 2 ↔ zin c 48 57 ≠ 0 := by unfold zs0 zin; grind
/-- only the places of the word looked at may be otherwise -/
def KN (r : Nat) (F : Nat → GC) (m : Nat → Nat → Int) (F1 : Nat → GC) (m1 : Nat → Nat → Int) : Prop := MOD F1 r m1 ∧ FR r F F1 ∧ SB [17] m m1 ∧ ∀ j : Nat, j ≠ 12 → j ≠ 13 → j ≠ 14 → m1 17 j = m 17 j
theorem KN.put {F2 : Nat → GC} {m2 : Nat → Nat → Int} {j : Nat} {x : Int} (h : KN r F m F1 m1) (hM : MOD F2 r m2) (hF : FR r F1 F2) (e : m2 = va_up m1 17 (va_up (m1 17) j x)) (hj : j = 12 ∨ j = 13 ∨ j = 14) : KN r F m F2 m2 := by
  refine ⟨hM, h.2.1.tr hF, by rw [e]; exact h.2.2.1.put (by simp), fun i h1 h2 h3 => ?_⟩
  rw [e]
  show va_up (m1 17) j x i = _
  rw [va_up_ne _ _ (by omega)]
  exact h.2.2.2 i h1 h2 h3
def NX (N r : Nat) (F : Nat → GC) (m : Nat → Nat → Int) (B : Nat → Int) (n to so : Nat) : GV → GM → Prop := fun rr M' => rr = gU ∧ ∃ (F2 : Nat → GC) (m2 : Nat → Nat → Int), M' = (N, F2) ∧ KN r F m F2 m2 ∧ m2 17 12 = (zfr B n to : Nat) ∧ m2 17 13 = (zto B n (zfr B n to) : Nat) ∧ m2 17 14 = (zso B to so (zfr B n to) : Nat)
theorem qM_next (hM : MOD F r m) {T : Nat → Int} {n to so : Nat} (h7 : m 7 = T) (h11 : m 17 11 = (n : Int)) (hB : BYT (zBT T n) n) (hto : m 17 13 = (to : Int)) (htn : to ≤ n) (hso : m 17 14 = (so : Int)) : CT g yM_next 2 0 0 [gR r] (N, F) (NX N r F m (zBT T n) n to so) := by
  have hn := hB.1
  have p7 : ∀ {F1 : Nat → GC} {m1 : Nat → Nat → Int}, KN r F m F1 m1 → m1 7 = T := fun h => (h.2.2.1 7 (by decide)).trans h7
  have p11 : ∀ {F1 : Nat → GC} {m1 : Nat → Nat → Int}, KN r F m F1 m1 → m1 17 11 = (n : Int) := fun h => (h.2.2.2 11 (by omega) (by omega) (by omega)).trans h11
  generalize hBB : zBT T n = B at *
  have qb : ∀ {F1 : Nat → GC} {m1 : Nat → Nat → Int}, KN r F m F1 m1 → ∀ k : Nat, CT g yM_byteAt 0 0 0 [gR r, gI (k : Int)] (N, F1) (RV (B k) (N, F1)) := fun h k => by rw [← hBB]; exact qM_byteAt h.1 (p7 h) (p11 h) hn k
  have hfr1 := zsc_ge (fun k => decide (B k = 32)) (n - to) to
  have hfr : zfr B n to ≤ n := by unfold zfr; omega
  -- the end
  have fin : ∀ (b : Int) (x2 : GV) (F1 : Nat → GC) (m1 : Nat → Nat → Int), KN r F m F1 m1 → (b = (if so = 1 ∨ so = 2 then (to : Int) else -1)) → m1 17 12 = (zfr B n to : Nat) → m1 17 13 = (zto B n (zfr B n to) : Nat) → m1 17 14 = (zs0 (B (zfr B n to)) : Nat) → Go g yM_next 2 0 0 181 [gR r, gI b, x2] [] (N, F1) (NX N r F m B n to so) := by
    intro b x2 F1 m1 h1 hb e12 e13 e14
    have hM1 := h1.1
    have ho := h1.1.1
    generalize hfk : zfr B n to = fr at *
    have t214 : ∀ v : Nat, v = zso B to so fr → Go g yM_next 2 0 0 214 [gR r, gI b, x2] [gI (v : Int), gR r] (N, F1) (NX N r F m B n to so) := by
      intro v hv
      refine go_mpf hM1 (hM1.f14 _) dM_next_214 flM231 rfl rfl (fun F2 m2 hM2 hF2 e2 => ?_)
      refine go_vret dM_next_217 rfl ?_
      have h2 := h1.put hM2 hF2 e2 (by omega)
      refine ⟨rfl, F2, m2, rfl, h2, ?_, ?_, ?_⟩
      · rw [hfk, e2]; exact e12
      · rw [hfk, e2]; exact e13
      · rw [hfk, e2, ← hv]; rfl
    have t210 : zso B to so fr = zs0 (B fr) → Go g yM_next 2 0 0 210 [gR r, gI b, x2] [gR r] (N, F1) (NX N r F m B n to so) := by
      intro hv
      refine go_aload_n (i := 0) dM_next_210 rfl rfl trivial ?_
      refine go_getf dM_next_211 flM231 (by assumption) rfl ?_
      rw [e14]
      exact t214 _ hv.symm
    have t198 : zs0 (B fr) = 1 ∨ zs0 (B fr) = 2 → Go g yM_next 2 0 0 198 [gR r, gI b, x2] [gR r] (N, F1) (NX N r F m B n to so) := by
      intro hc
      refine go_aload_n (i := 0) dM_next_198 rfl rfl trivial ?_
      refine go_getf dM_next_199 flM237 (by assumption) rfl ?_
      refine go_iload_n (i := 1) dM_next_202 rfl rfl ?_
      refine go_ic_ne 210 dM_next_203 rfl (fun h203 => ?_) (fun h203 => ?_)
      · exact t210 (by unfold zso; rw [if_neg]; intro h; rw [if_pos h.2.1] at hb; omega)
      · refine go_iconst dM_next_206 (inR_of _ rfl) ?_
        refine go_goto 214 dM_next_207 rfl ?_
        refine t214 4 ?_
        unfold zso
        rw [if_pos]
        refine ⟨hc, ?_⟩
        split at hb
        · rename_i h; exact ⟨h, by omega⟩
        · omega
    refine go_aload_n (i := 0) dM_next_181 rfl rfl trivial ?_
    refine go_aload_n (i := 0) dM_next_182 rfl rfl trivial ?_
    refine go_getf dM_next_183 flM231 (by assumption) rfl ?_
    refine go_iconst dM_next_186 (inR_of _ rfl) ?_
    refine go_ic_eq 198 dM_next_187 rfl (fun h187 => ?_) (fun h187 => ?_)
    · exact t198 (by omega)
    · refine go_aload_n (i := 0) dM_next_190 rfl rfl trivial ?_
      refine go_getf dM_next_191 flM231 (by assumption) rfl ?_
      refine go_iconst dM_next_194 (inR_of _ rfl) ?_
      refine go_ic_ne 210 dM_next_195 rfl (fun h195 => ?_) (fun h195 => ?_)
      · exact t210 (by unfold zso; rw [if_neg]; intro h; omega)
      · exact t198 (by omega)
  -- the word's end
  have loop2 : ∀ (j k : Nat), n - k = j → ∀ (b : Int) (x2 : GV) (F1 : Nat → GC) (m1 : Nat → Nat → Int), KN r F m F1 m1 → (b = (if so = 1 ∨ so = 2 then (to : Int) else -1)) → m1 17 12 = (zfr B n to : Nat) → m1 17 13 = (k : Int) → zto B n (zfr B n to) = zsc (zmor B (zs0 (B (zfr B n to)))) (n - k) k → m1 17 14 = (zs0 (B (zfr B n to)) : Nat) → Go g yM_next 2 0 0 124 [gR r, gI b, x2] [] (N, F1) (NX N r F m B n to so) := by
    intro j
    induction j with
    | zero =>
      intro k hj b x2 F1 m1 h1 hb e12 e13 ez e14
      have ho := h1.1.1
      have hk : B k = -1 := hB.2.2 k (by omega)
      rw [hj] at ez
      have e13' : m1 17 13 = (zto B n (zfr B n to) : Nat) := by rw [ez]; exact e13
      have t146 : Go g yM_next 2 0 0 146 [gR r, gI b, x2] [] (N, F1) (NX N r F m B n to so) := by
        refine go_aload_n (i := 0) dM_next_146 rfl rfl trivial ?_
        refine go_getf dM_next_147 flM231 (by assumption) rfl ?_
        refine go_iconst dM_next_150 (inR_of _ rfl) ?_
        refine go_ic_ne 181 dM_next_151 rfl (fun h151 => ?_) (fun h151 => ?_)
        · exact fin b _ F1 m1 h1 hb e12 e13' e14
        · refine go_aload_n (i := 0) dM_next_154 rfl rfl trivial ?_
          refine go_aload_n (i := 0) dM_next_155 rfl rfl trivial ?_
          refine go_getf dM_next_156 flM234 (by assumption) rfl ?_
          rw [e13]
          refine go_VP dM_next_159 vkM240 (by assumption) (List.cons_ne_nil _ _) (qb h1 k) rfl (by omega) rfl (fun _ => Nat.le_of_ble_eq_true rfl) ?_
          refine go_SP dM_next_162 vkM246 (ct_isDigit (B k)) rfl (by omega) rfl (fun _ => Nat.le_of_ble_eq_true rfl) ?_
          refine go_if_eq 181 dM_next_165 rfl (fun h165 => ?_) (fun h165 => absurd (by rw [hk]; rfl) h165)
          exact fin b _ F1 m1 h1 hb e12 e13' e14
      refine go_aload_n (i := 0) dM_next_124 rfl rfl trivial ?_
      refine go_getf dM_next_125 flM231 (by assumption) rfl ?_
      refine go_iconst dM_next_128 (inR_of _ rfl) ?_
      refine go_ic_ne 146 dM_next_129 rfl (fun h129 => ?_) (fun h129 => ?_)
      · exact t146
      · refine go_aload_n (i := 0) dM_next_132 rfl rfl trivial ?_
        refine go_aload_n (i := 0) dM_next_133 rfl rfl trivial ?_
        refine go_getf dM_next_134 flM234 (by assumption) rfl ?_
        rw [e13]
        refine go_VP dM_next_137 vkM240 (by assumption) (List.cons_ne_nil _ _) (qb h1 k) rfl (by omega) rfl (fun _ => Nat.le_of_ble_eq_true rfl) ?_
        refine go_SP dM_next_140 vkM243 (ct_isLetter (B k)) rfl (by omega) rfl (fun _ => Nat.le_of_ble_eq_true rfl) ?_
        refine go_if_ne 168 dM_next_143 rfl (fun h143 => absurd h143 (by rw [hk]; exact fun h => h rfl)) (fun h143 => ?_)
        exact t146
    | succ j ih =>
      intro k hj b x2 F1 m1 h1 hb e12 e13 ez e14
      have hM1 := h1.1
      have ho := h1.1.1
      have hs : zsc (zmor B (zs0 (B (zfr B n to)))) (n - k) k = if zmor B (zs0 (B (zfr B n to))) k then zsc (zmor B (zs0 (B (zfr B n to)))) (n - (k + 1)) (k + 1) else k := by
        rw [show n - k = (n - (k + 1)) + 1 by omega]; rfl
      rw [hs] at ez
      have stop : ¬ (zmor B (zs0 (B (zfr B n to))) k = true) → Go g yM_next 2 0 0 181 [gR r, gI b, x2] [] (N, F1) (NX N r F m B n to so) := by
        intro h
        rw [if_neg h] at ez
        exact fin b _ F1 m1 h1 hb e12 (by rw [ez]; exact e13) e14
      have more : zmor B (zs0 (B (zfr B n to))) k = true → Go g yM_next 2 0 0 168 [gR r, gI b, x2] [] (N, F1) (NX N r F m B n to so) := by
        intro h
        rw [if_pos h] at ez
        refine go_aload_n (i := 0) dM_next_168 rfl rfl trivial ?_
        refine go_dup dM_next_169 trivial ?_
        refine go_getf dM_next_170 flM234 (by assumption) rfl ?_
        rw [e13]
        refine go_iconst dM_next_173 (inR_of _ rfl) ?_
        refine go_iadd dM_next_174 ?_
        refine go_top (((k + 1 : Nat) : Int)) (by (try simp (discharger := (unfold inR; omega)) only [w32_id]) <;> omega) ?_
        refine go_mpf hM1 (hM1.f13 _) dM_next_175 flM234 rfl rfl (fun F2 m2 hM2 hF2 e2 => ?_)
        refine go_goto 124 dM_next_178 rfl ?_
        have h2 := h1.put hM2 hF2 e2 (by omega)
        exact ih (k + 1) (by omega) b _ F2 m2 h2 hb (by rw [e2]; exact e12) (by rw [e2]; rfl) ez (by rw [e2]; exact e14)
      have t146 : ¬ (zs0 (B (zfr B n to)) = 1 ∧ zs0 (B k) = 1) → Go g yM_next 2 0 0 146 [gR r, gI b, x2] [] (N, F1) (NX N r F m B n to so) := by
        intro h
        refine go_aload_n (i := 0) dM_next_146 rfl rfl trivial ?_
        refine go_getf dM_next_147 flM231 (by assumption) rfl ?_
        refine go_iconst dM_next_150 (inR_of _ rfl) ?_
        refine go_ic_ne 181 dM_next_151 rfl (fun h151 => ?_) (fun h151 => ?_)
        · refine stop (fun hh => ?_)
          unfold zmor at hh
          have := of_decide_eq_true hh
          omega
        · refine go_aload_n (i := 0) dM_next_154 rfl rfl trivial ?_
          refine go_aload_n (i := 0) dM_next_155 rfl rfl trivial ?_
          refine go_getf dM_next_156 flM234 (by assumption) rfl ?_
          rw [e13]
          refine go_VP dM_next_159 vkM240 (by assumption) (List.cons_ne_nil _ _) (qb h1 k) rfl (by omega) rfl (fun _ => Nat.le_of_ble_eq_true rfl) ?_
          refine go_SP dM_next_162 vkM246 (ct_isDigit (B k)) rfl (by omega) rfl (fun _ => Nat.le_of_ble_eq_true rfl) ?_
          refine go_if_eq 181 dM_next_165 rfl (fun h165 => ?_) (fun h165 => ?_)
          · refine stop (fun hh => ?_)
            unfold zmor at hh
            have := of_decide_eq_true hh
            rcases this with h3 | h3
            · exact h h3
            · exact (zs0_d.mp h3.2) h165
          · refine more ?_
            unfold zmor
            exact decide_eq_true (Or.inr ⟨by omega, zs0_d.mpr h165⟩)
      refine go_aload_n (i := 0) dM_next_124 rfl rfl trivial ?_
      refine go_getf dM_next_125 flM231 (by assumption) rfl ?_
      refine go_iconst dM_next_128 (inR_of _ rfl) ?_
      refine go_ic_ne 146 dM_next_129 rfl (fun h129 => ?_) (fun h129 => ?_)
      · exact t146 (fun h => by omega)
      · refine go_aload_n (i := 0) dM_next_132 rfl rfl trivial ?_
        refine go_aload_n (i := 0) dM_next_133 rfl rfl trivial ?_
        refine go_getf dM_next_134 flM234 (by assumption) rfl ?_
        rw [e13]
        refine go_VP dM_next_137 vkM240 (by assumption) (List.cons_ne_nil _ _) (qb h1 k) rfl (by omega) rfl (fun _ => Nat.le_of_ble_eq_true rfl) ?_
        refine go_SP dM_next_140 vkM243 (ct_isLetter (B k)) rfl (by omega) rfl (fun _ => Nat.le_of_ble_eq_true rfl) ?_
        refine go_if_ne 168 dM_next_143 rfl (fun h143 => ?_) (fun h143 => ?_)
        · refine more ?_
          unfold zmor
          exact decide_eq_true (Or.inl ⟨by omega, zs0_l.mpr h143⟩)
        · exact t146 (fun h => (zs0_l.mp h.2) h143)
  -- behind the spaces
  have mid : ∀ (b : Int) (F1 : Nat → GC) (m1 : Nat → Nat → Int), KN r F m F1 m1 → (b = (if so = 1 ∨ so = 2 then (to : Int) else -1)) → m1 17 12 = (zfr B n to : Nat) → Go g yM_next 2 0 0 59 [gR r, gI b, gU] [] (N, F1) (NX N r F m B n to so) := by
    intro b F1 m1 h1 hb e12
    have hM1 := h1.1
    have ho := h1.1.1
    have t121 : ∀ (v : Nat) (F2 : Nat → GC) (m2 : Nat → Nat → Int), KN r F m F2 m2 → m2 17 12 = (zfr B n to : Nat) → m2 17 14 = (zs0 (B (zfr B n to)) : Nat) → (zto B n (zfr B n to) = zsc (zmor B (zs0 (B (zfr B n to)))) (n - v) v) → Go g yM_next 2 0 0 121 [gR r, gI b, gI (B (zfr B n to))] [gI (v : Int), gR r] (N, F2) (NX N r F m B n to so) := by
      intro v F2 m2 h2 e12 e14 ez
      have hM2 := h2.1
      refine go_mpf hM2 (hM2.f13 _) dM_next_121 flM234 rfl rfl (fun F3 m3 hM3 hF3 e3 => ?_)
      have h3 := h2.put hM3 hF3 e3 (by omega)
      exact loop2 (n - v) v rfl b _ F3 m3 h3 hb (by rw [e3]; exact e12) (by rw [e3]; rfl) ez (by rw [e3]; exact e14)
    have t100 : ∀ v : Nat, v = zs0 (B (zfr B n to)) → Go g yM_next 2 0 0 100 [gR r, gI b, gI (B (zfr B n to))] [gI (v : Int), gR r] (N, F1) (NX N r F m B n to so) := by
      intro v hv
      refine go_mpf hM1 (hM1.f14 _) dM_next_100 flM231 rfl rfl (fun F2 m2 hM2 hF2 e2 => ?_)
      have h2 := h1.put hM2 hF2 e2 (by omega)
      have ho2 := hM2.1
      have e212 : m2 17 12 = (zfr B n to : Nat) := by rw [e2]; exact e12
      have e214 : m2 17 14 = (zs0 (B (zfr B n to)) : Nat) := by rw [e2, ← hv]; rfl
      have hz : zto B n (zfr B n to) = if B (zfr B n to) < 0 then zfr B n to else zsc (zmor B (zs0 (B (zfr B n to)))) (n - (zfr B n to + 1)) (zfr B n to + 1) := rfl
      refine go_aload_n (i := 0) dM_next_103 rfl rfl trivial ?_
      refine go_iload_n (i := 2) dM_next_104 rfl rfl ?_
      refine go_if_ge 115 dM_next_105 rfl (fun h105 => ?_) (fun h105 => ?_)
      · rw [if_neg (by omega)] at hz
        refine go_aload_n (i := 0) dM_next_115 rfl rfl trivial ?_
        refine go_getf dM_next_116 flM237 (by assumption) rfl ?_
        rw [e212]
        refine go_iconst dM_next_119 (inR_of _ rfl) ?_
        refine go_iadd dM_next_120 ?_
        refine go_top (((zfr B n to + 1 : Nat) : Int)) (by (try simp (discharger := (unfold inR; omega)) only [w32_id]) <;> omega) ?_
        exact t121 _ F2 m2 h2 e212 e214 hz
      · rw [if_pos (by omega)] at hz
        have hs : zs0 (B (zfr B n to)) = 0 := by unfold zs0; rw [if_pos (by omega)]
        have hm0 : zmor B 0 (zfr B n to) = false := by unfold zmor; exact decide_eq_false (by omega)
        have hsc : ∀ f : Nat, zsc (zmor B 0) f (zfr B n to) = zfr B n to := by
          intro f
          cases f with
          | zero => rfl
          | succ f => unfold zsc; rw [if_neg (by rw [hm0]; simp)]
        refine go_aload_n (i := 0) dM_next_108 rfl rfl trivial ?_
        refine go_getf dM_next_109 flM237 (by assumption) rfl ?_
        refine go_goto 121 dM_next_112 rfl ?_
        rw [e212]
        exact t121 _ F2 m2 h2 e212 e214 (by rw [hz, hs, hsc])
    refine go_aload_n (i := 0) dM_next_59 rfl rfl trivial ?_
    refine go_aload_n (i := 0) dM_next_60 rfl rfl trivial ?_
    refine go_getf dM_next_61 flM237 (by assumption) rfl ?_
    rw [e12]
    refine go_VP dM_next_64 vkM240 (by assumption) (List.cons_ne_nil _ _) (qb h1 (zfr B n to)) rfl (by omega) rfl (fun _ => Nat.le_of_ble_eq_true rfl) ?_
    refine go_is2 dM_next_67 (Nat.le_of_ble_eq_true rfl) trivial ?_
    refine go_aload_n (i := 0) dM_next_68 rfl rfl trivial ?_
    refine go_iload_n (i := 2) dM_next_69 rfl rfl ?_
    refine go_if_ge 77 dM_next_70 rfl (fun h70 => ?_) (fun h70 => ?_)
    · refine go_iload_n (i := 2) dM_next_77 rfl rfl ?_
      refine go_SP dM_next_78 vkM243 (ct_isLetter (B (zfr B n to))) rfl (by omega) rfl (fun _ => Nat.le_of_ble_eq_true rfl) ?_
      refine go_if_eq 88 dM_next_81 rfl (fun h81 => ?_) (fun h81 => ?_)
      · refine go_iload_n (i := 2) dM_next_88 rfl rfl ?_
        refine go_SP dM_next_89 vkM246 (ct_isDigit (B (zfr B n to))) rfl (by omega) rfl (fun _ => Nat.le_of_ble_eq_true rfl) ?_
        refine go_if_eq 99 dM_next_92 rfl (fun h92 => ?_) (fun h92 => ?_)
        · refine go_iconst dM_next_99 (inR_of _ rfl) ?_
          exact t100 3 (by unfold zs0; grind [zin])
        · refine go_iconst dM_next_95 (inR_of _ rfl) ?_
          refine go_goto 100 dM_next_96 rfl ?_
          exact t100 2 (zs0_d.mpr h92).symm
      · refine go_iconst dM_next_84 (inR_of _ rfl) ?_
        refine go_goto 100 dM_next_85 rfl ?_
        exact t100 1 (zs0_l.mpr h81).symm
    · refine go_iconst dM_next_73 (inR_of _ rfl) ?_
      refine go_goto 100 dM_next_74 rfl ?_
      exact t100 0 (by unfold zs0; rw [if_pos (by omega)])
  have loop1 : ∀ (j k : Nat), n - k = j → ∀ (b : Int) (F1 : Nat → GC) (m1 : Nat → Nat → Int), KN r F m F1 m1 → (b = (if so = 1 ∨ so = 2 then (to : Int) else -1)) → m1 17 12 = (k : Int) → zfr B n to = zsc (fun k => decide (B k = 32)) (n - k) k → Go g yM_next 2 0 0 33 [gR r, gI b, gU] [] (N, F1) (NX N r F m B n to so) := by
    intro j
    induction j with
    | zero =>
      intro k hj b F1 m1 h1 hb e12 ez
      have ho := h1.1.1
      have hk : B k = -1 := hB.2.2 k (by omega)
      rw [hj] at ez
      refine go_aload_n (i := 0) dM_next_33 rfl rfl trivial ?_
      refine go_aload_n (i := 0) dM_next_34 rfl rfl trivial ?_
      refine go_getf dM_next_35 flM237 (by assumption) rfl ?_
      rw [e12]
      refine go_VP dM_next_38 vkM240 (by assumption) (List.cons_ne_nil _ _) (qb h1 k) rfl (by omega) rfl (fun _ => Nat.le_of_ble_eq_true rfl) ?_
      refine go_bipush dM_next_41 (inR_of _ rfl) rfl ?_
      refine go_ic_ne 59 dM_next_43 rfl (fun h43 => ?_) (fun h43 => ?_)
      · exact mid b F1 m1 h1 hb (by rw [ez]; exact e12)
      · omega
    | succ j ih =>
      intro k hj b F1 m1 h1 hb e12 ez
      have hM1 := h1.1
      have ho := h1.1.1
      have hs : zsc (fun k => decide (B k = 32)) (n - k) k = if decide (B k = 32) = true then zsc (fun k => decide (B k = 32)) (n - (k + 1)) (k + 1) else k := by
        rw [show n - k = (n - (k + 1)) + 1 by omega]; rfl
      rw [hs] at ez
      refine go_aload_n (i := 0) dM_next_33 rfl rfl trivial ?_
      refine go_aload_n (i := 0) dM_next_34 rfl rfl trivial ?_
      refine go_getf dM_next_35 flM237 (by assumption) rfl ?_
      rw [e12]
      refine go_VP dM_next_38 vkM240 (by assumption) (List.cons_ne_nil _ _) (qb h1 k) rfl (by omega) rfl (fun _ => Nat.le_of_ble_eq_true rfl) ?_
      refine go_bipush dM_next_41 (inR_of _ rfl) rfl ?_
      refine go_ic_ne 59 dM_next_43 rfl (fun h43 => ?_) (fun h43 => ?_)
      · rw [if_neg (by simp; exact h43)] at ez
        exact mid b F1 m1 h1 hb (by rw [ez]; exact e12)
      · rw [if_pos (by simp; omega)] at ez
        refine go_aload_n (i := 0) dM_next_46 rfl rfl trivial ?_
        refine go_dup dM_next_47 trivial ?_
        refine go_getf dM_next_48 flM237 (by assumption) rfl ?_
        rw [e12]
        refine go_iconst dM_next_51 (inR_of _ rfl) ?_
        refine go_iadd dM_next_52 ?_
        refine go_top (((k + 1 : Nat) : Int)) (by (try simp (discharger := (unfold inR; omega)) only [w32_id]) <;> omega) ?_
        refine go_mpf hM1 (hM1.f12 _) dM_next_53 flM237 rfl rfl (fun F2 m2 hM2 hF2 e2 => ?_)
        refine go_goto 33 dM_next_56 rfl ?_
        have h2 := h1.put hM2 hF2 e2 (by omega)
        exact ih (k + 1) (by omega) b F2 m2 h2 hb (by rw [e2]; rfl) ez
  have h0 : KN r F m F m := ⟨hM, FR.rf, SB.rf, fun _ _ _ _ => rfl⟩
  have ho := hM.1
  have t24 : ∀ b : Int, (b = (if so = 1 ∨ so = 2 then (to : Int) else -1)) → Go g yM_next 2 0 0 24 [gR r, gU, gU] [gI b] (N, F) (NX N r F m B n to so) := by
    intro b hb
    refine go_is1 dM_next_24 (Nat.le_of_ble_eq_true rfl) trivial ?_
    refine go_aload_n (i := 0) dM_next_25 rfl rfl trivial ?_
    refine go_aload_n (i := 0) dM_next_26 rfl rfl trivial ?_
    refine go_getf dM_next_27 flM234 (by assumption) rfl ?_
    rw [hto]
    refine go_mpf hM (hM.f12 _) dM_next_30 flM237 rfl rfl (fun F2 m2 hM2 hF2 e2 => ?_)
    exact loop1 (n - to) to rfl b F2 m2 (h0.put hM2 hF2 e2 (by omega)) hb (by rw [e2]; rfl) rfl
  have t16 : so = 1 ∨ so = 2 → Go g yM_next 2 0 0 16 [gR r, gU, gU] [] (N, F) (NX N r F m B n to so) := by
    intro h
    refine go_aload_n (i := 0) dM_next_16 rfl rfl trivial ?_
    refine go_getf dM_next_17 flM234 (by assumption) rfl ?_
    refine go_goto 24 dM_next_20 rfl ?_
    exact t24 _ (by rw [if_pos h]; exact hto)
  refine CT.of' (L0 := [gR r, gU, gU]) plM (Nat.le_of_ble_eq_true rfl) rfl ?_
  refine go_aload_n (i := 0) dM_next_0 rfl rfl trivial ?_
  refine go_getf dM_next_1 flM231 (by assumption) rfl ?_
  refine go_iconst dM_next_4 (inR_of _ rfl) ?_
  refine go_ic_eq 16 dM_next_5 rfl (fun h5 => ?_) (fun h5 => ?_)
  · exact t16 (by omega)
  · refine go_aload_n (i := 0) dM_next_8 rfl rfl trivial ?_
    refine go_getf dM_next_9 flM231 (by assumption) rfl ?_
    refine go_iconst dM_next_12 (inR_of _ rfl) ?_
    refine go_ic_ne 23 dM_next_13 rfl (fun h13 => ?_) (fun h13 => ?_)
    · refine go_iconst dM_next_23 (inR_of _ rfl) ?_
      exact t24 _ (by rw [if_neg (by omega)])
    · exact t16 (by omega)
end MTOK
