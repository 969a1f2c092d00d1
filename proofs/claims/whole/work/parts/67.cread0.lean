/-! ===== the component's reader: words and signs ===== -/
def RM (F : Nat → GC) (row : Nat → Int) (fs : List GV) : Nat → GC := va_up (va_up F 51 (cI 96 row)) 49 (cO 4 fs)
theorem RM_49 {F : Nat → GC} {row : Nat → Int} {fs : List GV} : RM F row fs 49 = cO 4 fs := va_up_self _ _ _
theorem RM_51 {F : Nat → GC} {row : Nat → Int} {fs : List GV} : RM F row fs 51 = cI 96 row := by unfold RM; rw [va_up_ne _ _ (by omega), va_up_self]
theorem RM_at {F : Nat → GC} {row : Nat → Int} {fs : List GV} {k : Nat} (h1 : k ≠ 49) (h2 : k ≠ 51) : RM F row fs k = F k := by unfold RM; rw [va_up_ne _ _ h1, va_up_ne _ _ h2]
theorem RM_put {F : Nat → GC} {row : Nat → Int} {fs fs' : List GV} : va_up (RM F row fs) 49 (cO 4 fs') = RM F row fs' := va_up_up _ _ _ _
theorem RM_row {F : Nat → GC} {row row' : Nat → Int} {fs : List GV} : va_up (RM F row fs) 51 (cI 96 row') = RM F row' fs := by
  unfold RM
  rw [va_up_comm _ _ (by omega), va_up_up]
abbrev rF (n fr to so sz op key : Int) : List GV := [gR 50, gR 51, gI n, gI fr, gI to, gI so, gI sz, gI op, gI key]
section CREAD0
variable {g : GX} {N : Nat} {F : Nat → GC} {row tp : Nat → Int} {n : Nat}
theorem ct_letterR (v : Int) : CT g yR_isLetter 0 0 0 [gI v] (N, F) (RV (zin v 97 122) (N, F)) := by
  refine CT.of' (L0 := [gI v]) plR (Nat.le_of_ble_eq_true rfl) rfl ?_
  refine go_iload_n (i := 0) dR_isLetter_0 rfl rfl ?_
  refine go_bipush dR_isLetter_1 (inR_of _ rfl) rfl ?_
  refine go_ic_lt 16 dR_isLetter_3 rfl (fun h3 => ?_) (fun h3 => ?_)
  · refine go_iconst dR_isLetter_16 (inR_of _ rfl) ?_
    refine go_iret dR_isLetter_17 rfl (zb (by simp)) ?_
    exact ⟨by unfold zin; rw [if_neg (by omega)], rfl⟩
  · refine go_iload_n (i := 0) dR_isLetter_6 rfl rfl ?_
    refine go_bipush dR_isLetter_7 (inR_of _ rfl) rfl ?_
    refine go_ic_gt 16 dR_isLetter_9 rfl (fun h9 => ?_) (fun h9 => ?_)
    · refine go_iconst dR_isLetter_16 (inR_of _ rfl) ?_
      refine go_iret dR_isLetter_17 rfl (zb (by simp)) ?_
      exact ⟨by unfold zin; rw [if_neg (by omega)], rfl⟩
    · refine go_iconst dR_isLetter_12 (inR_of _ rfl) ?_
      refine go_goto 17 dR_isLetter_13 rfl ?_
      refine go_iret dR_isLetter_17 rfl (zb (by simp)) ?_
      exact ⟨by unfold zin; rw [if_pos (by omega)], rfl⟩
theorem ct_digitR (v : Int) : CT g yR_isDigit 0 0 0 [gI v] (N, F) (RV (zin v 48 57) (N, F)) := by
  refine CT.of' (L0 := [gI v]) plR (Nat.le_of_ble_eq_true rfl) rfl ?_
  refine go_iload_n (i := 0) dR_isDigit_0 rfl rfl ?_
  refine go_bipush dR_isDigit_1 (inR_of _ rfl) rfl ?_
  refine go_ic_lt 16 dR_isDigit_3 rfl (fun h3 => ?_) (fun h3 => ?_)
  · refine go_iconst dR_isDigit_16 (inR_of _ rfl) ?_
    refine go_iret dR_isDigit_17 rfl (zb (by simp)) ?_
    exact ⟨by unfold zin; rw [if_neg (by omega)], rfl⟩
  · refine go_iload_n (i := 0) dR_isDigit_6 rfl rfl ?_
    refine go_bipush dR_isDigit_7 (inR_of _ rfl) rfl ?_
    refine go_ic_gt 16 dR_isDigit_9 rfl (fun h9 => ?_) (fun h9 => ?_)
    · refine go_iconst dR_isDigit_16 (inR_of _ rfl) ?_
      refine go_iret dR_isDigit_17 rfl (zb (by simp)) ?_
      exact ⟨by unfold zin; rw [if_neg (by omega)], rfl⟩
    · refine go_iconst dR_isDigit_12 (inR_of _ rfl) ?_
      refine go_goto 17 dR_isDigit_13 rfl ?_
      refine go_iret dR_isDigit_17 rfl (zb (by simp)) ?_
      exact ⟨by unfold zin; rw [if_pos (by omega)], rfl⟩
theorem qR_isSign {fr to so sz op key : Int} {B : Nat → Int} {p : Nat} (h50 : F 50 = cI 96 tp) (hp : fr = (p : Int)) (hb : so = 3 → p < 96 ∧ tp p = B p) (c : Int) : CT g yR_isSign 0 0 0 [gR 49, gI c] (N, RM F row (rF n fr to so sz op key)) (RV (if so = 3 ∧ B p = c then 1 else 0) (N, RM F row (rF n fr to so sz op key))) := by
  have hx5 : ∀ fs, RM F row fs 50 = cI 96 tp := fun fs => by rw [RM_at (by omega) (by omega)]; exact h50
  refine CT.of' (L0 := [gR 49, gI c]) plR (Nat.le_of_ble_eq_true rfl) rfl ?_
  refine go_aload_n (i := 0) dR_isSign_0 rfl rfl trivial ?_
  refine go_getf dR_isSign_1 flR48 RM_49 rfl ?_
  refine go_iconst dR_isSign_4 (inR_of _ rfl) ?_
  refine go_ic_ne 25 dR_isSign_5 rfl (fun h5 => ?_) (fun h5 => ?_)
  · refine go_iconst dR_isSign_25 (inR_of _ rfl) ?_
    refine go_iret dR_isSign_26 rfl (zb (by simp)) ?_
    exact ⟨by rw [if_neg (fun q => h5 q.1)], rfl⟩
  · obtain ⟨b1, b2⟩ := hb (by assumption)
    refine go_aload_n (i := 0) dR_isSign_8 rfl rfl trivial ?_
    refine go_getf dR_isSign_9 flR9 RM_49 rfl ?_
    refine go_aload_n (i := 0) dR_isSign_12 rfl rfl trivial ?_
    refine go_getf dR_isSign_13 flR22 RM_49 rfl ?_
    refine go_iald' p _ dR_isSign_16 (hx5 _) hp b1 b2 ?_
    refine go_iload_n (i := 1) dR_isSign_17 rfl rfl ?_
    refine go_ic_ne 25 dR_isSign_18 rfl (fun h18 => ?_) (fun h18 => ?_)
    · refine go_iconst dR_isSign_25 (inR_of _ rfl) ?_
      refine go_iret dR_isSign_26 rfl (zb (by simp)) ?_
      exact ⟨by rw [if_neg (fun q => h18 q.2)], rfl⟩
    · refine go_iconst dR_isSign_21 (inR_of _ rfl) ?_
      refine go_goto 26 dR_isSign_22 rfl ?_
      refine go_iret dR_isSign_26 rfl (zb (by simp)) ?_
      exact ⟨by rw [if_pos ⟨by assumption, h18⟩], rfl⟩
theorem qR_write {fr to so op key w : Int} {sz : Nat} (hs : sz < 96) : CT g yR_write 0 0 0 [gR 49, gI w] (N, RM F row (rF n fr to so sz op key)) (fun rr M' => rr = gU ∧ M' = (N, RM F (va_up row sz w) (rF n fr to so ((sz + 1 : Nat) : Int) op key))) := by
  refine CT.of' (L0 := [gR 49, gI w]) plR (Nat.le_of_ble_eq_true rfl) rfl ?_
  refine go_aload_n (i := 0) dR_write_0 rfl rfl trivial ?_
  refine go_getf dR_write_1 flR33 RM_49 rfl ?_
  refine go_bipush dR_write_4 (inR_of _ rfl) rfl ?_
  refine go_ic_ge 29 dR_write_6 rfl (fun h6 => absurd h6 (by omega)) (fun h6 => ?_)
  refine go_aload_n (i := 0) dR_write_9 rfl rfl trivial ?_
  refine go_getf dR_write_10 flR15 RM_49 rfl ?_
  refine go_aload_n (i := 0) dR_write_13 rfl rfl trivial ?_
  refine go_getf dR_write_14 flR33 RM_49 rfl ?_
  refine go_iload_n (i := 1) dR_write_17 rfl rfl ?_
  refine go_iast' sz dR_write_18 RM_51 rfl hs ?_
  rw [RM_row]
  refine go_aload_n (i := 0) dR_write_19 rfl rfl trivial ?_
  refine go_dup dR_write_20 trivial ?_
  refine go_getf dR_write_21 flR33 RM_49 rfl ?_
  refine go_iconst dR_write_24 (inR_of _ rfl) ?_
  refine go_iadd dR_write_25 ?_
  refine go_top (((sz + 1 : Nat) : Int)) (by (try simp (discharger := (unfold inR; omega)) only [w32_id]) <;> omega) ?_
  refine go_putf dR_write_26 flR33 RM_49 (Nat.le_of_ble_eq_true rfl) rfl rfl ?_
  rw [RM_put]
  refine go_vret dR_write_29 rfl ?_
  exact ⟨rfl, rfl⟩
/-- beyond what it can hold nothing is written -/
theorem qR_writeA {fr to so op key w sz : Int} (hs : 0 ≤ sz) : CT g yR_write 0 0 0 [gR 49, gI w] (N, RM F row (rF n fr to so sz op key)) (fun rr M' => rr = gU ∧ ∃ (row' : Nat → Int) (sz' : Int), 0 ≤ sz' ∧ M' = (N, RM F row' (rF n fr to so sz' op key))) := by
  by_cases c : sz < 96
  · obtain ⟨k, rfl⟩ : ∃ k : Nat, sz = (k : Int) := ⟨sz.toNat, by omega⟩
    refine CT.mono ?_ (qR_write (by omega))
    rintro _ _ ⟨rfl, rfl⟩
    exact ⟨rfl, _, _, by omega, rfl⟩
  · refine CT.of' (L0 := [gR 49, gI w]) plR (Nat.le_of_ble_eq_true rfl) rfl ?_
    refine go_aload_n (i := 0) dR_write_0 rfl rfl trivial ?_
    refine go_getf dR_write_1 flR33 RM_49 rfl ?_
    refine go_bipush dR_write_4 (inR_of _ rfl) rfl ?_
    refine go_ic_ge 29 dR_write_6 rfl (fun h6 => ?_) (fun h6 => absurd (by omega) h6)
    refine go_vret dR_write_29 rfl ?_
    exact ⟨rfl, row, sz, hs, rfl⟩
theorem qR_advance {B : Nat → Int} {x3 sz op key : Int} {to so : Nat} (h50 : F 50 = cI 96 tp) (hB : BYT B n) (hb : ∀ k : Nat, k < n → tp k = B k) (ht : to ≤ n) : CT g yR_advance 1 0 0 [gR 49] (N, RM F row (rF n x3 to so sz op key)) (fun rr M' => rr = gU ∧ M' = (N, RM F row (rF n (zfr B n to : Nat) (zto B n (zfr B n to) : Nat) (zso B to so (zfr B n to) : Nat) sz op key))) := by
  have h5 : ∀ fs, RM F row fs 50 = cI 96 tp := fun fs => by rw [RM_at (by omega) (by omega)]; exact h50
  have n96 := hB.1
  have hfr := zsc_ge (fun k => decide (B k = 32)) (n - to) to
  have hfr : to ≤ zfr B n to ∧ zfr B n to ≤ to + (n - to) := hfr
  generalize hf : zfr B n to = fr at *
  have bw : ((if so = 1 ∨ so = 2 then (1 : Int) else 0) = 0 ∨ (if so = 1 ∨ so = 2 then (1 : Int) else 0) = 1) := by split <;> simp
  -- the end: glued or not
  have fin : ∀ (q : Nat), fr < n → q = zto B n fr → Go g yR_advance 1 0 0 221 [gR 49, gI (if so = 1 ∨ so = 2 then 1 else 0), gI (to : Int)] [] (N, RM F row (rF n fr q (zs0 (B fr) : Nat) sz op key)) (fun rr M' => rr = gU ∧ M' = (N, RM F row (rF n fr (zto B n fr : Nat) (zso B to so fr : Nat) sz op key))) := by
    intro q hfn hq
    have hz := hB.2.1 fr hfn
    have z123 : zs0 (B fr) = 1 ∨ zs0 (B fr) = 2 ∨ zs0 (B fr) = 3 := by unfold zs0; grind
    have keep : ¬ ((zs0 (B fr) = 1 ∨ zs0 (B fr) = 2) ∧ (so = 1 ∨ so = 2) ∧ fr = to) → Go g yR_advance 1 0 0 246 [gR 49, gI (if so = 1 ∨ so = 2 then 1 else 0), gI (to : Int)] [] (N, RM F row (rF n fr q (zs0 (B fr) : Nat) sz op key)) (fun rr M' => rr = gU ∧ M' = (N, RM F row (rF n fr (zto B n fr : Nat) (zso B to so fr : Nat) sz op key))) := by
      intro hk
      refine go_vret dR_advance_246 rfl ?_
      refine ⟨rfl, ?_⟩
      rw [hq]
      unfold zso
      rw [if_neg hk]
    by_cases cb : so = 1 ∨ so = 2
    · rw [if_pos cb] at keep ⊢
      refine go_iload_n (i := 1) dR_advance_221 rfl rfl ?_
      refine go_if_eq 246 dR_advance_222 rfl (fun h222 => absurd h222 (by omega)) (fun h222 => ?_)
      refine go_aload_n (i := 0) dR_advance_225 rfl rfl trivial ?_
      refine go_getf dR_advance_226 flR22 RM_49 rfl ?_
      refine go_iload_n (i := 2) dR_advance_229 rfl rfl ?_
      refine go_ic_ne 246 dR_advance_230 rfl (fun h230 => ?_) (fun h230 => ?_)
      · exact keep (by omega)
      · refine go_aload_n (i := 0) dR_advance_233 rfl rfl trivial ?_
        refine go_getf dR_advance_234 flR48 RM_49 rfl ?_
        refine go_iconst dR_advance_237 (inR_of _ rfl) ?_
        refine go_ic_eq 246 dR_advance_238 rfl (fun h238 => ?_) (fun h238 => ?_)
        · exact keep (by omega)
        · refine go_aload_n (i := 0) dR_advance_241 rfl rfl trivial ?_
          refine go_iconst dR_advance_242 (inR_of _ rfl) ?_
          refine go_putf dR_advance_243 flR48 RM_49 (Nat.le_of_ble_eq_true rfl) rfl rfl ?_
          rw [RM_put]
          refine go_vret dR_advance_246 rfl ?_
          refine ⟨rfl, ?_⟩
          rw [hq]
          unfold zso
          rw [if_pos ⟨by omega, cb, by omega⟩]
          rfl
    · rw [if_neg cb] at keep ⊢
      refine go_iload_n (i := 1) dR_advance_221 rfl rfl ?_
      refine go_if_eq 246 dR_advance_222 rfl (fun h222 => ?_) (fun h222 => absurd (by omega) h222)
      exact keep (by omega)
  have ends : ∀ (j q : Nat), q + j = n → fr < q → fr < n → zto B n fr = zsc (zmor B (zs0 (B fr))) (n - q) q → Go g yR_advance 1 0 0 151 [gR 49, gI (if so = 1 ∨ so = 2 then 1 else 0), gI (to : Int)] [] (N, RM F row (rF n fr q (zs0 (B fr) : Nat) sz op key)) (fun rr M' => rr = gU ∧ M' = (N, RM F row (rF n fr (zto B n fr : Nat) (zso B to so fr : Nat) sz op key))) := by
    have hp : ∀ k, n ≤ k → zmor B (zs0 (B fr)) k = false := fun k hk => by
      have := hB.2.2 k hk
      unfold zmor
      rw [this]
      simp [zs0]
    intro j
    induction j with
    | zero =>
      intro q hq h1 hfn hz
      refine go_aload_n (i := 0) dR_advance_151 rfl rfl trivial ?_
      refine go_getf dR_advance_152 flR45 RM_49 rfl ?_
      refine go_aload_n (i := 0) dR_advance_155 rfl rfl trivial ?_
      refine go_getf dR_advance_156 flR18 RM_49 rfl ?_
      refine go_ic_ge 221 dR_advance_159 rfl (fun h159 => ?_) (fun h159 => absurd (by omega) h159)
      refine fin q hfn ?_
      rw [hz, show n - q = 0 by omega]; rfl
    | succ j ih =>
      intro q hq h1 hfn hz
      have st := zsc_step hp q
      have hzB := hB.2.1 q (by omega)
      have stop : zmor B (zs0 (B fr)) q = false → Go g yR_advance 1 0 0 221 [gR 49, gI (if so = 1 ∨ so = 2 then 1 else 0), gI (to : Int)] [] (N, RM F row (rF n fr q (zs0 (B fr) : Nat) sz op key)) (fun rr M' => rr = gU ∧ M' = (N, RM F row (rF n fr (zto B n fr : Nat) (zso B to so fr : Nat) sz op key))) := by
        intro hm
        refine fin q hfn ?_
        rw [hz, st, hm]; rfl
      have more : zmor B (zs0 (B fr)) q = true → Go g yR_advance 1 0 0 208 [gR 49, gI (if so = 1 ∨ so = 2 then 1 else 0), gI (to : Int)] [] (N, RM F row (rF n fr q (zs0 (B fr) : Nat) sz op key)) (fun rr M' => rr = gU ∧ M' = (N, RM F row (rF n fr (zto B n fr : Nat) (zso B to so fr : Nat) sz op key))) := by
        intro hm
        refine go_aload_n (i := 0) dR_advance_208 rfl rfl trivial ?_
        refine go_dup dR_advance_209 trivial ?_
        refine go_getf dR_advance_210 flR45 RM_49 rfl ?_
        refine go_iconst dR_advance_213 (inR_of _ rfl) ?_
        refine go_iadd dR_advance_214 ?_
        refine go_top (((q + 1 : Nat) : Int)) (by (try simp (discharger := (unfold inR; omega)) only [w32_id]) <;> omega) ?_
        refine go_putf dR_advance_215 flR45 RM_49 (Nat.le_of_ble_eq_true rfl) rfl rfl ?_
        rw [RM_put]
        refine go_goto 151 dR_advance_218 rfl ?_
        refine ih (q + 1) (by omega) (by omega) hfn ?_
        rw [hz, st, hm]; rfl
      have at185 : ¬ (zs0 (B fr) = 1 ∧ zs0 (B q) = 1) → Go g yR_advance 1 0 0 185 [gR 49, gI (if so = 1 ∨ so = 2 then 1 else 0), gI (to : Int)] [] (N, RM F row (rF n fr q (zs0 (B fr) : Nat) sz op key)) (fun rr M' => rr = gU ∧ M' = (N, RM F row (rF n fr (zto B n fr : Nat) (zso B to so fr : Nat) sz op key))) := by
        intro hl
        refine go_aload_n (i := 0) dR_advance_185 rfl rfl trivial ?_
        refine go_getf dR_advance_186 flR48 RM_49 rfl ?_
        refine go_iconst dR_advance_189 (inR_of _ rfl) ?_
        refine go_ic_ne 221 dR_advance_190 rfl (fun h190 => ?_) (fun h190 => ?_)
        · exact stop (decide_eq_false (by omega))
        · refine go_aload_n (i := 0) dR_advance_193 rfl rfl trivial ?_
          refine go_getf dR_advance_194 flR9 RM_49 rfl ?_
          refine go_aload_n (i := 0) dR_advance_197 rfl rfl trivial ?_
          refine go_getf dR_advance_198 flR45 RM_49 rfl ?_
          refine go_iald' q _ dR_advance_201 (h5 _) rfl (by omega) (hb q (by omega)) ?_
          refine go_SP dR_advance_202 vkR66 (ct_digitR _) rfl (by omega) rfl (fun _ => Nat.le_of_ble_eq_true rfl) ?_
          refine go_if_eq 221 dR_advance_205 rfl (fun h205 => ?_) (fun h205 => ?_)
          · refine stop (decide_eq_false (fun qq => ?_))
            rcases qq with qq | qq
            · exact hl qq
            · exact zs0_d.mp qq.2 h205
          · exact more (decide_eq_true (Or.inr ⟨by omega, zs0_d.mpr h205⟩))
      refine go_aload_n (i := 0) dR_advance_151 rfl rfl trivial ?_
      refine go_getf dR_advance_152 flR45 RM_49 rfl ?_
      refine go_aload_n (i := 0) dR_advance_155 rfl rfl trivial ?_
      refine go_getf dR_advance_156 flR18 RM_49 rfl ?_
      refine go_ic_ge 221 dR_advance_159 rfl (fun h159 => absurd h159 (by omega)) (fun h159 => ?_)
      refine go_aload_n (i := 0) dR_advance_162 rfl rfl trivial ?_
      refine go_getf dR_advance_163 flR48 RM_49 rfl ?_
      refine go_iconst dR_advance_166 (inR_of _ rfl) ?_
      refine go_ic_ne 185 dR_advance_167 rfl (fun h167 => ?_) (fun h167 => ?_)
      · exact at185 (by omega)
      · refine go_aload_n (i := 0) dR_advance_170 rfl rfl trivial ?_
        refine go_getf dR_advance_171 flR9 RM_49 rfl ?_
        refine go_aload_n (i := 0) dR_advance_174 rfl rfl trivial ?_
        refine go_getf dR_advance_175 flR45 RM_49 rfl ?_
        refine go_iald' q _ dR_advance_178 (h5 _) rfl (by omega) (hb q (by omega)) ?_
        refine go_SP dR_advance_179 vkR62 (ct_letterR _) rfl (by omega) rfl (fun _ => Nat.le_of_ble_eq_true rfl) ?_
        refine go_if_ne 208 dR_advance_182 rfl (fun h182 => ?_) (fun h182 => ?_)
        · exact more (decide_eq_true (Or.inl ⟨by omega, zs0_l.mpr h182⟩))
        · exact at185 (fun qq => zs0_l.mp qq.2 h182)
  have at73 : Go g yR_advance 1 0 0 73 [gR 49, gI (if so = 1 ∨ so = 2 then 1 else 0), gI (to : Int)] [] (N, RM F row (rF n fr to so sz op key)) (fun rr M' => rr = gU ∧ M' = (N, RM F row (rF n fr (zto B n fr : Nat) (zso B to so fr : Nat) sz op key))) := by
    refine go_aload_n (i := 0) dR_advance_73 rfl rfl trivial ?_
    refine go_aload_n (i := 0) dR_advance_74 rfl rfl trivial ?_
    refine go_getf dR_advance_75 flR22 RM_49 rfl ?_
    refine go_putf dR_advance_78 flR45 RM_49 (Nat.le_of_ble_eq_true rfl) rfl rfl ?_
    rw [RM_put]
    refine go_aload_n (i := 0) dR_advance_81 rfl rfl trivial ?_
    refine go_getf dR_advance_82 flR22 RM_49 rfl ?_
    refine go_aload_n (i := 0) dR_advance_85 rfl rfl trivial ?_
    refine go_getf dR_advance_86 flR18 RM_49 rfl ?_
    refine go_ic_lt 98 dR_advance_89 rfl (fun h89 => ?_) (fun h89 => ?_)
    · have hfn : fr < n := by omega
      have hzB := hB.2.1 fr hfn
      have at138 : ∀ x : Int, x = (zs0 (B fr) : Nat) → Go g yR_advance 1 0 0 138 [gR 49, gI (if so = 1 ∨ so = 2 then 1 else 0), gI (to : Int)] [gI x, gR 49] (N, RM F row (rF n fr fr so sz op key)) (fun rr M' => rr = gU ∧ M' = (N, RM F row (rF n fr (zto B n fr : Nat) (zso B to so fr : Nat) sz op key))) := by
        intro x hx
        subst hx
        refine go_putf dR_advance_138 flR48 RM_49 (Nat.le_of_ble_eq_true rfl) rfl rfl ?_
        rw [RM_put]
        refine go_aload_n (i := 0) dR_advance_141 rfl rfl trivial ?_
        refine go_dup dR_advance_142 trivial ?_
        refine go_getf dR_advance_143 flR45 RM_49 rfl ?_
        refine go_iconst dR_advance_146 (inR_of _ rfl) ?_
        refine go_iadd dR_advance_147 ?_
        refine go_top (((fr + 1 : Nat) : Int)) (by (try simp (discharger := (unfold inR; omega)) only [w32_id]) <;> omega) ?_
        refine go_putf dR_advance_148 flR45 RM_49 (Nat.le_of_ble_eq_true rfl) rfl rfl ?_
        rw [RM_put]
        refine ends (n - (fr + 1)) (fr + 1) (by omega) (by omega) hfn ?_
        unfold zto
        rw [if_neg (by omega)]
      refine go_aload_n (i := 0) dR_advance_98 rfl rfl trivial ?_
      refine go_aload_n (i := 0) dR_advance_99 rfl rfl trivial ?_
      refine go_getf dR_advance_100 flR9 RM_49 rfl ?_
      refine go_aload_n (i := 0) dR_advance_103 rfl rfl trivial ?_
      refine go_getf dR_advance_104 flR22 RM_49 rfl ?_
      refine go_iald' fr _ dR_advance_107 (h5 _) rfl (by omega) (hb fr hfn) ?_
      refine go_SP dR_advance_108 vkR62 (ct_letterR _) rfl (by omega) rfl (fun _ => Nat.le_of_ble_eq_true rfl) ?_
      refine go_if_eq 118 dR_advance_111 rfl (fun h111 => ?_) (fun h111 => ?_)
      · have nl : ¬ zs0 (B fr) = 1 := fun q => zs0_l.mp q h111
        refine go_aload_n (i := 0) dR_advance_118 rfl rfl trivial ?_
        refine go_getf dR_advance_119 flR9 RM_49 rfl ?_
        refine go_aload_n (i := 0) dR_advance_122 rfl rfl trivial ?_
        refine go_getf dR_advance_123 flR22 RM_49 rfl ?_
        refine go_iald' fr _ dR_advance_126 (h5 _) rfl (by omega) (hb fr hfn) ?_
        refine go_SP dR_advance_127 vkR66 (ct_digitR _) rfl (by omega) rfl (fun _ => Nat.le_of_ble_eq_true rfl) ?_
        refine go_if_eq 137 dR_advance_130 rfl (fun h130 => ?_) (fun h130 => ?_)
        · have nd : ¬ zs0 (B fr) = 2 := fun q => zs0_d.mp q h130
          refine go_iconst dR_advance_137 (inR_of _ rfl) ?_
          refine at138 _ ?_
          have : zs0 (B fr) = 3 := by unfold zs0 at nl nd ⊢; grind
          rw [this]; rfl
        · refine go_iconst dR_advance_133 (inR_of _ rfl) ?_
          refine go_goto 138 dR_advance_134 rfl ?_
          refine at138 _ ?_
          rw [zs0_d.mpr h130]; rfl
      · refine go_iconst dR_advance_114 (inR_of _ rfl) ?_
        refine go_goto 138 dR_advance_115 rfl ?_
        refine at138 _ ?_
        rw [zs0_l.mpr h111]; rfl
    · have hfn : fr = n := by omega
      have hz := hB.2.2 fr (by omega)
      refine go_aload_n (i := 0) dR_advance_92 rfl rfl trivial ?_
      refine go_iconst dR_advance_93 (inR_of _ rfl) ?_
      refine go_putf dR_advance_94 flR48 RM_49 (Nat.le_of_ble_eq_true rfl) rfl rfl ?_
      rw [RM_put]
      refine go_vret dR_advance_97 rfl ?_
      refine ⟨rfl, ?_⟩
      have e1 : zto B n fr = fr := by unfold zto; rw [if_pos (by omega)]
      have e2 : zso B to so fr = 0 := by unfold zso; rw [hz]; simp [zs0]
      rw [e1, e2]
      rfl
  have starts : ∀ (j p : Nat), p + j = n → to ≤ p → fr = zsc (fun k => decide (B k = 32)) (n - p) p → Go g yR_advance 1 0 0 35 [gR 49, gI (if so = 1 ∨ so = 2 then 1 else 0), gI (to : Int)] [] (N, RM F row (rF n p to so sz op key)) (fun rr M' => rr = gU ∧ M' = (N, RM F row (rF n fr (zto B n fr : Nat) (zso B to so fr : Nat) sz op key))) := by
    have hp : ∀ k, n ≤ k → (fun k => decide (B k = 32)) k = false := fun k hk => by
      have := hB.2.2 k hk
      exact decide_eq_false (by omega)
    intro j
    induction j with
    | zero =>
      intro p hp0 h1 hz
      refine go_aload_n (i := 0) dR_advance_35 rfl rfl trivial ?_
      refine go_getf dR_advance_36 flR22 RM_49 rfl ?_
      refine go_aload_n (i := 0) dR_advance_39 rfl rfl trivial ?_
      refine go_getf dR_advance_40 flR18 RM_49 rfl ?_
      refine go_ic_ge 73 dR_advance_43 rfl (fun h43 => ?_) (fun h43 => absurd (by omega) h43)
      have e : p = fr := by rw [hz, show n - p = 0 by omega]; rfl
      rw [e]
      exact at73
    | succ j ih =>
      intro p hp0 h1 hz
      have st := zsc_step hp p
      refine go_aload_n (i := 0) dR_advance_35 rfl rfl trivial ?_
      refine go_getf dR_advance_36 flR22 RM_49 rfl ?_
      refine go_aload_n (i := 0) dR_advance_39 rfl rfl trivial ?_
      refine go_getf dR_advance_40 flR18 RM_49 rfl ?_
      refine go_ic_ge 73 dR_advance_43 rfl (fun h43 => absurd h43 (by omega)) (fun h43 => ?_)
      refine go_aload_n (i := 0) dR_advance_46 rfl rfl trivial ?_
      refine go_getf dR_advance_47 flR9 RM_49 rfl ?_
      refine go_aload_n (i := 0) dR_advance_50 rfl rfl trivial ?_
      refine go_getf dR_advance_51 flR22 RM_49 rfl ?_
      refine go_iald' p _ dR_advance_54 (h5 _) rfl (by omega) (hb p (by omega)) ?_
      refine go_bipush dR_advance_55 (inR_of _ rfl) rfl ?_
      refine go_ic_ne 73 dR_advance_57 rfl (fun h57 => ?_) (fun h57 => ?_)
      · have e : p = fr := by rw [hz, st, if_neg (by simp; exact h57)]
        rw [e]
        exact at73
      · refine go_aload_n (i := 0) dR_advance_60 rfl rfl trivial ?_
        refine go_dup dR_advance_61 trivial ?_
        refine go_getf dR_advance_62 flR22 RM_49 rfl ?_
        refine go_iconst dR_advance_65 (inR_of _ rfl) ?_
        refine go_iadd dR_advance_66 ?_
        refine go_top (((p + 1 : Nat) : Int)) (by (try simp (discharger := (unfold inR; omega)) only [w32_id]) <;> omega) ?_
        refine go_putf dR_advance_67 flR22 RM_49 (Nat.le_of_ble_eq_true rfl) rfl rfl ?_
        rw [RM_put]
        refine go_goto 35 dR_advance_70 rfl ?_
        refine ih (p + 1) (by omega) (by omega) ?_
        rw [hz, st, if_pos (by simp; exact h57)]
  have at21 : ∀ x : Int, x = (if so = 1 ∨ so = 2 then 1 else 0) → Go g yR_advance 1 0 0 21 [gR 49, gU, gU] [gI x] (N, RM F row (rF n x3 to so sz op key)) (fun rr M' => rr = gU ∧ M' = (N, RM F row (rF n fr (zto B n fr : Nat) (zso B to so fr : Nat) sz op key))) := by
    intro x hx
    subst hx
    refine go_is1 dR_advance_21 (Nat.le_of_ble_eq_true rfl) trivial ?_
    refine go_aload_n (i := 0) dR_advance_22 rfl rfl trivial ?_
    refine go_getf dR_advance_23 flR45 RM_49 rfl ?_
    refine go_is2 dR_advance_26 (Nat.le_of_ble_eq_true rfl) trivial ?_
    refine go_aload_n (i := 0) dR_advance_27 rfl rfl trivial ?_
    refine go_aload_n (i := 0) dR_advance_28 rfl rfl trivial ?_
    refine go_getf dR_advance_29 flR45 RM_49 rfl ?_
    refine go_putf dR_advance_32 flR22 RM_49 (Nat.le_of_ble_eq_true rfl) rfl rfl ?_
    rw [RM_put]
    exact starts (n - to) to (by omega) (by omega) hf.symm
  refine CT.of' (L0 := [gR 49, gU, gU]) plR (Nat.le_of_ble_eq_true rfl) rfl ?_
  refine go_aload_n (i := 0) dR_advance_0 rfl rfl trivial ?_
  refine go_getf dR_advance_1 flR48 RM_49 rfl ?_
  refine go_iconst dR_advance_4 (inR_of _ rfl) ?_
  refine go_ic_eq 16 dR_advance_5 rfl (fun h5 => ?_) (fun h5 => ?_)
  · refine go_iconst dR_advance_16 (inR_of _ rfl) ?_
    refine go_goto 21 dR_advance_17 rfl ?_
    exact at21 _ (by rw [if_pos (by omega)])
  · refine go_aload_n (i := 0) dR_advance_8 rfl rfl trivial ?_
    refine go_getf dR_advance_9 flR48 RM_49 rfl ?_
    refine go_iconst dR_advance_12 (inR_of _ rfl) ?_
    refine go_ic_ne 20 dR_advance_13 rfl (fun h13 => ?_) (fun h13 => ?_)
    · refine go_iconst dR_advance_20 (inR_of _ rfl) ?_
      exact at21 _ (by rw [if_neg (by omega)])
    · refine go_iconst dR_advance_16 (inR_of _ rfl) ?_
      refine go_goto 21 dR_advance_17 rfl ?_
      exact at21 _ (by rw [if_pos (by omega)])
end CREAD0
