/-! ===== the component works a law out ===== -/
def zop (c : Int) : Prop := c = -43 ∨ c = -52 ∨ c = -57 ∨ c = -53 ∨ c = -55 ∨ c = -70 ∨ c = -71 ∨ c = -72 ∨ c = -48 ∨ c = -134
def zops (code : Nat → Int) : Nat → Nat
  | 0 => 0
  | k + 1 => zops code k + (if -10 < code k then 1 else 0)
theorem zops_mono (code : Nat → Int) : ∀ (j k : Nat), zops code k ≤ zops code (k + j)
  | 0, _ => Nat.le_refl _
  | j + 1, k => Nat.le_trans (zops_mono code j k) (Nat.le_add_right _ _)
theorem zdep_ops (code : Nat → Int) : ∀ k, zdep code k ≤ zops code k := by
  intro k
  induction k with
  | zero => exact Nat.le_refl 0
  | succ k ih => unfold zdep zops; grind
/-- the words of the texts: acts that there are, as many pieces as told -/
def zP (s : Nat → Int) : Prop := ∀ t : Nat, (t : Int) < s 64 → s (96 + t) = (zops (fun k => s (110 + 100 * t + k)) (s (82 + t)).toNat : Nat) ∧ ∀ k : Nat, k < (s (82 + t)).toNat → s (110 + 100 * t + k) ≤ -10 → zop (s (110 + 100 * t + k))
def zwk (w a b : Int) : Int := if w = -11 then w32 (a * b) else if w = -12 then (if b = 0 then 0 else w32 (a.tdiv b)) else if w = -13 then w32 (a + b) else if w = -14 then w32 (a - b) else if w = -15 then (if a < b then 1 else 0) else if w = -16 then (if a = b then 1 else 0) else if w = -17 then (if b < a then 1 else 0) else if w = -18 then (if a ≠ 0 ∧ b ≠ 0 then 1 else 0) else (if a ≠ 0 ∨ b ≠ 0 then 1 else 0)
theorem zwk_two {c a b : Int} (h : zop c) (h1 : c ≠ -43) : zwk (zwm c) a b = ztwo (-10 - c) a b := by
  rcases h with h | rfl | rfl | rfl | rfl | rfl | rfl | rfl | rfl | rfl
  · exact absurd h h1
  all_goals (simp [zwk, zwm, ztwo])
theorem zwm_lo {c : Int} (h : c ≤ -10) : zwm c ≤ -10 ∧ (zwm c = -10 ↔ c = -43) := by
  unfold zwm
  rw [if_neg (by omega)]
  by_cases e : c = -43
  · rw [if_pos e]; exact ⟨by omega, ⟨fun _ => e, fun _ => rfl⟩⟩
  · rw [if_neg e]
    have : ∀ x : Int, x < -10 → (x ≤ -10 ∧ (x = -10 ↔ c = -43)) := fun x hx => ⟨by omega, ⟨fun h => by omega, fun h => absurd h e⟩⟩
    apply this
    repeat' split
    all_goals omega
theorem zwm_hi {c : Int} (h : -10 < c) : zwm c = c := by unfold zwm; rw [if_pos h]
def CS (N : Nat) (F : Nat → GC) (v : GV) : GV → GM → Prop := fun rr M' => rr = v ∧ ∃ F2 : Nat → GC, M' = (N, F2) ∧ FS F F2
section CLAW
variable {g : GX} {N a : Nat} {F : Nat → GC}
theorem ct_workedL (w a b : Int) : CT g yL_worked 0 0 0 [gI w, gI a, gI b] (N, F) (RV (zwk w a b) (N, F)) := by
  refine CT.of' (L0 := [gI w, gI a, gI b]) plL (Nat.le_of_ble_eq_true rfl) rfl ?_
  refine go_iload_n (i := 0) dL_worked_0 rfl rfl ?_
  refine tabC dL_worked_1 119 rfl (fun h => ?_) (fun n h1 h2 => ?_)
  · refine go_iload_n (i := 1) dL_worked_119 rfl rfl ?_
    refine go_if_ne 127 dL_worked_120 rfl (fun h120 => ?_) (fun h120 => ?_)
    · refine go_iconst dL_worked_127 (inR_of _ rfl) ?_
      refine go_goto 132 dL_worked_128 rfl ?_
      refine go_iret dL_worked_132 rfl rfl ?_
      exact ⟨by unfold zwk; grind, rfl⟩
    · refine go_iload_n (i := 2) dL_worked_123 rfl rfl ?_
      refine go_if_eq 131 dL_worked_124 rfl (fun h124 => ?_) (fun h124 => ?_)
      · refine go_iconst dL_worked_131 (inR_of _ rfl) ?_
        refine go_iret dL_worked_132 rfl rfl ?_
        exact ⟨by unfold zwk; grind, rfl⟩
      · refine go_iconst dL_worked_127 (inR_of _ rfl) ?_
        refine go_goto 132 dL_worked_128 rfl ?_
        refine go_iret dL_worked_132 rfl rfl ?_
        exact ⟨by unfold zwk; grind, rfl⟩
  · match n, h1 with
    | 0, h1 =>
      refine ⟨_, rfl, 105, rfl, ?_⟩
      refine go_iload_n (i := 1) dL_worked_105 rfl rfl ?_
      refine go_if_eq 117 dL_worked_106 rfl (fun h106 => ?_) (fun h106 => ?_)
      · refine go_iconst dL_worked_117 (inR_of _ rfl) ?_
        refine go_iret dL_worked_118 rfl rfl ?_
        exact ⟨by unfold zwk; grind, rfl⟩
      · refine go_iload_n (i := 2) dL_worked_109 rfl rfl ?_
        refine go_if_eq 117 dL_worked_110 rfl (fun h110 => ?_) (fun h110 => ?_)
        · refine go_iconst dL_worked_117 (inR_of _ rfl) ?_
          refine go_iret dL_worked_118 rfl rfl ?_
          exact ⟨by unfold zwk; grind, rfl⟩
        · refine go_iconst dL_worked_113 (inR_of _ rfl) ?_
          refine go_goto 118 dL_worked_114 rfl ?_
          refine go_iret dL_worked_118 rfl rfl ?_
          exact ⟨by unfold zwk; grind, rfl⟩
    | 1, h1 =>
      refine ⟨_, rfl, 94, rfl, ?_⟩
      refine go_iload_n (i := 1) dL_worked_94 rfl rfl ?_
      refine go_iload_n (i := 2) dL_worked_95 rfl rfl ?_
      refine go_ic_le 103 dL_worked_96 rfl (fun h96 => ?_) (fun h96 => ?_)
      · refine go_iconst dL_worked_103 (inR_of _ rfl) ?_
        refine go_iret dL_worked_104 rfl rfl ?_
        exact ⟨by unfold zwk; grind, rfl⟩
      · refine go_iconst dL_worked_99 (inR_of _ rfl) ?_
        refine go_goto 104 dL_worked_100 rfl ?_
        refine go_iret dL_worked_104 rfl rfl ?_
        exact ⟨by unfold zwk; grind, rfl⟩
    | 2, h1 =>
      refine ⟨_, rfl, 83, rfl, ?_⟩
      refine go_iload_n (i := 1) dL_worked_83 rfl rfl ?_
      refine go_iload_n (i := 2) dL_worked_84 rfl rfl ?_
      refine go_ic_ne 92 dL_worked_85 rfl (fun h85 => ?_) (fun h85 => ?_)
      · refine go_iconst dL_worked_92 (inR_of _ rfl) ?_
        refine go_iret dL_worked_93 rfl rfl ?_
        exact ⟨by unfold zwk; grind, rfl⟩
      · refine go_iconst dL_worked_88 (inR_of _ rfl) ?_
        refine go_goto 93 dL_worked_89 rfl ?_
        refine go_iret dL_worked_93 rfl rfl ?_
        exact ⟨by unfold zwk; grind, rfl⟩
    | 3, h1 =>
      refine ⟨_, rfl, 72, rfl, ?_⟩
      refine go_iload_n (i := 1) dL_worked_72 rfl rfl ?_
      refine go_iload_n (i := 2) dL_worked_73 rfl rfl ?_
      refine go_ic_ge 81 dL_worked_74 rfl (fun h74 => ?_) (fun h74 => ?_)
      · refine go_iconst dL_worked_81 (inR_of _ rfl) ?_
        refine go_iret dL_worked_82 rfl rfl ?_
        exact ⟨by unfold zwk; grind, rfl⟩
      · refine go_iconst dL_worked_77 (inR_of _ rfl) ?_
        refine go_goto 82 dL_worked_78 rfl ?_
        refine go_iret dL_worked_82 rfl rfl ?_
        exact ⟨by unfold zwk; grind, rfl⟩
    | 4, h1 =>
      refine ⟨_, rfl, 68, rfl, ?_⟩
      refine go_iload_n (i := 1) dL_worked_68 rfl rfl ?_
      refine go_iload_n (i := 2) dL_worked_69 rfl rfl ?_
      refine go_isub dL_worked_70 ?_
      refine go_iret dL_worked_71 rfl rfl ?_
      exact ⟨by unfold zwk; grind, rfl⟩
    | 5, h1 =>
      refine ⟨_, rfl, 64, rfl, ?_⟩
      refine go_iload_n (i := 1) dL_worked_64 rfl rfl ?_
      refine go_iload_n (i := 2) dL_worked_65 rfl rfl ?_
      refine go_iadd dL_worked_66 ?_
      refine go_iret dL_worked_67 rfl rfl ?_
      exact ⟨by unfold zwk; grind, rfl⟩
    | 6, h1 =>
      refine ⟨_, rfl, 52, rfl, ?_⟩
      refine go_iload_n (i := 2) dL_worked_52 rfl rfl ?_
      refine go_if_ne 60 dL_worked_53 rfl (fun h53 => ?_) (fun h53 => ?_)
      · refine go_iload_n (i := 1) dL_worked_60 rfl rfl ?_
        refine go_iload_n (i := 2) dL_worked_61 rfl rfl ?_
        refine go_idiv dL_worked_62 (by omega) ?_
        refine go_iret dL_worked_63 rfl rfl ?_
        exact ⟨by unfold zwk; grind, rfl⟩
      · refine go_iconst dL_worked_56 (inR_of _ rfl) ?_
        refine go_goto 63 dL_worked_57 rfl ?_
        refine go_iret dL_worked_63 rfl rfl ?_
        exact ⟨by unfold zwk; grind, rfl⟩
    | 7, h1 =>
      refine ⟨_, rfl, 48, rfl, ?_⟩
      refine go_iload_n (i := 1) dL_worked_48 rfl rfl ?_
      refine go_iload_n (i := 2) dL_worked_49 rfl rfl ?_
      refine go_imul dL_worked_50 ?_
      refine go_iret dL_worked_51 rfl rfl ?_
      exact ⟨by unfold zwk; grind, rfl⟩
    | n + 8, h1 => omega
/-- the law at a while it is worked out -/
def LG (a len n : Nat) (k o : Int) (cd : Nat → Int) (F F1 : Nat → GC) (f : Nat → Int) : Prop := F1 a = cO 3 [gI k, gI o, gR (a + 1), gR (a + 2)] ∧ F1 (a + 1) = cI n cd ∧ F1 (a + 2) = cI len f ∧ FS F F1
theorem LG.st {len n : Nat} {k o : Int} {cd : Nat → Int} {F1 : Nat → GC} {f f' : Nat → Int} (h : LG a len n k o cd F F1 f) (ha : stk (a + 2)) : LG a len n k o cd F (va_up F1 (a + 2) (cI len f')) f' :=
  ⟨by rw [va_up_ne _ _ (by omega)]; exact h.1, by rw [va_up_ne _ _ (by omega)]; exact h.2.1, va_up_self _ _ _, h.2.2.2.stack ha h.2.2.1⟩
theorem qL_gives {s : Nat → Int} {t bb : Nat} (hL : LAWP F a s t) (hb : bb ≤ 4) (hwf : zwf (fun k => s (110 + 100 * t + k)) (s (82 + t)).toNat bb) (hn : (s (82 + t)).toNat ≤ 96) (ho : s (96 + t) = (zops (fun k => s (110 + 100 * t + k)) (s (82 + t)).toNat : Nat)) (hz : ∀ k : Nat, k < (s (82 + t)).toNat → s (110 + 100 * t + k) ≤ -10 → zop (s (110 + 100 * t + k))) (n0 n1 n2 n3 : Int) :
    CT g yL_gives 1 0 0 [gR a, gI n0, gI n1, gI n2, gI n3] (N, F) (CS N F (gI (zwork (znm n0 n1 n2 n3) (fun k => s (110 + 100 * t + k)) (s (82 + t)).toNat))) := by
  generalize hcode : (fun k => s (110 + 100 * t + k)) = code at hwf ho ⊢
  have hc : ∀ k, s (110 + 100 * t + k) = code k := fun k => by rw [← hcode]
  obtain ⟨ha, h0, ⟨cd, h1, hcd⟩, f, h2⟩ := hL
  generalize hnn : (s (82 + t)).toNat = n at *
  have hst : stk (a + 2) := by unfold stk; omega
  generalize hlen : max 1 (s (96 + t)).toNat = len at *
  have hlen2 : ∀ k, k ≤ n → zdep code k ≤ len := fun k hk => by
    have e1 := zdep_ops code k
    have e2 := zops_mono code (n - k) k
    rw [show k + (n - k) = n by omega] at e2
    omega
  have hlen1 : 1 ≤ len := by omega
  have hR : ∀ k : Nat, k < n → cd k = zwm (code k) := fun k hk => by rw [hcd k hk, hc k]
  have tail : ∀ (k : Nat), (∀ (F1 : Nat → GC) (f : Nat → Int) (x7 x8 : GV), LG a len n (s (68 + t)) (s (96 + t)) cd F F1 f → ZS f (zrun (znm n0 n1 n2 n3) code (k + 1)) → c1 x7 → Go g yL_gives 1 0 0 6 [gR a, gI n0, gI n1, gI n2, gI n3, gI (zdep code (k + 1)), gI ((k + 1 : Nat) : Int), x7, x8] [] (N, F1) (CS N F (gI (zwork (znm n0 n1 n2 n3) code n)))) →
      k < n → ∀ (F1 : Nat → GC) (f : Nat → Int) (x7 x8 : GV), LG a len n (s (68 + t)) (s (96 + t)) cd F F1 f → ZS f (zrun (znm n0 n1 n2 n3) code (k + 1)) → c1 x7 → Go g yL_gives 1 0 0 192 [gR a, gI n0, gI n1, gI n2, gI n3, gI (zdep code (k + 1)), gI (k : Int), x7, x8] [] (N, F1) (CS N F (gI (zwork (znm n0 n1 n2 n3) code n))) := by
    intro k ih hk F1 f x7 x8 hL1 hZ hx
    refine go_inc6 (((k + 1 : Nat) : Int)) dL_gives_192 (Nat.le_of_ble_eq_true rfl) trivial (by (try simp (discharger := (unfold inR; omega)) only [w32_id]) <;> omega) ?_
    refine go_goto 6 dL_gives_195 rfl ?_
    exact ih F1 f x7 x8 hL1 hZ hx
  have loop : ∀ (j k : Nat), k + j = n → ∀ (F1 : Nat → GC) (f : Nat → Int) (x7 x8 : GV), LG a len n (s (68 + t)) (s (96 + t)) cd F F1 f → ZS f (zrun (znm n0 n1 n2 n3) code k) → c1 x7 → Go g yL_gives 1 0 0 6 [gR a, gI n0, gI n1, gI n2, gI n3, gI (zdep code k), gI (k : Int), x7, x8] [] (N, F1) (CS N F (gI (zwork (znm n0 n1 n2 n3) code n))) := by
    intro j
    induction j with
    | zero =>
      intro k hk F1 f x7 x8 hL1 hZ hx7
      obtain ⟨q0, q1, q2, q3⟩ := hL1
      have hkn : k = n := by omega
      refine go_iload dL_gives_6 rfl ?_
      refine go_aload_n (i := 0) dL_gives_8 rfl rfl trivial ?_
      refine go_getf dL_gives_9 flL16 (by assumption) rfl ?_
      refine go_alenI dL_gives_12 (by assumption) ?_
      refine go_ic_ge 198 dL_gives_13 rfl (fun h13 => ?_) (fun h13 => absurd (by omega) h13)
      refine go_aload_n (i := 0) dL_gives_198 rfl rfl trivial ?_
      refine go_getf dL_gives_199 flL26 (by assumption) rfl ?_
      refine go_iconst dL_gives_202 (inR_of _ rfl) ?_
      refine go_iald' 0 _ dL_gives_203 q2 rfl (by omega) rfl ?_
      refine go_iret dL_gives_204 rfl rfl ?_
      subst hkn
      have h1 := hwf.1
      have h2 := zrun_len (nm := znm n0 n1 n2 n3) hwf k (Nat.le_refl k)
      exact ⟨by unfold zwork; rw [hZ.hd (n := 0) (by omega)], F1, rfl, q3⟩
    | succ j ih =>
      intro k hk F1 f x7 x8 hL1 hZ hx7
      have hkn : k < n := by omega
      have hL2 := hL1
      obtain ⟨q0, q1, q2, q3⟩ := hL1
      have hd := zdep_le code k
      have hl2 := hlen2 (k + 1) (by omega)
      have hl3 := hlen2 k (by omega)
      obtain ⟨w0, w1, w2, w3⟩ := hwf.2 k hkn
      have hl := zrun_len (nm := znm n0 n1 n2 n3) hwf k (by omega)
      have tl := tail k (ih (k + 1) (by omega)) hkn
      have hrun : zrun (znm n0 n1 n2 n3) code (k + 1) = zst (znm n0 n1 n2 n3) (code k) (zrun (znm n0 n1 n2 n3) code k) := rfl
      have hdep : zdep code (k + 1) = if -10 < code k then zdep code k + 1 else if code k = -43 then zdep code k else zdep code k - 1 := rfl
      have hop := hz k hkn
      rw [hc k] at hop
      refine go_iload dL_gives_6 rfl ?_
      refine go_aload_n (i := 0) dL_gives_8 rfl rfl trivial ?_
      refine go_getf dL_gives_9 flL16 (by assumption) rfl ?_
      refine go_alenI dL_gives_12 (by assumption) ?_
      refine go_ic_ge 198 dL_gives_13 rfl (fun h13 => absurd h13 (by omega)) (fun h13 => ?_)
      refine go_aload_n (i := 0) dL_gives_16 rfl rfl trivial ?_
      refine go_getf dL_gives_17 flL16 (by assumption) rfl ?_
      refine go_iload dL_gives_20 rfl ?_
      refine go_iald' k (zwm (code k)) dL_gives_22 q1 rfl hkn (hR k hkn) ?_
      refine go_is7 dL_gives_23 (Nat.le_of_ble_eq_true rfl) trivial ?_
      refine go_iload dL_gives_25 rfl ?_
      refine go_bipush dL_gives_27 (inR_of _ rfl) rfl ?_
      refine go_ic_lt 105 dL_gives_29 rfl (fun h29 => ?_) (fun h29 => ?_)
      · -- an act
        have hlo : code k ≤ -10 := by
          by_cases e : -10 < code k
          · rw [zwm_hi e] at h29; omega
          · omega
        have zl := zwm_lo hlo
        refine go_iload dL_gives_105 rfl ?_
        refine go_bipush dL_gives_107 (inR_of _ rfl) rfl ?_
        refine go_ic_ne 149 dL_gives_109 rfl (fun h109 => ?_) (fun h109 => ?_)
        · have h43 : code k ≠ -43 := fun e => h109 (zl.2.mpr e)
          have h3 := w3 hlo h43
          rw [if_neg (by omega), if_neg h43] at hdep
          obtain ⟨vb, va, ts, hts⟩ : ∃ vb va ts, zrun (znm n0 n1 n2 n3) code k = vb :: va :: ts := by
            cases hz : zrun (znm n0 n1 n2 n3) code k with
            | nil => rw [hz] at hl; simp at hl; omega
            | cons vb z => cases z with
              | nil => rw [hz] at hl; simp at hl; omega
              | cons va ts => exact ⟨vb, va, ts, rfl⟩
          rw [hts] at hZ hl hrun
          simp at hl
          obtain ⟨z1, z2, z3⟩ := hZ
          simp at z1
          refine go_iload dL_gives_149 rfl ?_
          refine go_iconst dL_gives_151 (inR_of _ rfl) ?_
          refine go_ic_ge 157 dL_gives_152 rfl (fun h152 => ?_) (fun h152 => absurd (by omega) h152)
          refine go_aload_n (i := 0) dL_gives_157 rfl rfl trivial ?_
          refine go_getf dL_gives_158 flL26 (by assumption) rfl ?_
          refine go_iload dL_gives_161 rfl ?_
          refine go_iconst dL_gives_163 (inR_of _ rfl) ?_
          refine go_isub dL_gives_164 ?_
          refine go_iload dL_gives_165 rfl ?_
          refine go_aload_n (i := 0) dL_gives_167 rfl rfl trivial ?_
          refine go_getf dL_gives_168 flL26 (by assumption) rfl ?_
          refine go_iload dL_gives_171 rfl ?_
          refine go_iconst dL_gives_173 (inR_of _ rfl) ?_
          refine go_isub dL_gives_174 ?_
          refine go_iald' (zdep code k - 2) va dL_gives_175 q2 (by (try simp (discharger := (unfold inR; omega)) only [w32_id]) <;> omega) (by omega) (by rw [← z2]; congr 1; omega) ?_
          refine go_aload_n (i := 0) dL_gives_176 rfl rfl trivial ?_
          refine go_getf dL_gives_177 flL26 (by assumption) rfl ?_
          refine go_iload dL_gives_180 rfl ?_
          refine go_iconst dL_gives_182 (inR_of _ rfl) ?_
          refine go_isub dL_gives_183 ?_
          refine go_iald' (zdep code k - 1) vb dL_gives_184 q2 (by (try simp (discharger := (unfold inR; omega)) only [w32_id]) <;> omega) (by omega) (by rw [← z1]; congr 1; omega) ?_
          refine go_SP dL_gives_185 vkL29 (ct_workedL _ _ _) rfl (by omega) rfl (fun _ => Nat.le_of_ble_eq_true rfl) ?_
          refine go_iast' (zdep code k - 2) dL_gives_188 q2 (by (try simp (discharger := (unfold inR; omega)) only [w32_id]) <;> omega) (by omega) ?_
          refine go_inc5 (((zdep code (k + 1) : Nat) : Int)) dL_gives_189 (Nat.le_of_ble_eq_true rfl) trivial (by (try simp (discharger := (unfold inR; omega)) only [w32_id]) <;> omega) ?_
          refine tl _ _ _ _ (hL2.st hst) ?_ trivial
          rw [hrun]
          unfold zst
          rw [if_neg (by omega), if_neg (by omega), if_neg h43]
          refine ⟨?_, z3.up (by omega)⟩
          rw [← zwk_two (hop hlo) h43, show zdep code k - 2 = ts.length by omega, va_up_self]
        · have h43 : code k = -43 := zl.2.mp (by omega)
          have h3 := w2 h43
          rw [if_neg (by omega), if_pos h43] at hdep
          obtain ⟨va, ts, hts⟩ : ∃ va ts, zrun (znm n0 n1 n2 n3) code k = va :: ts := by
            cases hz : zrun (znm n0 n1 n2 n3) code k with
            | nil => rw [hz] at hl; simp at hl; omega
            | cons va ts => exact ⟨va, ts, rfl⟩
          rw [hts] at hZ hl hrun
          simp at hl
          obtain ⟨z1, z3⟩ := hZ
          refine go_iload dL_gives_112 rfl ?_
          refine go_iconst dL_gives_114 (inR_of _ rfl) ?_
          refine go_ic_ge 120 dL_gives_115 rfl (fun h115 => ?_) (fun h115 => absurd (by omega) h115)
          refine go_aload_n (i := 0) dL_gives_120 rfl rfl trivial ?_
          refine go_getf dL_gives_121 flL26 (by assumption) rfl ?_
          refine go_iload dL_gives_124 rfl ?_
          refine go_iconst dL_gives_126 (inR_of _ rfl) ?_
          refine go_isub dL_gives_127 ?_
          refine go_aload_n (i := 0) dL_gives_128 rfl rfl trivial ?_
          refine go_getf dL_gives_129 flL26 (by assumption) rfl ?_
          refine go_iload dL_gives_132 rfl ?_
          refine go_iconst dL_gives_134 (inR_of _ rfl) ?_
          refine go_isub dL_gives_135 ?_
          refine go_iald' (zdep code k - 1) va dL_gives_136 q2 (by (try simp (discharger := (unfold inR; omega)) only [w32_id]) <;> omega) (by omega) (by rw [← z1]; congr 1; omega) ?_
          have done : ∀ x : Int, x = (if va = 0 then 1 else 0) → Go g yL_gives 1 0 0 145 [gR a, gI n0, gI n1, gI n2, gI n3, gI (zdep code k), gI (k : Int), gI (zwm (code k)), x8] [gI x, gI (w32 ((zdep code k : Int) - 1)), gR (a + 2)] (N, F1) (CS N F (gI (zwork (znm n0 n1 n2 n3) code n))) := by
            intro x hx
            refine go_iast' (zdep code k - 1) dL_gives_145 q2 (by (try simp (discharger := (unfold inR; omega)) only [w32_id]) <;> omega) (by omega) ?_
            refine go_goto 192 dL_gives_146 rfl ?_
            rw [← hdep]
            refine tl _ _ _ _ (hL2.st hst) ?_ trivial
            rw [hrun]
            unfold zst
            rw [if_neg (by omega), if_neg (by omega), if_pos h43]
            refine ⟨?_, z3.up (by omega)⟩
            rw [show zdep code (k + 1) - 1 = ts.length by omega, va_up_self]; exact hx
          refine go_if_ne 144 dL_gives_137 rfl (fun h137 => ?_) (fun h137 => ?_)
          · refine go_iconst dL_gives_144 (inR_of _ rfl) ?_
            exact done 0 (by rw [if_neg h137])
          · refine go_iconst dL_gives_140 (inR_of _ rfl) ?_
            refine go_goto 145 dL_gives_141 rfl ?_
            exact done 1 (by rw [if_pos (by omega)])
      · have hhi : -10 < code k := by
          by_cases e : -10 < code k
          · exact e
          · have := zwm_lo (c := code k) (by omega); omega
        rw [zwm_hi hhi] at h29 ⊢
        rw [if_pos hhi] at hdep
        refine go_iload dL_gives_32 rfl ?_
        refine go_aload_n (i := 0) dL_gives_34 rfl rfl trivial ?_
        refine go_getf dL_gives_35 flL26 (by assumption) rfl ?_
        refine go_alenI dL_gives_38 (by assumption) ?_
        refine go_ic_lt 44 dL_gives_39 rfl (fun h39 => ?_) (fun h39 => absurd (by omega) h39)
        have put : ∀ x : Int, x = (if 0 ≤ code k then code k else znm n0 n1 n2 n3 (-1 - code k).toNat) → ∀ x8 : GV, Go g yL_gives 1 0 0 98 [gR a, gI n0, gI n1, gI n2, gI n3, gI (zdep code k), gI (k : Int), gI (code k), x8] [gI x, gI (zdep code k), gR (a + 2)] (N, F1) (CS N F (gI (zwork (znm n0 n1 n2 n3) code n))) := by
          intro x hx x8
          refine go_iast' (zdep code k) dL_gives_98 q2 rfl (by omega) ?_
          refine go_inc5 (((zdep code (k + 1) : Nat) : Int)) dL_gives_99 (Nat.le_of_ble_eq_true rfl) trivial (by (try simp (discharger := (unfold inR; omega)) only [w32_id]) <;> omega) ?_
          refine go_goto 192 dL_gives_102 rfl ?_
          refine tl _ _ _ _ (hL2.st hst) ?_ trivial
          rw [hrun]
          unfold zst
          by_cases c0 : 0 ≤ code k
          · rw [if_pos c0]
            refine ⟨?_, hZ.up (by omega)⟩
            rw [hl, va_up_self, hx, if_pos c0]
          · rw [if_neg c0, if_pos hhi]
            refine ⟨?_, hZ.up (by omega)⟩
            rw [hl, va_up_self, hx, if_neg c0]
        have named : ∀ x : Int, (code k < 0 → x = znm n0 n1 n2 n3 (-1 - code k).toNat) → Go g yL_gives 1 0 0 78 [gR a, gI n0, gI n1, gI n2, gI n3, gI (zdep code k), gI (k : Int), gI (code k), x8] [gI x] (N, F1) (CS N F (gI (zwork (znm n0 n1 n2 n3) code n))) := by
          intro x hx
          refine go_is8 dL_gives_78 (Nat.le_of_ble_eq_true rfl) trivial ?_
          refine go_aload_n (i := 0) dL_gives_80 rfl rfl trivial ?_
          refine go_getf dL_gives_81 flL26 (by assumption) rfl ?_
          refine go_iload dL_gives_84 rfl ?_
          refine go_iload dL_gives_86 rfl ?_
          refine go_if_lt 96 dL_gives_88 rfl (fun h88 => ?_) (fun h88 => ?_)
          · refine go_iload dL_gives_96 rfl ?_
            exact put x (by rw [if_neg (by omega)]; exact hx h88) _
          · refine go_iload dL_gives_91 rfl ?_
            refine go_goto 98 dL_gives_93 rfl ?_
            exact put _ (by rw [if_pos (by omega)]) _
        refine go_iload dL_gives_44 rfl ?_
        refine go_iconst dL_gives_46 (inR_of _ rfl) ?_
        refine go_ic_ne 54 dL_gives_47 rfl (fun h47 => ?_) (fun h47 => ?_)
        · refine go_iload dL_gives_54 rfl ?_
          refine go_bipush dL_gives_56 (inR_of _ rfl) rfl ?_
          refine go_ic_ne 65 dL_gives_58 rfl (fun h58 => ?_) (fun h58 => ?_)
          · refine go_iload dL_gives_65 rfl ?_
            refine go_bipush dL_gives_67 (inR_of _ rfl) rfl ?_
            refine go_ic_ne 76 dL_gives_69 rfl (fun h69 => ?_) (fun h69 => ?_)
            · refine go_iload dL_gives_76 rfl ?_
              exact named n3 (fun hneg => by unfold znm; have := w1 hneg hhi; rw [if_neg (by omega), if_neg (by omega), if_neg (by omega)])
            · refine go_iload_n (i := 3) dL_gives_72 rfl rfl ?_
              refine go_goto 78 dL_gives_73 rfl ?_
              exact named n2 (fun hneg => by unfold znm; rw [if_neg (by omega), if_neg (by omega), if_pos (by omega)])
          · refine go_iload_n (i := 2) dL_gives_61 rfl rfl ?_
            refine go_goto 78 dL_gives_62 rfl ?_
            exact named n1 (fun hneg => by unfold znm; rw [if_neg (by omega), if_pos (by omega)])
        · refine go_iload_n (i := 1) dL_gives_50 rfl rfl ?_
          refine go_goto 78 dL_gives_51 rfl ?_
          exact named n0 (fun hneg => by unfold znm; rw [if_pos (by omega)])
  refine CT.of' (L0 := [gR a, gI n0, gI n1, gI n2, gI n3, gU, gU, gU, gU]) plL (Nat.le_of_ble_eq_true rfl) rfl ?_
  refine go_iconst dL_gives_0 (inR_of _ rfl) ?_
  refine go_is5 dL_gives_1 (Nat.le_of_ble_eq_true rfl) trivial ?_
  refine go_iconst dL_gives_3 (inR_of _ rfl) ?_
  refine go_is6 dL_gives_4 (Nat.le_of_ble_eq_true rfl) trivial ?_
  exact loop n 0 (by omega) F f gU gU ⟨h0, h1, h2, FK.rf⟩ trivial trivial
end CLAW
