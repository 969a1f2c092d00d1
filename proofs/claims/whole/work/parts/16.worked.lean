/-! ===== the model works a law out ===== -/
section WORKED
variable {g : GX} {N r : Nat} {F : Nat → GC} {m : Nat → Nat → Int}
theorem ZS.hd {f : Nat → Int} {l : List Int} {n : Nat} (h : ZS f l) (hl : l.length = n + 1) : l.headD 0 = f n := by
  cases l with
  | nil => simp at hl
  | cons a t => simp at hl; rw [← hl]; exact h.1.symm
theorem qM_worked (hM : MOD F r m) (t n b : Nat) (ht : t < 14) (hb : b ≤ 4) (hlen : m 0 (82 + t) = (n : Int)) (hn : n ≤ 100) (hwf : zwf (fun k => m 0 (110 + 100 * t + k)) n b) :
    CT g yM_worked 2 0 0 [gR r, gI t] (N, F) (MP N r F m (gI (zwork (m 5) (fun k => m 0 (110 + 100 * t + k)) n)) (m 0) [4]) := by
  generalize hcode : (fun k => m 0 (110 + 100 * t + k)) = code at hwf ⊢
  have hc : ∀ k, m 0 (110 + 100 * t + k) = code k := fun k => by rw [← hcode]
  have tail : ∀ (k : Nat), (∀ (F1 : Nat → GC) (m1 : Nat → Nat → Int) (x4 : GV), MOD F1 r m1 → FR r F F1 → SB [0, 4] m m1 → m1 0 = m 0 → ZS (m1 4) (zrun (m 5) code (k + 1)) → Go g yM_worked 2 0 0 4 [gR r, gI t, gI (zdep code (k + 1)), gI ((k + 1 : Nat) : Int), x4] [] (N, F1) (MP N r F m (gI (zwork (m 5) code n)) (m 0) [4])) →
      k < n → ∀ (F1 : Nat → GC) (m1 : Nat → Nat → Int) (x4 : GV), MOD F1 r m1 → FR r F F1 → SB [0, 4] m m1 → m1 0 = m 0 → ZS (m1 4) (zrun (m 5) code (k + 1)) → Go g yM_worked 2 0 0 150 [gR r, gI t, gI (zdep code (k + 1)), gI k, x4] [] (N, F1) (MP N r F m (gI (zwork (m 5) code n)) (m 0) [4]) := by
    intro k ih hk F1 m1 x4 hM1 hF1 hS1 e0 hZ
    refine go_inc3 (((k + 1 : Nat) : Int)) dM_worked_150 (Nat.le_of_ble_eq_true rfl) trivial (by (try simp (discharger := (unfold inR; omega)) only [w32_id]) <;> omega) ?_
    refine go_goto 4 dM_worked_153 rfl ?_
    exact ih F1 m1 x4 hM1 hF1 hS1 e0 hZ
  have loop : ∀ (j k : Nat), k + j = n → ∀ (F1 : Nat → GC) (m1 : Nat → Nat → Int) (x4 : GV), MOD F1 r m1 → FR r F F1 → SB [0, 4] m m1 → m1 0 = m 0 → ZS (m1 4) (zrun (m 5) code k) → Go g yM_worked 2 0 0 4 [gR r, gI t, gI (zdep code k), gI k, x4] [] (N, F1) (MP N r F m (gI (zwork (m 5) code n)) (m 0) [4]) := by
    intro j
    induction j with
    | zero =>
      intro k hk F1 m1 x4 hM1 hF1 hS1 e0 hZ
      have ho := hM1.1
      have hkn : k = n := by omega
      refine go_iload_n (i := 3) dM_worked_4 rfl rfl ?_
      refine go_aload_n (i := 0) dM_worked_5 rfl rfl trivial ?_
      refine go_getf dM_worked_6 flM7 (by assumption) rfl ?_
      refine go_bipush dM_worked_9 (inR_of _ rfl) rfl ?_
      refine go_iload_n (i := 1) dM_worked_11 rfl rfl ?_
      refine go_iadd dM_worked_12 ?_
      refine go_iald' (82 + t) ((n : Nat) : Int) dM_worked_13 hM1.a0 (by (try simp (discharger := (unfold inR; omega)) only [w32_id]) <;> omega) (by omega) (by rw [e0]; exact hlen) ?_
      refine go_ic_ge 156 dM_worked_14 rfl (fun h14 => ?_) (fun h14 => absurd (by omega) h14)
      refine go_aload_n (i := 0) dM_worked_156 rfl rfl trivial ?_
      refine go_getf dM_worked_157 flM22 (by assumption) rfl ?_
      refine go_iconst dM_worked_160 (inR_of _ rfl) ?_
      refine go_iald' 0 _ dM_worked_161 hM1.a4 rfl (by omega) rfl ?_
      refine go_iret dM_worked_162 rfl rfl ?_
      subst hkn
      have h1 := hwf.1
      have h2 := zrun_len (nm := m 5) hwf k (Nat.le_refl k)
      exact ⟨by unfold zwork; rw [hZ.hd (n := 0) (by omega)], F1, m1, rfl, hM1, hF1, e0, hS1⟩
    | succ j ih =>
      intro k hk F1 m1 x4 hM1 hF1 hS1 e0 hZ
      have ho := hM1.1
      have hkn : k < n := by omega
      have hd := zdep_le code k
      obtain ⟨w0, w1, w2, w3⟩ := hwf.2 k hkn
      have hl := zrun_len (nm := m 5) hwf k (by omega)
      have e5 : m1 5 = m 5 := hS1 5 (by decide)
      have tl := tail k (ih (k + 1) (by omega)) hkn
      have hrun : zrun (m 5) code (k + 1) = zst (m 5) (code k) (zrun (m 5) code k) := rfl
      have hdep : zdep code (k + 1) = if -10 < code k then zdep code k + 1 else if code k = -43 then zdep code k else zdep code k - 1 := rfl
      refine go_iload_n (i := 3) dM_worked_4 rfl rfl ?_
      refine go_aload_n (i := 0) dM_worked_5 rfl rfl trivial ?_
      refine go_getf dM_worked_6 flM7 (by assumption) rfl ?_
      refine go_bipush dM_worked_9 (inR_of _ rfl) rfl ?_
      refine go_iload_n (i := 1) dM_worked_11 rfl rfl ?_
      refine go_iadd dM_worked_12 ?_
      refine go_iald' (82 + t) ((n : Nat) : Int) dM_worked_13 hM1.a0 (by (try simp (discharger := (unfold inR; omega)) only [w32_id]) <;> omega) (by omega) (by rw [e0]; exact hlen) ?_
      refine go_ic_ge 156 dM_worked_14 rfl (fun h14 => absurd h14 (by omega)) (fun h14 => ?_)
      refine go_aload_n (i := 0) dM_worked_17 rfl rfl trivial ?_
      refine go_getf dM_worked_18 flM7 (by assumption) rfl ?_
      refine go_bipush dM_worked_21 (inR_of _ rfl) rfl ?_
      refine go_bipush dM_worked_23 (inR_of _ rfl) rfl ?_
      refine go_iload_n (i := 1) dM_worked_25 rfl rfl ?_
      refine go_imul dM_worked_26 ?_
      refine go_iadd dM_worked_27 ?_
      refine go_iload_n (i := 3) dM_worked_28 rfl rfl ?_
      refine go_iadd dM_worked_29 ?_
      refine go_iald' (110 + 100 * t + k) (code k) dM_worked_30 hM1.a0 (by (try simp (discharger := (unfold inR; omega)) only [w32_id]) <;> omega) (by omega) (by rw [e0]; exact hc k) ?_
      refine go_is4 dM_worked_31 (Nat.le_of_ble_eq_true rfl) trivial ?_
      refine go_iload dM_worked_33 rfl ?_
      refine go_if_lt 52 dM_worked_35 rfl (fun h35 => ?_) (fun h35 => ?_)
      · refine go_iload dM_worked_52 rfl ?_
        refine go_bipush dM_worked_54 (inR_of _ rfl) rfl ?_
        refine go_ic_le 80 dM_worked_56 rfl (fun h56 => ?_) (fun h56 => ?_)
        · refine go_iload dM_worked_80 rfl ?_
          refine go_bipush dM_worked_82 (inR_of _ rfl) rfl ?_
          refine go_ic_ne 117 dM_worked_84 rfl (fun h84 => ?_) (fun h84 => ?_)
          · have h3 := w3 (by omega) h84
            rw [if_neg (by omega), if_neg h84] at hdep
            obtain ⟨bb, aa, ts, hts⟩ : ∃ bb aa ts, zrun (m 5) code k = bb :: aa :: ts := by
              cases hz : zrun (m 5) code k with
              | nil => rw [hz] at hl; simp at hl; omega
              | cons bb z => cases z with
                | nil => rw [hz] at hl; simp at hl; omega
                | cons aa ts => exact ⟨bb, aa, ts, rfl⟩
            rw [hts] at hZ hl hrun
            simp at hl
            obtain ⟨z1, z2, z3⟩ := hZ
            simp at z1
            refine go_inc2 (((zdep code (k + 1) : Nat) : Int)) dM_worked_117 (Nat.le_of_ble_eq_true rfl) trivial (by (try simp (discharger := (unfold inR; omega)) only [w32_id]) <;> omega) ?_
            refine go_aload_n (i := 0) dM_worked_120 rfl rfl trivial ?_
            refine go_getf dM_worked_121 flM22 (by assumption) rfl ?_
            refine go_iload_n (i := 2) dM_worked_124 rfl rfl ?_
            refine go_iconst dM_worked_125 (inR_of _ rfl) ?_
            refine go_isub dM_worked_126 ?_
            refine go_bipush dM_worked_127 (inR_of _ rfl) rfl ?_
            refine go_iload dM_worked_129 rfl ?_
            refine go_isub dM_worked_131 ?_
            refine go_top (-10 - code k) (by (try simp (discharger := (unfold inR; omega)) only [w32_id]) <;> omega) ?_
            refine go_aload_n (i := 0) dM_worked_132 rfl rfl trivial ?_
            refine go_getf dM_worked_133 flM22 (by assumption) rfl ?_
            refine go_iload_n (i := 2) dM_worked_136 rfl rfl ?_
            refine go_iconst dM_worked_137 (inR_of _ rfl) ?_
            refine go_isub dM_worked_138 ?_
            refine go_iald' (zdep code (k + 1) - 1) aa dM_worked_139 hM1.a4 (by (try simp (discharger := (unfold inR; omega)) only [w32_id]) <;> omega) (by omega) (by rw [← z2]; congr 1; omega) ?_
            refine go_aload_n (i := 0) dM_worked_140 rfl rfl trivial ?_
            refine go_getf dM_worked_141 flM22 (by assumption) rfl ?_
            refine go_iload_n (i := 2) dM_worked_144 rfl rfl ?_
            refine go_iald' (zdep code (k + 1)) bb dM_worked_145 hM1.a4 rfl (by omega) (by rw [← z1]; congr 1; omega) ?_
            refine go_SP dM_worked_146 vkM75 (ct_two (-10 - code k) aa bb) rfl (by omega) rfl (fun _ => Nat.le_of_ble_eq_true rfl) ?_
            refine go_iast' (zdep code (k + 1) - 1) dM_worked_149 hM1.a4 (by (try simp (discharger := (unfold inR; omega)) only [w32_id]) <;> omega) (by omega) ?_
            refine tl _ _ _ (hM1.p4 _) (hF1.put (by omega) (by omega)) (hS1.put (by simp)) (by rw [va_up_ne _ _ (by omega)]; exact e0) ?_
            rw [hrun, va_up_self]
            unfold zst
            rw [if_neg (by omega), if_neg (by omega), if_neg h84]
            have hi : zdep code (k + 1) - 1 = ts.length := by omega
            exact ⟨by rw [hi, va_up_self], z3.up (by omega)⟩
          · have h2 := w2 h84
            rw [if_neg (by omega), if_pos h84] at hdep
            obtain ⟨aa, ts, hts⟩ : ∃ aa ts, zrun (m 5) code k = aa :: ts := by
              cases hz : zrun (m 5) code k with
              | nil => rw [hz] at hl; simp at hl; omega
              | cons aa ts => exact ⟨aa, ts, rfl⟩
            rw [hts] at hZ hl hrun
            simp at hl
            obtain ⟨z1, z3⟩ := hZ
            have hi : zdep code k - 1 = ts.length := by omega
            have t110 : ∀ x : Int, x = 0 ∨ x = 1 → (if aa = 0 then (1 : Int) else 0) = x → Go g yM_worked 2 0 0 110 [gR r, gI t, gI (zdep code k), gI k, gI (code k)] [gI x, gI ((zdep code k - 1 : Nat) : Int), gR (r + 5)] (N, F1) (MP N r F m (gI (zwork (m 5) code n)) (m 0) [4]) := by
              intro x hx ex
              refine go_SP dM_worked_110 vkM71 (ct_truth x) rfl (by omega) rfl (fun _ => Nat.le_of_ble_eq_true rfl) ?_
              refine go_iast' (zdep code k - 1) dM_worked_113 hM1.a4 rfl (by omega) ?_
              refine go_goto 150 dM_worked_114 rfl ?_
              rw [← hdep]
              refine tl _ _ _ (hM1.p4 _) (hF1.put (by omega) (by omega)) (hS1.put (by simp)) (by rw [va_up_ne _ _ (by omega)]; exact e0) ?_
              rw [hrun, va_up_self]
              unfold zst
              rw [if_neg (by omega), if_neg (by omega), if_pos h84]
              refine ⟨?_, z3.up (by omega)⟩
              rw [hdep, hi, va_up_self]
              show ztruth x = if aa = 0 then 1 else 0
              rw [ex]
              unfold ztruth
              grind
            refine go_aload_n (i := 0) dM_worked_87 rfl rfl trivial ?_
            refine go_getf dM_worked_88 flM22 (by assumption) rfl ?_
            refine go_iload_n (i := 2) dM_worked_91 rfl rfl ?_
            refine go_iconst dM_worked_92 (inR_of _ rfl) ?_
            refine go_isub dM_worked_93 ?_
            refine go_top (((zdep code k - 1 : Nat) : Int)) (by (try simp (discharger := (unfold inR; omega)) only [w32_id]) <;> omega) ?_
            refine go_aload_n (i := 0) dM_worked_94 rfl rfl trivial ?_
            refine go_getf dM_worked_95 flM22 (by assumption) rfl ?_
            refine go_iload_n (i := 2) dM_worked_98 rfl rfl ?_
            refine go_iconst dM_worked_99 (inR_of _ rfl) ?_
            refine go_isub dM_worked_100 ?_
            refine go_iald' (zdep code k - 1) aa dM_worked_101 hM1.a4 (by (try simp (discharger := (unfold inR; omega)) only [w32_id]) <;> omega) (by omega) (by rw [← z1, hi]) ?_
            refine go_if_ne 109 dM_worked_102 rfl (fun h102 => ?_) (fun h102 => ?_)
            · refine go_iconst dM_worked_109 (inR_of _ rfl) ?_
              exact t110 0 (by simp) (by grind)
            · refine go_iconst dM_worked_105 (inR_of _ rfl) ?_
              refine go_goto 110 dM_worked_106 rfl ?_
              exact t110 1 (by simp) (by grind)
        · rw [if_pos (by omega)] at hdep
          have h1 := w1 (by omega) (by omega)
          refine go_aload_n (i := 0) dM_worked_59 rfl rfl trivial ?_
          refine go_getf dM_worked_60 flM22 (by assumption) rfl ?_
          refine go_iload_n (i := 2) dM_worked_63 rfl rfl ?_
          refine go_aload_n (i := 0) dM_worked_64 rfl rfl trivial ?_
          refine go_getf dM_worked_65 flM25 (by assumption) rfl ?_
          refine go_iconst dM_worked_68 (inR_of _ rfl) ?_
          refine go_iload dM_worked_69 rfl ?_
          refine go_isub dM_worked_71 ?_
          refine go_iald' ((-1 - code k).toNat) _ dM_worked_72 hM1.a5 (by (try simp (discharger := (unfold inR; omega)) only [w32_id]) <;> omega) (by omega) rfl ?_
          refine go_iast' (zdep code k) dM_worked_73 hM1.a4 rfl (by omega) ?_
          refine go_inc2 (((zdep code (k + 1) : Nat) : Int)) dM_worked_74 (Nat.le_of_ble_eq_true rfl) trivial (by (try simp (discharger := (unfold inR; omega)) only [w32_id]) <;> omega) ?_
          refine go_goto 150 dM_worked_77 rfl ?_
          refine tl _ _ _ (hM1.p4 _) (hF1.put (by omega) (by omega)) (hS1.put (by simp)) (by rw [va_up_ne _ _ (by omega)]; exact e0) ?_
          rw [hrun, va_up_self]
          unfold zst
          rw [if_neg (by omega), if_pos (by omega)]
          exact ⟨by rw [hl, va_up_self, e5], hZ.up (by omega)⟩
      · rw [if_pos (by omega)] at hdep
        refine go_aload_n (i := 0) dM_worked_38 rfl rfl trivial ?_
        refine go_getf dM_worked_39 flM22 (by assumption) rfl ?_
        refine go_iload_n (i := 2) dM_worked_42 rfl rfl ?_
        refine go_iload dM_worked_43 rfl ?_
        refine go_iast' (zdep code k) dM_worked_45 hM1.a4 rfl (by omega) ?_
        refine go_inc2 (((zdep code (k + 1) : Nat) : Int)) dM_worked_46 (Nat.le_of_ble_eq_true rfl) trivial (by (try simp (discharger := (unfold inR; omega)) only [w32_id]) <;> omega) ?_
        refine go_goto 150 dM_worked_49 rfl ?_
        refine tl _ _ _ (hM1.p4 _) (hF1.put (by omega) (by omega)) (hS1.put (by simp)) (by rw [va_up_ne _ _ (by omega)]; exact e0) ?_
        rw [hrun, va_up_self]
        unfold zst
        rw [if_pos (by omega)]
        exact ⟨by rw [hl, va_up_self], hZ.up (by omega)⟩
  refine CT.of' (L0 := [gR r, gI t, gU, gU, gU]) plM (Nat.le_of_ble_eq_true rfl) rfl ?_
  refine go_iconst dM_worked_0 (inR_of _ rfl) ?_
  refine go_is2 dM_worked_1 (Nat.le_of_ble_eq_true rfl) trivial ?_
  refine go_iconst dM_worked_2 (inR_of _ rfl) ?_
  refine go_is3 dM_worked_3 (Nat.le_of_ble_eq_true rfl) trivial ?_
  exact loop n 0 (by omega) F m gU hM FR.rf SB.rf rfl trivial
end WORKED
