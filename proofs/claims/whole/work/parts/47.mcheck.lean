/-! ===== the model checks what waits ===== -/
theorem zW_cong {s s' : Nat → Int} (h : ∀ k : Nat, k < 64 → s' k = s k) (hw : zW s) : zW s' := by
  obtain ⟨w1, w2, w3, w4, w5⟩ := hw
  unfold zW
  rw [h 0 (by omega), h 1 (by omega), h 2 (by omega), h 3 (by omega), h 4 (by omega), h 5 (by omega), h 6 (by omega), h 7 (by omega)]
  refine ⟨w1, w2, w3, fun y hy => ?_, fun i hi => ?_⟩
  · rw [h _ (by omega)]; exact w4 y hy
  · rw [h _ (by omega), h _ (by omega), h _ (by omega), h _ (by omega), h _ (by omega)]; exact w5 i hi
theorem zdep_cong {code code' : Nat → Int} {n : Nat} (h : ∀ i, i < n → code' i = code i) : ∀ k, k ≤ n → zdep code' k = zdep code k
  | 0, _ => rfl
  | k + 1, hk => by
    have ih := zdep_cong h k (by omega)
    unfold zdep
    rw [h k (by omega), ih]
theorem zwf_cong {code code' : Nat → Int} {n b : Nat} (h : ∀ i, i < n → code' i = code i) (hw : zwf code n b) : zwf code' n b := by
  refine ⟨by rw [zdep_cong h n (by omega)]; exact hw.1, fun k hk => ?_⟩
  rw [zdep_cong h k (by omega), h k hk]
  exact hw.2 k hk
theorem zT_cong {s s' : Nat → Int} (h : ∀ k : Nat, k < 1510 → s' k = s k) (hT : zT s) : zT s' := by
  obtain ⟨t1, t2, t3, t4⟩ := hT
  unfold zT
  rw [h 64 (by omega)]
  refine ⟨t1, fun w hw => ?_, fun w hw h0 => ?_, fun t ht => ?_⟩
  · rw [h _ (by omega)]; exact t2 w hw
  · rw [h (65 + w) (by omega)] at h0 ⊢
    have := t2 w hw
    rw [h _ (by omega)]
    exact t3 w hw h0
  · have := t4 t ht
    rw [h (68 + t) (by omega), h (82 + t) (by omega), h (96 + t) (by omega)]
    exact ⟨this.1, this.2.1, this.2.2.1, zwf_cong (fun i hi => h _ (by omega)) this.2.2.2⟩
def ztog (s : Nat → Int) : Int := zsum (fun i => zk s i 4) (zmany s)
/-- d days against the numbers that wait -/
def zfu (W : Nat → Int) (M : Nat) : Nat → (Nat → Int) → Nat → Int
  | 0, _, c => if c = M then 0 else 1 + c
  | d + 1, s, c => if c < M ∧ W c = zday s 3 then (if c + 1 < M ∧ W (c + 1) = ztog (zday s) then zfu W M d (zday s) (c + 2) else 1 + ((c + 1 : Nat) : Int)) else 1 + (c : Int)
section MCHECK
variable {g : GX} {N r : Nat} {F F1 F2 : Nat → GC} {m m1 m2 : Nat → Nat → Int}
def FU (N r : Nat) (F : Nat → GC) (m : Nat → Nat → Int) (v : Int) : GV → GM → Prop := fun rr M' => rr = gI v ∧ ∃ (F2 : Nat → GC) (m2 : Nat → Nat → Int), M' = (N, F2) ∧ MOD F2 r m2 ∧ FR r F F2 ∧ SB [0, 4, 5] m m2 ∧ ∀ k : Nat, 64 ≤ k → m2 0 k = m 0 k
theorem qM_firstUnlike (hM : MOD F r m) (hw : zW (m 0)) (hT : zT (m 0)) (hd : m 0 6 ≤ 9999) {n : Int} (hn0 : 1 ≤ n) (hn1 : n ≤ 30) {M : Nat} (hM60 : M ≤ 60) : CT g yM_firstUnlike 10 0 0 [gR r, gI n, gI (M : Int)] (N, F) (FU N r F m (zfu (m 3) M (z_left (m 0) n) (m 0) 0)) := by
  have ho := hM.1
  have h6 := hw.2.2.1
  have hL : (if n < 9999 - m 0 6 then n else 9999 - m 0 6) = ((z_left (m 0) n : Nat) : Int) := by unfold z_left; split <;> omega
  have hL30 : z_left (m 0) n ≤ 30 := by
    have : ((z_left (m 0) n : Nat) : Int) ≤ 30 := by rw [← hL]; split <;> omega
    omega
  generalize z_left (m 0) n = L at hL hL30 ⊢
  have eD : ∀ d : Nat, d ≤ 30 → zW (zdays (m 0) d) ∧ zT (zdays (m 0) d) ∧ zdays (m 0) d 6 = m 0 6 + d ∧ ∀ j : Nat, 64 ≤ j → zdays (m 0) d j = m 0 j := by
    intro d hd2
    obtain ⟨W, kk, l⟩ := zdays_W hw d (by omega)
    exact ⟨W, zT_keep hT kk.2.2.2.2.2, l, kk.2.2.2.2.2⟩
  generalize hv : zfu (m 3) M L (m 0) 0 = v
  have t111 : ∀ (d c : Nat) (good : Int) (F1 : Nat → GC) (m1 : Nat → Nat → Int), d ≤ 30 → c ≤ 61 → MOD F1 r m1 → FR r F F1 → SB [0, 4, 5] m m1 → m1 0 = zdays (m 0) d → v = (if ¬ good = 0 ∧ c = M then 0 else 1 + (c : Int)) → ∀ x6 : GV, Go g yM_firstUnlike 10 0 0 111 [gR r, gI n, gI (M : Int), gI (c : Int), gI good, gI (L : Int), x6] [] (N, F1) (FU N r F m v) := by
    intro d c good F1 m1 hd30 hc hM1 hF1 hS1 e1 hvv x6
    have fin : ∀ x : Int, x = v → FU N r F m v (gI x) (N, F1) := fun x hx => ⟨by rw [hx], F1, m1, rfl, hM1, hF1, hS1, fun k hk => by rw [e1]; exact (eD d hd30).2.2.2 k hk⟩
    refine go_iload dM_firstUnlike_111 rfl ?_
    refine go_if_eq 125 dM_firstUnlike_113 rfl (fun h113 => ?_) (fun h113 => ?_)
    · refine go_iconst dM_firstUnlike_125 (inR_of _ rfl) ?_
      refine go_iload_n (i := 3) dM_firstUnlike_126 rfl rfl ?_
      refine go_iadd dM_firstUnlike_127 ?_
      refine go_top (1 + (c : Int)) (by (try simp (discharger := (unfold inR; omega)) only [w32_id]) <;> omega) ?_
      refine go_iret dM_firstUnlike_128 rfl rfl ?_
      exact fin _ (by rw [hvv, if_neg (fun h => h.1 h113)])
    · refine go_iload_n (i := 3) dM_firstUnlike_116 rfl rfl ?_
      refine go_iload_n (i := 2) dM_firstUnlike_117 rfl rfl ?_
      refine go_ic_ne 125 dM_firstUnlike_118 rfl (fun h118 => ?_) (fun h118 => ?_)
      · refine go_iconst dM_firstUnlike_125 (inR_of _ rfl) ?_
        refine go_iload_n (i := 3) dM_firstUnlike_126 rfl rfl ?_
        refine go_iadd dM_firstUnlike_127 ?_
        refine go_top (1 + (c : Int)) (by (try simp (discharger := (unfold inR; omega)) only [w32_id]) <;> omega) ?_
        refine go_iret dM_firstUnlike_128 rfl rfl ?_
        exact fin _ (by rw [hvv, if_neg (fun h => h118 (by rw [h.2]))])
      · refine go_iconst dM_firstUnlike_121 (inR_of _ rfl) ?_
        refine go_goto 128 dM_firstUnlike_122 rfl ?_
        refine go_iret dM_firstUnlike_128 rfl rfl ?_
        exact fin _ (by rw [hvv, if_pos ⟨h113, by omega⟩])
  have stop : ∀ (d c : Nat) (F1 : Nat → GC) (m1 : Nat → Nat → Int), d ≤ 30 → c ≤ 61 → MOD F1 r m1 → FR r F F1 → SB [0, 4, 5] m m1 → m1 0 = zdays (m 0) d → v = 1 + (c : Int) → Go g yM_firstUnlike 10 0 0 15 [gR r, gI n, gI (M : Int), gI (c : Int), gI 0, gI (L : Int), gI (d : Int)] [] (N, F1) (FU N r F m v) := by
    intro d c F1 m1 hd30 hc hM1 hF1 hS1 e1 hvv
    refine go_iload dM_firstUnlike_15 rfl ?_
    refine go_iload dM_firstUnlike_17 rfl ?_
    refine go_ic_ge 111 dM_firstUnlike_19 rfl (fun h19 => ?_) (fun h19 => ?_)
    · exact t111 d c 0 F1 m1 hd30 hc hM1 hF1 hS1 e1 (by rw [if_neg (fun h => h.1 rfl)]; exact hvv) _
    · refine go_iload dM_firstUnlike_22 rfl ?_
      refine go_if_eq 111 dM_firstUnlike_24 rfl (fun h24 => ?_) (fun h24 => absurd rfl h24)
      exact t111 d c 0 F1 m1 hd30 hc hM1 hF1 hS1 e1 (by rw [if_neg (fun h => h.1 rfl)]; exact hvv) _
  have loop : ∀ (j d : Nat), d + j = L → ∀ (c : Nat) (F1 : Nat → GC) (m1 : Nat → Nat → Int), c ≤ M → MOD F1 r m1 → FR r F F1 → SB [0, 4, 5] m m1 → m1 0 = zdays (m 0) d → v = zfu (m 3) M j (zdays (m 0) d) c → Go g yM_firstUnlike 10 0 0 15 [gR r, gI n, gI (M : Int), gI (c : Int), gI 1, gI (L : Int), gI (d : Int)] [] (N, F1) (FU N r F m v) := by
    intro j
    induction j with
    | zero =>
      intro d hj c F1 m1 hc hM1 hF1 hS1 e1 hvv
      have hvv : v = if c = M then 0 else 1 + (c : Int) := hvv
      refine go_iload dM_firstUnlike_15 rfl ?_
      refine go_iload dM_firstUnlike_17 rfl ?_
      refine go_ic_ge 111 dM_firstUnlike_19 rfl (fun h19 => ?_) (fun h19 => absurd (by omega) h19)
      refine t111 d c 1 F1 m1 (by omega) (by omega) hM1 hF1 hS1 e1 ?_ _
      rw [hvv]
      by_cases h : c = M
      · rw [if_pos h, if_pos ⟨by omega, h⟩]
      · rw [if_neg h, if_neg (fun hh => h hh.2)]
    | succ j ih =>
      intro d hj c F1 m1 hc hM1 hF1 hS1 e1 hvv
      have hvv : v = if c < M ∧ m 3 c = zday (zdays (m 0) d) 3 then (if c + 1 < M ∧ m 3 (c + 1) = ztog (zday (zdays (m 0) d)) then zfu (m 3) M j (zday (zdays (m 0) d)) (c + 2) else 1 + ((c + 1 : Nat) : Int)) else 1 + (c : Int) := hvv
      obtain ⟨W1, T1, D1, -⟩ := eD d (by omega)
      have ho1 := hM1.1
      refine go_iload dM_firstUnlike_15 rfl ?_
      refine go_iload dM_firstUnlike_17 rfl ?_
      refine go_ic_ge 111 dM_firstUnlike_19 rfl (fun h19 => absurd h19 (by omega)) (fun h19 => ?_)
      refine go_iload dM_firstUnlike_22 rfl ?_
      refine go_if_eq 111 dM_firstUnlike_24 rfl (fun h24 => absurd h24 (by omega)) (fun h24 => ?_)
      refine go_aload_n (i := 0) dM_firstUnlike_27 rfl rfl trivial ?_
      refine go_VX dM_firstUnlike_28 vkM177 (by assumption) (List.cons_ne_nil _ _) (qM_day hM1 (by rw [e1]; exact W1) (by rw [e1]; exact T1) (by rw [e1, D1]; omega)) rfl (by omega) (by omega) (by omega) rfl (fun _ => Nat.le_of_ble_eq_true rfl) ?_
      rintro _ _ ⟨rfl, F2, m2, rfl, hM2, hF2, e2, hS2⟩ -
      dsimp only [rp]
      have e2' : m2 0 = zdays (m 0) (d + 1) := by rw [e2, e1]; rfl
      have eday : zdays (m 0) (d + 1) = zday (zdays (m 0) d) := rfl
      rw [← eday] at hvv
      have hS := hS1.tr hS2
      have hF12 := hF1.tr hF2
      have ho2 := hM2.1
      have a2 := hM2.a0
      have e3 : ∀ q : Nat, m2 3 q = m 3 q := fun q => by rw [hS 3 (by decide)]
      have hW2 : zW (m2 0) := by rw [e2']; exact (eD (d + 1) (by omega)).1
      have t95 : ∀ (good : Int) (x4 : GV), good = (if c + 1 < M ∧ m 3 (c + 1) = ztog (zdays (m 0) (d + 1)) then 1 else 0) → (c < M ∧ m 3 c = zdays (m 0) (d + 1) 3) → Go g yM_firstUnlike 10 0 0 95 [gR r, gI n, gI (M : Int), gI ((c + 1 : Nat) : Int), x4, gI (L : Int), gI (d : Int)] [gI good] (N, F2) (FU N r F m v) := by
        intro good x4 hg hcc
        rw [if_pos hcc] at hvv
        by_cases h2 : c + 1 < M ∧ m 3 (c + 1) = ztog (zdays (m 0) (d + 1))
        · rw [if_pos h2] at hg hvv
          subst hg
          refine go_is4 dM_firstUnlike_95 (Nat.le_of_ble_eq_true rfl) trivial ?_
          refine go_iload_n (i := 3) dM_firstUnlike_97 rfl rfl ?_
          refine go_iload dM_firstUnlike_98 rfl ?_
          refine go_SP dM_firstUnlike_100 vkM71 (ct_truth _) rfl (by omega) rfl (fun _ => Nat.le_of_ble_eq_true rfl) ?_
          rw [show ztruth 1 = 1 by rfl]
          refine go_iadd dM_firstUnlike_103 ?_
          refine go_top (((c + 2 : Nat) : Int)) (by (try simp (discharger := (unfold inR; omega)) only [w32_id]) <;> omega) ?_
          refine go_is3 dM_firstUnlike_104 (Nat.le_of_ble_eq_true rfl) trivial ?_
          refine go_inc6 (((d + 1 : Nat) : Int)) dM_firstUnlike_105 (Nat.le_of_ble_eq_true rfl) trivial (by (try simp (discharger := (unfold inR; omega)) only [w32_id]) <;> omega) ?_
          refine go_goto 15 dM_firstUnlike_108 rfl ?_
          exact ih (d + 1) (by omega) (c + 2) F2 m2 (by omega) hM2 hF12 hS e2' hvv
        · rw [if_neg h2] at hg hvv
          subst hg
          refine go_is4 dM_firstUnlike_95 (Nat.le_of_ble_eq_true rfl) trivial ?_
          refine go_iload_n (i := 3) dM_firstUnlike_97 rfl rfl ?_
          refine go_iload dM_firstUnlike_98 rfl ?_
          refine go_SP dM_firstUnlike_100 vkM71 (ct_truth _) rfl (by omega) rfl (fun _ => Nat.le_of_ble_eq_true rfl) ?_
          rw [show ztruth 0 = 0 by rfl]
          refine go_iadd dM_firstUnlike_103 ?_
          refine go_top (((c + 1 : Nat) : Int)) (by (try simp (discharger := (unfold inR; omega)) only [w32_id]) <;> omega) ?_
          refine go_is3 dM_firstUnlike_104 (Nat.le_of_ble_eq_true rfl) trivial ?_
          refine go_inc6 (((d + 1 : Nat) : Int)) dM_firstUnlike_105 (Nat.le_of_ble_eq_true rfl) trivial (by (try simp (discharger := (unfold inR; omega)) only [w32_id]) <;> omega) ?_
          refine go_goto 15 dM_firstUnlike_108 rfl ?_
          exact stop (d + 1) (c + 1) F2 m2 (by omega) (by omega) hM2 hF12 hS e2' hvv
      have t56no : ∀ x4 : GV, ¬ (c < M ∧ m 3 c = zdays (m 0) (d + 1) 3) → Go g yM_firstUnlike 10 0 0 56 [gR r, gI n, gI (M : Int), gI (c : Int), x4, gI (L : Int), gI (d : Int)] [gI 0] (N, F2) (FU N r F m v) := by
        intro x4 hcc
        rw [if_neg hcc] at hvv
        refine go_is4 dM_firstUnlike_56 (Nat.le_of_ble_eq_true rfl) trivial ?_
        refine go_iload_n (i := 3) dM_firstUnlike_58 rfl rfl ?_
        refine go_iload dM_firstUnlike_59 rfl ?_
        refine go_SP dM_firstUnlike_61 vkM71 (ct_truth _) rfl (by omega) rfl (fun _ => Nat.le_of_ble_eq_true rfl) ?_
        rw [show ztruth 0 = 0 by rfl]
        refine go_iadd dM_firstUnlike_64 ?_
        refine go_top ((c : Int)) (by (try simp (discharger := (unfold inR; omega)) only [w32_id]) <;> omega) ?_
        refine go_is3 dM_firstUnlike_65 (Nat.le_of_ble_eq_true rfl) trivial ?_
        refine go_iload dM_firstUnlike_66 rfl ?_
        refine go_if_eq 94 dM_firstUnlike_68 rfl (fun h68 => ?_) (fun h68 => absurd rfl h68)
        refine go_iconst dM_firstUnlike_94 (inR_of _ rfl) ?_
        refine go_is4 dM_firstUnlike_95 (Nat.le_of_ble_eq_true rfl) trivial ?_
        refine go_iload_n (i := 3) dM_firstUnlike_97 rfl rfl ?_
        refine go_iload dM_firstUnlike_98 rfl ?_
        refine go_SP dM_firstUnlike_100 vkM71 (ct_truth _) rfl (by omega) rfl (fun _ => Nat.le_of_ble_eq_true rfl) ?_
        rw [show ztruth 0 = 0 by rfl]
        refine go_iadd dM_firstUnlike_103 ?_
        refine go_top ((c : Int)) (by (try simp (discharger := (unfold inR; omega)) only [w32_id]) <;> omega) ?_
        refine go_is3 dM_firstUnlike_104 (Nat.le_of_ble_eq_true rfl) trivial ?_
        refine go_inc6 (((d + 1 : Nat) : Int)) dM_firstUnlike_105 (Nat.le_of_ble_eq_true rfl) trivial (by (try simp (discharger := (unfold inR; omega)) only [w32_id]) <;> omega) ?_
        refine go_goto 15 dM_firstUnlike_108 rfl ?_
        exact stop (d + 1) c F2 m2 (by omega) (by omega) hM2 hF12 hS e2' hvv
      refine go_iload_n (i := 3) dM_firstUnlike_31 rfl rfl ?_
      refine go_iload_n (i := 2) dM_firstUnlike_32 rfl rfl ?_
      refine go_ic_ge 55 dM_firstUnlike_33 rfl (fun h33 => ?_) (fun h33 => ?_)
      · refine go_iconst dM_firstUnlike_55 (inR_of _ rfl) ?_
        exact t56no _ (fun h => by omega)
      · refine go_aload_n (i := 0) dM_firstUnlike_36 rfl rfl trivial ?_
        refine go_getf dM_firstUnlike_37 flM19 (by assumption) rfl ?_
        refine go_iload_n (i := 3) dM_firstUnlike_40 rfl rfl ?_
        refine go_iald' c _ dM_firstUnlike_41 hM2.a3 rfl (by omega) (e3 c) ?_
        refine go_aload_n (i := 0) dM_firstUnlike_42 rfl rfl trivial ?_
        refine go_getf dM_firstUnlike_43 flM7 (by assumption) rfl ?_
        refine go_iconst dM_firstUnlike_46 (inR_of _ rfl) ?_
        refine go_iald' 3 _ dM_firstUnlike_47 (by assumption) rfl (by omega) rfl ?_
        rw [e2']
        refine go_ic_ne 55 dM_firstUnlike_48 rfl (fun h48 => ?_) (fun h48 => ?_)
        · refine go_iconst dM_firstUnlike_55 (inR_of _ rfl) ?_
          exact t56no _ (fun h => h48 h.2)
        · have hcc : c < M ∧ m 3 c = zdays (m 0) (d + 1) 3 := ⟨by omega, h48⟩
          refine go_iconst dM_firstUnlike_51 (inR_of _ rfl) ?_
          refine go_goto 56 dM_firstUnlike_52 rfl ?_
          refine go_is4 dM_firstUnlike_56 (Nat.le_of_ble_eq_true rfl) trivial ?_
          refine go_iload_n (i := 3) dM_firstUnlike_58 rfl rfl ?_
          refine go_iload dM_firstUnlike_59 rfl ?_
          refine go_SP dM_firstUnlike_61 vkM71 (ct_truth _) rfl (by omega) rfl (fun _ => Nat.le_of_ble_eq_true rfl) ?_
          rw [show ztruth 1 = 1 by rfl]
          refine go_iadd dM_firstUnlike_64 ?_
          refine go_top (((c + 1 : Nat) : Int)) (by (try simp (discharger := (unfold inR; omega)) only [w32_id]) <;> omega) ?_
          refine go_is3 dM_firstUnlike_65 (Nat.le_of_ble_eq_true rfl) trivial ?_
          refine go_iload dM_firstUnlike_66 rfl ?_
          refine go_if_eq 94 dM_firstUnlike_68 rfl (fun h68 => absurd h68 (by omega)) (fun h68 => ?_)
          refine go_iload_n (i := 3) dM_firstUnlike_71 rfl rfl ?_
          refine go_iload_n (i := 2) dM_firstUnlike_72 rfl rfl ?_
          refine go_ic_ge 94 dM_firstUnlike_73 rfl (fun h73 => ?_) (fun h73 => ?_)
          · refine go_iconst dM_firstUnlike_94 (inR_of _ rfl) ?_
            exact t95 0 _ (by rw [if_neg (fun h => by omega)]) hcc
          · refine go_aload_n (i := 0) dM_firstUnlike_76 rfl rfl trivial ?_
            refine go_getf dM_firstUnlike_77 flM19 (by assumption) rfl ?_
            refine go_iload_n (i := 3) dM_firstUnlike_80 rfl rfl ?_
            refine go_iald' (c + 1) _ dM_firstUnlike_81 hM2.a3 rfl (by omega) (e3 (c + 1)) ?_
            refine go_aload_n (i := 0) dM_firstUnlike_82 rfl rfl trivial ?_
            refine go_iconst dM_firstUnlike_83 (inR_of _ rfl) ?_
            refine go_VP dM_firstUnlike_84 vkM192 (by assumption) (List.cons_ne_nil _ _) (qM_together hM2 hW2 (by omega)) rfl (by omega) rfl (fun _ => Nat.le_of_ble_eq_true rfl) ?_
            have et : zsum (fun i => zk (m2 0) i 4) (zmany (m2 0)) = ztog (zdays (m 0) (d + 1)) := by rw [e2']; rfl
            rw [et]
            refine go_ic_ne 94 dM_firstUnlike_87 rfl (fun h87 => ?_) (fun h87 => ?_)
            · refine go_iconst dM_firstUnlike_94 (inR_of _ rfl) ?_
              exact t95 0 _ (by rw [if_neg (fun h => h87 h.2)]) hcc
            · refine go_iconst dM_firstUnlike_90 (inR_of _ rfl) ?_
              refine go_goto 95 dM_firstUnlike_91 rfl ?_
              exact t95 1 _ (by rw [if_pos ⟨by omega, h87⟩]) hcc
  refine CT.of' (L0 := [gR r, gI n, gI (M : Int), gU, gU, gU, gU]) plM (Nat.le_of_ble_eq_true rfl) rfl ?_
  refine go_iconst dM_firstUnlike_0 (inR_of _ rfl) ?_
  refine go_is3 dM_firstUnlike_1 (Nat.le_of_ble_eq_true rfl) trivial ?_
  refine go_iconst dM_firstUnlike_2 (inR_of _ rfl) ?_
  refine go_is4 dM_firstUnlike_3 (Nat.le_of_ble_eq_true rfl) trivial ?_
  refine go_aload_n (i := 0) dM_firstUnlike_5 rfl rfl trivial ?_
  refine go_iload_n (i := 1) dM_firstUnlike_6 rfl rfl ?_
  refine go_VP dM_firstUnlike_7 vkM182 (by assumption) (List.cons_ne_nil _ _) (qM_upToLast hM h6.1 h6.2.1) rfl (by omega) rfl (fun _ => Nat.le_of_ble_eq_true rfl) ?_
  rw [hL]
  refine go_is5 dM_firstUnlike_10 (Nat.le_of_ble_eq_true rfl) trivial ?_
  refine go_iconst dM_firstUnlike_12 (inR_of _ rfl) ?_
  refine go_is6 dM_firstUnlike_13 (Nat.le_of_ble_eq_true rfl) trivial ?_
  exact loop L 0 (by omega) 0 F m (by omega) hM FR.rf SB.rf rfl hv.symm
/-- the row as it was kept -/
def mKp (m : Nat → Nat → Int) : Nat → Int := zcp (m 0) 0 (m 1) 1510
theorem mKp_eq (m : Nat → Nat → Int) {k : Nat} (hk : k < 1510) : mKp m k = m 1 k := by
  have h := zcp_hit (T := m 0) (b := 0) (f := m 1) (n := 1510) (i := k) hk
  rw [Nat.zero_add] at h
  exact h
def v_check (m : Nat → Nat → Int) (n : Int) : Int := if 1 ≤ n ∧ n ≤ 30 then (if m 17 6 = 0 then -1000000002 else zfu (m 3) (m 17 7).toNat (z_left (mKp m) n) (mKp m) 0) else BAD
def u_check (m : Nat → Nat → Int) : Nat → Nat → Int := va_up m 17 (va_up (m 17) 7 0)
theorem bM_check (hM : MOD F r m) (hk : ¬ m 17 6 = 0 → zW (m 1) ∧ zT (m 1) ∧ m 1 6 ≤ 9999) (hq : 0 ≤ m 17 7 ∧ m 17 7 ≤ 60) {n : Int} : CT g yM_check 11 0 0 [gR r, gI n] (N, F) (MB N r F (gI (v_check m n)) (u_check m)) := by
  have ho := hM.1
  refine CT.of' (L0 := [gR r, gI n, gU, gU]) plM (Nat.le_of_ble_eq_true rfl) rfl ?_
  refine go_aload_n (i := 0) dM_check_0 rfl rfl trivial ?_
  refine go_getf dM_check_1 flM356 (by assumption) rfl ?_
  refine go_is2 dM_check_4 (Nat.le_of_ble_eq_true rfl) trivial ?_
  refine go_aload_n (i := 0) dM_check_5 rfl rfl trivial ?_
  refine go_iconst dM_check_6 (inR_of _ rfl) ?_
  refine go_mpf hM (hM.f7 _) dM_check_7 flM356 rfl rfl (fun F1 m1 hM1 hF1 e1 => ?_)
  have ho1 := hM1.1
  have e1' : m1 = u_check m := e1
  have e16 : m1 17 6 = m 17 6 := by rw [e1]; rfl
  refine go_iload_n (i := 1) dM_check_10 rfl rfl ?_
  refine go_i2l dM_check_11 ?_
  refine go_lconst (x := 1) dM_check_12 (inL_of2 _ rfl) rfl ?_
  refine go_ldc2 dM_check_13 kcM359 (inL_of2 _ rfl) ?_
  refine go_SP dM_check_16 vkM65 (ct_in _ _ _) rfl (by omega) rfl (fun _ => Nat.le_of_ble_eq_true rfl) ?_
  refine go_if_ne 25 dM_check_19 rfl (fun h19 => ?_) (fun h19 => ?_)
  · have hn : 1 ≤ n ∧ n ≤ 30 := by grind [zin]
    refine go_aload_n (i := 0) dM_check_25 rfl rfl trivial ?_
    refine go_getf dM_check_26 flM361 (by assumption) rfl ?_
    rw [e16]
    refine go_if_ne 36 dM_check_29 rfl (fun h29 => ?_) (fun h29 => ?_)
    · obtain ⟨kW, kT, kd⟩ := hk h29
      refine go_aload_n (i := 0) dM_check_36 rfl rfl trivial ?_
      refine go_aload_n (i := 0) dM_check_37 rfl rfl trivial ?_
      refine go_getf dM_check_38 flM58 (by assumption) rfl ?_
      refine go_aload_n (i := 0) dM_check_41 rfl rfl trivial ?_
      refine go_getf dM_check_42 flM7 (by assumption) rfl ?_
      refine go_VX dM_check_45 vkM364 (by assumption) (List.cons_ne_nil _ _) (qM_become hM1 (i := 16) (j := 0) (by omega) (by omega) (by omega)) rfl (by omega) (by omega) (by omega) rfl (fun _ => Nat.le_of_ble_eq_true rfl) ?_
      rintro _ _ ⟨rfl, F2, m2, rfl, hM2, hF2, e2⟩ -
      dsimp only [rp]
      have ho2 := hM2.1
      refine go_aload_n (i := 0) dM_check_48 rfl rfl trivial ?_
      refine go_aload_n (i := 0) dM_check_49 rfl rfl trivial ?_
      refine go_getf dM_check_50 flM7 (by assumption) rfl ?_
      refine go_aload_n (i := 0) dM_check_53 rfl rfl trivial ?_
      refine go_getf dM_check_54 flM13 (by assumption) rfl ?_
      refine go_VX dM_check_57 vkM364 (by assumption) (List.cons_ne_nil _ _) (qM_become hM2 (i := 0) (j := 1) (by omega) (by omega) (by omega)) rfl (by omega) (by omega) (by omega) rfl (fun _ => Nat.le_of_ble_eq_true rfl) ?_
      rintro _ _ ⟨rfl, F3, m3, rfl, hM3, hF3, e3⟩ -
      dsimp only [rp]
      have ho3 := hM3.1
      have q0 : m2 0 = m 0 := by rw [e2, va_up_ne _ _ (by omega), e1, va_up_ne _ _ (by omega)]
      have q1 : m2 1 = m 1 := by rw [e2, va_up_ne _ _ (by omega), e1, va_up_ne _ _ (by omega)]
      have r0 : m3 0 = mKp m := by rw [e3, va_up_self, q0, q1]; rfl
      have r3 : m3 3 = m 3 := by rw [e3, va_up_ne _ _ (by omega), e2, va_up_ne _ _ (by omega), e1, va_up_ne _ _ (by omega)]
      have gW : zW (mKp m) := zW_cong (fun k hk => mKp_eq m (by omega)) kW
      have gT : zT (mKp m) := zT_cong (fun k hk => mKp_eq m hk) kT
      rw [show m 17 7 = (((m 17 7).toNat : Nat) : Int) by omega]
      refine go_aload_n (i := 0) dM_check_60 rfl rfl trivial ?_
      refine go_iload_n (i := 1) dM_check_61 rfl rfl ?_
      refine go_iload_n (i := 2) dM_check_62 rfl rfl ?_
      refine go_VX dM_check_63 vkM368 (by assumption) (List.cons_ne_nil _ _) (qM_firstUnlike hM3 (by rw [r0]; exact gW) (by rw [r0]; exact gT) (by rw [r0, mKp_eq m (by omega)]; exact kd) hn.1 hn.2 (M := (m 17 7).toNat) (by omega)) rfl (by omega) (by omega) (by omega) rfl (fun _ => Nat.le_of_ble_eq_true rfl) ?_
      rintro _ _ ⟨rfl, F4, m4, rfl, hM4, hF4, hS4, k4⟩ -
      dsimp only [rp]
      rw [r0, r3]
      have ho4 := hM4.1
      refine go_is3 dM_check_66 (Nat.le_of_ble_eq_true rfl) trivial ?_
      refine go_aload_n (i := 0) dM_check_67 rfl rfl trivial ?_
      refine go_aload_n (i := 0) dM_check_68 rfl rfl trivial ?_
      refine go_getf dM_check_69 flM7 (by assumption) rfl ?_
      refine go_aload_n (i := 0) dM_check_72 rfl rfl trivial ?_
      refine go_getf dM_check_73 flM58 (by assumption) rfl ?_
      refine go_VX dM_check_76 vkM364 (by assumption) (List.cons_ne_nil _ _) (qM_become hM4 (i := 0) (j := 16) (by omega) (by omega) (by omega)) rfl (by omega) (by omega) (by omega) rfl (fun _ => Nat.le_of_ble_eq_true rfl) ?_
      rintro _ _ ⟨rfl, F5, m5, rfl, hM5, hF5, e5⟩ -
      dsimp only [rp]
      refine go_iload_n (i := 3) dM_check_79 rfl rfl ?_
      refine go_iret dM_check_80 rfl rfl ?_
      have w16 : ∀ k : Nat, k < 1510 → m4 16 k = m 0 k := by
        intro k hk
        rw [hS4 16 (by decide), e3, va_up_ne _ _ (by omega), e2, va_up_self]
        have h := zcp_hit (T := m1 16) (b := 0) (f := m1 0) (n := 1510) (i := k) hk
        rw [Nat.zero_add] at h
        rw [h, e1, va_up_ne _ _ (by omega)]
      refine ⟨by unfold v_check; rw [if_pos hn, if_neg h29], F5, m5, rfl, hM5, (((hF1.tr hF2).tr hF3).tr hF4).tr hF5, fun i hi => ?_, fun j hj => ?_⟩
      · have c16 : i ≠ 16 := by simp at hi; omega
        have c17 : i ≠ 17 := by simp at hi; omega
        unfold u_check
        rw [va_up_ne _ _ c17]
        by_cases c0 : i = 0
        · subst c0
          rw [e5, va_up_self]
          funext k
          by_cases ck : k < 1510
          · have h := zcp_hit (T := m4 0) (b := 0) (f := m4 16) (n := 1510) (i := k) ck
            rw [Nat.zero_add] at h
            rw [h, w16 k ck]
          · rw [zcp_miss (by omega), k4 k (by omega), r0]
            unfold mKp
            rw [zcp_miss (by omega)]
        · rw [e5, va_up_ne _ _ c0, hS4 i (by simp at hi ⊢; omega), e3, va_up_ne _ _ c0, e2, va_up_ne _ _ c16, e1, va_up_ne _ _ c17]
      · unfold u_check
        rw [e5, va_up_ne _ _ (by omega), hS4 17 (by decide), e3, va_up_ne _ _ (by omega), e2, va_up_ne _ _ (by omega), e1]
    · refine go_ldcw dM_check_32 kcM355 (inR_of _ rfl) ?_
      refine go_iret dM_check_35 rfl rfl ?_
      exact MB.eq hM1 hF1 e1' (by unfold v_check; rw [if_pos hn, if_pos (by omega)])
  · refine go_ldc dM_check_22 kcM96 (inR_of _ rfl) ?_
    refine go_iret dM_check_24 rfl rfl ?_
    exact MB.eq hM1 hF1 e1' (by unfold v_check; rw [if_neg (by grind [zin])])
end MCHECK
