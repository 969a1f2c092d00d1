/-! ===== the component: like ===== -/
section CSHEET0
variable {g : GX} {N a : Nat} {F F1 F2 : Nat → GC} {m U : Nat → Nat → Int}
theorem COMP.rst {P : Nat → Prop} (h : COMP F m) (hF : FK P F F2) (hP : ∀ k, P k → 49 ≤ k ∧ k < 85) (hR : RST F2 U) (e0 : U 0 = m 0) (e1 : U 1 = m 1) (e6 : U 17 6 = m 17 6) (e7 : U 17 7 = m 17 7) : COMP F2 U := by
  obtain ⟨a, b, ⟨⟨s1, c1⟩, c2⟩, ⟨s2, d⟩, e⟩ := h
  have hQ : ∀ k, 103 ≤ k → ¬ P k := fun k hk q => by have := hP k q; omega
  refine ⟨?_, ?_, ⟨⟨s1, c1.fk hF hQ (fun k k1 k2 q => by have := hP k q; omega) (by omega)⟩, fun q => ?_⟩, ⟨s2, d.fk hF hQ (fun k k1 k2 q => by have := hP k q; omega) (by omega)⟩, hR⟩
  · rw [hF.at (by omega) (fun q => by have := hP _ q; omega)]
    unfold aFld at a ⊢
    rw [e6, e7]; exact a
  · rw [e0]; exact b.fk hF hQ (fun k k1 k2 q => by have := hP k q; omega) (by omega)
  · rw [e6] at q; rw [e1]; exact (c2 q).fk hF hQ (fun k k1 k2 q => by have := hP k q; omega) (by omega)
theorem RST.c55 (h : RST F m) {f : Nat → Int} : RST (va_up F 55 (cI 100 f)) m := by
  obtain ⟨⟨a1, a2, a3⟩, b, c, d, e, x, s, t⟩ := h
  exact ⟨⟨a1, a2, a3⟩, b, c, d, ⟨f, rfl⟩, x, fun k hk => (s k hk).at (va_up_ne _ _ (by omega)) (va_up_ne _ _ (by omega)), fun k hk => (t k hk).at (fun j j1 j2 => va_up_ne _ _ (by omega))⟩
theorem RST.c56 (h : RST F m) {f : Nat → Int} : RST (va_up F 56 (cI 10 f)) m := by
  obtain ⟨⟨a1, a2, a3⟩, b, c, d, e, x, s, t⟩ := h
  exact ⟨⟨a1, a2, a3⟩, b, c, d, e, ⟨f, rfl⟩, fun k hk => (s k hk).at (va_up_ne _ _ (by omega)) (va_up_ne _ _ (by omega)), fun k hk => (t k hk).at (fun j j1 j2 => va_up_ne _ _ (by omega))⟩
theorem COMP.c55 (h : COMP F m) {f : Nat → Int} : COMP (va_up F 55 (cI 100 f)) m := h.rst (P := fun k => k = 55) (FK.rf.put rfl) (fun k q => by omega) h.2.2.2.2.c55 rfl rfl rfl rfl
theorem COMP.c56 (h : COMP F m) {f : Nat → Int} : COMP (va_up F 56 (cI 10 f)) m := h.rst (P := fun k => k = 56) (FK.rf.put rfl) (fun k q => by omega) h.2.2.2.2.c56 rfl rfl rfl rfl
theorem TH.c56 {S : Nat → Int} (h : TH F F1 m S) {f : Nat → Int} : TH F (va_up F1 56 (cI 10 f)) m S := ⟨h.1.c56, h.2.1.fk (P := fun k => k = 56) (FK.rf.put rfl) (fun k q r => by omega) (fun k k1 k2 q => by omega) (by omega), h.2.2.put (by omega)⟩
theorem TH.c55 {S : Nat → Int} (h : TH F F1 m S) {f : Nat → Int} : TH F (va_up F1 55 (cI 100 f)) m S := ⟨h.1.c55, h.2.1.fk (P := fun k => k = 55) (FK.rf.put rfl) (fun k q r => by omega) (fun k k1 k2 q => by omega) (by omega), h.2.2.put (by omega)⟩
theorem qS_isMissing {so pl : Int} {r : Nat} (h : F a = cO 5 [gI so, gI pl, gR r]) : CT g yS_isMissing 0 0 0 [gR a] (N, F) (RV (if so = -1 then 1 else 0) (N, F)) := by
  refine CT.of' (L0 := [gR a]) plS (Nat.le_of_ble_eq_true rfl) rfl ?_
  refine go_aload_n (i := 0) dS_isMissing_0 rfl rfl trivial ?_
  refine go_getf dS_isMissing_1 flS9 (by assumption) rfl ?_
  refine go_iconst dS_isMissing_4 (inR_of _ rfl) ?_
  refine go_ic_ne 12 dS_isMissing_5 rfl (fun h5 => ?_) (fun h5 => ?_)
  · refine go_iconst dS_isMissing_12 (inR_of _ rfl) ?_
    refine go_iret dS_isMissing_13 rfl (zb (by simp)) ?_
    exact ⟨by rw [if_neg h5], rfl⟩
  · refine go_iconst dS_isMissing_8 (inR_of _ rfl) ?_
    refine go_goto 13 dS_isMissing_9 rfl ?_
    refine go_iret dS_isMissing_13 rfl (zb (by simp)) ?_
    exact ⟨by rw [if_pos h5], rfl⟩
theorem qS_isNumber {so pl : Int} {r : Nat} {f : Nat → Int} (h : F a = cO 5 [gI so, gI pl, gR r]) (hf : F r = cI 24 f) {p : Nat} (hp : p < 24) : CT g yS_isNumber 0 0 0 [gR a, gI (p : Int)] (N, F) (RV (if f p = NONE then 0 else 1) (N, F)) := by
  refine CT.of' (L0 := [gR a, gI (p : Int)]) plS (Nat.le_of_ble_eq_true rfl) rfl ?_
  refine go_aload_n (i := 0) dS_isNumber_0 rfl rfl trivial ?_
  refine go_getf dS_isNumber_1 flS18 (by assumption) rfl ?_
  refine go_iload_n (i := 1) dS_isNumber_4 rfl rfl ?_
  refine go_iald' p _ dS_isNumber_5 hf rfl hp rfl ?_
  refine go_ldc dS_isNumber_6 kcS34 (inR_of _ rfl) ?_
  refine go_ic_eq 15 dS_isNumber_8 rfl (fun h8 => ?_) (fun h8 => ?_)
  · refine go_iconst dS_isNumber_15 (inR_of _ rfl) ?_
    refine go_iret dS_isNumber_16 rfl (zb (by simp)) ?_
    exact ⟨by rw [if_pos h8], rfl⟩
  · refine go_iconst dS_isNumber_11 (inR_of _ rfl) ?_
    refine go_goto 16 dS_isNumber_12 rfl ?_
    refine go_iret dS_isNumber_16 rfl (zb (by simp)) ?_
    exact ⟨by rw [if_neg h8], rfl⟩
end CSHEET0
theorem inR_zap (s nums : Nat → Int) (i : Nat) : ∀ d, inR (zap s nums i d)
  | 0 => inR_0
  | _ + 1 => w32_in _
theorem zap_none {s nums : Nat → Int} {i d : Nat} (h : nums d = NONE) : zap s nums i (d + 1) = zap s nums i d := by
  show w32 (zap s nums i d + zstp (zk (zdays s d) i 4) (nums d)) = _
  unfold zstp
  rw [if_pos h, Int.add_zero, w32_id (inR_zap s nums i d)]
theorem zap_num {s nums : Nat → Int} {i d : Nat} (h : ¬ nums d = NONE) : zap s nums i (d + 1) = w32 (zap s nums i d + iAbs (w32 (zk (zdays s d) i 4 - nums d))) := by
  show w32 (zap s nums i d + zstp (zk (zdays s d) i 4) (nums d)) = _
  congr 2
  unfold zstp iAbs
  rw [if_neg h]
  by_cases q : w32 (zk (zdays s d) i 4 - nums d) < 0
  · rw [if_pos q, if_neg (by omega)]
  · rw [if_neg q, if_pos (by omega)]
section CLIKE
variable {g : GX} {N : Nat} {F F1 : Nat → GC} {m : Nat → Nat → Int}
def DF (N : Nat) (F : Nat → GC) (m : Nat → Nat → Int) (nums : Nat → Int) (n : Nat) : GV → GM → Prop := fun rr M' => rr = gU ∧ ∃ (F2 : Nat → GC) (f : Nat → Int), M' = (N, F2) ∧ COMP F2 m ∧ FK pA F F2 ∧ F2 56 = cI 10 f ∧ ∀ i : Nat, (i : Int) < m 0 0 → f i = zap (m 0) nums i n
theorem qA_addDifferences (h : COMP F m) (hJ : JV m) {k : Nat} (hk : k < 4) (h9 : ¬ m 9 k < 0) : CT g yA_addDifferences 6 0 0 [gR 0, gR (57 + 2 * k)] (N, F) (DF N F m (fun d => m 11 (24 * k + d)) (m 10 k).toNat) := by
  have ho := h.1
  have hn := h.2.1.1
  have w0 := hJ.zg.1.1
  have w6 := hJ.zg.1.2.2.1
  have hd := hJ.1.1.2.2
  have hsz := (hJ.1.2.2.1 k (by omega)).2
  obtain ⟨f56, h56⟩ := h.2.2.2.2.2.2.2.2.2.1
  have inner : ∀ (d : Nat), d < 24 → ¬ m 11 (24 * k + d) = NONE → (∀ (F1 : Nat → GC) (f : Nat → Int) (x3 : GV), TH F F1 m (zdays (m 0) d) → F1 56 = cI 10 f → (∀ i : Nat, (i : Int) < m 0 0 → f i = zap (m 0) (fun d => m 11 (24 * k + d)) i (d + 1)) → Go g yA_addDifferences 6 0 0 87 [gR 0, gR (57 + 2 * k), gI (d : Int), x3] [] (N, F1) (DF N F m (fun d => m 11 (24 * k + d)) (m 10 k).toNat)) →
      ∀ (j i : Nat), ((i + j : Nat) : Int) = m 0 0 → ∀ (F1 : Nat → GC) (f : Nat → Int), TH F F1 m (zdays (m 0) d) → F1 56 = cI 10 f → (∀ i' : Nat, (i' : Int) < m 0 0 → f i' = zap (m 0) (fun d => m 11 (24 * k + d)) i' (if i' < i then d + 1 else d)) → Go g yA_addDifferences 6 0 0 39 [gR 0, gR (57 + 2 * k), gI (d : Int), gI (i : Int)] [] (N, F1) (DF N F m (fun d => m 11 (24 * k + d)) (m 10 k).toNat) := by
    intro d hd24 hnn next j
    obtain ⟨zg, kp, -⟩ := zdays_G hJ.zg (n := d) (by omega)
    induction j with
    | zero =>
      intro i hi F1 f hT h1 hf
      have ho := hT.1.1
      have hn := hT.1.2.1.1
      refine go_iload_n (i := 3) dA_addDifferences_39 rfl rfl ?_
      refine go_aload_n (i := 0) dA_addDifferences_40 rfl rfl trivial ?_
      refine go_getf dA_addDifferences_41 flA10 (by assumption) rfl ?_
      refine go_getf dA_addDifferences_44 flA70 (by assumption) rfl ?_
      refine go_ic_ge 87 dA_addDifferences_47 rfl (fun h47 => ?_) (fun h47 => absurd (by omega) h47)
      exact next F1 f _ hT h1 (fun i' hi' => by rw [hf i' hi', if_pos (by omega)])
    | succ j ih =>
      intro i hi F1 f hT h1 hf
      have ho := hT.1.1
      have hn := hT.1.2.1.1
      have ht := hT.2.1.1
      have hr := hT.2.1.2.1
      have hg := hT.2.1.gs (i := i) (by rw [kp.1]; omega) (by omega)
      obtain ⟨hs, fr, hfr, efr⟩ := hT.1.2.2.2.2.2.2.2.2.2.2.1 k hk
      have efr := efr h9 d hd24
      have hz := hf i (by omega)
      rw [if_neg (by omega)] at hz
      refine go_iload_n (i := 3) dA_addDifferences_39 rfl rfl ?_
      refine go_aload_n (i := 0) dA_addDifferences_40 rfl rfl trivial ?_
      refine go_getf dA_addDifferences_41 flA10 (by assumption) rfl ?_
      refine go_getf dA_addDifferences_44 flA70 (by assumption) rfl ?_
      refine go_ic_ge 87 dA_addDifferences_47 rfl (fun h47 => absurd h47 (by omega)) (fun h47 => ?_)
      refine go_aload_n (i := 0) dA_addDifferences_50 rfl rfl trivial ?_
      refine go_getf dA_addDifferences_51 flA48 (by assumption) rfl ?_
      refine go_iload_n (i := 3) dA_addDifferences_54 rfl rfl ?_
      refine go_dup2 dA_addDifferences_55 trivial trivial ?_
      refine go_iald' i _ dA_addDifferences_56 h1 rfl (by omega) hz ?_
      refine go_aload_n (i := 0) dA_addDifferences_57 rfl rfl trivial ?_
      refine go_getf dA_addDifferences_58 flA19 (by assumption) rfl ?_
      refine go_getf dA_addDifferences_61 flA78 (by assumption) rfl ?_
      refine go_iload_n (i := 3) dA_addDifferences_64 rfl rfl ?_
      refine go_aald' 1 "GooseCounty$Goose" (i) (33 + 6 + i) dA_addDifferences_65 (by assumption) rfl (by omega) (by omega) (gRow_at (by omega)) ?_
      refine go_getf dA_addDifferences_66 flA207 (by assumption) rfl ?_
      refine go_aload_n (i := 1) dA_addDifferences_69 rfl rfl trivial ?_
      refine go_getf dA_addDifferences_70 flA243 (by assumption) rfl ?_
      refine go_iload_n (i := 2) dA_addDifferences_73 rfl rfl ?_
      refine go_iald' d _ dA_addDifferences_74 hfr rfl hd24 efr ?_
      refine go_isub dA_addDifferences_75 ?_
      refine go_mabs dA_addDifferences_76 vkA246 (fun _ => Nat.le_of_ble_eq_true rfl) (by omega) ?_
      refine go_iadd dA_addDifferences_79 ?_
      rw [← zap_num (s := m 0) (nums := fun d => m 11 (24 * k + d)) (i := i) (d := d) hnn]
      refine go_iast' i dA_addDifferences_80 h1 rfl (by omega) ?_
      refine go_inc3 (((i + 1 : Nat) : Int)) dA_addDifferences_81 (Nat.le_of_ble_eq_true rfl) trivial (by (try simp (discharger := (unfold inR; omega)) only [w32_id]) <;> omega) ?_
      refine go_goto 39 dA_addDifferences_84 rfl ?_
      refine ih (i + 1) (by omega) _ _ hT.c56 (va_up_self _ _ _) (fun i' hi' => ?_)
      by_cases q : i' = i
      · subst q; rw [va_up_self, if_pos (by omega)]
      · rw [va_up_ne _ _ q, hf i' hi']
        congr 1
        by_cases c : i' < i
        · rw [if_pos c, if_pos (by omega)]
        · rw [if_neg c, if_neg (by omega)]
  have loop : ∀ (j d : Nat), ((d + j : Nat) : Int) = m 10 k → ∀ (F1 : Nat → GC) (f : Nat → Int) (x3 : GV), TH F F1 m (zdays (m 0) d) → F1 56 = cI 10 f → (∀ i : Nat, (i : Int) < m 0 0 → f i = zap (m 0) (fun d => m 11 (24 * k + d)) i d) → Go g yA_addDifferences 6 0 0 21 [gR 0, gR (57 + 2 * k), gI (d : Int), x3] [] (N, F1) (DF N F m (fun d => m 11 (24 * k + d)) (m 10 k).toNat) := by
    intro j
    induction j with
    | zero =>
      intro d hdj F1 f x3 hT h1 hf
      obtain ⟨hs, -⟩ := hT.1.2.2.2.2.2.2.2.2.2.2.1 k hk
      refine go_iload_n (i := 2) dA_addDifferences_21 rfl rfl ?_
      refine go_aload_n (i := 1) dA_addDifferences_22 rfl rfl trivial ?_
      refine go_getf dA_addDifferences_23 flA237 (by assumption) rfl ?_
      refine go_ic_ge 101 dA_addDifferences_26 rfl (fun h26 => ?_) (fun h26 => absurd (by omega) h26)
      refine go_vret dA_addDifferences_101 rfl ?_
      exact ⟨rfl, F1, f, rfl, hT.1, hT.2.2, h1, fun i hi => by rw [hf i hi, show (m 10 k).toNat = d by omega]⟩
    | succ j ih =>
      intro d hdj F1 f x3 hT h1 hf
      obtain ⟨hs, fr, hfr, efr⟩ := hT.1.2.2.2.2.2.2.2.2.2.2.1 k hk
      have efr := efr h9 d (by omega)
      obtain ⟨zg, kp, d6⟩ := zdays_G hJ.zg (n := d) (by omega)
      have next : ∀ (F1 : Nat → GC) (f : Nat → Int) (x3 : GV), TH F F1 m (zdays (m 0) d) → F1 56 = cI 10 f → (∀ i : Nat, (i : Int) < m 0 0 → f i = zap (m 0) (fun d => m 11 (24 * k + d)) i (d + 1)) → Go g yA_addDifferences 6 0 0 87 [gR 0, gR (57 + 2 * k), gI (d : Int), x3] [] (N, F1) (DF N F m (fun d => m 11 (24 * k + d)) (m 10 k).toNat) := by
        intro F1 f x3 hT h1 hf
        have ho := hT.1.1
        have ht := hT.2.1.1
        have pass := qB_pass (g := g) (N := N) hT.2.1 (by omega) zg (n := 1) (by omega) (by omega)
        refine go_aload_n (i := 0) dA_addDifferences_87 rfl rfl trivial ?_
        refine go_getf dA_addDifferences_88 flA19 (by assumption) rfl ?_
        refine go_iconst dA_addDifferences_91 (inR_of _ rfl) ?_
        refine go_VX dA_addDifferences_92 vkA177 (by assumption) (List.cons_ne_nil _ _) (pass) rfl (by omega) (by omega) (by omega) rfl (fun _ => Nat.le_of_ble_eq_true rfl) ?_
        rintro _ _ ⟨rfl, F2, rfl, hC2, hF2⟩ -
        dsimp only [rp]
        refine go_inc2 (((d + 1 : Nat) : Int)) dA_addDifferences_95 (Nat.le_of_ble_eq_true rfl) trivial (by (try simp (discharger := (unfold inR; omega)) only [w32_id]) <;> omega) ?_
        refine go_goto 21 dA_addDifferences_98 rfl ?_
        exact ih (d + 1) (by omega) F2 f _ (hT.op hC2 hF2) (by rw [hF2.at (by omega) (fun q => by have := q.2; omega)]; exact h1) hf
      have ho := hT.1.1
      refine go_iload_n (i := 2) dA_addDifferences_21 rfl rfl ?_
      refine go_aload_n (i := 1) dA_addDifferences_22 rfl rfl trivial ?_
      refine go_getf dA_addDifferences_23 flA237 (by assumption) rfl ?_
      refine go_ic_ge 101 dA_addDifferences_26 rfl (fun h26 => absurd h26 (by omega)) (fun h26 => ?_)
      refine go_aload_n (i := 1) dA_addDifferences_29 rfl rfl trivial ?_
      refine go_iload_n (i := 2) dA_addDifferences_30 rfl rfl ?_
      refine go_VP dA_addDifferences_31 vkA240 (by assumption) (List.cons_ne_nil _ _) (qS_isNumber hs hfr (p := d) (by omega)) rfl (by omega) rfl (fun _ => Nat.le_of_ble_eq_true rfl) ?_
      rw [efr]
      by_cases c : m 11 (24 * k + d) = NONE
      · rw [if_pos c]
        refine go_if_eq 87 dA_addDifferences_34 rfl (fun h34 => ?_) (fun h34 => absurd (by omega) h34)
        exact next F1 f _ hT h1 (fun i hi => by rw [hf i hi, zap_none (nums := fun d => m 11 (24 * k + d)) c])
      · rw [if_neg c]
        refine go_if_eq 87 dA_addDifferences_34 rfl (fun h34 => absurd h34 (by omega)) (fun h34 => ?_)
        refine go_iconst dA_addDifferences_37 (inR_of _ rfl) ?_
        refine go_is3 dA_addDifferences_38 (Nat.le_of_ble_eq_true rfl) trivial ?_
        exact inner d (by omega) c next (m 0 0).toNat 0 (by omega) F1 f hT h1 (fun i' hi' => by rw [hf i' hi', if_neg (by omega)])
  refine CT.of' (L0 := [gR 0, gR (57 + 2 * k), gU, gU]) plA (Nat.le_of_ble_eq_true rfl) rfl ?_
  refine go_aload_n (i := 0) dA_addDifferences_0 rfl rfl trivial ?_
  refine go_getf dA_addDifferences_1 flA48 (by assumption) rfl ?_
  refine go_iconst dA_addDifferences_4 (inR_of _ rfl) ?_
  refine go_SX dA_addDifferences_5 vkA218 (qJ_fill h56 (by omega)) rfl (by omega) (by omega) (by omega) rfl (fun _ => Nat.le_of_ble_eq_true rfl) ?_
  rintro _ _ ⟨rfl, f1, rfl, hf1⟩ -
  dsimp only [rp]
  have hC := h.c56 (f := f1)
  have ho := hC.1
  have hn := hC.2.1.1
  obtain ⟨s33, h33⟩ := hC.2.2.2.1
  have ht := h33.1
  obtain ⟨s, hs⟩ := hC.2.2.2.1
  have bec := qB_become (g := g) (N := N) hs hC.2.1 (by omega) (by omega) (by omega) hJ.zg.1 hJ.zg.2.1.1.2
  refine go_aload_n (i := 0) dA_addDifferences_8 rfl rfl trivial ?_
  refine go_getf dA_addDifferences_9 flA19 (by assumption) rfl ?_
  refine go_aload_n (i := 0) dA_addDifferences_12 rfl rfl trivial ?_
  refine go_getf dA_addDifferences_13 flA10 (by assumption) rfl ?_
  refine go_VX dA_addDifferences_16 vkA203 (by assumption) (List.cons_ne_nil _ _) (bec) rfl (by omega) (by omega) (by omega) rfl (fun _ => Nat.le_of_ble_eq_true rfl) ?_
  rintro _ _ ⟨rfl, F2, rfl, hC2, hF2⟩ -
  dsimp only [rp]
  have hT : TH F F2 m (m 0) := ⟨hC.tho hC2 hF2, hC2, (FK.rf.put (P := pA) (by omega)).tr hF2.c33⟩
  refine go_iconst dA_addDifferences_19 (inR_of _ rfl) ?_
  refine go_is2 dA_addDifferences_20 (Nat.le_of_ble_eq_true rfl) trivial ?_
  refine loop (m 10 k).toNat 0 (by omega) F2 f1 _ hT ?_ (fun i hi => hf1 i (by omega))
  rw [hF2.at (by omega) (fun q => by have := q.2; omega), va_up_self]
theorem bA_like (h : COMP F m) (hJ : JV m) {k w : Int} : CT g yA_like 7 0 0 [gR 0, gI k, gI w] (N, F) (CB N F (gI (v_like m k w)) m) := by
  have ho := h.1
  have hn := h.2.1.1
  have h52 := h.2.2.2.2.2.1
  have z1 := zout_or k 0 3
  have z2 := zout_or w 0 1
  have w0 := hJ.zg.1.1
  obtain ⟨hz1, hz⟩ := zmany_le hJ.zg.1
  refine CT.of' (L0 := [gR 0, gI k, gI w, gU, gU]) plA (Nat.le_of_ble_eq_true rfl) rfl ?_
  have bad : ¬ ((0 ≤ k ∧ k ≤ 3) ∧ 0 ≤ w ∧ w ≤ 1) → Go g yA_like 7 0 0 18 [gR 0, gI k, gI w, gU, gU] [] (N, F) (CB N F (gI (v_like m k w)) m) := by
    intro hb
    refine go_ldc dA_like_18 kcA65 (inR_of _ rfl) ?_
    refine go_iret dA_like_20 rfl rfl ?_
    exact CB.same h (by unfold v_like; rw [if_neg hb])
  refine go_iload_n (i := 1) dA_like_0 rfl rfl ?_
  refine go_iconst dA_like_1 (inR_of _ rfl) ?_
  refine go_iconst dA_like_2 (inR_of _ rfl) ?_
  refine go_SP dA_like_3 vkA61 (ct_outside _ _ _) rfl (by omega) rfl (fun _ => Nat.le_of_ble_eq_true rfl) ?_
  refine go_if_ne 18 dA_like_6 rfl (fun h6 => ?_) (fun h6 => ?_)
  · exact bad (by omega)
  · refine go_iload_n (i := 2) dA_like_9 rfl rfl ?_
    refine go_iconst dA_like_10 (inR_of _ rfl) ?_
    refine go_iconst dA_like_11 (inR_of _ rfl) ?_
    refine go_SP dA_like_12 vkA61 (ct_outside _ _ _) rfl (by omega) rfl (fun _ => Nat.le_of_ble_eq_true rfl) ?_
    refine go_if_eq 21 dA_like_15 rfl (fun h15 => ?_) (fun h15 => ?_)
    · have ok : (0 ≤ k ∧ k ≤ 3) ∧ 0 ≤ w ∧ w ≤ 1 := by omega
      obtain ⟨hs, -⟩ := h.2.2.2.2.2.2.2.2.2.2.1 k.toNat (by omega)
      have hso := (hJ.1.2.2.1 k.toNat (by omega)).1
      refine go_aload_n (i := 0) dA_like_21 rfl rfl trivial ?_
      refine go_getf dA_like_22 flA31 (by assumption) rfl ?_
      refine go_iload_n (i := 1) dA_like_25 rfl rfl ?_
      refine go_aald' 3 "GooseCounty$Sheet" k.toNat (57 + 2 * k.toNat) dA_like_26 h52 rfl (by omega) (by omega) (shR_at (by omega)) ?_
      refine go_VP dA_like_27 vkA228 (by assumption) (List.cons_ne_nil _ _) (qS_isMissing hs) rfl (by omega) rfl (fun _ => Nat.le_of_ble_eq_true rfl) ?_
      by_cases c9 : m 9 k.toNat = -1
      · rw [if_pos c9]
        refine go_if_eq 36 dA_like_30 rfl (fun h30 => absurd h30 (by omega)) (fun h30 => ?_)
        refine go_ldc dA_like_33 kcA232 (inR_of _ rfl) ?_
        refine go_iret dA_like_35 rfl rfl ?_
        exact CB.same h (by unfold v_like; rw [if_pos ok, if_pos (by omega)])
      · rw [if_neg c9]
        refine go_if_eq 36 dA_like_30 rfl (fun h30 => ?_) (fun h30 => absurd (by omega) h30)
        refine go_aload_n (i := 0) dA_like_36 rfl rfl trivial ?_
        refine go_getf dA_like_37 flA10 (by assumption) rfl ?_
        refine go_getf dA_like_40 flA70 (by assumption) rfl ?_
        refine go_if_ne 49 dA_like_43 rfl (fun h43 => ?_) (fun h43 => ?_)
        · have diff := qA_addDifferences (g := g) (N := N) h hJ (k := k.toNat) (by omega) (by omega)
          refine go_aload_n (i := 0) dA_like_49 rfl rfl trivial ?_
          refine go_aload_n (i := 0) dA_like_50 rfl rfl trivial ?_
          refine go_getf dA_like_51 flA31 (by assumption) rfl ?_
          refine go_iload_n (i := 1) dA_like_54 rfl rfl ?_
          refine go_aald' 3 "GooseCounty$Sheet" k.toNat (57 + 2 * k.toNat) dA_like_55 h52 rfl (by omega) (by omega) (shR_at (by omega)) ?_
          refine go_VX dA_like_56 vkA233 (by assumption) (List.cons_ne_nil _ _) (diff) rfl (by omega) (by omega) (by omega) rfl (fun _ => Nat.le_of_ble_eq_true rfl) ?_
          rintro _ _ ⟨rfl, F2, f, rfl, hC, hF, h56, hf⟩ -
          dsimp only [rp]
          have ho := hC.1
          have hn := hC.2.1.1
          generalize hnums : (fun d => m 11 (24 * k.toNat + d)) = nums at hf
          generalize hNN : (m 10 k.toNat).toNat = nn at hf
          have ev : v_like m k w = if w = 0 then ((zbest (fun i => - zap (m 0) nums i nn) (zmany (m 0)) : Nat) : Int) else zap (m 0) nums (zbest (fun i => - zap (m 0) nums i nn) (zmany (m 0))) nn := by
            unfold v_like v_likeN zlk
            rw [if_pos ok, if_neg (by omega), if_neg h43, hnums, hNN]
          have loop : ∀ (j i : Nat), 1 ≤ i → i + j = zmany (m 0) → Go g yA_like 7 0 0 64 [gR 0, gI k, gI w, gI ((zbest (fun i => - zap (m 0) nums i nn) i : Nat) : Int), gI (i : Int)] [] (N, F2) (CB N F (gI (v_like m k w)) m) := by
            intro j
            induction j with
            | zero =>
              intro i hi1 hi
              have hb := zbest_lt (fun i => - zap (m 0) nums i nn) i
              refine go_iload dA_like_64 rfl ?_
              refine go_aload_n (i := 0) dA_like_66 rfl rfl trivial ?_
              refine go_getf dA_like_67 flA10 (by assumption) rfl ?_
              refine go_getf dA_like_70 flA70 (by assumption) rfl ?_
              refine go_ic_ge 101 dA_like_73 rfl (fun h73 => ?_) (fun h73 => absurd (by omega) h73)
              rw [show i = zmany (m 0) by omega] at hb ⊢
              refine go_iload_n (i := 2) dA_like_101 rfl rfl ?_
              refine go_if_ne 109 dA_like_102 rfl (fun h102 => ?_) (fun h102 => ?_)
              · refine go_aload_n (i := 0) dA_like_109 rfl rfl trivial ?_
                refine go_getf dA_like_110 flA48 (by assumption) rfl ?_
                refine go_iload_n (i := 3) dA_like_113 rfl rfl ?_
                refine go_iald' (zbest (fun i => - zap (m 0) nums i nn) (zmany (m 0))) _ dA_like_114 h56 rfl (by omega) (hf _ (by omega)) ?_
                refine go_iret dA_like_115 rfl rfl ?_
                exact ⟨by rw [ev, if_neg h102], F2, rfl, hC, hF⟩
              · refine go_iload_n (i := 3) dA_like_105 rfl rfl ?_
                refine go_goto 115 dA_like_106 rfl ?_
                refine go_iret dA_like_115 rfl rfl ?_
                exact ⟨by rw [ev, if_pos (by omega)], F2, rfl, hC, hF⟩
            | succ j ih =>
              intro i hi1 hi
              have hb := zbest_lt (fun i => - zap (m 0) nums i nn) i
              have e : zbest (fun i => - zap (m 0) nums i nn) (i + 1) = if - zap (m 0) nums (zbest (fun i => - zap (m 0) nums i nn) i) nn < - zap (m 0) nums i nn then i else zbest (fun i => - zap (m 0) nums i nn) i := rfl
              refine go_iload dA_like_64 rfl ?_
              refine go_aload_n (i := 0) dA_like_66 rfl rfl trivial ?_
              refine go_getf dA_like_67 flA10 (by assumption) rfl ?_
              refine go_getf dA_like_70 flA70 (by assumption) rfl ?_
              refine go_ic_ge 101 dA_like_73 rfl (fun h73 => absurd h73 (by omega)) (fun h73 => ?_)
              refine go_aload_n (i := 0) dA_like_76 rfl rfl trivial ?_
              refine go_getf dA_like_77 flA48 (by assumption) rfl ?_
              refine go_iload dA_like_80 rfl ?_
              refine go_iald' i _ dA_like_82 h56 rfl (by omega) (hf i (by omega)) ?_
              refine go_aload_n (i := 0) dA_like_83 rfl rfl trivial ?_
              refine go_getf dA_like_84 flA48 (by assumption) rfl ?_
              refine go_iload_n (i := 3) dA_like_87 rfl rfl ?_
              refine go_iald' (zbest (fun i => - zap (m 0) nums i nn) i) _ dA_like_88 h56 rfl (by omega) (hf _ (by omega)) ?_
              refine go_ic_ge 95 dA_like_89 rfl (fun h89 => ?_) (fun h89 => ?_)
              · refine go_inc4 (((i + 1 : Nat) : Int)) dA_like_95 (Nat.le_of_ble_eq_true rfl) trivial (by (try simp (discharger := (unfold inR; omega)) only [w32_id]) <;> omega) ?_
                refine go_goto 64 dA_like_98 rfl ?_
                have := ih (i + 1) (by omega) (by omega)
                rw [e, if_neg (by omega)] at this
                exact this
              · refine go_iload dA_like_92 rfl ?_
                refine go_is3 dA_like_94 (Nat.le_of_ble_eq_true rfl) trivial ?_
                refine go_inc4 (((i + 1 : Nat) : Int)) dA_like_95 (Nat.le_of_ble_eq_true rfl) trivial (by (try simp (discharger := (unfold inR; omega)) only [w32_id]) <;> omega) ?_
                refine go_goto 64 dA_like_98 rfl ?_
                have := ih (i + 1) (by omega) (by omega)
                rw [e, if_pos (by omega)] at this
                exact this
          refine go_iconst dA_like_59 (inR_of _ rfl) ?_
          refine go_is3 dA_like_60 (Nat.le_of_ble_eq_true rfl) trivial ?_
          refine go_iconst dA_like_61 (inR_of _ rfl) ?_
          refine go_is4 dA_like_62 (Nat.le_of_ble_eq_true rfl) trivial ?_
          have := loop (zmany (m 0) - 1) 1 (by omega) (by omega)
          rw [show zbest (fun i => - zap (m 0) nums i nn) 1 = 0 from by show (if _ then 0 else 0) = 0; split <;> rfl] at this
          exact this
        · refine go_ldc dA_like_46 kcA162 (inR_of _ rfl) ?_
          refine go_iret dA_like_48 rfl rfl ?_
          exact CB.same h (by unfold v_like v_likeN; rw [if_pos ok, if_neg (by omega), if_pos h43])
    · exact bad (by omega)
end CLIKE
