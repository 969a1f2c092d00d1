/-! ===== the component's public calls: copy, slots ===== -/
section CSLOT
variable {g : GX} {N a : Nat} {F F2 : Nat → GC} {m U : Nat → Nat → Int}
theorem bA_copy (h : COMP F m) (hJ : JV m) {k p k2 p2 n : Int} : CT g yA_copy 1 0 0 [gR 0, gI k, gI p, gI k2, gI p2, gI n] (N, F) (CB N F (gI (v_copy m k p k2 p2 n)) (u_copy m k p k2 p2 n)) := by
  have ho := h.1
  have h52 := h.2.2.2.2.2.1
  have z1 := zout_or k 0 3
  have z2 := zout_or k2 0 3
  refine CT.of' (L0 := [gR 0, gI k, gI p, gI k2, gI p2, gI n, gU, gU]) plA (Nat.le_of_ble_eq_true rfl) rfl ?_
  have bad : ∀ x : Int, c_copy m k p k2 p2 n = false → v_copy m k p k2 p2 n = x → CB N F (gI (v_copy m k p k2 p2 n)) (u_copy m k p k2 p2 n) (gI x) (N, F) := fun x hb e =>
    ⟨by rw [e], F, rfl, by unfold u_copy; rw [hb, if_neg (by decide)]; exact h, FK.rf⟩
  refine go_iload_n (i := 1) dA_copy_0 rfl rfl ?_
  refine go_iconst dA_copy_1 (inR_of _ rfl) ?_
  refine go_iconst dA_copy_2 (inR_of _ rfl) ?_
  refine go_SP dA_copy_3 vkA61 (ct_outside _ _ _) rfl (by omega) rfl (fun _ => Nat.le_of_ble_eq_true rfl) ?_
  refine go_if_ne 18 dA_copy_6 rfl (fun h6 => ?_) (fun h6 => ?_)
  · refine go_ldc dA_copy_18 kcA65 (inR_of _ rfl) ?_
    refine go_iret dA_copy_20 rfl rfl ?_
    exact bad _ (decide_eq_false (fun q => by have := q.1; omega)) (by unfold v_copy; rw [if_neg (by omega)])
  · refine go_iload_n (i := 3) dA_copy_9 rfl rfl ?_
    refine go_iconst dA_copy_10 (inR_of _ rfl) ?_
    refine go_iconst dA_copy_11 (inR_of _ rfl) ?_
    refine go_SP dA_copy_12 vkA61 (ct_outside _ _ _) rfl (by omega) rfl (fun _ => Nat.le_of_ble_eq_true rfl) ?_
    refine go_if_eq 21 dA_copy_15 rfl (fun h15 => ?_) (fun h15 => ?_)
    · have hk : (0 ≤ k ∧ k ≤ 3) ∧ 0 ≤ k2 ∧ k2 ≤ 3 := by omega
      obtain ⟨hs, f, hf, ef⟩ := h.2.2.2.2.2.2.2.2.2.2.1 k.toNat (by omega)
      obtain ⟨hs2, f2, hf2, ef2⟩ := h.2.2.2.2.2.2.2.2.2.2.1 k2.toNat (by omega)
      have hso := hJ.1.2.2.1 k.toNat (by omega)
      have hso2 := hJ.1.2.2.1 k2.toNat (by omega)
      have miss : (m 9 k.toNat < 0 ∨ m 9 k2.toNat < 0) → Go g yA_copy 1 0 0 53 [gR 0, gI k, gI p, gI k2, gI p2, gI n, gR (57 + 2 * k.toNat), gR (57 + 2 * k2.toNat)] [] (N, F) (CB N F (gI (v_copy m k p k2 p2 n)) (u_copy m k p k2 p2 n)) := by
        intro hm
        refine go_ldc dA_copy_53 kcA232 (inR_of _ rfl) ?_
        refine go_iret dA_copy_55 rfl rfl ?_
        exact bad _ (decide_eq_false (fun q => q.2.1 hm)) (by unfold v_copy; rw [if_pos hk, if_pos hm])
      refine go_aload_n (i := 0) dA_copy_21 rfl rfl trivial ?_
      refine go_getf dA_copy_22 flA31 (by assumption) rfl ?_
      refine go_iload_n (i := 1) dA_copy_25 rfl rfl ?_
      refine go_aald' 3 "GooseCounty$Sheet" k.toNat (57 + 2 * k.toNat) dA_copy_26 h52 rfl (by omega) (by omega) (shR_at (by omega)) ?_
      refine go_as6 dA_copy_27 (Nat.le_of_ble_eq_true rfl) trivial trivial ?_
      refine go_aload_n (i := 0) dA_copy_29 rfl rfl trivial ?_
      refine go_getf dA_copy_30 flA31 (by assumption) rfl ?_
      refine go_iload_n (i := 3) dA_copy_33 rfl rfl ?_
      refine go_aald' 3 "GooseCounty$Sheet" k2.toNat (57 + 2 * k2.toNat) dA_copy_34 h52 rfl (by omega) (by omega) (shR_at (by omega)) ?_
      refine go_as7 dA_copy_35 (Nat.le_of_ble_eq_true rfl) trivial trivial ?_
      refine go_aload dA_copy_37 rfl trivial ?_
      refine go_VP dA_copy_39 vkA228 (by assumption) (List.cons_ne_nil _ _) (qS_isMissing hs) rfl (by omega) rfl (fun _ => Nat.le_of_ble_eq_true rfl) ?_
      by_cases c9 : m 9 k.toNat = -1
      · rw [if_pos c9]
        refine go_if_ne 53 dA_copy_42 rfl (fun _ => ?_) (fun h8 => absurd h8 (by omega))
        exact miss (by omega)
      · rw [if_neg c9]
        refine go_if_ne 53 dA_copy_42 rfl (fun h8 => absurd rfl h8) (fun _ => ?_)
        refine go_aload dA_copy_45 rfl trivial ?_
        refine go_VP dA_copy_47 vkA228 (by assumption) (List.cons_ne_nil _ _) (qS_isMissing hs2) rfl (by omega) rfl (fun _ => Nat.le_of_ble_eq_true rfl) ?_
        by_cases d9 : m 9 k2.toNat = -1
        · rw [if_pos d9]
          refine go_if_eq 56 dA_copy_50 rfl (fun h50 => absurd h50 (by omega)) (fun h50 => ?_)
          exact miss (by omega)
        · rw [if_neg d9]
          refine go_if_eq 56 dA_copy_50 rfl (fun h50 => ?_) (fun h50 => absurd (by omega) h50)
          have nm : ¬ (m 9 k.toNat < 0 ∨ m 9 k2.toNat < 0) := by omega
          refine go_aload dA_copy_56 rfl trivial ?_
          refine go_getf dA_copy_58 flA299 (by assumption) rfl ?_
          refine go_aload dA_copy_61 rfl trivial ?_
          refine go_getf dA_copy_63 flA299 (by assumption) rfl ?_
          refine go_ic_eq 72 dA_copy_66 rfl (fun h66 => ?_) (fun h66 => ?_)
          · have out : ¬ (c_there m k p n = true ∧ c_there m k2 p2 n = true) → Go g yA_copy 1 0 0 100 [gR 0, gI k, gI p, gI k2, gI p2, gI n, gR (57 + 2 * k.toNat), gR (57 + 2 * k2.toNat)] [] (N, F) (CB N F (gI (v_copy m k p k2 p2 n)) (u_copy m k p k2 p2 n)) := by
              intro hm
              refine go_ldcw dA_copy_100 kcA298 (inR_of _ rfl) ?_
              refine go_iret dA_copy_103 rfl rfl ?_
              exact bad _ (decide_eq_false (fun q => hm q.2.2.2)) (by unfold v_copy; rw [if_pos hk, if_neg nm, if_neg (fun q => q h66), if_neg hm])
            refine go_iload dA_copy_72 rfl ?_
            refine go_if_lt 100 dA_copy_74 rfl (fun h74 => ?_) (fun h74 => ?_)
            · exact out (fun q => by have := of_decide_eq_true q.1; omega)
            · refine go_aload dA_copy_77 rfl trivial ?_
              refine go_iload_n (i := 2) dA_copy_79 rfl rfl ?_
              refine go_iload dA_copy_80 rfl ?_
              refine go_VP dA_copy_82 vkA306 (by assumption) (List.cons_ne_nil _ _) (qS_hasPlaces hs hso.2 (by omega)) rfl (by omega) rfl (fun _ => Nat.le_of_ble_eq_true rfl) ?_
              by_cases t1 : c_there m k p n = true
              · have t1' : decide (0 ≤ p ∧ 0 ≤ n ∧ n ≤ m 10 k.toNat - p) = true := t1
                rw [if_pos t1']
                refine go_if_eq 100 dA_copy_85 rfl (fun h85 => absurd h85 (by omega)) (fun h85 => ?_)
                refine go_aload dA_copy_88 rfl trivial ?_
                refine go_iload dA_copy_90 rfl ?_
                refine go_iload dA_copy_92 rfl ?_
                refine go_VP dA_copy_94 vkA306 (by assumption) (List.cons_ne_nil _ _) (qS_hasPlaces hs2 hso2.2 (by omega)) rfl (by omega) rfl (fun _ => Nat.le_of_ble_eq_true rfl) ?_
                by_cases t2 : c_there m k2 p2 n = true
                · have t2' : decide (0 ≤ p2 ∧ 0 ≤ n ∧ n ≤ m 10 k2.toNat - p2) = true := t2
                  rw [if_pos t2']
                  refine go_if_ne 104 dA_copy_97 rfl (fun _ => ?_) (fun h8 => absurd h8 (by omega))
                  have b1 := of_decide_eq_true t1'
                  have b2 := of_decide_eq_true t2'
                  refine go_aload dA_copy_104 rfl trivial ?_
                  refine go_getf dA_copy_106 flA243 (by assumption) rfl ?_
                  refine go_iload_n (i := 2) dA_copy_109 rfl rfl ?_
                  refine go_aload dA_copy_110 rfl trivial ?_
                  refine go_getf dA_copy_112 flA243 (by assumption) rfl ?_
                  refine go_iload dA_copy_115 rfl ?_
                  refine go_iload dA_copy_117 rfl ?_
                  refine go_acI dA_copy_119 (acA310 rfl) hf hf2 (by omega) (by omega) (by omega) (by omega) (by omega) (Nat.le_of_ble_eq_true rfl) (by omega) ?_
                  refine go_iload dA_copy_122 rfl ?_
                  refine go_iret dA_copy_124 rfl rfl ?_
                  have hc : c_copy m k p k2 p2 n = true := decide_eq_true ⟨hk, nm, h66, t1, t2⟩
                  have eu : u_copy m k p k2 p2 n = va_up m 11 (zcp (m 11) (24 * k2.toNat + p2.toNat) (fun i => m 11 (24 * k.toNat + p.toNat + i)) n.toNat) := by unfold u_copy; exact if_pos hc
                  rw [eu]
                  obtain ⟨c1, c2⟩ := h.sh (U := va_up m 11 (zcp (m 11) (24 * k2.toNat + p2.toNat) (fun i => m 11 (24 * k.toNat + p.toNat + i)) n.toNat)) (F2 := va_up F (57 + 2 * k2.toNat + 1) (cI 24 (va_cpy f f2 p.toNat p2.toNat n.toNat))) (k := k2.toNat) (by omega) (fun j j1 j2 => va_up_ne _ _ (by omega)) (by
                    refine ⟨by rw [va_up_ne _ _ (by omega)]; exact hs2, _, va_up_self _ _ _, fun q d hd => ?_⟩
                    show va_cpy f f2 p.toNat p2.toNat n.toNat d = zcp (m 11) (24 * k2.toNat + p2.toNat) (fun i => m 11 (24 * k.toNat + p.toNat + i)) n.toNat (24 * k2.toNat + d)
                    unfold va_cpy
                    by_cases c : p2.toNat ≤ d ∧ d < p2.toNat + n.toNat
                    · rw [if_pos c, ef (by omega) _ (by omega)]
                      have hh := zcp_hit (T := m 11) (b := 24 * k2.toNat + p2.toNat) (f := fun i => m 11 (24 * k.toNat + p.toNat + i)) (n := n.toNat) (i := d - p2.toNat) (by omega)
                      rw [show 24 * k2.toNat + p2.toNat + (d - p2.toNat) = 24 * k2.toNat + d by omega] at hh
                      rw [hh]
                      congr 1
                      omega
                    · rw [if_neg c, zcp_miss (by omega)]
                      exact ef2 (by omega) d hd) rfl rfl rfl rfl rfl rfl rfl rfl (fun j hj => rfl) (fun j hj => rfl) (fun j d hj hd => zcp_miss (by omega))
                  exact ⟨by unfold v_copy; rw [if_pos hk, if_neg nm, if_neg (fun q => q h66), if_pos ⟨t1, t2⟩], _, rfl, c1, c2⟩
                · have t2' : ¬ decide (0 ≤ p2 ∧ 0 ≤ n ∧ n ≤ m 10 k2.toNat - p2) = true := t2
                  rw [if_neg t2']
                  refine go_if_ne 104 dA_copy_97 rfl (fun h8 => absurd rfl h8) (fun _ => ?_)
                  exact out (fun q => t2 q.2)
              · have t1' : ¬ decide (0 ≤ p ∧ 0 ≤ n ∧ n ≤ m 10 k.toNat - p) = true := t1
                rw [if_neg t1']
                refine go_if_eq 100 dA_copy_85 rfl (fun h85 => ?_) (fun h85 => absurd (by omega) h85)
                exact out (fun q => t1 q.1)
          · refine go_ldc dA_copy_69 kcA114 (inR_of _ rfl) ?_
            refine go_iret dA_copy_71 rfl rfl ?_
            exact bad _ (decide_eq_false (fun q => h66 q.2.2.1)) (by unfold v_copy; rw [if_pos hk, if_neg nm, if_pos h66])
    · refine go_ldc dA_copy_18 kcA65 (inR_of _ rfl) ?_
      refine go_iret dA_copy_20 rfl rfl ?_
      exact bad _ (decide_eq_false (fun q => by have := q.1; omega)) (by unfold v_copy; rw [if_neg (by omega)])
/-- one slot becomes another -/
theorem COMP.slot {k : Nat} (h : COMP F m) (hk : k < 5) (hF : ∀ j : Nat, ¬ (65 + 4 * k ≤ j ∧ j < 69 + 4 * k) → F2 j = F j) (hS : SLT F2 k U) (e0 : U 0 = m 0) (e1 : U 1 = m 1) (e3 : U 3 = m 3) (e7 : U 7 = m 7) (e17 : U 17 = m 17) (e13 : ∀ j : Nat, j ≠ k → U 13 j = m 13 j) (e14 : ∀ j : Nat, j ≠ k → U 14 j = m 14 j) (e15 : ∀ j d : Nat, j ≠ k → d < 4 → U 15 (4 * j + d) = m 15 (4 * j + d)) (e9 : ∀ j : Nat, j ≠ 4 + k → U 9 j = m 9 j) (e10 : ∀ j : Nat, j ≠ 4 + k → U 10 j = m 10 j) (e11 : ∀ j d : Nat, j ≠ 4 + k → d < 24 → U 11 (24 * j + d) = m 11 (24 * j + d)) : COMP F2 U ∧ FK pA F F2 := by
  have hfk : FK (fun j => 65 + 4 * k ≤ j ∧ j < 69 + 4 * k) F F2 := fun j hj => by
    have e := hF j hj
    exact ⟨fun _ => e, fun n f q => ⟨f, by rw [e]; exact q⟩⟩
  refine ⟨h.rst hfk (fun j q => by omega) (h.2.2.2.2.sl (fun j j1 j2 => hF j (by omega)) e3 e7 (by rw [e17]) (fun j hj => ?_) (fun j hj => ?_)) e0 e1 (by rw [e17]) (by rw [e17]), hfk.mono (fun j q => by show j < 85; omega)⟩
  · exact ((h.2.2.2.2.2.2.2.2.2.2.1 j hj).at (hF _ (by omega)) (hF _ (by omega))).cong (e9 j (by omega)) (e10 j (by omega)) (fun d hd => e11 j d (by omega) hd)
  · by_cases q : j = k
    · subst q; exact hS
    · obtain ⟨s1, ⟨f, s2, t0, t1, t2, t4⟩, s3⟩ := (h.2.2.2.2.2.2.2.2.2.2.2 j hj).at (F2 := F2) (fun i i1 i2 => hF i (by omega))
      exact ⟨by rw [e13 j q, e14 j q]; exact s1, ⟨f, s2, t0.trans (e15 j 0 q (by omega)).symm, t1.trans (e15 j 1 q (by omega)).symm, t2.trans (e15 j 2 q (by omega)).symm, t4.trans (e15 j 3 q (by omega)).symm⟩, s3.cong (e9 _ (by omega)) (e10 _ (by omega)) (fun d hd => e11 _ d (by omega) hd)⟩
theorem qS_become {a2 : Nat} {so pl so2 pl2 : Int} {f f2 : Nat → Int} (h : F a = cO 5 [gI so, gI pl, gR (a + 1)]) (hf : F (a + 1) = cI 24 f) (h2 : F a2 = cO 5 [gI so2, gI pl2, gR (a2 + 1)]) (hf2 : F (a2 + 1) = cI 24 f2) (ha : a2 + 1 < a) : CT g yS_become 1 0 0 [gR a, gR a2] (N, F) (fun rr M' => rr = gU ∧ ∃ (F2 : Nat → GC), M' = (N, F2) ∧ (∀ j : Nat, j ≠ a → j ≠ a + 1 → F2 j = F j) ∧ F2 a = cO 5 [gI so2, gI pl2, gR (a + 1)] ∧ F2 (a + 1) = cI 24 (va_cpy f2 f 0 0 24)) := by
  have hh : ∀ c : GC, va_up F a c a2 = cO 5 [gI so2, gI pl2, gR (a2 + 1)] := fun c => by rw [va_up_ne _ _ (by omega)]; exact h2
  refine CT.of' (L0 := [gR a, gR a2]) plS (Nat.le_of_ble_eq_true rfl) rfl ?_
  refine go_aload_n (i := 0) dS_become_0 rfl rfl trivial ?_
  refine go_aload_n (i := 1) dS_become_1 rfl rfl trivial ?_
  refine go_getf dS_become_2 flS9 h2 rfl ?_
  refine go_putf dS_become_5 flS9 h (by show 0 < 3; omega) rfl rfl ?_
  refine go_aload_n (i := 0) dS_become_8 rfl rfl trivial ?_
  refine go_aload_n (i := 1) dS_become_9 rfl rfl trivial ?_
  refine go_getf dS_become_10 flS15 (hh _) rfl ?_
  refine go_putf dS_become_13 flS15 (va_up_self _ _ _) (by show 1 < 3; omega) rfl rfl ?_
  rw [va_up_up]
  refine go_aload_n (i := 1) dS_become_16 rfl rfl trivial ?_
  refine go_getf dS_become_17 flS18 (hh _) rfl ?_
  refine go_iconst dS_become_20 (inR_of _ rfl) ?_
  refine go_aload_n (i := 0) dS_become_21 rfl rfl trivial ?_
  refine go_getf dS_become_22 flS18 (va_up_self _ _ _) rfl ?_
  refine go_iconst dS_become_25 (inR_of _ rfl) ?_
  refine go_bipush dS_become_26 (inR_of _ rfl) rfl ?_
  refine go_acI dS_become_28 (acS28 rfl) (show _ = cI 24 f2 by rw [va_up_ne _ _ (by omega)]; exact hf2) (show _ = cI 24 f by rw [va_up_ne _ _ (by omega)]; exact hf) (by omega) (by omega) (by omega) (by omega) (by omega) (Nat.le_of_ble_eq_true rfl) (by omega) ?_
  refine go_vret dS_become_31 rfl ?_
  exact ⟨rfl, _, rfl, fun j j1 j2 => by rw [va_up_ne _ _ j2, va_up_ne _ _ j1], by rw [va_up_ne _ _ (by omega), va_up_self]; rfl, va_up_self _ _ _⟩
theorem bA_lay (h : COMP F m) (hJ : JV m) {k w v : Int} : CT g yA_lay 2 0 0 [gR 0, gI k, gI w, gI v] (N, F) (CB N F (gI (v_lay m k w v)) (u_layS m k w v)) := by
  have ho := h.1
  have hn := h.2.1.1
  have hr := h.2.1.2.1
  have h52 := h.2.2.2.2.2.1
  have h53 := h.2.2.2.2.2.2.1
  have z1 := zout_or k 0 4
  have z2 := zout_or w 0 3
  have z3 := zout_or v 0 3
  have w0 := hJ.zg.1.1
  refine CT.of' (L0 := [gR 0, gI k, gI w, gI v, gU, gU]) plA (Nat.le_of_ble_eq_true rfl) rfl ?_
  have bad : c_lay m k w v = false → CB N F (gI (v_lay m k w v)) (u_layS m k w v) (gI BAD) (N, F) := fun hb =>
    ⟨by unfold v_lay; rw [hb, if_neg (by decide)], F, rfl, by unfold u_layS; rw [hb, if_neg (by decide)]; exact h, FK.rf⟩
  refine go_iload_n (i := 1) dA_lay_0 rfl rfl ?_
  refine go_iconst dA_lay_1 (inR_of _ rfl) ?_
  refine go_iconst dA_lay_2 (inR_of _ rfl) ?_
  refine go_SP dA_lay_3 vkA61 (ct_outside _ _ _) rfl (by omega) rfl (fun _ => Nat.le_of_ble_eq_true rfl) ?_
  refine go_if_ne 18 dA_lay_6 rfl (fun h6 => ?_) (fun h6 => ?_)
  · refine go_ldc dA_lay_18 kcA65 (inR_of _ rfl) ?_
    refine go_iret dA_lay_20 rfl rfl ?_
    exact bad (decide_eq_false (by omega))
  · refine go_iload_n (i := 2) dA_lay_9 rfl rfl ?_
    refine go_iconst dA_lay_10 (inR_of _ rfl) ?_
    refine go_iconst dA_lay_11 (inR_of _ rfl) ?_
    refine go_SP dA_lay_12 vkA61 (ct_outside _ _ _) rfl (by omega) rfl (fun _ => Nat.le_of_ble_eq_true rfl) ?_
    refine go_if_eq 21 dA_lay_15 rfl (fun h15 => ?_) (fun h15 => ?_)
    · have hk : 0 ≤ k ∧ k ≤ 4 := by omega
      obtain ⟨hsl, ⟨fg, hfg, g0, g1, g2, g4⟩, ⟨hsh, fs, hfs, efs⟩⟩ := h.2.2.2.2.2.2.2.2.2.2.2 k.toNat (by omega)
      rw [show 67 + 4 * k.toNat + 1 = 68 + 4 * k.toNat by omega] at hsh hfs
      -- the end: number and thing
      have fin : ∀ F1 : Nat → GC, c_lay m k w v = true → ¬ (w = 2 ∧ m 9 v.toNat < 0) → F1 (65 + 4 * k.toNat) = cO 6 [gI (m 13 k.toNat), gI (m 14 k.toNat), gR (66 + 4 * k.toNat), gR (67 + 4 * k.toNat)] → (∀ F2 : Nat → GC, (∀ j : Nat, j ≠ 65 + 4 * k.toNat → F2 j = F1 j) → F2 (65 + 4 * k.toNat) = cO 6 [gI w, gI v, gR (66 + 4 * k.toNat), gR (67 + 4 * k.toNat)] → COMP F2 (u_laid m k.toNat w v) ∧ FK pA F F2) → Go g yA_lay 2 0 0 114 [gR 0, gI k, gI w, gI v, gR (65 + 4 * k.toNat), gU] [] (N, F1) (CB N F (gI (v_lay m k w v)) (u_layS m k w v)) := by
        intro F1 hc hm h1 hU
        refine go_aload dA_lay_114 rfl trivial ?_
        refine go_iload_n (i := 3) dA_lay_116 rfl rfl ?_
        refine go_putf dA_lay_117 flA329 h1 (by show 1 < 4; omega) rfl rfl ?_
        refine go_aload dA_lay_120 rfl trivial ?_
        refine go_getf dA_lay_122 flA332 (va_up_self _ _ _) rfl ?_
        refine go_is5 dA_lay_125 (Nat.le_of_ble_eq_true rfl) trivial ?_
        refine go_aload dA_lay_127 rfl trivial ?_
        refine go_iload_n (i := 2) dA_lay_129 rfl rfl ?_
        refine go_putf dA_lay_130 flA332 (va_up_self _ _ _) (by show 0 < 4; omega) rfl rfl ?_
        rw [va_up_up]
        refine go_iload dA_lay_133 rfl ?_
        refine go_iret dA_lay_135 rfl rfl ?_
        obtain ⟨c1, c2⟩ := hU _ (fun j hj => va_up_ne _ _ hj) (va_up_self _ _ _)
        refine ⟨by unfold v_lay; rw [if_pos hc, if_neg hm], _, rfl, ?_, c2⟩
        unfold u_layS
        rw [if_pos hc, if_neg hm]
        exact c1
      refine go_aload_n (i := 0) dA_lay_21 rfl rfl trivial ?_
      refine go_getf dA_lay_22 flA37 (by assumption) rfl ?_
      refine go_iload_n (i := 1) dA_lay_25 rfl rfl ?_
      refine go_aald' 4 "GooseCounty$Slot" k.toNat (65 + 4 * k.toNat) dA_lay_26 h53 rfl (by omega) (by omega) (slR_at (by omega)) ?_
      refine go_as4 dA_lay_27 (Nat.le_of_ble_eq_true rfl) trivial trivial ?_
      refine go_iload_n (i := 2) dA_lay_29 rfl rfl ?_
      refine go_iconst dA_lay_30 (inR_of _ rfl) ?_
      refine go_ic_ne 68 dA_lay_31 rfl (fun h31 => ?_) (fun h31 => ?_)
      · refine go_iload_n (i := 2) dA_lay_68 rfl rfl ?_
        refine go_iconst dA_lay_69 (inR_of _ rfl) ?_
        refine go_ic_ne 114 dA_lay_70 rfl (fun h70 => ?_) (fun h70 => ?_)
        · have hc : c_lay m k w v = true := decide_eq_true (by omega)
          refine fin F hc (fun q => h70 q.1) hsl (fun F2 hF e => ?_)
          have eu : u_laid m k.toNat w v = va_up (va_up m 13 (va_up (m 13) k.toNat w)) 14 (va_up (m 14) k.toNat v) := by unfold u_laid; rw [if_neg h31, if_neg h70]
          rw [eu]
          refine h.slot (k := k.toNat) (by omega) (fun j hj => hF j (by omega)) ⟨?_, ⟨fg, by rw [hF _ (by omega)]; exact hfg, g0, g1, g2, g4⟩, ⟨by rw [hF _ (by omega), show 67 + 4 * k.toNat + 1 = 68 + 4 * k.toNat by omega]; exact hsh, fs, by rw [show 67 + 4 * k.toNat + 1 = 68 + 4 * k.toNat by omega, hF _ (by omega)]; exact hfs, efs⟩⟩ rfl rfl rfl rfl rfl (fun j hj => va_up_ne _ _ hj) (fun j hj => va_up_ne _ _ hj) (fun j d hj hd => rfl) (fun j hj => rfl) (fun j hj => rfl) (fun j d hj hd => rfl)
          show F2 _ = cO 6 [gI (va_up (m 13) k.toNat w k.toNat), gI (va_up (m 14) k.toNat v k.toNat), _, _]
          rw [va_up_self, va_up_self]; exact e
        · refine go_iload_n (i := 3) dA_lay_73 rfl rfl ?_
          refine go_iconst dA_lay_74 (inR_of _ rfl) ?_
          refine go_iconst dA_lay_75 (inR_of _ rfl) ?_
          refine go_SP dA_lay_76 vkA61 (ct_outside _ _ _) rfl (by omega) rfl (fun _ => Nat.le_of_ble_eq_true rfl) ?_
          refine go_if_eq 85 dA_lay_79 rfl (fun h79 => ?_) (fun h79 => ?_)
          · have hv : 0 ≤ v ∧ v ≤ 3 := by omega
            obtain ⟨hs2, f2, hf2, ef2⟩ := h.2.2.2.2.2.2.2.2.2.2.1 v.toNat (by omega)
            have hso := hJ.1.2.2.1 v.toNat (by omega)
            have hc : c_lay m k w v = true := decide_eq_true (by omega)
            refine go_aload_n (i := 0) dA_lay_85 rfl rfl trivial ?_
            refine go_getf dA_lay_86 flA31 (by assumption) rfl ?_
            refine go_iload_n (i := 3) dA_lay_89 rfl rfl ?_
            refine go_aald' 3 "GooseCounty$Sheet" v.toNat (57 + 2 * v.toNat) dA_lay_90 h52 rfl (by omega) (by omega) (shR_at (by omega)) ?_
            refine go_VP dA_lay_91 vkA228 (by assumption) (List.cons_ne_nil _ _) (qS_isMissing hs2) rfl (by omega) rfl (fun _ => Nat.le_of_ble_eq_true rfl) ?_
            by_cases c9 : m 9 v.toNat = -1
            · rw [if_pos c9]
              refine go_if_eq 100 dA_lay_94 rfl (fun h94 => absurd h94 (by omega)) (fun h94 => ?_)
              refine go_ldc dA_lay_97 kcA232 (inR_of _ rfl) ?_
              refine go_iret dA_lay_99 rfl rfl ?_
              exact ⟨by unfold v_lay; rw [if_pos hc, if_pos (by omega)], F, rfl, by unfold u_layS; rw [if_pos hc, if_pos (by omega)]; exact h, FK.rf⟩
            · rw [if_neg c9]
              refine go_if_eq 100 dA_lay_94 rfl (fun h94 => ?_) (fun h94 => absurd (by omega) h94)
              have hsh' : F (67 + 4 * k.toNat) = cO 5 [gI (m 9 (4 + k.toNat)), gI (m 10 (4 + k.toNat)), gR (67 + 4 * k.toNat + 1)] := by rw [show 67 + 4 * k.toNat + 1 = 68 + 4 * k.toNat by omega]; exact hsh
              have hfs' : F (67 + 4 * k.toNat + 1) = cI 24 fs := by rw [show 67 + 4 * k.toNat + 1 = 68 + 4 * k.toNat by omega]; exact hfs
              have bec := qS_become (g := g) (N := N) hsh' hfs' hs2 hf2 (by omega)
              refine go_aload dA_lay_100 rfl trivial ?_
              refine go_getf dA_lay_102 flA323 (by assumption) rfl ?_
              refine go_aload_n (i := 0) dA_lay_105 rfl rfl trivial ?_
              refine go_getf dA_lay_106 flA31 (by assumption) rfl ?_
              refine go_iload_n (i := 3) dA_lay_109 rfl rfl ?_
              refine go_aald' 3 "GooseCounty$Sheet" v.toNat (57 + 2 * v.toNat) dA_lay_110 h52 rfl (by omega) (by omega) (shR_at (by omega)) ?_
              refine go_VX dA_lay_111 vkA327 (by assumption) (List.cons_ne_nil _ _) (bec) rfl (by omega) (by omega) (by omega) rfl (fun _ => Nat.le_of_ble_eq_true rfl) ?_
              rintro _ _ ⟨rfl, F1, rfl, hF1, e1, e2⟩ -
              dsimp only [rp]
              refine fin F1 hc (by omega) (by rw [hF1 _ (by omega) (by omega)]; exact hsl) (fun F2 hF e => ?_)
              have eu : u_laid m k.toNat w v = u_hs (va_up (va_up m 13 (va_up (m 13) k.toNat w)) 14 (va_up (m 14) k.toNat v)) k.toNat v.toNat := by unfold u_laid; rw [if_neg h31, if_pos (by omega)]
              rw [eu]
              refine h.slot (k := k.toNat) (by omega) (fun j hj => by rw [hF j (by omega), hF1 j (by omega) (by omega)]) ⟨?_, ⟨fg, by rw [hF _ (by omega), hF1 _ (by omega) (by omega)]; exact hfg, g0, g1, g2, g4⟩, ⟨?_, va_cpy f2 fs 0 0 24, by rw [hF _ (by omega)]; exact e2, fun q d hd => ?_⟩⟩ rfl rfl rfl rfl rfl (fun j hj => va_up_ne _ _ hj) (fun j hj => va_up_ne _ _ hj) (fun j d hj hd => rfl) (fun j hj => va_up_ne _ _ hj) (fun j hj => va_up_ne _ _ hj) (fun j d hj hd => zcp_miss (by omega))
              · show F2 _ = cO 6 [gI (va_up (m 13) k.toNat w k.toNat), gI (va_up (m 14) k.toNat v k.toNat), _, _]
                rw [va_up_self, va_up_self]; exact e
              · show F2 _ = cO 5 [gI (va_up (m 9) (4 + k.toNat) (m 9 v.toNat) (4 + k.toNat)), gI (va_up (m 10) (4 + k.toNat) (m 10 v.toNat) (4 + k.toNat)), _]
                rw [va_up_self, va_up_self, hF _ (by omega)]; exact e1
              · show va_cpy f2 fs 0 0 24 d = zcp (m 11) (24 * (4 + k.toNat)) (fun i => m 11 (24 * v.toNat + i)) 24 (24 * (4 + k.toNat) + d)
                rw [zcp_hit hd]
                unfold va_cpy
                rw [if_pos (by omega)]
                have := ef2 (by omega) d hd
                rw [show 0 + (d - 0) = d by omega]; exact this
          · refine go_ldc dA_lay_82 kcA65 (inR_of _ rfl) ?_
            refine go_iret dA_lay_84 rfl rfl ?_
            exact bad (decide_eq_false (by omega))
      · refine go_aload_n (i := 0) dA_lay_34 rfl rfl trivial ?_
        refine go_getf dA_lay_35 flA10 (by assumption) rfl ?_
        refine go_iload_n (i := 3) dA_lay_38 rfl rfl ?_
        refine go_VP dA_lay_39 vkA74 (by assumption) (List.cons_ne_nil _ _) (qB_hasGoose h.2.1) rfl (by omega) rfl (fun _ => Nat.le_of_ble_eq_true rfl) ?_
        by_cases c : 0 ≤ v ∧ v < m 0 0
        · rw [if_pos c]
          refine go_if_ne 48 dA_lay_42 rfl (fun _ => ?_) (fun h8 => absurd h8 (by omega))
          have hii : ((v.toNat : Nat) : Int) = v := by omega
          have hg : F (1 + 6 + v.toNat) = cO 2 (g5 (fun w => zk (m 0) v.toNat w)) := h.2.1.gs (i := v.toNat) (by omega) (by omega)
          have hgo := hJ.zg.1.goose (i := (v.toNat : Int)) (by omega) (by omega)
          have hc : c_lay m k w v = true := decide_eq_true (by omega)
          refine go_aload dA_lay_48 rfl trivial ?_
          refine go_getf dA_lay_50 flA316 (by assumption) rfl ?_
          refine go_aload_n (i := 0) dA_lay_53 rfl rfl trivial ?_
          refine go_getf dA_lay_54 flA10 (by assumption) rfl ?_
          refine go_getf dA_lay_57 flA78 (by assumption) rfl ?_
          refine go_iload_n (i := 3) dA_lay_60 rfl rfl ?_
          refine go_aald' 1 "GooseCounty$Goose" (v.toNat) (1 + 6 + v.toNat) dA_lay_61 (by assumption) rfl (by omega) (by omega) (gRow_at (by omega)) ?_
          refine go_VX dA_lay_62 vkA320 (by assumption) (List.cons_ne_nil _ _) (qG_become hfg hg) rfl (by omega) (by omega) (by omega) rfl (fun _ => Nat.le_of_ble_eq_true rfl) ?_
          rintro _ _ ⟨rfl, rfl⟩ -
          dsimp only [rp]
          refine go_goto 114 dA_lay_65 rfl ?_
          refine fin _ hc (by omega) (by rw [va_up_ne _ _ (by omega)]; exact hsl) (fun F2 hF e => ?_)
          have eu : u_laid m k.toNat w v = u_hg (va_up (va_up m 13 (va_up (m 13) k.toNat w)) 14 (va_up (m 14) k.toNat v)) k.toNat v.toNat := by unfold u_laid; rw [if_pos h31]
          rw [eu]
          refine h.slot (k := k.toNat) (by omega) (fun j hj => by rw [hF j (by omega), va_up_ne _ _ (by omega)]) ⟨?_, ⟨fun w => zk (m 0) v.toNat w, by rw [hF _ (by omega), va_up_self], ?_, ?_, ?_, ?_⟩, ⟨by rw [hF _ (by omega), va_up_ne _ _ (by omega), show 67 + 4 * k.toNat + 1 = 68 + 4 * k.toNat by omega]; exact hsh, fs, by rw [show 67 + 4 * k.toNat + 1 = 68 + 4 * k.toNat by omega, hF _ (by omega), va_up_ne _ _ (by omega)]; exact hfs, efs⟩⟩ rfl rfl rfl rfl rfl (fun j hj => va_up_ne _ _ hj) (fun j hj => va_up_ne _ _ hj) (fun j d hj hd => ?_) (fun j hj => rfl) (fun j hj => rfl) (fun j d hj hd => rfl)
          · show F2 _ = cO 6 [gI (va_up (m 13) k.toNat w k.toNat), gI (va_up (m 14) k.toNat v k.toNat), _, _]
            rw [va_up_self, va_up_self]; exact e
          · show zk (m 0) v.toNat 0 = va_up (va_up (va_up (va_up (m 15) (4 * k.toNat) (zk (m 0) v.toNat 0)) (4 * k.toNat + 1) (zk (m 0) v.toNat 1)) (4 * k.toNat + 2) (zk (m 0) v.toNat 2)) (4 * k.toNat + 3) (zk (m 0) v.toNat 4) (4 * k.toNat)
            rw [va_up_ne _ _ (by omega), va_up_ne _ _ (by omega), va_up_ne _ _ (by omega), va_up_self]
          · show zk (m 0) v.toNat 1 = va_up (va_up (va_up (va_up (m 15) (4 * k.toNat) (zk (m 0) v.toNat 0)) (4 * k.toNat + 1) (zk (m 0) v.toNat 1)) (4 * k.toNat + 2) (zk (m 0) v.toNat 2)) (4 * k.toNat + 3) (zk (m 0) v.toNat 4) (4 * k.toNat + 1)
            rw [va_up_ne _ _ (by omega), va_up_ne _ _ (by omega), va_up_self]
          · show zk (m 0) v.toNat 2 = va_up (va_up (va_up (va_up (m 15) (4 * k.toNat) (zk (m 0) v.toNat 0)) (4 * k.toNat + 1) (zk (m 0) v.toNat 1)) (4 * k.toNat + 2) (zk (m 0) v.toNat 2)) (4 * k.toNat + 3) (zk (m 0) v.toNat 4) (4 * k.toNat + 2)
            rw [va_up_ne _ _ (by omega), va_up_self]
          · show zk (m 0) v.toNat 4 = va_up (va_up (va_up (va_up (m 15) (4 * k.toNat) (zk (m 0) v.toNat 0)) (4 * k.toNat + 1) (zk (m 0) v.toNat 1)) (4 * k.toNat + 2) (zk (m 0) v.toNat 2)) (4 * k.toNat + 3) (zk (m 0) v.toNat 4) (4 * k.toNat + 3)
            rw [va_up_self]
          · show va_up (va_up (va_up (va_up (m 15) (4 * k.toNat) (zk (m 0) v.toNat 0)) (4 * k.toNat + 1) (zk (m 0) v.toNat 1)) (4 * k.toNat + 2) (zk (m 0) v.toNat 2)) (4 * k.toNat + 3) (zk (m 0) v.toNat 4) (4 * j + d) = m 15 (4 * j + d)
            rw [va_up_ne _ _ (by omega), va_up_ne _ _ (by omega), va_up_ne _ _ (by omega), va_up_ne _ _ (by omega)]
        · rw [if_neg c]
          refine go_if_ne 48 dA_lay_42 rfl (fun h8 => absurd rfl h8) (fun _ => ?_)
          refine go_ldc dA_lay_45 kcA65 (inR_of _ rfl) ?_
          refine go_iret dA_lay_47 rfl rfl ?_
          exact bad (decide_eq_false (by omega))
    · refine go_ldc dA_lay_18 kcA65 (inR_of _ rfl) ?_
      refine go_iret dA_lay_20 rfl rfl ?_
      exact bad (decide_eq_false (by omega))
theorem bA_ask (h : COMP F m) (hJ : JV m) {k o : Int} : CT g yA_ask 1 0 0 [gR 0, gI k, gI o] (N, F) (CB N F (gI (v_ask m k o)) m) := by
  have ho := h.1
  have h53 := h.2.2.2.2.2.2.1
  have z1 := zout_or k 0 4
  have z2 := zout_or o 0 5
  refine CT.of' (L0 := [gR 0, gI k, gI o, gU]) plA (Nat.le_of_ble_eq_true rfl) rfl ?_
  refine go_iload_n (i := 1) dA_ask_0 rfl rfl ?_
  refine go_iconst dA_ask_1 (inR_of _ rfl) ?_
  refine go_iconst dA_ask_2 (inR_of _ rfl) ?_
  refine go_SP dA_ask_3 vkA61 (ct_outside _ _ _) rfl (by omega) rfl (fun _ => Nat.le_of_ble_eq_true rfl) ?_
  refine go_if_ne 18 dA_ask_6 rfl (fun h6 => ?_) (fun h6 => ?_)
  · refine go_ldc dA_ask_18 kcA65 (inR_of _ rfl) ?_
    refine go_iret dA_ask_20 rfl rfl ?_
    exact CB.same h (by unfold v_ask; rw [if_neg (by omega)])
  · refine go_iload_n (i := 2) dA_ask_9 rfl rfl ?_
    refine go_iconst dA_ask_10 (inR_of _ rfl) ?_
    refine go_iconst dA_ask_11 (inR_of _ rfl) ?_
    refine go_SP dA_ask_12 vkA61 (ct_outside _ _ _) rfl (by omega) rfl (fun _ => Nat.le_of_ble_eq_true rfl) ?_
    refine go_if_eq 21 dA_ask_15 rfl (fun h15 => ?_) (fun h15 => ?_)
    · have hk : (0 ≤ k ∧ k ≤ 4) ∧ 0 ≤ o ∧ o ≤ 5 := by omega
      obtain ⟨hsl, ⟨fg, hfg, g0, g1, g2, g4⟩, -⟩ := h.2.2.2.2.2.2.2.2.2.2.2 k.toNat (by omega)
      have hkd := (hJ.2.2.2 k.toNat (by omega)).1
      rw [← g0] at hkd
      refine go_aload_n (i := 0) dA_ask_21 rfl rfl trivial ?_
      refine go_getf dA_ask_22 flA37 (by assumption) rfl ?_
      refine go_iload_n (i := 1) dA_ask_25 rfl rfl ?_
      refine go_aald' 4 "GooseCounty$Slot" k.toNat (65 + 4 * k.toNat) dA_ask_26 h53 rfl (by omega) (by omega) (slR_at (by omega)) ?_
      refine go_as3 dA_ask_27 (Nat.le_of_ble_eq_true rfl) trivial trivial ?_
      refine go_aload_n (i := 3) dA_ask_28 rfl rfl trivial ?_
      refine go_getf dA_ask_29 flA332 (by assumption) rfl ?_
      refine go_if_ne 38 dA_ask_32 rfl (fun h32 => ?_) (fun h32 => ?_)
      · refine go_aload_n (i := 3) dA_ask_38 rfl rfl trivial ?_
        refine go_getf dA_ask_39 flA332 (by assumption) rfl ?_
        refine go_iconst dA_ask_42 (inR_of _ rfl) ?_
        refine go_ic_ne 67 dA_ask_43 rfl (fun h43 => ?_) (fun h43 => ?_)
        · refine go_ldc dA_ask_67 kcA114 (inR_of _ rfl) ?_
          refine go_iret dA_ask_69 rfl rfl ?_
          exact CB.same h (by unfold v_ask; rw [if_pos hk, if_neg h32, if_neg (fun q => h43 q.1)])
        · refine go_aload_n (i := 3) dA_ask_46 rfl rfl trivial ?_
          refine go_getf dA_ask_47 flA316 (by assumption) rfl ?_
          refine go_iload_n (i := 2) dA_ask_50 rfl rfl ?_
          refine go_VP dA_ask_51 vkA108 (by assumption) (List.cons_ne_nil _ _) (qG_isOf hfg hkd (by omega)) rfl (by omega) rfl (fun _ => Nat.le_of_ble_eq_true rfl) ?_
          refine go_if_eq 67 dA_ask_54 rfl (fun h54 => ?_) (fun h54 => ?_)
          · refine go_ldc dA_ask_67 kcA114 (inR_of _ rfl) ?_
            refine go_iret dA_ask_69 rfl rfl ?_
            exact CB.same h (by unfold v_ask; rw [if_pos hk, if_neg h32, if_neg (fun q => by have := q.2; rw [g0] at h54; omega)])
          · refine go_aload_n (i := 3) dA_ask_57 rfl rfl trivial ?_
            refine go_getf dA_ask_58 flA316 (by assumption) rfl ?_
            refine go_VP dA_ask_61 vkA105 (by assumption) (List.cons_ne_nil _ _) (qG_worth hfg) rfl (by omega) rfl (fun _ => Nat.le_of_ble_eq_true rfl) ?_
            refine go_goto 69 dA_ask_64 rfl ?_
            refine go_iret dA_ask_69 rfl rfl ?_
            have := zunder01 (fg 0) o
            exact CB.same h (by unfold v_ask; rw [if_pos hk, if_neg h32, if_pos ⟨by omega, by rw [← g0]; omega⟩, g0, g1, g2, g4])
      · refine go_ldc dA_ask_35 kcA232 (inR_of _ rfl) ?_
        refine go_iret dA_ask_37 rfl rfl ?_
        exact CB.same h (by unfold v_ask; rw [if_pos hk, if_pos (by omega)])
    · refine go_ldc dA_ask_18 kcA65 (inR_of _ rfl) ?_
      refine go_iret dA_ask_20 rfl rfl ?_
      exact CB.same h (by unfold v_ask; rw [if_neg (by omega)])
theorem bA_item (h : COMP F m) (hJ : JV m) {k p : Int} : CT g yA_item 1 0 0 [gR 0, gI k, gI p] (N, F) (CB N F (gI (v_item m k p)) m) := by
  have ho := h.1
  have h53 := h.2.2.2.2.2.2.1
  have z1 := zout_or k 0 4
  refine CT.of' (L0 := [gR 0, gI k, gI p, gU]) plA (Nat.le_of_ble_eq_true rfl) rfl ?_
  refine go_iload_n (i := 1) dA_item_0 rfl rfl ?_
  refine go_iconst dA_item_1 (inR_of _ rfl) ?_
  refine go_iconst dA_item_2 (inR_of _ rfl) ?_
  refine go_SP dA_item_3 vkA61 (ct_outside _ _ _) rfl (by omega) rfl (fun _ => Nat.le_of_ble_eq_true rfl) ?_
  refine go_if_eq 12 dA_item_6 rfl (fun h6 => ?_) (fun h6 => ?_)
  · have hk : 0 ≤ k ∧ k ≤ 4 := by omega
    obtain ⟨hsl, -, ⟨hsh, fs, hfs, efs⟩⟩ := h.2.2.2.2.2.2.2.2.2.2.2 k.toNat (by omega)
    have hso := (hJ.1.2.2.1 (4 + k.toNat) (by omega)).2
    have z2 := zout_or p 0 (m 10 (4 + k.toNat) - 1)
    refine go_aload_n (i := 0) dA_item_12 rfl rfl trivial ?_
    refine go_getf dA_item_13 flA37 (by assumption) rfl ?_
    refine go_iload_n (i := 1) dA_item_16 rfl rfl ?_
    refine go_aald' 4 "GooseCounty$Slot" k.toNat (65 + 4 * k.toNat) dA_item_17 h53 rfl (by omega) (by omega) (slR_at (by omega)) ?_
    refine go_as3 dA_item_18 (Nat.le_of_ble_eq_true rfl) trivial trivial ?_
    refine go_aload_n (i := 3) dA_item_19 rfl rfl trivial ?_
    refine go_getf dA_item_20 flA332 (by assumption) rfl ?_
    refine go_if_ne 29 dA_item_23 rfl (fun h23 => ?_) (fun h23 => ?_)
    · refine go_aload_n (i := 3) dA_item_29 rfl rfl trivial ?_
      refine go_getf dA_item_30 flA332 (by assumption) rfl ?_
      refine go_iconst dA_item_33 (inR_of _ rfl) ?_
      refine go_ic_eq 40 dA_item_34 rfl (fun h34 => ?_) (fun h34 => ?_)
      · have h9 := (hJ.2.2.2 k.toNat (by omega)).2 h34
        refine go_iload_n (i := 2) dA_item_40 rfl rfl ?_
        refine go_iconst dA_item_41 (inR_of _ rfl) ?_
        refine go_aload_n (i := 3) dA_item_42 rfl rfl trivial ?_
        refine go_getf dA_item_43 flA323 (by assumption) rfl ?_
        refine go_getf dA_item_46 flA237 (by assumption) rfl ?_
        refine go_iconst dA_item_49 (inR_of _ rfl) ?_
        refine go_isub dA_item_50 ?_
        refine go_top (m 10 (4 + k.toNat) - 1) (by (try simp (discharger := (unfold inR; omega)) only [w32_id]) <;> omega) ?_
        refine go_SP dA_item_51 vkA61 (ct_outside _ _ _) rfl (by omega) rfl (fun _ => Nat.le_of_ble_eq_true rfl) ?_
        refine go_if_eq 61 dA_item_54 rfl (fun h54 => ?_) (fun h54 => ?_)
        · have hp : 0 ≤ p ∧ p < m 10 (4 + k.toNat) := by omega
          have ep := efs h9 p.toNat (by omega)
          have isn := qS_isNumber (g := g) (N := N) hsh hfs (p := p.toNat) (by omega)
          rw [show ((p.toNat : Nat) : Int) = p by omega] at isn
          refine go_aload_n (i := 3) dA_item_61 rfl rfl trivial ?_
          refine go_getf dA_item_62 flA323 (by assumption) rfl ?_
          refine go_iload_n (i := 2) dA_item_65 rfl rfl ?_
          refine go_VP dA_item_66 vkA240 (by assumption) (List.cons_ne_nil _ _) (isn) rfl (by omega) rfl (fun _ => Nat.le_of_ble_eq_true rfl) ?_
          rw [ep]
          by_cases cn : m 11 (24 * (4 + k.toNat) + p.toNat) = NONE
          · rw [if_pos cn]
            refine go_if_eq 84 dA_item_69 rfl (fun h69 => ?_) (fun h69 => absurd (by omega) h69)
            refine go_ldc dA_item_84 kcA114 (inR_of _ rfl) ?_
            refine go_iret dA_item_86 rfl rfl ?_
            exact CB.same h (by unfold v_item; rw [if_pos hk, if_pos h34, if_pos hp, if_pos cn])
          · rw [if_neg cn]
            refine go_if_eq 84 dA_item_69 rfl (fun h69 => absurd h69 (by omega)) (fun h69 => ?_)
            refine go_aload_n (i := 3) dA_item_72 rfl rfl trivial ?_
            refine go_getf dA_item_73 flA323 (by assumption) rfl ?_
            refine go_getf dA_item_76 flA243 (by assumption) rfl ?_
            refine go_iload_n (i := 2) dA_item_79 rfl rfl ?_
            refine go_iald' p.toNat _ dA_item_80 hfs (by omega) (by omega) ep ?_
            refine go_goto 86 dA_item_81 rfl ?_
            refine go_iret dA_item_86 rfl rfl ?_
            exact CB.same h (by unfold v_item; rw [if_pos hk, if_pos h34, if_pos hp, if_neg cn])
        · refine go_ldcw dA_item_57 kcA298 (inR_of _ rfl) ?_
          refine go_iret dA_item_60 rfl rfl ?_
          exact CB.same h (by unfold v_item; rw [if_pos hk, if_pos h34, if_neg (by omega)])
      · refine go_ldc dA_item_37 kcA114 (inR_of _ rfl) ?_
        refine go_iret dA_item_39 rfl rfl ?_
        exact CB.same h (by unfold v_item; rw [if_pos hk, if_neg h34, if_neg h23])
    · refine go_ldc dA_item_26 kcA232 (inR_of _ rfl) ?_
      refine go_iret dA_item_28 rfl rfl ?_
      exact CB.same h (by unfold v_item; rw [if_pos hk, if_neg (by omega), if_pos (by omega)])
  · refine go_ldc dA_item_9 kcA65 (inR_of _ rfl) ?_
    refine go_iret dA_item_11 rfl rfl ?_
    exact CB.same h (by unfold v_item; rw [if_neg (by omega)])
theorem bA_rest (h : COMP F m) {k d : Int} : CT g yA_rest 1 0 0 [gR 0, gI k, gI d] (N, F) (CB N F (gI (v_rest m k d)) m) := by
  have ho := h.1
  have h53 := h.2.2.2.2.2.2.1
  have z1 := zout_or k 0 4
  refine CT.of' (L0 := [gR 0, gI k, gI d, gU]) plA (Nat.le_of_ble_eq_true rfl) rfl ?_
  refine go_iload_n (i := 1) dA_rest_0 rfl rfl ?_
  refine go_iconst dA_rest_1 (inR_of _ rfl) ?_
  refine go_iconst dA_rest_2 (inR_of _ rfl) ?_
  refine go_SP dA_rest_3 vkA61 (ct_outside _ _ _) rfl (by omega) rfl (fun _ => Nat.le_of_ble_eq_true rfl) ?_
  refine go_if_eq 12 dA_rest_6 rfl (fun h6 => ?_) (fun h6 => ?_)
  · have hk : 0 ≤ k ∧ k ≤ 4 := by omega
    obtain ⟨hsl, -, -⟩ := h.2.2.2.2.2.2.2.2.2.2.2 k.toNat (by omega)
    refine go_aload_n (i := 0) dA_rest_12 rfl rfl trivial ?_
    refine go_getf dA_rest_13 flA37 (by assumption) rfl ?_
    refine go_iload_n (i := 1) dA_rest_16 rfl rfl ?_
    refine go_aald' 4 "GooseCounty$Slot" k.toNat (65 + 4 * k.toNat) dA_rest_17 h53 rfl (by omega) (by omega) (slR_at (by omega)) ?_
    refine go_as3 dA_rest_18 (Nat.le_of_ble_eq_true rfl) trivial trivial ?_
    refine go_aload_n (i := 3) dA_rest_19 rfl rfl trivial ?_
    refine go_getf dA_rest_20 flA332 (by assumption) rfl ?_
    refine go_if_ne 29 dA_rest_23 rfl (fun h23 => ?_) (fun h23 => ?_)
    · refine go_aload_n (i := 3) dA_rest_29 rfl rfl trivial ?_
      refine go_getf dA_rest_30 flA332 (by assumption) rfl ?_
      refine go_iconst dA_rest_33 (inR_of _ rfl) ?_
      refine go_ic_eq 40 dA_rest_34 rfl (fun h34 => ?_) (fun h34 => ?_)
      · refine go_iload_n (i := 2) dA_rest_40 rfl rfl ?_
        refine go_if_ne 50 dA_rest_41 rfl (fun h41 => ?_) (fun h41 => ?_)
        · refine go_aload_n (i := 3) dA_rest_50 rfl rfl trivial ?_
          refine go_getf dA_rest_51 flA329 (by assumption) rfl ?_
          refine go_iload_n (i := 2) dA_rest_54 rfl rfl ?_
          refine go_irem dA_rest_55 (by omega) ?_
          refine go_iret dA_rest_56 rfl rfl ?_
          exact CB.same h (by unfold v_rest; rw [if_pos hk, if_pos h34, if_neg h41])
        · refine go_ldcw dA_rest_44 kcA335 (inR_of _ rfl) ?_
          refine go_goto 56 dA_rest_47 rfl ?_
          refine go_iret dA_rest_56 rfl rfl ?_
          exact CB.same h (by unfold v_rest; rw [if_pos hk, if_pos h34, if_pos (by omega)])
      · refine go_ldc dA_rest_37 kcA114 (inR_of _ rfl) ?_
        refine go_iret dA_rest_39 rfl rfl ?_
        exact CB.same h (by unfold v_rest; rw [if_pos hk, if_neg h34, if_neg h23])
    · refine go_ldc dA_rest_26 kcA232 (inR_of _ rfl) ?_
      refine go_iret dA_rest_28 rfl rfl ?_
      exact CB.same h (by unfold v_rest; rw [if_pos hk, if_neg (by omega), if_pos (by omega)])
  · refine go_ldc dA_rest_9 kcA65 (inR_of _ rfl) ?_
    refine go_iret dA_rest_11 rfl rfl ?_
    exact CB.same h (by unfold v_rest; rw [if_neg (by omega)])
end CSLOT
