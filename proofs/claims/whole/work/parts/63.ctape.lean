/-! ===== the component's public calls: fee, fine, the tape, what texts are told ===== -/
section CTAPE
variable {g : GX} {N : Nat} {F F2 : Nat → GC} {m U : Nat → Nat → Int}
theorem RST.rdr (h : RST F m) (hR : RDR F2 U) (hF : ∀ j : Nat, 52 ≤ j → j < 85 → F2 j = F j) (e : ∀ i : Nat, i ∈ [3, 9, 10, 11, 13, 14, 15] → U i = m i) : RST F2 U := by
  obtain ⟨-, b, c, d, x, f, s, t⟩ := h
  have e3 := e 3 (by simp); have e9 := e 9 (by simp); have e10 := e 10 (by simp); have e11 := e 11 (by simp); have e13 := e 13 (by simp); have e14 := e 14 (by simp); have e15 := e 15 (by simp)
  refine ⟨hR, by rw [hF 52 (by omega) (by omega)]; exact b, by rw [hF 53 (by omega) (by omega)]; exact c, by rw [hF 54 (by omega) (by omega), e3]; exact d, by rw [hF 55 (by omega) (by omega)]; exact x, by rw [hF 56 (by omega) (by omega)]; exact f, fun k hk => ?_, fun k hk => ?_⟩
  · unfold SHT; rw [e9, e10, e11]; exact (s k hk).at (hF _ (by omega) (by omega)) (hF _ (by omega) (by omega))
  · unfold SLT SHT; rw [e9, e10, e11, e13, e14, e15]; exact (t k hk).at (fun j j1 j2 => hF _ (by omega) (by omega))
theorem bA_fee (h : COMP F m) (hJ : JV m) : CT g yA_fee 2 0 0 [gR 0] (N, F) (CB N F (gI (v_fee (m 0))) m) := by
  have ho := h.1
  have hn := h.2.1.1
  refine CT.of' (L0 := [gR 0, gU]) plA (Nat.le_of_ble_eq_true rfl) rfl ?_
  refine go_aload_n (i := 0) dA_fee_0 rfl rfl trivial ?_
  refine go_getf dA_fee_1 flA10 (by assumption) rfl ?_
  refine go_iconst dA_fee_4 (inR_of _ rfl) ?_
  refine go_VX dA_fee_5 vkA249 (by assumption) (List.cons_ne_nil _ _) (qB_lawFor h.2.1 hJ.zg.2.1 (w := 1) (by omega)) rfl (by omega) (by omega) (by omega) rfl (fun _ => Nat.le_of_ble_eq_true rfl) ?_
  rintro rr _ ⟨rfl, hrr⟩ -
  rcases hrr with ⟨q, rfl⟩ | ⟨q, a, rfl, hL⟩
  · dsimp only [rp]
    refine go_as1 dA_fee_8 (Nat.le_of_ble_eq_true rfl) trivial trivial ?_
    refine go_aload_n (i := 1) dA_fee_9 rfl rfl trivial ?_
    refine go_nonnullN dA_fee_10 ?_
    refine go_aload_n (i := 0) dA_fee_13 rfl rfl trivial ?_
    refine go_getf dA_fee_14 flA10 (by assumption) rfl ?_
    refine go_getf dA_fee_17 flA171 (by assumption) rfl ?_
    refine go_goto 43 dA_fee_20 rfl ?_
    refine go_iret dA_fee_43 rfl rfl ?_
    exact CB.same h (by unfold v_fee; rw [if_neg (by have : m 0 (65 + 1) = m 0 66 := rfl; omega)])
  · dsimp only [rp]
    have hoL := hL.2.1
    refine go_as1 dA_fee_8 (Nat.le_of_ble_eq_true rfl) trivial trivial ?_
    refine go_aload_n (i := 1) dA_fee_9 rfl rfl trivial ?_
    refine go_nonnullR 23 dA_fee_10 rfl ?_
    refine go_aload_n (i := 1) dA_fee_23 rfl rfl trivial ?_
    refine go_aload_n (i := 0) dA_fee_24 rfl rfl trivial ?_
    refine go_getf dA_fee_25 flA10 (by assumption) rfl ?_
    refine go_getf dA_fee_28 flA171 (by assumption) rfl ?_
    refine go_aload_n (i := 0) dA_fee_31 rfl rfl trivial ?_
    refine go_getf dA_fee_32 flA10 (by assumption) rfl ?_
    refine go_getf dA_fee_35 flA191 (by assumption) rfl ?_
    refine go_iconst dA_fee_38 (inR_of _ rfl) ?_
    refine go_iconst dA_fee_39 (inR_of _ rfl) ?_
    refine go_VX dA_fee_40 vkA253 (by assumption) (List.cons_ne_nil _ _) (qL_law hJ.zg.2.1 hJ.zg.2.2 (w := 1) (by omega) q hL _ _ _ _) rfl (by omega) (by omega) (by omega) rfl (fun _ => Nat.le_of_ble_eq_true rfl) ?_
    rintro _ _ ⟨rfl, F2, rfl, hF2⟩ -
    dsimp only [rp]
    refine go_iret dA_fee_43 rfl rfl ?_
    exact CB.fs h hF2 (by unfold v_fee; rw [if_pos (show 0 ≤ m 0 66 from q)])
theorem bA_fine (h : COMP F m) (hJ : JV m) {i : Int} : CT g yA_fine 2 0 0 [gR 0, gI i] (N, F) (CB N F (gI (v_fine (m 0) i)) m) := by
  have ho := h.1
  have hn := h.2.1.1
  have hr := h.2.1.2.1
  have w0 := hJ.zg.1.1
  refine CT.of' (L0 := [gR 0, gI i, gU, gU]) plA (Nat.le_of_ble_eq_true rfl) rfl ?_
  refine go_aload_n (i := 0) dA_fine_0 rfl rfl trivial ?_
  refine go_getf dA_fine_1 flA10 (by assumption) rfl ?_
  refine go_iload_n (i := 1) dA_fine_4 rfl rfl ?_
  refine go_VP dA_fine_5 vkA74 (by assumption) (List.cons_ne_nil _ _) (qB_hasGoose h.2.1) rfl (by omega) rfl (fun _ => Nat.le_of_ble_eq_true rfl) ?_
  by_cases c : 0 ≤ i ∧ i < m 0 0
  · rw [if_pos c]
    have hii : ((i.toNat : Nat) : Int) = i := by omega
    have hg := h.2.1.gs (i := i.toNat) (by omega) (by omega)
    rw [hii] at hg
    refine go_if_ne 14 dA_fine_8 rfl (fun h8 => ?_) (fun h8 => absurd h8 (by omega))
    refine go_aload_n (i := 0) dA_fine_14 rfl rfl trivial ?_
    refine go_getf dA_fine_15 flA10 (by assumption) rfl ?_
    refine go_getf dA_fine_18 flA78 (by assumption) rfl ?_
    refine go_iload_n (i := 1) dA_fine_21 rfl rfl ?_
    refine go_aald' 1 "GooseCounty$Goose" (i.toNat) (1 + 6 + i.toNat) dA_fine_22 (by assumption) rfl (by omega) (by omega) (gRow_at (by omega)) ?_
    refine go_as2 dA_fine_23 (Nat.le_of_ble_eq_true rfl) trivial trivial ?_
    refine go_aload_n (i := 0) dA_fine_24 rfl rfl trivial ?_
    refine go_getf dA_fine_25 flA10 (by assumption) rfl ?_
    refine go_iconst dA_fine_28 (inR_of _ rfl) ?_
    refine go_VX dA_fine_29 vkA249 (by assumption) (List.cons_ne_nil _ _) (qB_lawFor h.2.1 hJ.zg.2.1 (w := 2) (by omega)) rfl (by omega) (by omega) (by omega) rfl (fun _ => Nat.le_of_ble_eq_true rfl) ?_
    rintro rr _ ⟨rfl, hrr⟩ -
    rcases hrr with ⟨q, rfl⟩ | ⟨q, a, rfl, hL⟩
    · dsimp only [rp]
      refine go_as3 dA_fine_32 (Nat.le_of_ble_eq_true rfl) trivial trivial ?_
      refine go_aload_n (i := 3) dA_fine_33 rfl rfl trivial ?_
      refine go_nonnullN dA_fine_34 ?_
      refine go_aload_n (i := 2) dA_fine_37 rfl rfl trivial ?_
      refine go_getf dA_fine_38 flA111 (by assumption) rfl ?_
      refine go_goto 58 dA_fine_41 rfl ?_
      refine go_iret dA_fine_58 rfl rfl ?_
      exact CB.same h (by unfold v_fine; rw [if_pos c, if_neg (by have : m 0 (65 + 2) = m 0 67 := rfl; omega)])
    · dsimp only [rp]
      have hoL := hL.2.1
      refine go_as3 dA_fine_32 (Nat.le_of_ble_eq_true rfl) trivial trivial ?_
      refine go_aload_n (i := 3) dA_fine_33 rfl rfl trivial ?_
      refine go_nonnullR 44 dA_fine_34 rfl ?_
      refine go_aload_n (i := 3) dA_fine_44 rfl rfl trivial ?_
      refine go_aload_n (i := 2) dA_fine_45 rfl rfl trivial ?_
      refine go_getf dA_fine_46 flA111 (by assumption) rfl ?_
      refine go_aload_n (i := 2) dA_fine_49 rfl rfl trivial ?_
      refine go_getf dA_fine_50 flA207 (by assumption) rfl ?_
      refine go_iconst dA_fine_53 (inR_of _ rfl) ?_
      refine go_iconst dA_fine_54 (inR_of _ rfl) ?_
      refine go_VX dA_fine_55 vkA253 (by assumption) (List.cons_ne_nil _ _) (qL_law hJ.zg.2.1 hJ.zg.2.2 (w := 2) (by omega) q hL _ _ _ _) rfl (by omega) (by omega) (by omega) rfl (fun _ => Nat.le_of_ble_eq_true rfl) ?_
      rintro _ _ ⟨rfl, F2, rfl, hF2⟩ -
      dsimp only [rp]
      refine go_iret dA_fine_58 rfl rfl ?_
      exact CB.fs h hF2 (by unfold v_fine; rw [if_pos c, if_pos (show 0 ≤ m 0 67 from q)])
  · rw [if_neg c]
    refine go_if_ne 14 dA_fine_8 rfl (fun h8 => absurd h8 (by omega)) (fun h8 => ?_)
    refine go_ldc dA_fine_11 kcA65 (inR_of _ rfl) ?_
    refine go_iret dA_fine_13 rfl rfl ?_
    exact CB.same h (by unfold v_fine; rw [if_neg c])
/-- bytes of a number come behind n -/
def za (tp : Nat → Int) (n : Nat) (w : Int) : Nat → Nat → Int
  | 0 => tp
  | i + 1 => va_up (za tp n w i) (n + i) (iAnd (iUshr w ((24 - 8 * i : Nat) : Int)) 255)
theorem qR_addBytes {n : Nat} {tp : Nat → Int} {x3 x4 x5 x6 x7 x8 w : Int} (h49 : F 49 = cO 4 [gR 50, gR 51, gI (n : Int), gI x3, gI x4, gI x5, gI x6, gI x7, gI x8]) (h50 : F 50 = cI 96 tp) (hn : n + 4 ≤ 96) : CT g yR_addBytes 0 0 0 [gR 49, gI w] (N, F) (fun rr M' => rr = gU ∧ ∃ F2 : Nat → GC, M' = (N, F2) ∧ (∀ k : Nat, k ≠ 49 → k ≠ 50 → F2 k = F k) ∧ F2 49 = cO 4 [gR 50, gR 51, gI ((n + 4 : Nat) : Int), gI x3, gI x4, gI x5, gI x6, gI x7, gI x8] ∧ F2 50 = cI 96 (za tp n w 4)) := by
  have loop : ∀ (j i : Nat), i + j = 4 → ∀ F1 : Nat → GC, (∀ k : Nat, k ≠ 49 → k ≠ 50 → F1 k = F k) → F1 49 = cO 4 [gR 50, gR 51, gI ((n + i : Nat) : Int), gI x3, gI x4, gI x5, gI x6, gI x7, gI x8] → F1 50 = cI 96 (za tp n w i) → Go g yR_addBytes 0 0 0 3 [gR 49, gI w, gI (24 - 8 * (i : Int))] [] (N, F1) (fun rr M' => rr = gU ∧ ∃ F2 : Nat → GC, M' = (N, F2) ∧ (∀ k : Nat, k ≠ 49 → k ≠ 50 → F2 k = F k) ∧ F2 49 = cO 4 [gR 50, gR 51, gI ((n + 4 : Nat) : Int), gI x3, gI x4, gI x5, gI x6, gI x7, gI x8] ∧ F2 50 = cI 96 (za tp n w 4)) := by
    intro j
    induction j with
    | zero =>
      intro i hi F1 hF h1 h2
      refine go_iload_n (i := 2) dR_addBytes_3 rfl rfl ?_
      refine go_if_lt 48 dR_addBytes_4 rfl (fun h4 => ?_) (fun h4 => absurd (by omega) h4)
      refine go_vret dR_addBytes_48 rfl ?_
      rw [show i = 4 by omega] at h1 h2
      exact ⟨rfl, F1, rfl, hF, h1, h2⟩
    | succ j ih =>
      intro i hi F1 hF h1 h2
      refine go_iload_n (i := 2) dR_addBytes_3 rfl rfl ?_
      refine go_if_lt 48 dR_addBytes_4 rfl (fun h4 => absurd h4 (by omega)) (fun h4 => ?_)
      refine go_aload_n (i := 0) dR_addBytes_7 rfl rfl trivial ?_
      refine go_getf dR_addBytes_8 flR18 (by assumption) rfl ?_
      refine go_bipush dR_addBytes_11 (inR_of _ rfl) rfl ?_
      refine go_ic_ge 48 dR_addBytes_13 rfl (fun h13 => absurd h13 (by omega)) (fun h13 => ?_)
      refine go_aload_n (i := 0) dR_addBytes_16 rfl rfl trivial ?_
      refine go_getf dR_addBytes_17 flR9 (by assumption) rfl ?_
      refine go_aload_n (i := 0) dR_addBytes_20 rfl rfl trivial ?_
      refine go_getf dR_addBytes_21 flR18 (by assumption) rfl ?_
      refine go_iload_n (i := 1) dR_addBytes_24 rfl rfl ?_
      refine go_iload_n (i := 2) dR_addBytes_25 rfl rfl ?_
      refine go_iushr dR_addBytes_26 ?_
      refine go_cast rfl rfl (show _ = [gI (iUshr w ((24 - 8 * i : Nat) : Int)), gI ((n + i : Nat) : Int), gR 50] from by rw [show (24 - 8 * (i : Int)) = ((24 - 8 * i : Nat) : Int) by omega]) rfl ?_
      refine go_sipush dR_addBytes_27 (inR_of _ rfl) rfl ?_
      refine go_iand dR_addBytes_30 ?_
      refine go_iast' (n + i) dR_addBytes_31 h2 rfl (by omega) ?_
      have h1' : va_up F1 50 (cI 96 (va_up (za tp n w i) (n + i) (iAnd (iUshr w ((24 - 8 * i : Nat) : Int)) 255))) 49 = cO 4 [gR 50, gR 51, gI ((n + i : Nat) : Int), gI x3, gI x4, gI x5, gI x6, gI x7, gI x8] := by rw [va_up_ne _ _ (by omega)]; exact h1
      refine go_aload_n (i := 0) dR_addBytes_32 rfl rfl trivial ?_
      refine go_dup dR_addBytes_33 trivial ?_
      refine go_getf dR_addBytes_34 flR18 (by assumption) rfl ?_
      refine go_iconst dR_addBytes_37 (inR_of _ rfl) ?_
      refine go_iadd dR_addBytes_38 ?_
      refine go_top (((n + (i + 1) : Nat) : Int)) (by (try simp (discharger := (unfold inR; omega)) only [w32_id]) <;> omega) ?_
      refine go_putf dR_addBytes_39 flR18 h1' (by show 2 < 9; omega) rfl rfl ?_
      refine go_inc2 ((24 - 8 * ((i + 1 : Nat) : Int))) dR_addBytes_42 (Nat.le_of_ble_eq_true rfl) trivial (by (try simp (discharger := (unfold inR; omega)) only [w32_id]) <;> omega) ?_
      refine go_goto 3 dR_addBytes_45 rfl ?_
      refine ih (i + 1) (by omega) _ (fun k k1 k2 => ?_) (va_up_self _ _ _) ?_
      · rw [va_up_ne _ _ k1, va_up_ne _ _ k2]; exact hF k k1 k2
      · rw [va_up_ne _ _ (by omega), va_up_self]; rfl
  refine CT.of' (L0 := [gR 49, gI w, gU]) plR (Nat.le_of_ble_eq_true rfl) rfl ?_
  refine go_bipush dR_addBytes_0 (inR_of _ rfl) rfl ?_
  refine go_is2 dR_addBytes_2 (Nat.le_of_ble_eq_true rfl) trivial ?_
  exact loop 4 0 rfl F (fun _ _ _ => rfl) h49 h50
theorem zfeed_rel {f h : Nat → Int} {n : Nat} {a b c : Int} {k : Nat} (e : f k = h k) : ∀ j : Nat, zfeed f n a b c j k = zfeed h n a b c j k
  | 0 => e
  | j + 1 => up_rel (zfeed_rel e j)
theorem bA_feed (h : COMP F m) (hJ : JV m) {a b c : Int} : CT g yA_feed 1 0 0 [gR 0, gI a, gI b, gI c] (N, F) (CB N F (gI (v_feed m)) (u_feed m a b c)) := by
  have ho := h.1
  obtain ⟨⟨x3, x4, x5, x6, x7, x8, h49⟩, ⟨tp, h50, et⟩, h51⟩ := h.2.2.2.2.1
  have ht := hJ.1.2.2.2.1
  have htl : 0 ≤ m 17 11 ∧ m 17 11 ≤ 96 := ⟨ht.1, ht.2.1⟩
  obtain ⟨n, hn⟩ : ∃ n : Nat, m 17 11 = (n : Int) := ⟨(m 17 11).toNat, by omega⟩
  rw [hn] at h49
  refine CT.of' (L0 := [gR 0, gI a, gI b, gI c]) plA (Nat.le_of_ble_eq_true rfl) rfl ?_
  refine go_aload_n (i := 0) dA_feed_0 rfl rfl trivial ?_
  refine go_getf dA_feed_1 flA25 (by assumption) rfl ?_
  refine go_getf dA_feed_4 flA258 (by assumption) rfl ?_
  refine go_bipush dA_feed_7 (inR_of _ rfl) rfl ?_
  refine go_iadd dA_feed_9 ?_
  refine go_top ((n : Int) + 12) (by (try simp (discharger := (unfold inR; omega)) only [w32_id]) <;> omega) ?_
  refine go_bipush dA_feed_10 (inR_of _ rfl) rfl ?_
  refine go_ic_le 18 dA_feed_12 rfl (fun h12 => ?_) (fun h12 => ?_)
  · have bd : n + 12 ≤ 96 := by omega
    refine go_aload_n (i := 0) dA_feed_18 rfl rfl trivial ?_
    refine go_getf dA_feed_19 flA25 (by assumption) rfl ?_
    refine go_iload_n (i := 1) dA_feed_22 rfl rfl ?_
    refine go_VX dA_feed_23 vkA261 (by assumption) (List.cons_ne_nil _ _) (qR_addBytes h49 h50 (by omega)) rfl (by omega) (by omega) (by omega) rfl (fun _ => Nat.le_of_ble_eq_true rfl) ?_
    rintro _ _ ⟨rfl, F1, rfl, hF1, h49, h50⟩ -
    dsimp only [rp]
    have ho : F1 0 = cO 0 (aFld m) := by rw [hF1 0 (by omega) (by omega)]; exact h.1
    refine go_aload_n (i := 0) dA_feed_26 rfl rfl trivial ?_
    refine go_getf dA_feed_27 flA25 (by assumption) rfl ?_
    refine go_iload_n (i := 2) dA_feed_30 rfl rfl ?_
    refine go_VX dA_feed_31 vkA261 (by assumption) (List.cons_ne_nil _ _) (qR_addBytes h49 h50 (by omega)) rfl (by omega) (by omega) (by omega) rfl (fun _ => Nat.le_of_ble_eq_true rfl) ?_
    rintro _ _ ⟨rfl, F2, rfl, hF2, h49, h50⟩ -
    dsimp only [rp]
    have ho : F2 0 = cO 0 (aFld m) := by rw [hF2 0 (by omega) (by omega)]; exact ho
    refine go_aload_n (i := 0) dA_feed_34 rfl rfl trivial ?_
    refine go_getf dA_feed_35 flA25 (by assumption) rfl ?_
    refine go_iload_n (i := 3) dA_feed_38 rfl rfl ?_
    refine go_VX dA_feed_39 vkA261 (by assumption) (List.cons_ne_nil _ _) (qR_addBytes h49 h50 (by omega)) rfl (by omega) (by omega) (by omega) rfl (fun _ => Nat.le_of_ble_eq_true rfl) ?_
    rintro _ _ ⟨rfl, F3, rfl, hF3, h49, h50⟩ -
    dsimp only [rp]
    have ho : F3 0 = cO 0 (aFld m) := by rw [hF3 0 (by omega) (by omega)]; exact ho
    refine go_aload_n (i := 0) dA_feed_42 rfl rfl trivial ?_
    refine go_getf dA_feed_43 flA25 (by assumption) rfl ?_
    refine go_getf dA_feed_46 flA258 (by assumption) rfl ?_
    refine go_iret dA_feed_49 rfl rfl ?_
    have hF : ∀ k : Nat, k ≠ 49 → k ≠ 50 → F3 k = F k := fun k k1 k2 => by rw [hF3 k k1 k2, hF2 k k1 k2, hF1 k k1 k2]
    have hfk : FK (fun k => k = 49 ∨ k = 50) F F3 := fun k hk => by
      have e := hF k (fun q => hk (Or.inl q)) (fun q => hk (Or.inr q))
      exact ⟨fun _ => e, fun n f q => ⟨f, by rw [e]; exact q⟩⟩
    have nb : ¬ 96 < m 17 11 + 12 := by omega
    refine ⟨by unfold v_feed; rw [if_neg nb, hn]; rfl, F3, rfl, ?_, hfk.mono (fun k q => by show k < 85; omega)⟩
    unfold u_feed
    rw [if_neg nb]
    refine h.rst hfk (fun k q => by omega) (h.2.2.2.2.rdr ⟨⟨x3, x4, x5, x6, x7, x8, ?_⟩, ⟨_, h50, fun k hk => ?_⟩, ?_⟩ (fun j j1 j2 => hF j (by omega) (by omega)) (fun i hi => ?_)) rfl rfl rfl rfl
    · rw [h49]
      show cO 4 [gR 50, gR 51, gI (((n + 4 + 4 + 4 : Nat)) : Int), gI x3, gI x4, gI x5, gI x6, gI x7, gI x8] = cO 4 [gR 50, gR 51, gI (m 17 11 + 12), gI x3, gI x4, gI x5, gI x6, gI x7, gI x8]
      rw [hn, show ((n + 4 + 4 + 4 : Nat) : Int) = (n : Int) + 12 by omega]
    · show za (za (za tp n a 4) (n + 4) b 4) (n + 4 + 4) c 4 k = zfeed (m 7) (m 17 11).toNat a b c 12 k
      rw [show (m 17 11).toNat = n by omega, ← zfeed_rel (et k hk) 12]
      rfl
    · rw [hF 51 (by omega) (by omega)]; exact h51
    · simp at hi
      rcases hi with rfl | rfl | rfl | rfl | rfl | rfl | rfl <;> rfl
  · refine go_ldc dA_feed_15 kcA73 (inR_of _ rfl) ?_
    refine go_iret dA_feed_17 rfl rfl ?_
    have nb : 96 < m 17 11 + 12 := by omega
    exact ⟨by unfold v_feed; rw [if_pos nb], F, rfl, by unfold u_feed; rw [if_pos nb]; exact h, FK.rf⟩
theorem bA_trim (h : COMP F m) (hJ : JV m) {n : Int} : CT g yA_trim 1 0 0 [gR 0, gI n] (N, F) (CB N F (gI (v_trim m n)) (u_trim m n)) := by
  have ho := h.1
  obtain ⟨⟨x3, x4, x5, x6, x7, x8, h49⟩, h50, h51⟩ := h.2.2.2.2.1
  have z1 := zout_or n 0 (m 17 11)
  refine CT.of' (L0 := [gR 0, gI n]) plA (Nat.le_of_ble_eq_true rfl) rfl ?_
  refine go_iload_n (i := 1) dA_trim_0 rfl rfl ?_
  refine go_iconst dA_trim_1 (inR_of _ rfl) ?_
  refine go_aload_n (i := 0) dA_trim_2 rfl rfl trivial ?_
  refine go_getf dA_trim_3 flA25 (by assumption) rfl ?_
  refine go_getf dA_trim_6 flA258 (by assumption) rfl ?_
  refine go_SP dA_trim_9 vkA61 (ct_outside _ _ _) rfl (by omega) rfl (fun _ => Nat.le_of_ble_eq_true rfl) ?_
  refine go_if_eq 18 dA_trim_12 rfl (fun h12 => ?_) (fun h12 => ?_)
  · have ok : 0 ≤ n ∧ n ≤ m 17 11 := by omega
    refine go_aload_n (i := 0) dA_trim_18 rfl rfl trivial ?_
    refine go_getf dA_trim_19 flA25 (by assumption) rfl ?_
    refine go_iload_n (i := 1) dA_trim_22 rfl rfl ?_
    refine go_putf dA_trim_23 flA258 h49 (by show 2 < 9; omega) rfl rfl ?_
    refine go_iload_n (i := 1) dA_trim_26 rfl rfl ?_
    refine go_iret dA_trim_27 rfl rfl ?_
    have hfk : FK (fun k => k = 49) F (va_up F 49 (cO 4 [gR 50, gR 51, gI n, gI x3, gI x4, gI x5, gI x6, gI x7, gI x8])) := FK.rf.put rfl
    refine ⟨by unfold v_trim; rw [if_pos ok], _, rfl, ?_, hfk.mono (fun k q => by show k < 85; omega)⟩
    unfold u_trim
    rw [if_pos ok]
    refine h.rst hfk (fun k q => by omega) (h.2.2.2.2.rdr ⟨⟨x3, x4, x5, x6, x7, x8, va_up_self _ _ _⟩, h50, h51⟩ (fun j j1 j2 => va_up_ne _ _ (by omega)) (fun i hi => ?_)) rfl rfl rfl rfl
    simp at hi
    rcases hi with rfl | rfl | rfl | rfl | rfl | rfl | rfl <;> rfl
  · refine go_ldc dA_trim_15 kcA65 (inR_of _ rfl) ?_
    refine go_iret dA_trim_17 rfl rfl ?_
    exact ⟨by unfold v_trim; rw [if_neg (by omega)], F, rfl, by unfold u_trim; rw [if_neg (by omega)]; exact h, FK.rf⟩
theorem bA_textTold (h : COMP F m) (hJ : JV m) {t w : Int} : CT g yA_textTold 1 0 0 [gR 0, gI t, gI w] (N, F) (CB N F (gI (v_textTold (m 0) t w)) m) := by
  have ho := h.1
  have hn := h.2.1.1
  have h14 := hJ.zg.2.1.1
  have z1 := zout_or t 0 (m 0 64 - 1)
  have z2 := zout_or w 0 1
  obtain ⟨L, h3, e3⟩ := h.2.1.2.2.2.1
  refine CT.of' (L0 := [gR 0, gI t, gI w, gU]) plA (Nat.le_of_ble_eq_true rfl) rfl ?_
  have bad : ¬ ((0 ≤ t ∧ t < m 0 64) ∧ 0 ≤ w ∧ w ≤ 1) → Go g yA_textTold 1 0 0 26 [gR 0, gI t, gI w, gU] [] (N, F) (CB N F (gI (v_textTold (m 0) t w)) m) := by
    intro hb
    refine go_ldc dA_textTold_26 kcA65 (inR_of _ rfl) ?_
    refine go_iret dA_textTold_28 rfl rfl ?_
    exact CB.same h (by unfold v_textTold; rw [if_neg hb])
  refine go_iload_n (i := 1) dA_textTold_0 rfl rfl ?_
  refine go_iconst dA_textTold_1 (inR_of _ rfl) ?_
  refine go_aload_n (i := 0) dA_textTold_2 rfl rfl trivial ?_
  refine go_getf dA_textTold_3 flA10 (by assumption) rfl ?_
  refine go_getf dA_textTold_6 flA270 (by assumption) rfl ?_
  refine go_iconst dA_textTold_9 (inR_of _ rfl) ?_
  refine go_isub dA_textTold_10 ?_
  refine go_top (m 0 64 - 1) (by (try simp (discharger := (unfold inR; omega)) only [w32_id]) <;> omega) ?_
  refine go_SP dA_textTold_11 vkA61 (ct_outside _ _ _) rfl (by omega) rfl (fun _ => Nat.le_of_ble_eq_true rfl) ?_
  refine go_if_ne 26 dA_textTold_14 rfl (fun h14 => ?_) (fun h14 => ?_)
  · exact bad (by omega)
  · refine go_iload_n (i := 2) dA_textTold_17 rfl rfl ?_
    refine go_iconst dA_textTold_18 (inR_of _ rfl) ?_
    refine go_iconst dA_textTold_19 (inR_of _ rfl) ?_
    refine go_SP dA_textTold_20 vkA61 (ct_outside _ _ _) rfl (by omega) rfl (fun _ => Nat.le_of_ble_eq_true rfl) ?_
    refine go_if_eq 29 dA_textTold_23 rfl (fun h23 => ?_) (fun h23 => ?_)
    · have ok : (0 ≤ t ∧ t < m 0 64) ∧ 0 ≤ w ∧ w ≤ 1 := by omega
      obtain ⟨a, q1, q2⟩ := e3.2 t.toNat (by omega)
      have hoL := q2.2.1
      refine go_aload_n (i := 0) dA_textTold_29 rfl rfl trivial ?_
      refine go_getf dA_textTold_30 flA10 (by assumption) rfl ?_
      refine go_getf dA_textTold_33 flA281 (by assumption) rfl ?_
      refine go_iload_n (i := 1) dA_textTold_36 rfl rfl ?_
      refine go_aald' 2 "GooseCounty$Law" t.toNat a dA_textTold_37 h3 rfl (by omega) (by omega) q1 ?_
      refine go_as3 dA_textTold_38 (Nat.le_of_ble_eq_true rfl) trivial trivial ?_
      refine go_aload_n (i := 3) dA_textTold_39 rfl rfl trivial ?_
      refine go_nonnullR 46 dA_textTold_40 rfl ?_
      refine go_iload_n (i := 2) dA_textTold_46 rfl rfl ?_
      refine go_if_ne 57 dA_textTold_47 rfl (fun h47 => ?_) (fun h47 => ?_)
      · refine go_aload_n (i := 3) dA_textTold_57 rfl rfl trivial ?_
        refine go_getf dA_textTold_58 flA288 (by assumption) rfl ?_
        refine go_iret dA_textTold_61 rfl rfl ?_
        exact CB.same h (by unfold v_textTold; rw [if_pos ok, if_neg h47])
      · refine go_aload_n (i := 3) dA_textTold_50 rfl rfl trivial ?_
        refine go_getf dA_textTold_51 flA285 (by assumption) rfl ?_
        refine go_goto 61 dA_textTold_54 rfl ?_
        refine go_iret dA_textTold_61 rfl rfl ?_
        exact CB.same h (by unfold v_textTold; rw [if_pos ok, if_pos (by omega)])
    · exact bad (by omega)
theorem bA_why (h : COMP F m) {k : Int} : CT g yA_why 1 0 0 [gR 0, gI k] (N, F) (CB N F (gI (v_why (m 0) k)) m) := by
  have ho := h.1
  have hn := h.2.1.1
  have z1 := zout_or k 0 2
  obtain ⟨f4, h4, e4⟩ := h.2.1.2.2.2.2.1
  refine CT.of' (L0 := [gR 0, gI k]) plA (Nat.le_of_ble_eq_true rfl) rfl ?_
  refine go_iload_n (i := 1) dA_why_0 rfl rfl ?_
  refine go_iconst dA_why_1 (inR_of _ rfl) ?_
  refine go_iconst dA_why_2 (inR_of _ rfl) ?_
  refine go_SP dA_why_3 vkA61 (ct_outside _ _ _) rfl (by omega) rfl (fun _ => Nat.le_of_ble_eq_true rfl) ?_
  refine go_if_eq 14 dA_why_6 rfl (fun h6 => ?_) (fun h6 => ?_)
  · have ok : 0 ≤ k ∧ k ≤ 2 := by omega
    refine go_aload_n (i := 0) dA_why_14 rfl rfl trivial ?_
    refine go_getf dA_why_15 flA10 (by assumption) rfl ?_
    refine go_getf dA_why_18 flA291 (by assumption) rfl ?_
    refine go_iload_n (i := 1) dA_why_21 rfl rfl ?_
    refine go_iald' k.toNat _ dA_why_22 h4 (by omega) (by omega) (e4 k.toNat (by omega)) ?_
    refine go_iret dA_why_23 rfl rfl ?_
    exact CB.same h (by unfold v_why zct; rw [if_pos ok])
  · refine go_ldc dA_why_9 kcA65 (inR_of _ rfl) ?_
    refine go_goto 23 dA_why_11 rfl ?_
    refine go_iret dA_why_23 rfl rfl ?_
    exact CB.same h (by unfold v_why; rw [if_neg (by omega)])
end CTAPE
