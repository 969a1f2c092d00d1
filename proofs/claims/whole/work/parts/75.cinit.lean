/-! ===== new objects ===== -/
section GONEWS
variable {g : GX} {y : GY} {d bc bs pc : Nat} {L st : List GV} {N : Nat} {F : Nat → GC} {Q : GV → GM → Prop}
/-- a row of ints is made and put into a final field -/
theorem go_mnew {idx ci j r : Nat} {n : Int} {fs : List GV} (hd1 : decode y.2.1 pc = .ok (.newarray .int, 2)) (hd2 : decode y.2.1 (pc + 2) = .ok (.putfield idx, 3)) (hf : FL y.1.cls idx ci j (.array .int) true) (hin : y.1.name = "<init>") (hcl : clz[ci]?.map (fun q => q.1) = some y.1.cls) (hr : r < N) (hm : F r = cO ci fs) (hj : j < fs.length) (h0 : 0 ≤ n) (h1 : n < 100000) (hbc : 1 ≤ bc) (hbs : n.toNat ≤ bs)
    (kk : ∀ F' : Nat → GC, F' r = cO ci (fs.set j (gR N)) → F' N = cI n.toNat (fun _ => 0) → (∀ i : Nat, i ≠ r → i ≠ N → F' i = F i) → Go g y d (bc - 1) (bs - n.toNat) (pc + 5) L st (N + 1, F') Q) : Go g y d bc bs pc L (gI n :: gR r :: st) (N, F) Q := by
  refine go_newI hd1 kaI h0 h1 hbc hbs ?_
  refine go_putF hd2 hf hin hcl (show va_up F N (cI n.toNat (fun _ => 0)) r = cO ci fs by rw [va_up_ne _ _ (by omega)]; exact hm) hj rfl rfl ?_
  exact kk _ (va_up_self _ _ _) (by rw [va_up_ne _ _ (by omega), va_up_self]) (fun i i1 i2 => by rw [va_up_ne _ _ i1, va_up_ne _ _ i2])
end GONEWS
def z0 (k : Nat) : Int := if k = 1 then 20 else if k = 7 then 1 else if 8 ≤ k ∧ k < 14 then 2 else if 65 ≤ k ∧ k < 68 then -1 else 0
def CT0 (F : Nat → GC) (b : Nat) : Prop := F b = cO 1 (cFld b z0) ∧ F (b + 1) = cR 2 10 (gRow b) ∧ (∃ f, F (b + 2) = cI 6 f ∧ ∀ y : Nat, y < 6 → f y = z0 (8 + y)) ∧ F (b + 3) = cR 3 14 (fun _ => none) ∧ (∃ f, F (b + 4) = cI 3 f ∧ ∀ w : Nat, w < 3 → f w = zct z0 w) ∧ (∃ f, F (b + 5) = cI 100 f) ∧ ∀ i : Nat, i < 10 → F (b + 6 + i) = cO 2 [gI 0, gI 0, gI 0, gI 0, gI 0]
theorem CT0.at {F F' : Nat → GC} {b : Nat} (h : CT0 F b) (hF : ∀ k : Nat, b ≤ k → k < b + 16 → F' k = F k) : CT0 F' b := by
  obtain ⟨h0, h1, h2, h3, h4, h5, h6⟩ := h
  exact ⟨by rw [hF _ (by omega) (by omega)]; exact h0, by rw [hF _ (by omega) (by omega)]; exact h1, by rw [hF _ (by omega) (by omega)]; exact h2, by rw [hF _ (by omega) (by omega)]; exact h3, by rw [hF _ (by omega) (by omega)]; exact h4, by rw [hF _ (by omega) (by omega)]; exact h5, fun i hi => by rw [hF _ (by omega) (by omega)]; exact h6 i hi⟩
theorem CT0.cty {F : Nat → GC} {b : Nat} (h : CT0 F b) : CTY F b z0 := by
  obtain ⟨h0, h1, h2, h3, h4, h5, h6⟩ := h
  have hlw : LWS F (fun _ => none) z0 := ⟨fun _ _ _ ha => by simp at ha, fun _ ht => absurd (show _ < (0 : Int) from ht) (by omega)⟩
  exact ⟨h0, h1, h2, ⟨fun _ => none, h3, hlw⟩, h4, h5, fun i hi => ⟨fun _ => 0, h6 i hi, fun q => absurd (show (i : Int) < 0 from q) (by omega)⟩⟩
section CINIT
variable {g : GX} {N : Nat} {F : Nat → GC}
theorem qG_init {a : Nat} : CT g yG_init 1 0 0 [gR a] (N, F) (fun rr M' => rr = gU ∧ M' = (N, F)) := by
  refine CT.of' (L0 := [gR a]) plG (Nat.le_of_ble_eq_true rfl) rfl ?_
  refine go_aload_n (i := 0) dG_init_0 rfl rfl trivial ?_
  refine go_objInit dG_init_1 obG3 obI obC (Nat.le_of_ble_eq_true rfl) (by omega) ?_
  refine go_vret dG_init_4 rfl ?_
  exact ⟨rfl, rfl⟩
theorem qS_init {a : Nat} (h : F a = cO 5 [gI 0, gI 0, gN]) (ha : a < N) : CT g yS_init 1 1 24 [gR a] (N, F) (fun rr M' => rr = gU ∧ ∃ F2 : Nat → GC, M' = (N + 1, F2) ∧ F2 a = cO 5 [gI (-1), gI 0, gR N] ∧ F2 N = cI 24 (fun _ => 0) ∧ ∀ i : Nat, i ≠ a → i ≠ N → F2 i = F i) := by
  refine CT.of' (L0 := [gR a]) plS (Nat.le_of_ble_eq_true rfl) rfl ?_
  refine go_aload_n (i := 0) dS_init_0 rfl rfl trivial ?_
  refine go_objInit dS_init_1 obS3 obI obC (Nat.le_of_ble_eq_true rfl) (by omega) ?_
  refine go_aload_n (i := 0) dS_init_4 rfl rfl trivial ?_
  refine go_iconst dS_init_5 (inR_of _ rfl) ?_
  refine go_putf dS_init_6 flS9 h (by show 0 < 3; omega) rfl rfl ?_
  refine go_aload_n (i := 0) dS_init_9 rfl rfl trivial ?_
  refine go_iconst dS_init_10 (inR_of _ rfl) ?_
  refine go_putf dS_init_11 flS15 (va_up_self _ _ _) (by show 1 < 3; omega) rfl rfl ?_
  rw [va_up_up]
  refine go_aload_n (i := 0) dS_init_14 rfl rfl trivial ?_
  refine go_bipush dS_init_15 (inR_of _ rfl) rfl ?_
  refine go_mnew dS_init_17 dS_init_19 flS18 rfl rfl ha (va_up_self _ _ _) (by show 2 < 3; omega) (by omega) (by omega) (by omega) (by omega) (fun F2 e1 e2 e3 => ?_)
  refine go_vret dS_init_22 rfl ?_
  exact ⟨rfl, F2, rfl, e1, e2, fun i i1 i2 => by rw [e3 i i1 i2, va_up_ne _ _ i1]⟩
theorem qT_init {a : Nat} (h : F a = cO 6 [gI 0, gI 0, gN, gN]) (ha : a < N) : CT g yT_init 2 3 40 [gR a] (N, F) (fun rr M' => rr = gU ∧ ∃ F2 : Nat → GC, M' = (N + 3, F2) ∧ F2 a = cO 6 [gI 0, gI 0, gR N, gR (N + 1)] ∧ F2 N = cO 2 [gI 0, gI 0, gI 0, gI 0, gI 0] ∧ F2 (N + 1) = cO 5 [gI (-1), gI 0, gR (N + 2)] ∧ F2 (N + 2) = cI 24 (fun _ => 0) ∧ ∀ i : Nat, i ≠ a → i < N → F2 i = F i) := by
  refine CT.of' (L0 := [gR a]) plT (Nat.le_of_ble_eq_true rfl) rfl ?_
  refine go_aload_n (i := 0) dT_init_0 rfl rfl trivial ?_
  refine go_objInit dT_init_1 obT3 obI obC (Nat.le_of_ble_eq_true rfl) (by omega) ?_
  refine go_aload_n (i := 0) dT_init_4 rfl rfl trivial ?_
  refine go_iconst dT_init_5 (inR_of _ rfl) ?_
  refine go_putf dT_init_6 flT9 h (by show 0 < 4; omega) rfl rfl ?_
  refine go_aload_n (i := 0) dT_init_9 rfl rfl trivial ?_
  refine go_iconst dT_init_10 (inR_of _ rfl) ?_
  refine go_putf dT_init_11 flT15 (va_up_self _ _ _) (by show 1 < 4; omega) rfl rfl ?_
  rw [va_up_up]
  refine go_aload_n (i := 0) dT_init_14 rfl rfl trivial ?_
  refine go_new (fs := [gI 0, gI 0, gI 0, gI 0, gI 0]) dT_init_15 cls_2 klT18 ki2 kj2 (fun g j hj => by match j, hj with | 0, _ => rfl | 1, _ => rfl | 2, _ => rfl | 3, _ => rfl | 4, _ => rfl) (List.cons_ne_nil _ _) (fun v hv => by simp at hv; subst hv; exact inR_0) (by omega) (by omega) ?_
  refine go_dup dT_init_18 trivial ?_
  refine go_callIN dT_init_19 vkT20.1 vkT20.2.1 vkT20.2.2.1 vkT20.2.2.2.1 vkT20.2.2.2.2 qG_init rfl (by omega) (by omega) (by omega) rfl (fun _ => Nat.le_of_ble_eq_true rfl) ?_
  rintro _ _ ⟨rfl, rfl⟩ -
  dsimp only [rp]
  rw [va_up_comm _ _ (by omega)]
  refine go_putF dT_init_22 flT21 rfl rfl (va_up_self _ _ _) (by show 2 < 4; omega) rfl rfl ?_
  rw [va_up_up]
  generalize hF1 : va_up (va_up F N (cO 2 [gI 0, gI 0, gI 0, gI 0, gI 0])) a (cO 6 (List.set (List.set (List.set [gI 0, gI 0, gN, gN] 0 (gI 0)) 1 (gI 0)) 2 (gR N))) = F1
  have ea : F1 a = cO 6 [gI 0, gI 0, gR N, gN] := by rw [← hF1, va_up_self]; rfl
  have eN : F1 N = cO 2 [gI 0, gI 0, gI 0, gI 0, gI 0] := by rw [← hF1, va_up_ne _ _ (by omega), va_up_self]
  have eo : ∀ i : Nat, i ≠ a → i ≠ N → F1 i = F i := fun i i1 i2 => by rw [← hF1, va_up_ne _ _ i1, va_up_ne _ _ i2]
  refine go_aload_n (i := 0) dT_init_25 rfl rfl trivial ?_
  refine go_new (fs := [gI 0, gI 0, gN]) dT_init_26 cls_5 klT25 ki5 kj5 (fun g j hj => by match j, hj with | 0, _ => rfl | 1, _ => rfl | 2, _ => rfl) (List.cons_ne_nil _ _) (fun v hv => by simp at hv; rcases hv with rfl | rfl <;> first | exact inR_0 | trivial) (by omega) (by omega) ?_
  refine go_dup dT_init_29 trivial ?_
  refine go_callIN dT_init_30 vkT27.1 vkT27.2.1 vkT27.2.2.1 vkT27.2.2.2.1 vkT27.2.2.2.2 (qS_init (va_up_self _ _ _) (by omega)) rfl (by omega) (by omega) (by omega) rfl (fun _ => Nat.le_of_ble_eq_true rfl) ?_
  rintro _ _ ⟨rfl, F2, rfl, s1, s2, s3⟩ -
  dsimp only [rp]
  refine go_putF dT_init_33 flT28 rfl rfl (show F2 a = cO 6 [gI 0, gI 0, gR N, gN] by rw [s3 a (by omega) (by omega), va_up_ne _ _ (by omega)]; exact ea) (by show 3 < 4; omega) rfl rfl ?_
  refine go_vret dT_init_36 rfl ?_
  refine ⟨rfl, _, rfl, va_up_self _ _ _, ?_, ?_, ?_, fun i i1 i2 => ?_⟩
  · rw [va_up_ne _ _ (by omega), s3 N (by omega) (by omega), va_up_ne _ _ (by omega)]; exact eN
  · rw [va_up_ne _ _ (by omega)]; exact s1
  · rw [va_up_ne _ _ (by omega)]; exact s2
  · rw [va_up_ne _ _ i1, s3 i (by omega) (by omega), va_up_ne _ _ (by omega), eo i i1 (by omega)]
theorem qR_init {a : Nat} (h : F a = cO 4 [gN, gN, gI 0, gI 0, gI 0, gI 0, gI 0, gI 0, gI 0]) (ha : a < N) : CT g yR_init 1 2 192 [gR a] (N, F) (fun rr M' => rr = gU ∧ ∃ F2 : Nat → GC, M' = (N + 2, F2) ∧ F2 a = cO 4 [gR N, gR (N + 1), gI 0, gI 0, gI 0, gI 0, gI 0, gI 0, gI 0] ∧ F2 N = cI 96 (fun _ => 0) ∧ F2 (N + 1) = cI 96 (fun _ => 0) ∧ ∀ i : Nat, i ≠ a → i < N → F2 i = F i) := by
  refine CT.of' (L0 := [gR a]) plR (Nat.le_of_ble_eq_true rfl) rfl ?_
  refine go_aload_n (i := 0) dR_init_0 rfl rfl trivial ?_
  refine go_objInit dR_init_1 obR3 obI obC (Nat.le_of_ble_eq_true rfl) (by omega) ?_
  refine go_aload_n (i := 0) dR_init_4 rfl rfl trivial ?_
  refine go_bipush dR_init_5 (inR_of _ rfl) rfl ?_
  refine go_mnew dR_init_7 dR_init_9 flR9 rfl rfl ha h (by show 0 < 9; omega) (by omega) (by omega) (by omega) (by omega) (fun F1 a1 a2 a3 => ?_)
  refine go_aload_n (i := 0) dR_init_12 rfl rfl trivial ?_
  refine go_bipush dR_init_13 (inR_of _ rfl) rfl ?_
  refine go_mnew dR_init_15 dR_init_17 flR15 rfl rfl (by omega) a1 (by show 1 < 9; omega) (by omega) (by omega) (by omega) (by omega) (fun F2 b1 b2 b3 => ?_)
  refine go_aload_n (i := 0) dR_init_20 rfl rfl trivial ?_
  refine go_iconst dR_init_21 (inR_of _ rfl) ?_
  refine go_putf dR_init_22 flR18 b1 (by show 2 < 9; omega) rfl rfl ?_
  refine go_aload_n (i := 0) dR_init_25 rfl rfl trivial ?_
  refine go_iconst dR_init_26 (inR_of _ rfl) ?_
  refine go_putf dR_init_27 flR22 (va_up_self _ _ _) (by show 3 < 9; omega) rfl rfl ?_
  rw [va_up_up]
  refine go_vret dR_init_30 rfl ?_
  refine ⟨rfl, _, rfl, va_up_self _ _ _, ?_, ?_, fun i i1 i2 => ?_⟩
  · rw [va_up_ne _ _ (by omega), b3 N (by omega) (by omega)]; exact a2
  · rw [va_up_ne _ _ (by omega)]; exact b2
  · rw [va_up_ne _ _ i1, b3 i i1 (by omega), a3 i i1 (by omega)]
def gRn (b k i : Nat) : Option Nat := if i < k then some (b + 6 + i) else none
theorem gRn_up (b k : Nat) : va_up (gRn b k) k (some (b + 6 + k)) = gRn b (k + 1) := by
  funext i
  unfold gRn
  by_cases q : i = k
  · subst q; rw [va_up_self, if_pos (by omega)]
  · rw [va_up_ne _ _ q]
    by_cases c : i < k
    · rw [if_pos c, if_pos (by omega)]
    · rw [if_neg c, if_neg (by omega)]
theorem qB_init {b : Nat} (h : F b = cO 1 [gN, gN, gN, gN, gN, gI 0, gI 0, gI 0, gI 0, gI 0, gI 0, gI 0, gI 0, gI 0]) : CT g yB_init 2 15 183 [gR b] (b + 1, F) (fun rr M' => rr = gU ∧ ∃ F2 : Nat → GC, M' = (b + 16, F2) ∧ CT0 F2 b ∧ ∀ i : Nat, i < b → F2 i = F i) := by
  have loop : ∀ (j k : Nat), k + j = 10 → ∀ F1 : Nat → GC, F1 b = cO 1 (cFld b z0) → F1 (b + 1) = cR 2 10 (gRn b k) → F1 (b + 2) = cI 6 (fun _ => 0) → F1 (b + 3) = cR 3 14 (fun _ => none) → F1 (b + 4) = cI 3 (fun _ => 0) → F1 (b + 5) = cI 100 (fun _ => 0) → (∀ i : Nat, i < k → F1 (b + 6 + i) = cO 2 [gI 0, gI 0, gI 0, gI 0, gI 0]) → (∀ i : Nat, i < b → F1 i = F i) → Go g yB_init 2 j (5 * j) 93 [gR b, gI (k : Int)] [] (b + 6 + k, F1) (fun rr M' => rr = gU ∧ ∃ F2 : Nat → GC, M' = (b + 16, F2) ∧ CT0 F2 b ∧ ∀ i : Nat, i < b → F2 i = F i) := by
    intro j
    induction j with
    | zero =>
      intro k hk F1 e0 e1 e2 e3 e4 e5 e6 eo
      have hk10 : k = 10 := by omega
      subst hk10
      refine go_iload_n (i := 1) dB_init_93 rfl rfl ?_
      refine go_bipush dB_init_94 (inR_of _ rfl) rfl ?_
      refine go_ic_ge 118 dB_init_96 rfl (fun h96 => ?_) (fun h96 => absurd (by omega) h96)
      refine go_aload_n (i := 0) dB_init_118 rfl rfl trivial ?_
      refine go_getf dB_init_119 flB17 (by assumption) rfl ?_
      refine go_iconst dB_init_122 (inR_of _ rfl) ?_
      refine go_SX dB_init_123 vkB62 (qJ_fill e2 (by omega)) rfl (by omega) (by omega) (by omega) rfl (fun _ => Nat.le_of_ble_eq_true rfl) ?_
      rintro _ _ ⟨rfl, f2, rfl, hf2⟩ -
      dsimp only [rp]
      have e0' : va_up F1 (b + 2) (cI 6 f2) b = cO 1 (cFld b z0) := by rw [va_up_ne _ _ (by omega)]; exact e0
      have e4' : va_up F1 (b + 2) (cI 6 f2) (b + 4) = cI 3 (fun _ => 0) := by rw [va_up_ne _ _ (by omega)]; exact e4
      refine go_aload_n (i := 0) dB_init_126 rfl rfl trivial ?_
      refine go_getf dB_init_127 flB27 (by assumption) rfl ?_
      refine go_ldc dB_init_130 kcB68 (inR_of _ rfl) ?_
      refine go_SX dB_init_132 vkB62 (qJ_fill e4' (by omega)) rfl (by omega) (by omega) (by omega) rfl (fun _ => Nat.le_of_ble_eq_true rfl) ?_
      rintro _ _ ⟨rfl, f4, rfl, hf4⟩ -
      dsimp only [rp]
      refine go_vret dB_init_135 rfl ?_
      have hz2 : ∀ y : Nat, y < 6 → f2 y = z0 (8 + y) := fun y hy => by rw [hf2 y hy]; unfold z0; rw [if_neg (by omega), if_neg (by omega), if_pos (by omega)]
      have hz4 : ∀ w : Nat, w < 3 → f4 w = zct z0 w := fun w hw => by
        have e : z0 (65 + w) = -1 := by unfold z0; rw [if_neg (by omega), if_neg (by omega), if_neg (by omega), if_pos (by omega)]
        rw [hf4 w hw]; unfold zct; rw [e, if_pos (by omega)]
      refine ⟨rfl, _, rfl, ⟨by rw [va_up_ne _ _ (by omega)]; exact e0', by rw [va_up_ne _ _ (by omega), va_up_ne _ _ (by omega), e1]; rfl, ⟨f2, by rw [va_up_ne _ _ (by omega), va_up_self], hz2⟩, by rw [va_up_ne _ _ (by omega), va_up_ne _ _ (by omega)]; exact e3, ⟨f4, va_up_self _ _ _, hz4⟩, ⟨fun _ => 0, by rw [va_up_ne _ _ (by omega), va_up_ne _ _ (by omega)]; exact e5⟩, fun i hi => by rw [va_up_ne _ _ (by omega), va_up_ne _ _ (by omega)]; exact e6 i hi⟩, fun i hi => by rw [va_up_ne _ _ (by omega), va_up_ne _ _ (by omega)]; exact eo i hi⟩
    | succ j ih =>
      intro k hk F1 e0 e1 e2 e3 e4 e5 e6 eo
      refine go_iload_n (i := 1) dB_init_93 rfl rfl ?_
      refine go_bipush dB_init_94 (inR_of _ rfl) rfl ?_
      refine go_ic_ge 118 dB_init_96 rfl (fun h96 => absurd h96 (by omega)) (fun h96 => ?_)
      refine go_aload_n (i := 0) dB_init_99 rfl rfl trivial ?_
      refine go_getf dB_init_100 flB11 (by assumption) rfl ?_
      refine go_iload_n (i := 1) dB_init_103 rfl rfl ?_
      refine go_new (fs := [gI 0, gI 0, gI 0, gI 0, gI 0]) dB_init_104 cls_2 klB9 ki2 kj2 (fun g j hj => by match j, hj with | 0, _ => rfl | 1, _ => rfl | 2, _ => rfl | 3, _ => rfl | 4, _ => rfl) (List.cons_ne_nil _ _) (fun v hv => by simp at hv; subst hv; exact inR_0) (by omega) (by omega) ?_
      refine go_dup dB_init_107 trivial ?_
      refine go_callIN dB_init_108 vkB61.1 vkB61.2.1 vkB61.2.2.1 vkB61.2.2.2.1 vkB61.2.2.2.2 qG_init rfl (by omega) (by omega) (by omega) rfl (fun _ => Nat.le_of_ble_eq_true rfl) ?_
      rintro _ _ ⟨rfl, rfl⟩ -
      dsimp only [rp]
      refine go_aast 1 "GooseCounty$Goose" dB_init_111 (show va_up F1 (b + 6 + k) (cO 2 [gI 0, gI 0, gI 0, gI 0, gI 0]) (b + 1) = cR 2 10 (gRn b k) by rw [va_up_ne _ _ (by omega)]; exact e1) (va_up_self _ _ _) (List.cons_ne_nil _ _) rfl rfl (by omega) (by omega) ?_
      rw [Int.toNat_natCast, gRn_up]
      refine go_inc1 (((k + 1 : Nat) : Int)) dB_init_112 (Nat.le_of_ble_eq_true rfl) trivial (by (try simp (discharger := (unfold inR; omega)) only [w32_id]) <;> omega) ?_
      refine go_goto 93 dB_init_115 rfl ?_
      have at' : ∀ i : Nat, i ≠ b + 1 → i ≠ b + 6 + k → va_up (va_up F1 (b + 6 + k) (cO 2 [gI 0, gI 0, gI 0, gI 0, gI 0])) (b + 1) (cR 2 10 (gRn b (k + 1))) i = F1 i := fun i i1 i2 => by rw [va_up_ne _ _ i1, va_up_ne _ _ i2]
      have := ih (k + 1) (by omega) (va_up (va_up F1 (b + 6 + k) (cO 2 [gI 0, gI 0, gI 0, gI 0, gI 0])) (b + 1) (cR 2 10 (gRn b (k + 1)))) (by rw [at' _ (by omega) (by omega)]; exact e0) (va_up_self _ _ _) (by rw [at' _ (by omega) (by omega)]; exact e2) (by rw [at' _ (by omega) (by omega)]; exact e3) (by rw [at' _ (by omega) (by omega)]; exact e4) (by rw [at' _ (by omega) (by omega)]; exact e5) (fun i hi => by
        by_cases q : i = k
        · subst q; rw [va_up_ne _ _ (by omega), va_up_self]
        · rw [at' _ (by omega) (by omega)]; exact e6 i (by omega)) (fun i hi => by rw [at' _ (by omega) (by omega)]; exact eo i hi)
      rw [show j + 1 - 1 - 0 = j by omega, show 5 * (j + 1) - 5 - 0 = 5 * j by omega]
      exact this
  refine CT.of' (L0 := [gR b, gU]) plB (Nat.le_of_ble_eq_true rfl) rfl ?_
  refine go_aload_n (i := 0) dB_init_0 rfl rfl trivial ?_
  refine go_objInit dB_init_1 obB3 obI obC (Nat.le_of_ble_eq_true rfl) (by omega) ?_
  refine go_aload_n (i := 0) dB_init_4 rfl rfl trivial ?_
  refine go_bipush dB_init_5 (inR_of _ rfl) rfl ?_
  refine go_newR 1 "GooseCounty$Goose" dB_init_7 klB9 (by decide) rfl (by omega) (by omega) (by omega) (by show 10 ≤ 183; omega) ?_
  refine go_putF dB_init_10 flB11 rfl rfl (show va_up F (b + 1) (cR 2 10 (fun _ => none)) b = _ by rw [va_up_ne _ _ (by omega)]; exact h) (by show 0 < 14; omega) rfl rfl ?_
  generalize hF1 : va_up (va_up F (b + 1) (cR 2 (Int.toNat 10) (fun _ => none))) b (cO 1 (List.set [gN, gN, gN, gN, gN, gI 0, gI 0, gI 0, gI 0, gI 0, gI 0, gI 0, gI 0, gI 0] 0 (gR (b + 1)))) = F1
  have a0 : F1 b = cO 1 [gR (b + 1), gN, gN, gN, gN, gI 0, gI 0, gI 0, gI 0, gI 0, gI 0, gI 0, gI 0, gI 0] := by rw [← hF1, va_up_self]; rfl
  have a1 : F1 (b + 1) = cR 2 10 (fun _ => none) := by rw [← hF1, va_up_ne _ _ (by omega), va_up_self]; rfl
  have ao : ∀ i : Nat, i < b → F1 i = F i := fun i hi => by rw [← hF1, va_up_ne _ _ (by omega), va_up_ne _ _ (by omega)]
  refine go_aload_n (i := 0) dB_init_13 rfl rfl trivial ?_
  refine go_bipush dB_init_14 (inR_of _ rfl) rfl ?_
  refine go_mnew dB_init_16 dB_init_18 flB17 rfl rfl (by omega) a0 (by show 1 < 14; omega) (by omega) (by omega) (by omega) (by show 6 ≤ _; omega) (fun F2 b0 b2 bo => ?_)
  refine go_aload_n (i := 0) dB_init_21 rfl rfl trivial ?_
  refine go_bipush dB_init_22 (inR_of _ rfl) rfl ?_
  refine go_newR 2 "GooseCounty$Law" dB_init_24 klB21 (by decide) rfl (by omega) (by omega) (by omega) (by show 14 ≤ _; omega) ?_
  refine go_putF dB_init_27 flB23 rfl rfl (show va_up F2 (b + 1 + 1 + 1) (cR 3 14 (fun _ => none)) b = _ by rw [va_up_ne _ _ (by omega)]; exact b0) (by show 2 < 14; omega) rfl rfl ?_
  generalize hF3 : va_up (va_up F2 (b + 1 + 1 + 1) (cR 3 (Int.toNat 14) (fun _ => none))) b _ = F3
  have c0 : F3 b = cO 1 [gR (b + 1), gR (b + 2), gR (b + 3), gN, gN, gI 0, gI 0, gI 0, gI 0, gI 0, gI 0, gI 0, gI 0, gI 0] := by rw [← hF3, va_up_self]; rfl
  have c3 : F3 (b + 3) = cR 3 14 (fun _ => none) := by rw [← hF3, va_up_ne _ _ (by omega), va_up_self]; rfl
  have co : ∀ i : Nat, i ≠ b → i ≠ b + 3 → F3 i = F2 i := fun i i1 i2 => by rw [← hF3, va_up_ne _ _ i1, va_up_ne _ _ (by omega)]
  refine go_aload_n (i := 0) dB_init_30 rfl rfl trivial ?_
  refine go_iconst dB_init_31 (inR_of _ rfl) ?_
  refine go_mnew dB_init_32 dB_init_34 flB27 rfl rfl (by omega) c0 (by show 3 < 14; omega) (by omega) (by omega) (by omega) (by show 3 ≤ _; omega) (fun F4 d0 d4 dO => ?_)
  refine go_aload_n (i := 0) dB_init_37 rfl rfl trivial ?_
  refine go_bipush dB_init_38 (inR_of _ rfl) rfl ?_
  refine go_mnew dB_init_40 dB_init_42 flB30 rfl rfl (by omega) d0 (by show 4 < 14; omega) (by omega) (by omega) (by omega) (by show 100 ≤ _; omega) (fun F5 e0 e5 eo => ?_)
  refine go_aload_n (i := 0) dB_init_45 rfl rfl trivial ?_
  refine go_iconst dB_init_46 (inR_of _ rfl) ?_
  refine go_putf dB_init_47 flB33 e0 (by show 5 < 14; omega) rfl rfl ?_
  refine go_aload_n (i := 0) dB_init_50 rfl rfl trivial ?_
  refine go_iconst dB_init_51 (inR_of _ rfl) ?_
  refine go_putf dB_init_52 flB37 (va_up_self _ _ _) (by show 6 < 14; omega) rfl rfl ?_
  rw [va_up_up]
  refine go_aload_n (i := 0) dB_init_55 rfl rfl trivial ?_
  refine go_bipush dB_init_56 (inR_of _ rfl) rfl ?_
  refine go_putf dB_init_58 flB40 (va_up_self _ _ _) (by show 7 < 14; omega) rfl rfl ?_
  rw [va_up_up]
  refine go_aload_n (i := 0) dB_init_61 rfl rfl trivial ?_
  refine go_iconst dB_init_62 (inR_of _ rfl) ?_
  refine go_putf dB_init_63 flB43 (va_up_self _ _ _) (by show 8 < 14; omega) rfl rfl ?_
  rw [va_up_up]
  refine go_aload_n (i := 0) dB_init_66 rfl rfl trivial ?_
  refine go_iconst dB_init_67 (inR_of _ rfl) ?_
  refine go_putf dB_init_68 flB46 (va_up_self _ _ _) (by show 9 < 14; omega) rfl rfl ?_
  rw [va_up_up]
  refine go_aload_n (i := 0) dB_init_71 rfl rfl trivial ?_
  refine go_iconst dB_init_72 (inR_of _ rfl) ?_
  refine go_putf dB_init_73 flB49 (va_up_self _ _ _) (by show 10 < 14; omega) rfl rfl ?_
  rw [va_up_up]
  refine go_aload_n (i := 0) dB_init_76 rfl rfl trivial ?_
  refine go_iconst dB_init_77 (inR_of _ rfl) ?_
  refine go_putf dB_init_78 flB52 (va_up_self _ _ _) (by show 11 < 14; omega) rfl rfl ?_
  rw [va_up_up]
  refine go_aload_n (i := 0) dB_init_81 rfl rfl trivial ?_
  refine go_iconst dB_init_82 (inR_of _ rfl) ?_
  refine go_putf dB_init_83 flB55 (va_up_self _ _ _) (by show 12 < 14; omega) rfl rfl ?_
  rw [va_up_up]
  refine go_aload_n (i := 0) dB_init_86 rfl rfl trivial ?_
  refine go_iconst dB_init_87 (inR_of _ rfl) ?_
  refine go_putf dB_init_88 flB58 (va_up_self _ _ _) (by show 13 < 14; omega) rfl rfl ?_
  rw [va_up_up]
  generalize hF6 : va_up F5 b _ = F6
  have g0 : F6 b = cO 1 (cFld b z0) := by rw [← hF6, va_up_self]; rfl
  have go' : ∀ i : Nat, i ≠ b → F6 i = F5 i := fun i hi => by rw [← hF6, va_up_ne _ _ hi]
  refine go_iconst dB_init_91 (inR_of _ rfl) ?_
  refine go_is1 dB_init_92 (Nat.le_of_ble_eq_true rfl) trivial ?_
  exact loop 10 0 rfl F6 g0 (by rw [go' _ (by omega), eo _ (by omega) (by omega), dO _ (by omega) (by omega), co _ (by omega) (by omega), bo _ (by omega) (by omega), a1]; rfl) (by rw [go' _ (by omega), eo _ (by omega) (by omega), dO _ (by omega) (by omega), co _ (by omega) (by omega)]; exact b2) (by rw [go' _ (by omega), eo _ (by omega) (by omega), dO _ (by omega) (by omega)]; exact c3) (by rw [go' _ (by omega), eo _ (by omega) (by omega)]; exact d4) (by rw [go' _ (by omega)]; exact e5) (fun i hi => absurd hi (by omega)) (fun i hi => by rw [go' _ (by omega), eo _ (by omega) (by omega), dO _ (by omega) (by omega), co _ (by omega) (by omega), bo _ (by omega) (by omega)]; exact ao i hi)
end CINIT
