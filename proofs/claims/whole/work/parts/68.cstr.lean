/-! ===== the component's reader: constant texts ===== -/
def chr (i j : Nat) : Int := ((srB.getD i []).getD j 0).toInt
theorem sr_ok : ∀ i : Nat, i < 6 → ∀ j : Nat, j < 4 → j < srL.getD i 0 → (97 ≤ chr i j ∧ chr i j ≤ 122) ∧ iI2c (iAnd (chr i j) 255) = chr i j := by decide +kernel
theorem sr_len : ∀ i : Nat, i < 6 → 1 ≤ srL.getD i 0 ∧ srL.getD i 0 ≤ 4 := by decide +kernel
theorem i2b_ok : ∀ c : Nat, c < 256 → iI2b (c : Int) = c ∨ (128 ≤ c ∧ iI2b (c : Int) < 0) := by decide +kernel
theorem i2c_ok : ∀ c : Nat, c < 256 → iI2c (c : Int) = c := by decide +kernel
theorem narC {x : Int} (h0 : 0 ≤ x) (h1 : x < 65536) : narrow .char (.int (Int32.ofInt x)) = .int (Int32.ofInt x) := by
  obtain ⟨k, rfl⟩ : ∃ k : Nat, x = (k : Int) := ⟨x.toNat, by omega⟩
  rw [gi_nat]
  exact (pk_charN (by omega)).1
/-- where c first stands in the text i, from j on -/
def zix (i : Nat) (c : Int) : Nat → Nat → Int
  | 0, _ => -1
  | k + 1, j => if chr i j = c then (j : Int) else zix i c k (j + 1)
section CSTR
variable {g : GX} {N i : Nat} {F : Nat → GC}
theorem qT_isLatin1 (hi : i < 6) : CT g yJS_isLatin1 0 0 0 [gS (8 + i)] (N, F) (RV 1 (N, F)) := by
  refine CT.of' (L0 := [gS (8 + i)]) plJS (Nat.le_of_ble_eq_true rfl) rfl ?_
  refine go_getcs dJS_isLatin1_0 flJS38 ?_
  refine go_if_eq 17 dJS_isLatin1_3 rfl (fun h3 => absurd h3 (by omega)) (fun h3 => ?_)
  refine go_aload_n (i := 0) dJS_isLatin1_6 rfl rfl trivial ?_
  refine go_scod dJS_isLatin1_7 flJS15 (by omega) ?_
  refine go_if_ne 17 dJS_isLatin1_10 rfl (fun h8 => absurd rfl h8) (fun _ => ?_)
  refine go_iconst dJS_isLatin1_13 (inR_of _ rfl) ?_
  refine go_goto 18 dJS_isLatin1_14 rfl ?_
  refine go_iret dJS_isLatin1_18 rfl (zb (by simp)) ?_
  exact ⟨rfl, rfl⟩
theorem qT_coder (hi : i < 6) : CT g yJS_coder 0 0 0 [gS (8 + i)] (N, F) (RV 0 (N, F)) := by
  refine CT.of' (L0 := [gS (8 + i)]) plJS (Nat.le_of_ble_eq_true rfl) rfl ?_
  refine go_getcs dJS_coder_0 flJS38 ?_
  refine go_if_eq 13 dJS_coder_3 rfl (fun h3 => absurd h3 (by omega)) (fun h3 => ?_)
  refine go_aload_n (i := 0) dJS_coder_6 rfl rfl trivial ?_
  refine go_scod dJS_coder_7 flJS15 (by omega) ?_
  refine go_goto 14 dJS_coder_10 rfl ?_
  refine go_iret dJS_coder_14 rfl rfl ?_
  exact ⟨rfl, rfl⟩
theorem qT_length (hi : i < 6) : CT g yJS_length 1 0 0 [gS (8 + i)] (N, F) (RV ((srL.getD i 0 : Nat) : Int) (N, F)) := by
  have hl := sr_len i hi
  refine CT.of' (L0 := [gS (8 + i)]) plJS (Nat.le_of_ble_eq_true rfl) rfl ?_
  refine go_aload_n (i := 0) dJS_length_0 rfl rfl trivial ?_
  refine go_sval dJS_length_1 flJS9 (by omega) ?_
  refine go_slen dJS_length_4 hi (by omega) ?_
  refine go_aload_n (i := 0) dJS_length_5 rfl rfl trivial ?_
  refine go_TP dJS_length_6 vkJS335 (by omega) (qT_coder hi) rfl (by omega) rfl (fun _ => Nat.le_of_ble_eq_true rfl) ?_
  refine go_ishr dJS_length_9 ?_
  refine go_top ((srL.getD i 0 : Nat) : Int) (by have := iShr_nat (srL.getD i 0) 0 (by omega) (by omega); rw [show ((0 : Nat) : Int) = 0 from rfl] at this; rw [this]; simp) ?_
  refine go_iret dJS_length_10 rfl rfl ?_
  exact ⟨rfl, rfl⟩
theorem qT_checkP {j n : Int} {v : GV} (hj : 0 ≤ j ∧ j < n) (hv : v = gN ∨ v = gS 40) : CT g yJP_checkIndex 0 0 0 [gI j, gI n, v] (N, F) (RV j (N, F)) := by
  rcases hv with rfl | rfl
  · refine CT.of' (L0 := [gI j, gI n, gN]) plJP (Nat.le_of_ble_eq_true rfl) rfl ?_
    refine go_iload_n (i := 0) dJP_checkIndex_0 rfl rfl ?_
    refine go_if_lt 9 dJP_checkIndex_1 rfl (fun h1 => absurd h1 (by omega)) (fun h1 => ?_)
    refine go_iload_n (i := 0) dJP_checkIndex_4 rfl rfl ?_
    refine go_iload_n (i := 1) dJP_checkIndex_5 rfl rfl ?_
    refine go_ic_lt 16 dJP_checkIndex_6 rfl (fun h6 => ?_) (fun h6 => absurd (by omega) h6)
    refine go_iload_n (i := 0) dJP_checkIndex_16 rfl rfl ?_
    refine go_iret dJP_checkIndex_17 rfl rfl ?_
    exact ⟨rfl, rfl⟩
  · refine CT.of' (L0 := [gI j, gI n, gS 40]) plJP (Nat.le_of_ble_eq_true rfl) rfl ?_
    refine go_iload_n (i := 0) dJP_checkIndex_0 rfl rfl ?_
    refine go_if_lt 9 dJP_checkIndex_1 rfl (fun h1 => absurd h1 (by omega)) (fun h1 => ?_)
    refine go_iload_n (i := 0) dJP_checkIndex_4 rfl rfl ?_
    refine go_iload_n (i := 1) dJP_checkIndex_5 rfl rfl ?_
    refine go_ic_lt 16 dJP_checkIndex_6 rfl (fun h6 => ?_) (fun h6 => absurd (by omega) h6)
    refine go_iload_n (i := 0) dJP_checkIndex_16 rfl rfl ?_
    refine go_iret dJP_checkIndex_17 rfl rfl ?_
    exact ⟨rfl, rfl⟩
theorem qT_checkS {j n : Int} (hj : 0 ≤ j ∧ j < n) : CT g yJS_checkIndex 1 0 0 [gI j, gI n] (N, F) (fun rr M' => rr = gU ∧ M' = (N, F)) := by
  refine CT.of' (L0 := [gI j, gI n]) plJS (Nat.le_of_ble_eq_true rfl) rfl ?_
  refine go_iload_n (i := 0) dJS_checkIndex_0 rfl rfl ?_
  refine go_iload_n (i := 1) dJS_checkIndex_1 rfl rfl ?_
  refine go_getsio dJS_checkIndex_2 flJS1053 ?_ ?_
  · refine go_SP dJS_checkIndex_5 vkJS1059 (qT_checkP hj (Or.inl rfl)) rfl (by omega) rfl (fun _ => Nat.le_of_ble_eq_true rfl) ?_
    refine go_pop dJS_checkIndex_8 trivial ?_
    refine go_vret dJS_checkIndex_9 rfl ?_
    exact ⟨rfl, rfl⟩
  · refine go_SP dJS_checkIndex_5 vkJS1059 (qT_checkP hj (Or.inr rfl)) rfl (by omega) rfl (fun _ => Nat.le_of_ble_eq_true rfl) ?_
    refine go_pop dJS_checkIndex_8 trivial ?_
    refine go_vret dJS_checkIndex_9 rfl ?_
    exact ⟨rfl, rfl⟩
theorem qT_charL (hi : i < 6) {j : Nat} (hj : j < srL.getD i 0) : CT g yJL_charAt 2 0 0 [gS (16 + i), gI (j : Int)] (N, F) (RV (chr i j) (N, F)) := by
  have hl := sr_len i hi
  have hc := sr_ok i hi j (by omega) hj
  refine CT.of' (L0 := [gS (16 + i), gI (j : Int)]) plJL (Nat.le_of_ble_eq_true rfl) rfl ?_
  refine go_iload_n (i := 1) dJL_charAt_0 rfl rfl ?_
  refine go_aload_n (i := 0) dJL_charAt_1 rfl rfl trivial ?_
  refine go_slen dJL_charAt_2 hi (by omega) ?_
  refine go_SX dJL_charAt_3 vkJL9 (qT_checkS (by omega)) rfl (by omega) (by omega) (by omega) rfl (fun _ => Nat.le_of_ble_eq_true rfl) ?_
  rintro _ _ ⟨rfl, rfl⟩ -
  dsimp only [rp]
  refine go_aload_n (i := 0) dJL_charAt_6 rfl rfl trivial ?_
  refine go_iload_n (i := 1) dJL_charAt_7 rfl rfl ?_
  refine go_sbald dJL_charAt_8 hi (by omega) (by omega) ?_
  refine go_top (chr i j) rfl ?_
  refine go_sipush dJL_charAt_9 (inR_of _ rfl) rfl ?_
  refine go_iand dJL_charAt_12 ?_
  refine go_i2c dJL_charAt_13 ?_
  refine go_top (chr i j) hc.2 ?_
  refine go_iret dJL_charAt_14 rfl (narC (by omega) (by omega)) ?_
  exact ⟨rfl, rfl⟩
theorem qT_charAt (hi : i < 6) {j : Nat} (hj : j < srL.getD i 0) : CT g yJS_charAt 3 0 0 [gS (8 + i), gI (j : Int)] (N, F) (RV (chr i j) (N, F)) := by
  have hl := sr_len i hi
  have hc := sr_ok i hi j (by omega) hj
  refine CT.of' (L0 := [gS (8 + i), gI (j : Int)]) plJS (Nat.le_of_ble_eq_true rfl) rfl ?_
  refine go_aload_n (i := 0) dJS_charAt_0 rfl rfl trivial ?_
  refine go_TP dJS_charAt_1 vkJS492 (by omega) (qT_isLatin1 hi) rfl (by omega) rfl (fun _ => Nat.le_of_ble_eq_true rfl) ?_
  refine go_if_eq 16 dJS_charAt_4 rfl (fun h4 => absurd h4 (by omega)) (fun h4 => ?_)
  refine go_aload_n (i := 0) dJS_charAt_7 rfl rfl trivial ?_
  refine go_sval dJS_charAt_8 flJS9 (by omega) ?_
  refine go_iload_n (i := 1) dJS_charAt_11 rfl rfl ?_
  refine go_SP dJS_charAt_12 vkJS495 (qT_charL hi hj) rfl (by omega) rfl (fun _ => Nat.le_of_ble_eq_true rfl) ?_
  refine go_iret dJS_charAt_15 rfl (narC (by omega) (by omega)) ?_
  exact ⟨rfl, rfl⟩
theorem qT_canEncode {c : Int} (hc : 0 ≤ c ∧ c ≤ 255) : CT g yJL_canEncode 0 0 0 [gI c] (N, F) (RV 1 (N, F)) := by
  refine CT.of' (L0 := [gI c]) plJL (Nat.le_of_ble_eq_true rfl) rfl ?_
  refine go_iload_n (i := 0) dJL_canEncode_0 rfl rfl ?_
  refine go_if_lt 15 dJL_canEncode_1 rfl (fun h1 => absurd h1 (by omega)) (fun h1 => ?_)
  refine go_iload_n (i := 0) dJL_canEncode_4 rfl rfl ?_
  refine go_sipush dJL_canEncode_5 (inR_of _ rfl) rfl ?_
  refine go_ic_gt 15 dJL_canEncode_8 rfl (fun h8 => absurd h8 (by omega)) (fun h8 => ?_)
  refine go_iconst dJL_canEncode_11 (inR_of _ rfl) ?_
  refine go_goto 16 dJL_canEncode_12 rfl ?_
  refine go_iret dJL_canEncode_16 rfl (zb (by simp)) ?_
  exact ⟨rfl, rfl⟩
theorem qT_ofChar (hi : i < 6) {c : Nat} (hc : c < 256) : CT g yJL_indexOfChar 0 0 0 [gS (16 + i), gI (c : Int), gI 0, gI ((srL.getD i 0 : Nat) : Int)] (N, F) (RV (zix i c (srL.getD i 0) 0) (N, F)) := by
  have hl := sr_len i hi
  have loop : ∀ (k j : Nat), j + k = srL.getD i 0 → Go g yJL_indexOfChar 0 0 0 7 [gS (16 + i), gI (c : Int), gI 0, gI ((srL.getD i 0 : Nat) : Int), gI (iI2b (c : Int)), gI (j : Int)] [] (N, F) (RV (zix i c k j) (N, F)) := by
    intro k
    induction k with
    | zero =>
      intro j hj
      refine go_iload dJL_indexOfChar_7 rfl ?_
      refine go_iload_n (i := 3) dJL_indexOfChar_9 rfl rfl ?_
      refine go_ic_ge 31 dJL_indexOfChar_10 rfl (fun h10 => ?_) (fun h10 => absurd (by omega) h10)
      refine go_iconst dJL_indexOfChar_31 (inR_of _ rfl) ?_
      refine go_iret dJL_indexOfChar_32 rfl rfl ?_
      exact ⟨rfl, rfl⟩
    | succ k ih =>
      intro j hj
      have e : zix i c (k + 1) j = if chr i j = c then (j : Int) else zix i c k (j + 1) := rfl
      have hch := (sr_ok i hi j (by omega) (by omega)).1
      have hib := i2b_ok c hc
      refine go_iload dJL_indexOfChar_7 rfl ?_
      refine go_iload_n (i := 3) dJL_indexOfChar_9 rfl rfl ?_
      refine go_ic_ge 31 dJL_indexOfChar_10 rfl (fun h10 => absurd h10 (by omega)) (fun h10 => ?_)
      refine go_aload_n (i := 0) dJL_indexOfChar_13 rfl rfl trivial ?_
      refine go_iload dJL_indexOfChar_14 rfl ?_
      refine go_sbald dJL_indexOfChar_16 hi (by omega) (by omega) ?_
      refine go_top (chr i j) rfl ?_
      refine go_iload dJL_indexOfChar_17 rfl ?_
      refine go_ic_ne 25 dJL_indexOfChar_19 rfl (fun h19 => ?_) (fun h19 => ?_)
      · refine go_inc5 (((j + 1 : Nat) : Int)) dJL_indexOfChar_25 (Nat.le_of_ble_eq_true rfl) trivial (by (try simp (discharger := (unfold inR; omega)) only [w32_id]) <;> omega) ?_
        refine go_goto 7 dJL_indexOfChar_28 rfl ?_
        rw [e, if_neg (by omega)]
        exact ih (j + 1) (by omega)
      · refine go_iload dJL_indexOfChar_22 rfl ?_
        refine go_iret dJL_indexOfChar_24 rfl rfl ?_
        exact ⟨by rw [e, if_pos (by omega)], rfl⟩
  refine CT.of' (L0 := [gS (16 + i), gI (c : Int), gI 0, gI ((srL.getD i 0 : Nat) : Int), gU, gU]) plJL (Nat.le_of_ble_eq_true rfl) rfl ?_
  refine go_iload_n (i := 1) dJL_indexOfChar_0 rfl rfl ?_
  refine go_i2b dJL_indexOfChar_1 ?_
  refine go_is4 dJL_indexOfChar_2 (Nat.le_of_ble_eq_true rfl) trivial ?_
  refine go_iload_n (i := 2) dJL_indexOfChar_4 rfl rfl ?_
  refine go_is5 dJL_indexOfChar_5 (Nat.le_of_ble_eq_true rfl) trivial ?_
  exact loop (srL.getD i 0) 0 (by omega)
theorem qT_indexL (hi : i < 6) {c : Nat} (hc : c < 256) : CT g yJL_indexOf 1 0 0 [gS (16 + i), gI (c : Int), gI 0, gI ((srL.getD i 0 : Nat) : Int)] (N, F) (RV (zix i c (srL.getD i 0) 0) (N, F)) := by
  have hl := sr_len i hi
  refine CT.of' (L0 := [gS (16 + i), gI (c : Int), gI 0, gI ((srL.getD i 0 : Nat) : Int)]) plJL (Nat.le_of_ble_eq_true rfl) rfl ?_
  refine go_iload_n (i := 1) dJL_indexOf_0 rfl rfl ?_
  refine go_SP dJL_indexOf_1 vkJL88 (qT_canEncode (by omega)) rfl (by omega) rfl (fun _ => Nat.le_of_ble_eq_true rfl) ?_
  refine go_if_ne 9 dJL_indexOf_4 rfl (fun _ => ?_) (fun h8 => absurd h8 (by omega))
  refine go_iload_n (i := 2) dJL_indexOf_9 rfl rfl ?_
  refine go_iconst dJL_indexOf_10 (inR_of _ rfl) ?_
  refine go_mmax dJL_indexOf_11 vkJL92 (fun _ => Nat.le_of_ble_eq_true rfl) (by omega) ?_
  refine go_top 0 rfl ?_
  refine go_is2 dJL_indexOf_14 (Nat.le_of_ble_eq_true rfl) trivial ?_
  refine go_iload_n (i := 3) dJL_indexOf_15 rfl rfl ?_
  refine go_aload_n (i := 0) dJL_indexOf_16 rfl rfl trivial ?_
  refine go_slen dJL_indexOf_17 hi (by omega) ?_
  refine go_mmin dJL_indexOf_18 vkJL38 (fun _ => Nat.le_of_ble_eq_true rfl) (by omega) ?_
  refine go_top ((srL.getD i 0 : Nat) : Int) (by unfold iMin; rw [if_neg (by omega)]) ?_
  refine go_is3 dJL_indexOf_21 (Nat.le_of_ble_eq_true rfl) trivial ?_
  refine go_iload_n (i := 2) dJL_indexOf_22 rfl rfl ?_
  refine go_iload_n (i := 3) dJL_indexOf_23 rfl rfl ?_
  refine go_ic_lt 29 dJL_indexOf_24 rfl (fun h24 => ?_) (fun h24 => absurd (by omega) h24)
  refine go_aload_n (i := 0) dJL_indexOf_29 rfl rfl trivial ?_
  refine go_iload_n (i := 1) dJL_indexOf_30 rfl rfl ?_
  refine go_iload_n (i := 2) dJL_indexOf_31 rfl rfl ?_
  refine go_iload_n (i := 3) dJL_indexOf_32 rfl rfl ?_
  refine go_SP dJL_indexOf_33 vkJL95 (qT_ofChar hi hc) rfl (by omega) rfl (fun _ => Nat.le_of_ble_eq_true rfl) ?_
  refine go_iret dJL_indexOf_36 rfl rfl ?_
  exact ⟨rfl, rfl⟩
theorem qT_index2 (hi : i < 6) {c : Nat} (hc : c < 256) : CT g yJS_indexOf2 2 0 0 [gS (8 + i), gI (c : Int), gI 0] (N, F) (RV (zix i c (srL.getD i 0) 0) (N, F)) := by
  refine CT.of' (L0 := [gS (8 + i), gI (c : Int), gI 0]) plJS (Nat.le_of_ble_eq_true rfl) rfl ?_
  refine go_aload_n (i := 0) dJS_indexOf2_0 rfl rfl trivial ?_
  refine go_TP dJS_indexOf2_1 vkJS492 (by omega) (qT_isLatin1 hi) rfl (by omega) rfl (fun _ => Nat.le_of_ble_eq_true rfl) ?_
  refine go_if_eq 23 dJS_indexOf2_4 rfl (fun h4 => absurd h4 (by omega)) (fun h4 => ?_)
  refine go_aload_n (i := 0) dJS_indexOf2_7 rfl rfl trivial ?_
  refine go_sval dJS_indexOf2_8 flJS9 (by omega) ?_
  refine go_iload_n (i := 1) dJS_indexOf2_11 rfl rfl ?_
  refine go_iload_n (i := 2) dJS_indexOf2_12 rfl rfl ?_
  refine go_aload_n (i := 0) dJS_indexOf2_13 rfl rfl trivial ?_
  refine go_TP dJS_indexOf2_14 vkJS505 (by omega) (qT_length hi) rfl (by omega) rfl (fun _ => Nat.le_of_ble_eq_true rfl) ?_
  refine go_SP dJS_indexOf2_17 vkJS637 (qT_indexL hi hc) rfl (by omega) rfl (fun _ => Nat.le_of_ble_eq_true rfl) ?_
  refine go_goto 36 dJS_indexOf2_20 rfl ?_
  refine go_iret dJS_indexOf2_36 rfl rfl ?_
  exact ⟨rfl, rfl⟩
theorem qT_indexOf (hi : i < 6) {c : Nat} (hc : c < 256) : CT g yJS_indexOf 3 0 0 [gS (8 + i), gI (c : Int)] (N, F) (RV (zix i c (srL.getD i 0) 0) (N, F)) := by
  refine CT.of' (L0 := [gS (8 + i), gI (c : Int)]) plJS (Nat.le_of_ble_eq_true rfl) rfl ?_
  refine go_aload_n (i := 0) dJS_indexOf_0 rfl rfl trivial ?_
  refine go_iload_n (i := 1) dJS_indexOf_1 rfl rfl ?_
  refine go_iconst dJS_indexOf_2 (inR_of _ rfl) ?_
  refine go_TP dJS_indexOf_3 vkJS633 (by omega) (qT_index2 hi hc) rfl (by omega) rfl (fun _ => Nat.le_of_ble_eq_true rfl) ?_
  refine go_iret dJS_indexOf_6 rfl rfl ?_
  exact ⟨rfl, rfl⟩
end CSTR
theorem zix_0 (c : Int) : zix 3 c (srL.getD 3 0) 0 = znameI 0 c := by
  show (if (103 : Int) = c then (0 : Int) else if (97 : Int) = c then (1 : Int) else if (121 : Int) = c then (2 : Int) else if (110 : Int) = c then (3 : Int) else -1) = _
  unfold znameI
  rw [if_pos rfl]
  simp only [eq_comm]
theorem zix_1 (c : Int) : zix 4 c (srL.getD 4 0) 0 = znameI 1 c := by
  show (if (104 : Int) = c then (0 : Int) else if (98 : Int) = c then (1 : Int) else -1) = _
  simp [znameI, eq_comm]
theorem zix_2 (c : Int) : zix 5 c (srL.getD 5 0) 0 = znameI 2 c := by
  show (if (103 : Int) = c then (0 : Int) else if (115 : Int) = c then (1 : Int) else -1) = _
  simp [znameI, eq_comm]
section CWORD
variable {g : GX} {N i n : Nat} {F : Nat → GC} {row tp B : Nat → Int}
def zwI (B : Nat → Int) (so fr to i : Nat) : Bool := decide (so = 1 ∧ to = fr + srL.getD i 0 ∧ ∀ j : Nat, j < srL.getD i 0 → B (fr + j) = chr i j)
theorem qR_isWord {sz op key : Int} {fr to so : Nat} (h50 : F 50 = cI 96 tp) (hb : ∀ k : Nat, k < n → tp k = B k) (hn : n ≤ 96) (ht : fr ≤ to ∧ to ≤ n) (hi : i < 6) : CT g yR_isWord 4 0 0 [gR 49, gS (8 + i)] (N, RM F row (rF n fr to so sz op key)) (RV (if zwI B so fr to i = true then 1 else 0) (N, RM F row (rF n fr to so sz op key))) := by
  have hx5 : ∀ fs, RM F row fs 50 = cI 96 tp := fun fs => by rw [RM_at (by omega) (by omega)]; exact h50
  have hl := sr_len i hi
  have no : ¬ (so = 1 ∧ to = fr + srL.getD i 0 ∧ ∀ j : Nat, j < srL.getD i 0 → B (fr + j) = chr i j) → gI 0 = gI (if zwI B so fr to i = true then 1 else 0) := fun q => by
    rw [if_neg (by unfold zwI; rw [decide_eq_false q]; decide)]
  have loop : so = 1 → to = fr + srL.getD i 0 → ∀ (k j : Nat), j + k = srL.getD i 0 → (∀ j' : Nat, j' < j → B (fr + j') = chr i j') → Go g yR_isWord 4 0 0 28 [gR 49, gS (8 + i), gI (j : Int)] [] (N, RM F row (rF n fr to so sz op key)) (RV (if zwI B so fr to i = true then 1 else 0) (N, RM F row (rF n fr to so sz op key))) := by
    intro h1 h2 k
    induction k with
    | zero =>
      intro j hj hq
      refine go_iload_n (i := 2) dR_isWord_28 rfl rfl ?_
      refine go_aload_n (i := 1) dR_isWord_29 rfl rfl trivial ?_
      refine go_TP dR_isWord_30 vkR69 (by omega) (qT_length hi) rfl (by omega) rfl (fun _ => Nat.le_of_ble_eq_true rfl) ?_
      refine go_ic_ge 63 dR_isWord_33 rfl (fun h33 => ?_) (fun h33 => absurd (by omega) h33)
      refine go_iconst dR_isWord_63 (inR_of _ rfl) ?_
      refine go_iret dR_isWord_64 rfl (zb (by simp)) ?_
      exact ⟨by rw [if_pos (by unfold zwI; exact decide_eq_true ⟨h1, h2, fun j' hj' => hq j' (by omega)⟩)], rfl⟩
    | succ k ih =>
      intro j hj hq
      refine go_iload_n (i := 2) dR_isWord_28 rfl rfl ?_
      refine go_aload_n (i := 1) dR_isWord_29 rfl rfl trivial ?_
      refine go_TP dR_isWord_30 vkR69 (by omega) (qT_length hi) rfl (by omega) rfl (fun _ => Nat.le_of_ble_eq_true rfl) ?_
      refine go_ic_ge 63 dR_isWord_33 rfl (fun h33 => absurd h33 (by omega)) (fun h33 => ?_)
      refine go_aload_n (i := 0) dR_isWord_36 rfl rfl trivial ?_
      refine go_getf dR_isWord_37 flR9 RM_49 rfl ?_
      refine go_aload_n (i := 0) dR_isWord_40 rfl rfl trivial ?_
      refine go_getf dR_isWord_41 flR22 RM_49 rfl ?_
      refine go_iload_n (i := 2) dR_isWord_44 rfl rfl ?_
      refine go_iadd dR_isWord_45 ?_
      refine go_top (((fr + j : Nat) : Int)) (by (try simp (discharger := (unfold inR; omega)) only [w32_id]) <;> omega) ?_
      refine go_iald' (fr + j) _ dR_isWord_46 (hx5 _) rfl (by omega) (hb _ (by omega)) ?_
      refine go_aload_n (i := 1) dR_isWord_47 rfl rfl trivial ?_
      refine go_iload_n (i := 2) dR_isWord_48 rfl rfl ?_
      refine go_TP dR_isWord_49 vkR74 (by omega) (qT_charAt hi (by omega)) rfl (by omega) rfl (fun _ => Nat.le_of_ble_eq_true rfl) ?_
      refine go_ic_eq 57 dR_isWord_52 rfl (fun h52 => ?_) (fun h52 => ?_)
      · refine go_inc2 (((j + 1 : Nat) : Int)) dR_isWord_57 (Nat.le_of_ble_eq_true rfl) trivial (by (try simp (discharger := (unfold inR; omega)) only [w32_id]) <;> omega) ?_
        refine go_goto 28 dR_isWord_60 rfl ?_
        refine ih (j + 1) (by omega) (fun j' hj' => ?_)
        by_cases q : j' = j
        · subst q; exact h52
        · exact hq j' (by omega)
      · refine go_iconst dR_isWord_55 (inR_of _ rfl) ?_
        refine go_iret dR_isWord_56 rfl (zb (by simp)) ?_
        exact ⟨no (fun q => h52 (q.2.2 j (by omega))), rfl⟩
  refine CT.of' (L0 := [gR 49, gS (8 + i), gU]) plR (Nat.le_of_ble_eq_true rfl) rfl ?_
  refine go_aload_n (i := 0) dR_isWord_0 rfl rfl trivial ?_
  refine go_getf dR_isWord_1 flR48 RM_49 rfl ?_
  refine go_iconst dR_isWord_4 (inR_of _ rfl) ?_
  refine go_ic_ne 24 dR_isWord_5 rfl (fun h5 => ?_) (fun h5 => ?_)
  · refine go_iconst dR_isWord_24 (inR_of _ rfl) ?_
    refine go_iret dR_isWord_25 rfl (zb (by simp)) ?_
    exact ⟨no (fun q => by have := q.1; omega), rfl⟩
  · refine go_aload_n (i := 0) dR_isWord_8 rfl rfl trivial ?_
    refine go_getf dR_isWord_9 flR45 RM_49 rfl ?_
    refine go_aload_n (i := 0) dR_isWord_12 rfl rfl trivial ?_
    refine go_getf dR_isWord_13 flR22 RM_49 rfl ?_
    refine go_isub dR_isWord_16 ?_
    refine go_top (((to - fr : Nat) : Int)) (by (try simp (discharger := (unfold inR; omega)) only [w32_id]) <;> omega) ?_
    refine go_aload_n (i := 1) dR_isWord_17 rfl rfl trivial ?_
    refine go_TP dR_isWord_18 vkR69 (by omega) (qT_length hi) rfl (by omega) rfl (fun _ => Nat.le_of_ble_eq_true rfl) ?_
    refine go_ic_eq 26 dR_isWord_21 rfl (fun h21 => ?_) (fun h21 => ?_)
    · refine go_iconst dR_isWord_26 (inR_of _ rfl) ?_
      refine go_is2 dR_isWord_27 (Nat.le_of_ble_eq_true rfl) trivial ?_
      exact loop (by omega) (by omega) (srL.getD i 0) 0 (by omega) (fun j' hj' => absurd hj' (by omega))
    · refine go_iconst dR_isWord_24 (inR_of _ rfl) ?_
      refine go_iret dR_isWord_25 rfl (zb (by simp)) ?_
      exact ⟨no (fun q => by have := q.2.1; omega), rfl⟩
theorem zwI_0 {R : ZR} : zwI B R.so R.fr R.to 0 = zwd B R 108 111 111 107 := by
  unfold zwI zwd
  refine decide_eq_decide.mpr ?_
  show (R.so = 1 ∧ R.to = R.fr + 4 ∧ ∀ j : Nat, j < 4 → B (R.fr + j) = chr 0 j) ↔ _
  constructor
  · rintro ⟨h1, h2, h3⟩
    exact ⟨h1, ⟨h3 0 (by omega), h3 1 (by omega), h3 2 (by omega)⟩, fun q => absurd q (by omega), fun _ => ⟨h2, h3 3 (by omega)⟩⟩
  · rintro ⟨h1, ⟨a, b, c⟩, -, h4⟩
    obtain ⟨h2, d⟩ := h4 (by omega)
    refine ⟨h1, h2, fun j hj => ?_⟩
    match j, hj with
    | 0, _ => exact a
    | 1, _ => exact b
    | 2, _ => exact c
    | 3, _ => exact d
theorem zwI_1 {R : ZR} : zwI B R.so R.fr R.to 1 = zwd B R 102 101 101 0 := by
  unfold zwI zwd
  refine decide_eq_decide.mpr ?_
  show (R.so = 1 ∧ R.to = R.fr + 3 ∧ ∀ j : Nat, j < 3 → B (R.fr + j) = chr 1 j) ↔ _
  constructor
  · rintro ⟨h1, h2, h3⟩
    exact ⟨h1, ⟨h3 0 (by omega), h3 1 (by omega), h3 2 (by omega)⟩, fun _ => h2, fun q => absurd rfl q⟩
  · rintro ⟨h1, ⟨a, b, c⟩, h4, -⟩
    refine ⟨h1, h4 rfl, fun j hj => ?_⟩
    match j, hj with
    | 0, _ => exact a
    | 1, _ => exact b
    | 2, _ => exact c
theorem zwI_2 {R : ZR} : zwI B R.so R.fr R.to 2 = zwd B R 102 105 110 101 := by
  unfold zwI zwd
  refine decide_eq_decide.mpr ?_
  show (R.so = 1 ∧ R.to = R.fr + 4 ∧ ∀ j : Nat, j < 4 → B (R.fr + j) = chr 2 j) ↔ _
  constructor
  · rintro ⟨h1, h2, h3⟩
    exact ⟨h1, ⟨h3 0 (by omega), h3 1 (by omega), h3 2 (by omega)⟩, fun q => absurd q (by omega), fun _ => ⟨h2, h3 3 (by omega)⟩⟩
  · rintro ⟨h1, ⟨a, b, c⟩, -, h4⟩
    obtain ⟨h2, d⟩ := h4 (by omega)
    refine ⟨h1, h2, fun j hj => ?_⟩
    match j, hj with
    | 0, _ => exact a
    | 1, _ => exact b
    | 2, _ => exact c
    | 3, _ => exact d
end CWORD
