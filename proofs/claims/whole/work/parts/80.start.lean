/-! ===== the law from its entry ===== -/
theorem lt1 {w : Cond} (i : Nat) (h : tables_1_1[i]? = some w) : w ∈ lw_tbl := List.mem_append_right _ (show w ∈ tables_1_1 ++ (tables_1_2 ++ (tables_1_3 ++ (tables_1_4 ++ (tables_1_5 ++ tables_1_6)))) from (List.mem_append_left _ (List.mem_of_getElem? h)))
theorem lt2 {w : Cond} (i : Nat) (h : tables_1_2[i]? = some w) : w ∈ lw_tbl := List.mem_append_right _ (show w ∈ tables_1_1 ++ (tables_1_2 ++ (tables_1_3 ++ (tables_1_4 ++ (tables_1_5 ++ tables_1_6)))) from (List.mem_append_right _ (List.mem_append_left _ (List.mem_of_getElem? h))))
theorem lt3 {w : Cond} (i : Nat) (h : tables_1_3[i]? = some w) : w ∈ lw_tbl := List.mem_append_right _ (show w ∈ tables_1_1 ++ (tables_1_2 ++ (tables_1_3 ++ (tables_1_4 ++ (tables_1_5 ++ tables_1_6)))) from (List.mem_append_right _ (List.mem_append_right _ (List.mem_append_left _ (List.mem_of_getElem? h)))))
theorem lt4 {w : Cond} (i : Nat) (h : tables_1_4[i]? = some w) : w ∈ lw_tbl := List.mem_append_right _ (show w ∈ tables_1_1 ++ (tables_1_2 ++ (tables_1_3 ++ (tables_1_4 ++ (tables_1_5 ++ tables_1_6)))) from (List.mem_append_right _ (List.mem_append_right _ (List.mem_append_right _ (List.mem_append_left _ (List.mem_of_getElem? h))))))
theorem lt5 {w : Cond} (i : Nat) (h : tables_1_5[i]? = some w) : w ∈ lw_tbl := List.mem_append_right _ (show w ∈ tables_1_1 ++ (tables_1_2 ++ (tables_1_3 ++ (tables_1_4 ++ (tables_1_5 ++ tables_1_6)))) from (List.mem_append_right _ (List.mem_append_right _ (List.mem_append_right _ (List.mem_append_right _ (List.mem_append_left _ (List.mem_of_getElem? h)))))))
theorem lt6 {w : Cond} (i : Nat) (h : tables_1_6[i]? = some w) : w ∈ lw_tbl := List.mem_append_right _ (show w ∈ tables_1_1 ++ (tables_1_2 ++ (tables_1_3 ++ (tables_1_4 ++ (tables_1_5 ++ tables_1_6)))) from (List.mem_append_right _ (List.mem_append_right _ (List.mem_append_right _ (List.mem_append_right _ (List.mem_append_right _ (List.mem_of_getElem? h)))))))
section START
variable {args : Array Value} {s : State}
theorem st_nm (hts : ∀ w ∈ lw_tbl, w.before args s = true) : ∀ q ∈ nestM, va_Nw (.methodLinkNest q.1 q.2.1 q.2.2.1 q.2.2.2) s := by
  unfold nestM
  exact (List.forall_mem_cons.mpr ⟨va_Nw.of rfl (hts _ (lt1 37 (by decide +kernel))), (List.forall_mem_cons.mpr ⟨va_Nw.of rfl (hts _ (lt1 128 (by decide +kernel))), (List.forall_mem_cons.mpr ⟨va_Nw.of rfl (hts _ (lt1 167 (by decide +kernel))), (List.forall_mem_cons.mpr ⟨va_Nw.of rfl (hts _ (lt1 185 (by decide +kernel))), (List.forall_mem_cons.mpr ⟨va_Nw.of rfl (hts _ (lt1 190 (by decide +kernel))), (List.forall_mem_cons.mpr ⟨va_Nw.of rfl (hts _ (lt1 192 (by decide +kernel))), (List.forall_mem_cons.mpr ⟨va_Nw.of rfl (hts _ (lt2 64 (by decide +kernel))), (fun _ h => by cases h)⟩)⟩)⟩)⟩)⟩)⟩)⟩)
theorem st_nf (hts : ∀ w ∈ lw_tbl, w.before args s = true) : ∀ q ∈ nestF, va_Nw (.fieldLinkNest q.1 q.2.1 q.2.2.1 q.2.2.2.1 q.2.2.2.2.1 q.2.2.2.2.2) s := by
  unfold nestF
  exact (List.forall_mem_cons.mpr ⟨va_Nw.of rfl (hts _ (lt2 51 (by decide +kernel))), (List.forall_mem_cons.mpr ⟨va_Nw.of rfl (hts _ (lt2 74 (by decide +kernel))), (List.forall_mem_cons.mpr ⟨va_Nw.of rfl (hts _ (lt2 80 (by decide +kernel))), (fun _ h => by cases h)⟩)⟩)⟩)
theorem st_ao (hts : ∀ w ∈ lw_tbl, w.before args s = true) : ∀ C ∈ aoL, (Cond.arrayOver (.object C)).before args s = true := by
  unfold aoL
  exact (List.forall_mem_cons.mpr ⟨hts _ (lt1 33 (by decide +kernel)), (List.forall_mem_cons.mpr ⟨hts _ (lt1 35 (by decide +kernel)), (List.forall_mem_cons.mpr ⟨hts _ (lt1 163 (by decide +kernel)), (List.forall_mem_cons.mpr ⟨hts _ (lt1 165 (by decide +kernel)), (fun _ h => by cases h)⟩)⟩)⟩)⟩)
theorem st_row {n : String} {l : List Int} {A : Nat → Prop} (hN : l.length < 2 ^ 31) (hl : (Cond.laysStatic "GooseCounty" n "[I").before args s = true) (hini : (Cond.initialized "GooseCounty").before args s = true) (ha : (Cond.arrayOf (.static "GooseCounty" n "[I") .int).before args s = true) (hlen : (Cond.eq (.length (.static "GooseCounty" n "[I")) (.int (Int32.ofNat l.length))).before args s = true) (hel : ∀ j : Nat, j < l.length → (Cond.eq (.elem (.static "GooseCounty" n "[I") (.int (Int32.ofNat j))) (.int (Int32.ofInt (l.getD j 0)))).before args s = true) (hA : ∀ a : Nat, a < s.heap.size → ¬ A a) : ∃ t : Nat, va_Z "GooseCounty" n "[I" (.ref t) A s s.heap ∧ va_T .int t l.length (fun j => .int (Int32.ofInt (l.getD j 0))) A s s.heap := by
  obtain ⟨t, h1, h2⟩ := va_Tof (f := fun j => .int (Int32.ofInt (l.getD j 0))) (A := A) hN ha (va_eqt hlen) (fun j hj => va_eqt (hel j hj)) hA
  exact ⟨t, va_Zof hl hini h1 hA, h2⟩
theorem st_UNDER {A : Nat → Prop} (hts : ∀ w ∈ lw_tbl, w.before args s = true) (hgv : (Jvm.Cond.and given_1 narrow_1).before args s = true) (hA : ∀ a : Nat, a < s.heap.size → ¬ A a) : ∃ t : Nat, va_Z "GooseCounty" "UNDER" "[I" (.ref t) A s s.heap ∧ va_T .int t ([-1, 0, 0, 1, 2, 0] : List Int).length (fun j => .int (Int32.ofInt (([-1, 0, 0, 1, 2, 0] : List Int).getD j 0))) A s s.heap := by
  have hs := flat_of_before _ hgv
  refine st_row (by decide) (hts _ (lt2 52 (by decide +kernel))) (hts _ (lt1 1 (by decide +kernel))) (hs _ (by decide +kernel)) (hs _ (by decide +kernel)) (fun j hj => ?_) hA
  match j, hj with
  | 0, _ => exact hs _ (by decide +kernel)
  | 1, _ => exact hs _ (by decide +kernel)
  | 2, _ => exact hs _ (by decide +kernel)
  | 3, _ => exact hs _ (by decide +kernel)
  | 4, _ => exact hs _ (by decide +kernel)
  | 5, _ => exact hs _ (by decide +kernel)
theorem st_TALLIES {A : Nat → Prop} (hts : ∀ w ∈ lw_tbl, w.before args s = true) (hgv : (Jvm.Cond.and given_1 narrow_1).before args s = true) (hA : ∀ a : Nat, a < s.heap.size → ¬ A a) : ∃ t : Nat, va_Z "GooseCounty" "TALLIES" "[I" (.ref t) A s s.heap ∧ va_T .int t ([2, 1, 3, -2, 3, 4] : List Int).length (fun j => .int (Int32.ofInt (([2, 1, 3, -2, 3, 4] : List Int).getD j 0))) A s s.heap := by
  have hs := flat_of_before _ hgv
  refine st_row (by decide) (hts _ (lt2 81 (by decide +kernel))) (hts _ (lt1 1 (by decide +kernel))) (hs _ (by decide +kernel)) (hs _ (by decide +kernel)) (fun j hj => ?_) hA
  match j, hj with
  | 0, _ => exact hs _ (by decide +kernel)
  | 1, _ => exact hs _ (by decide +kernel)
  | 2, _ => exact hs _ (by decide +kernel)
  | 3, _ => exact hs _ (by decide +kernel)
  | 4, _ => exact hs _ (by decide +kernel)
  | 5, _ => exact hs _ (by decide +kernel)
theorem st_WANDERS {A : Nat → Prop} (hts : ∀ w ∈ lw_tbl, w.before args s = true) (hgv : (Jvm.Cond.and given_1 narrow_1).before args s = true) (hA : ∀ a : Nat, a < s.heap.size → ¬ A a) : ∃ t : Nat, va_Z "GooseCounty" "WANDERS" "[I" (.ref t) A s s.heap ∧ va_T .int t ([0, 1, 0, 2, 3, 0] : List Int).length (fun j => .int (Int32.ofInt (([0, 1, 0, 2, 3, 0] : List Int).getD j 0))) A s s.heap := by
  have hs := flat_of_before _ hgv
  refine st_row (by decide) (hts _ (lt2 75 (by decide +kernel))) (hts _ (lt1 1 (by decide +kernel))) (hs _ (by decide +kernel)) (hs _ (by decide +kernel)) (fun j hj => ?_) hA
  match j, hj with
  | 0, _ => exact hs _ (by decide +kernel)
  | 1, _ => exact hs _ (by decide +kernel)
  | 2, _ => exact hs _ (by decide +kernel)
  | 3, _ => exact hs _ (by decide +kernel)
  | 4, _ => exact hs _ (by decide +kernel)
  | 5, _ => exact hs _ (by decide +kernel)
theorem st_MOST_OF_TRAIT {A : Nat → Prop} (hts : ∀ w ∈ lw_tbl, w.before args s = true) (hgv : (Jvm.Cond.and given_1 narrow_1).before args s = true) (hA : ∀ a : Nat, a < s.heap.size → ¬ A a) : ∃ t : Nat, va_Z "GooseCounty" "MOST_OF_TRAIT" "[I" (.ref t) A s s.heap ∧ va_T .int t ([5, 99, 99, 5, 9999] : List Int).length (fun j => .int (Int32.ofInt (([5, 99, 99, 5, 9999] : List Int).getD j 0))) A s s.heap := by
  have hs := flat_of_before _ hgv
  refine st_row (by decide) (hts _ (lt2 101 (by decide +kernel))) (hts _ (lt1 1 (by decide +kernel))) (hs _ (by decide +kernel)) (hs _ (by decide +kernel)) (fun j hj => ?_) hA
  match j, hj with
  | 0, _ => exact hs _ (by decide +kernel)
  | 1, _ => exact hs _ (by decide +kernel)
  | 2, _ => exact hs _ (by decide +kernel)
  | 3, _ => exact hs _ (by decide +kernel)
  | 4, _ => exact hs _ (by decide +kernel)
def tmS (i : Nat) : Term := .string "GooseCounty$Reader" (([78, 84, 86, 119, 121, 123] : List Nat).getD i 0)
theorem st_str {A : Nat → Prop} (hgv : (Jvm.Cond.and given_1 narrow_1).before args s = true) (hA : ∀ a : Nat, a < s.heap.size → ¬ A a) : ∃ adK adV : Nat → Nat, vk_S 6 srL srB adK adV A s s.heap ∧ ∀ i : Nat, i < 6 → (tmS i).eval args s none [] s = some (.ref (adK i)) := by
  have hs := flat_of_before _ hgv
  refine vk_Sof (by decide) (fun i hi => ?_) (fun i hi => ?_) (fun i hi => ?_) (fun i hi => ?_) (fun i hi j hj => ?_) (fun i j hi hj hij => ?_) hA
  · match i, hi with
    | 0, _ => exact hs _ (by decide +kernel)
    | 1, _ => exact hs _ (by decide +kernel)
    | 2, _ => exact hs _ (by decide +kernel)
    | 3, _ => exact hs _ (by decide +kernel)
    | 4, _ => exact hs _ (by decide +kernel)
    | 5, _ => exact hs _ (by decide +kernel)
  · match i, hi with
    | 0, _ => exact hs _ (by decide +kernel)
    | 1, _ => exact hs _ (by decide +kernel)
    | 2, _ => exact hs _ (by decide +kernel)
    | 3, _ => exact hs _ (by decide +kernel)
    | 4, _ => exact hs _ (by decide +kernel)
    | 5, _ => exact hs _ (by decide +kernel)
  · match i, hi with
    | 0, _ => exact hs _ (by decide +kernel)
    | 1, _ => exact hs _ (by decide +kernel)
    | 2, _ => exact hs _ (by decide +kernel)
    | 3, _ => exact hs _ (by decide +kernel)
    | 4, _ => exact hs _ (by decide +kernel)
    | 5, _ => exact hs _ (by decide +kernel)
  · match i, hi with
    | 0, _ => exact hs _ (by decide +kernel)
    | 1, _ => exact hs _ (by decide +kernel)
    | 2, _ => exact hs _ (by decide +kernel)
    | 3, _ => exact hs _ (by decide +kernel)
    | 4, _ => exact hs _ (by decide +kernel)
    | 5, _ => exact hs _ (by decide +kernel)
  · match i, hi, j, hj with
    | 0, _, 0, _ => exact hs _ (by decide +kernel)
    | 0, _, 1, _ => exact hs _ (by decide +kernel)
    | 0, _, 2, _ => exact hs _ (by decide +kernel)
    | 0, _, 3, _ => exact hs _ (by decide +kernel)
    | 1, _, 0, _ => exact hs _ (by decide +kernel)
    | 1, _, 1, _ => exact hs _ (by decide +kernel)
    | 1, _, 2, _ => exact hs _ (by decide +kernel)
    | 2, _, 0, _ => exact hs _ (by decide +kernel)
    | 2, _, 1, _ => exact hs _ (by decide +kernel)
    | 2, _, 2, _ => exact hs _ (by decide +kernel)
    | 2, _, 3, _ => exact hs _ (by decide +kernel)
    | 3, _, 0, _ => exact hs _ (by decide +kernel)
    | 3, _, 1, _ => exact hs _ (by decide +kernel)
    | 3, _, 2, _ => exact hs _ (by decide +kernel)
    | 3, _, 3, _ => exact hs _ (by decide +kernel)
    | 4, _, 0, _ => exact hs _ (by decide +kernel)
    | 4, _, 1, _ => exact hs _ (by decide +kernel)
    | 5, _, 0, _ => exact hs _ (by decide +kernel)
    | 5, _, 1, _ => exact hs _ (by decide +kernel)
  · match i, hi, j, hj, hij with
    | 0, _, 0, _, h => exact absurd rfl h
    | 0, _, 1, _, _ => exact Or.inl (hs _ (by decide +kernel))
    | 0, _, 2, _, _ => exact Or.inl (hs _ (by decide +kernel))
    | 0, _, 3, _, _ => exact Or.inl (hs _ (by decide +kernel))
    | 0, _, 4, _, _ => exact Or.inl (hs _ (by decide +kernel))
    | 0, _, 5, _, _ => exact Or.inl (hs _ (by decide +kernel))
    | 1, _, 0, _, _ => exact Or.inr (hs _ (by decide +kernel))
    | 1, _, 1, _, h => exact absurd rfl h
    | 1, _, 2, _, _ => exact Or.inl (hs _ (by decide +kernel))
    | 1, _, 3, _, _ => exact Or.inl (hs _ (by decide +kernel))
    | 1, _, 4, _, _ => exact Or.inl (hs _ (by decide +kernel))
    | 1, _, 5, _, _ => exact Or.inl (hs _ (by decide +kernel))
    | 2, _, 0, _, _ => exact Or.inr (hs _ (by decide +kernel))
    | 2, _, 1, _, _ => exact Or.inr (hs _ (by decide +kernel))
    | 2, _, 2, _, h => exact absurd rfl h
    | 2, _, 3, _, _ => exact Or.inl (hs _ (by decide +kernel))
    | 2, _, 4, _, _ => exact Or.inl (hs _ (by decide +kernel))
    | 2, _, 5, _, _ => exact Or.inl (hs _ (by decide +kernel))
    | 3, _, 0, _, _ => exact Or.inr (hs _ (by decide +kernel))
    | 3, _, 1, _, _ => exact Or.inr (hs _ (by decide +kernel))
    | 3, _, 2, _, _ => exact Or.inr (hs _ (by decide +kernel))
    | 3, _, 3, _, h => exact absurd rfl h
    | 3, _, 4, _, _ => exact Or.inl (hs _ (by decide +kernel))
    | 3, _, 5, _, _ => exact Or.inl (hs _ (by decide +kernel))
    | 4, _, 0, _, _ => exact Or.inr (hs _ (by decide +kernel))
    | 4, _, 1, _, _ => exact Or.inr (hs _ (by decide +kernel))
    | 4, _, 2, _, _ => exact Or.inr (hs _ (by decide +kernel))
    | 4, _, 3, _, _ => exact Or.inr (hs _ (by decide +kernel))
    | 4, _, 4, _, h => exact absurd rfl h
    | 4, _, 5, _, _ => exact Or.inl (hs _ (by decide +kernel))
    | 5, _, 0, _, _ => exact Or.inr (hs _ (by decide +kernel))
    | 5, _, 1, _, _ => exact Or.inr (hs _ (by decide +kernel))
    | 5, _, 2, _, _ => exact Or.inr (hs _ (by decide +kernel))
    | 5, _, 3, _, _ => exact Or.inr (hs _ (by decide +kernel))
    | 5, _, 4, _, _ => exact Or.inr (hs _ (by decide +kernel))
    | 5, _, 5, _, h => exact absurd rfl h
theorem st_ref (hts : ∀ w ∈ lw_tbl, w.before args s = true) {ad : Nat → Nat} (h : ∀ i : Nat, i < 6 → (tmS i).eval args s none [] s = some (.ref (ad i))) : ∀ (i : Nat) (q : Nat × String), srT[i]? = some q → vk_R "GooseCounty$Reader" q.1 q.2 (ad i) s := by
  intro i q hq
  match i, hq with
  | 0, hq => cases hq; exact vk_R.of (A := args) (hts _ (lt3 102 (by decide +kernel))) (h 0 (by omega))
  | 1, hq => cases hq; exact vk_R.of (A := args) (hts _ (lt3 155 (by decide +kernel))) (h 1 (by omega))
  | 2, hq => cases hq; exact vk_R.of (A := args) (hts _ (lt3 156 (by decide +kernel))) (h 2 (by omega))
  | 3, hq => cases hq; exact vk_R.of (A := args) (hts _ (lt3 201 (by decide +kernel))) (h 3 (by omega))
  | 4, hq => cases hq; exact vk_R.of (A := args) (hts _ (lt3 202 (by decide +kernel))) (h 4 (by omega))
  | 5, hq => cases hq; exact vk_R.of (A := args) (hts _ (lt3 203 (by decide +kernel))) (h 5 (by omega))
  | n + 6, hq => simp [srT] at hq
theorem st_cs {A : Nat → Prop} (hts : ∀ w ∈ lw_tbl, w.before args s = true) (hgv : (Jvm.Cond.and given_1 narrow_1).before args s = true) (hA : ∀ a : Nat, a < s.heap.size → ¬ A a) : va_Z "java/lang/String" "COMPACT_STRINGS" "Z" (.int 1) A s s.heap := by
  have hs := flat_of_before _ hgv
  exact va_Zof (hts _ (lt3 116 (by decide +kernel))) (hts _ (lt1 13 (by decide +kernel))) (va_eqt (hs _ (by decide +kernel))) hA
theorem st_io {A : Nat → Prop} (hts : ∀ w ∈ lw_tbl, w.before args s = true) (hgv : (Jvm.Cond.and given_1 narrow_1).before args s = true) (hA : ∀ a : Nat, a < s.heap.size → ¬ A a) : ∃ t : Nat, va_Z "jdk/internal/util/Preconditions" "SIOOBE_FORMATTER" "Ljava/util/function/BiFunction;" .null A s s.heap ∨ va_Z "jdk/internal/util/Preconditions" "SIOOBE_FORMATTER" "Ljava/util/function/BiFunction;" (.ref t) A s s.heap := by
  have hs := flat_of_before _ hgv
  rcases va_Zqof (C := "jdk/internal/util/Preconditions") (n := "SIOOBE_FORMATTER") (d := "Ljava/util/function/BiFunction;") (hts _ (lt3 132 (by decide +kernel))) (hts _ (lt1 15 (by decide +kernel))) (hs _ (by decide +kernel)) hA with h | ⟨t, h⟩
  · exact ⟨0, Or.inl h⟩
  · exact ⟨t, Or.inr h⟩
end START
