/-! ===== the world of the walk ===== -/
def stR (a2 a3 a5 a6 : ClassId) : Nat → ClassId := fun k => if k = 2 then a2 else if k = 3 then a3 else if k = 5 then a5 else a6
def stN (t0 t1 t2 t3 b tio : Nat) (adK adV : Nat → Nat) : Nat → Nat := fun i => if i = 0 then t0 else if i = 1 then t1 else if i = 2 then t2 else if i = 3 then t3 else if i = 30 then b else if i = 40 then tio else if i < 16 then adK (i - 8) else adV (i - 16)
theorem stN_K {t0 t1 t2 t3 b tio : Nat} {adK adV : Nat → Nat} (i : Nat) (h : i < 6) : stN t0 t1 t2 t3 b tio adK adV (8 + i) = adK i := by
  unfold stN
  rw [if_neg (by omega), if_neg (by omega), if_neg (by omega), if_neg (by omega), if_neg (by omega), if_neg (by omega), if_pos (by omega), show 8 + i - 8 = i by omega]
theorem stN_V {t0 t1 t2 t3 b tio : Nat} {adK adV : Nat → Nat} (i : Nat) (h : i < 6) : stN t0 t1 t2 t3 b tio adK adV (16 + i) = adV i := by
  unfold stN
  rw [if_neg (by omega), if_neg (by omega), if_neg (by omega), if_neg (by omega), if_neg (by omega), if_neg (by omega), if_neg (by omega), show 16 + i - 16 = i by omega]
theorem stS_ext {N : Nat} {len : List Nat} {byt : List (List Int32)} {adK adV adK2 adV2 : Nat → Nat} {A : Nat → Prop} {U : State} {H : Heap} (h : vk_S N len byt adK adV A U H) (hK : ∀ i : Nat, i < N → adK2 i = adK i) (hV : ∀ i : Nat, i < N → adV2 i = adV i) : vk_S N len byt adK2 adV2 A U H := by
  refine ⟨fun i hi => ?_, fun i j hi hj q => ?_⟩
  · rw [hK i hi, hV i hi]; exact h.1 i hi
  · rw [hK i hi, hK j hj] at q; exact h.2 i j hi hj q
theorem st_cl {s : State} {args : Array Value} (hg : ∀ w ∈ gw, w.before args s = true) : ∃ D : va_G, ∀ (c : Nat) (q : vw_C), clz[c]? = some q → u_Kn s q.1 q.2.1 q.2.2 (D.1 c) (D.2 c) := by
  obtain ⟨c0, i0, k0⟩ := u_known hg cls_0.2.1 (hg _ ki0)
  obtain ⟨c1, i1, k1⟩ := u_known hg cls_1.2.1 (hg _ ki1)
  obtain ⟨c2, i2, k2⟩ := u_known hg cls_2.2.1 (hg _ ki2)
  obtain ⟨c3, i3, k3⟩ := u_known hg cls_3.2.1 (hg _ ki3)
  obtain ⟨c4, i4, k4⟩ := u_known hg cls_4.2.1 (hg _ ki4)
  obtain ⟨c5, i5, k5⟩ := u_known hg cls_5.2.1 (hg _ ki5)
  obtain ⟨c6, i6, k6⟩ := u_known hg cls_6.2.1 (hg _ ki6)
  obtain ⟨c7, i7, k7⟩ := u_known hg cls_7.2.1 (hg _ ki7)
  refine ⟨(fun k => ([c0, c1, c2, c3, c4, c5, c6, c7] : List ClassId).getD k c0, fun k => ([i0, i1, i2, i3, i4, i5, i6, i7] : List (Nat → Nat)).getD k i0), ?_⟩
  intro c q h
  match c, h with
  | 0, h =>
    have e := Option.some.inj (show some (ZR0, ZT0, 11) = some q from h)
    subst e
    exact k0
  | 1, h =>
    have e := Option.some.inj (show some (ZR1, ZT1, 14) = some q from h)
    subst e
    exact k1
  | 2, h =>
    have e := Option.some.inj (show some (ZR2, ZT2, 5) = some q from h)
    subst e
    exact k2
  | 3, h =>
    have e := Option.some.inj (show some (ZR3, ZT3, 4) = some q from h)
    subst e
    exact k3
  | 4, h =>
    have e := Option.some.inj (show some (ZR4, ZT4, 9) = some q from h)
    subst e
    exact k4
  | 5, h =>
    have e := Option.some.inj (show some (ZR5, ZT5, 3) = some q from h)
    subst e
    exact k5
  | 6, h =>
    have e := Option.some.inj (show some (ZR6, ZT6, 4) = some q from h)
    subst e
    exact k6
  | 7, h =>
    have e := Option.some.inj (show some (ZR7, ZT7, 29) = some q from h)
    subst e
    exact k7
  | n + 8, h => simp [clz] at h
theorem st_ty {s : State} {args : Array Value} (hg : ∀ w ∈ gw, w.before args s = true) (hts : ∀ w ∈ lw_tbl, w.before args s = true) : ∃ (cI : ClassId) (aR : Nat → ClassId), ∀ (k : Nat) (q : ClassId × FieldType), ([(cI, .int), (aR 2, .object "GooseCounty$Goose"), (aR 3, .object "GooseCounty$Law"), (aR 5, .object "GooseCounty$Sheet"), (aR 6, .object "GooseCounty$Slot")] : List (ClassId × FieldType))[k]? = some q → ArrOfT s q.1 q.2 ∧ va_RA s q.1 q.2 := by
  obtain ⟨cI, kI, comp, z1, z2, z3⟩ := st_int (hg _ kaI)
  obtain ⟨a2, x2, y2⟩ := st_obj (st_ao hts "GooseCounty$Goose" (by decide))
  obtain ⟨a3, x3, y3⟩ := st_obj (st_ao hts "GooseCounty$Law" (by decide))
  obtain ⟨a5, x5, y5⟩ := st_obj (st_ao hts "GooseCounty$Sheet" (by decide))
  obtain ⟨a6, x6, y6⟩ := st_obj (st_ao hts "GooseCounty$Slot" (by decide))
  have hI : ArrOfT s cI .int := fun n z => ⟨fun k h => (by cases h), kI, z2, comp, z3⟩
  refine ⟨cI, stR a2 a3 a5 a6, ?_⟩
  intro k q h
  match k, h with
  | 0, h =>
    have e := Option.some.inj h
    subst e
    exact ⟨hI, z1⟩
  | 1, h =>
    have e := Option.some.inj h
    subst e
    exact ⟨x2, y2⟩
  | 2, h =>
    have e := Option.some.inj h
    subst e
    exact ⟨x3, y3⟩
  | 3, h =>
    have e := Option.some.inj h
    subst e
    exact ⟨x5, y5⟩
  | 4, h =>
    have e := Option.some.inj h
    subst e
    exact ⟨x6, y6⟩
  | n + 5, h => simp at h
theorem st_scr {A : Nat → Prop} {b L : Nat} {xs : Nat → Int32} {s : State} {H : Heap} (h : va_X b L xs s H) (hA : ¬ A b) : va_T .int b L (fun j => .int (Int32.ofInt ((xs j).toInt))) A s H := by
  obtain ⟨scr, h1, h2, h3, h4, h5⟩ := h
  refine ⟨scr, h1, h2, h3, Nat.le_of_eq h4.symm, by rw [h4]; (try rfl), fun j hj => ?_, hA⟩
  show _ = some (Value.int (Int32.ofInt ((xs j).toInt)))
  rw [h5 j hj, Int32.ofInt_toInt]
theorem st_env {s : State} {b L : Nat} {xs : Nat → Int32} (l : Launch) (hts : ∀ w ∈ lw_tbl, w.before #[Value.ref b] s = true) (hg : ∀ w ∈ gw, w.before #[Value.ref b] s = true) (hgv : (Jvm.Cond.and given_1 narrow_1).before #[Value.ref b] s = true) (hX : va_X b L xs s s.heap) (hbl : b < s.heap.size) : ∃ g : GX, g.1 = l ∧ xs0 g = s.heap.size ∧ xsa g 30 = b ∧ xL g = L ∧ (∀ j, inR (xX g j)) ∧ EV g s := by
  have hA : ∀ a : Nat, a < s.heap.size → ¬ (fun q : Nat => s.heap.size ≤ q) a := fun a h => Nat.not_le.mpr h
  obtain ⟨D, hD⟩ := st_cl hg
  obtain ⟨cI, aR, hT⟩ := st_ty hg hts
  obtain ⟨t0, p0, q0⟩ := st_UNDER hts hgv hA
  obtain ⟨t1, p1, q1⟩ := st_TALLIES hts hgv hA
  obtain ⟨t2, p2, q2⟩ := st_WANDERS hts hgv hA
  obtain ⟨t3, p3, q3⟩ := st_MOST_OF_TRAIT hts hgv hA
  obtain ⟨adK, adV, hS, hev⟩ := st_str hgv hA
  obtain ⟨tio, hio⟩ := st_io hts hgv hA
  have hR := st_ref hts hev
  refine ⟨(l, s.heap.size, D, cI, aR, stN t0 t1 t2 t3 b tio adK adV, L, fun j => (xs j).toInt), rfl, rfl, rfl, rfl, fun j => gi_in _, ?_⟩
  refine ⟨⟨hD, hT⟩, st_nm hts, st_nf hts, fun C hC => va_AO.of (st_ao hts C hC), ?_, st_cs hts hgv hA, stS_ext hS (fun i hi => stN_K i hi) (fun i hi => stN_V i hi), ?_, st_scr hX (hA b hbl), fun j => gi_in _, hio, Nat.le_refl _⟩
  · intro i q h
    match i, h with
    | 0, h =>
      have e := Option.some.inj (show some ("UNDER", ([-1, 0, 0, 1, 2, 0] : List Int)) = some q from h)
      subst e
      exact ⟨p0, q0⟩
    | 1, h =>
      have e := Option.some.inj (show some ("TALLIES", ([2, 1, 3, -2, 3, 4] : List Int)) = some q from h)
      subst e
      exact ⟨p1, q1⟩
    | 2, h =>
      have e := Option.some.inj (show some ("WANDERS", ([0, 1, 0, 2, 3, 0] : List Int)) = some q from h)
      subst e
      exact ⟨p2, q2⟩
    | 3, h =>
      have e := Option.some.inj (show some ("MOST_OF_TRAIT", ([5, 99, 99, 5, 9999] : List Int)) = some q from h)
      subst e
      exact ⟨p3, q3⟩
    | n + 4, h => simp [stT] at h
  · intro i q h
    have hi : i < 6 := (List.getElem?_eq_some_iff.mp h).1
    have r := hR i q h
    show vk_R _ _ _ (stN t0 t1 t2 t3 b tio adK adV (8 + i)) s
    rw [stN_K i hi]
    exact r
