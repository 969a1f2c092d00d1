/-! ===== the model's parser: pieces, and all of it ===== -/
section MPIECE
variable {g : GX} {N r : Nat} {F F1 F2 : Nat → GC} {m m1 m2 : Nat → Nat → Int} {B : Nat → Int} {n key o t : Nat} {R : ZR}
theorem pM_not {f : Nat} (hE : PE m B n key) (ic : PPc g N r F m B n key f) (ho8 : o ≤ 8) (ht8 : t ≤ 8) (hI : PI r F m B n R o t F1 m1) (hs : R.so = 3 ∧ B R.fr = 33) (hf : 8 * (98 - R.fr) + 1 ≤ f + 1) : CT g yM_not (9 * (8 - o) + 2 * (8 - t) + 4) 0 0 [gR r] (N, F1) (PQ N r F m (if t = 8 then R.bad else (zpar B n key f 5 o (t + 1) (R.nx B n)).put (-43)) o t) := by
  have h := hI.1
  have hM := h.1
  have ho := h.1.1
  have hB := hE.2.2.1
  have hn := hB.1
  have h18 := (h.2.2.2.2.2.2.2.1 hI.2.2.2.1).2
  obtain ⟨⟨hw1, hd1, hfr, hfn⟩, l1, p1, w1, d1, f1, f96⟩ := hI.lp (key := key) (f := f) (q := 5) hB (by omega)
  refine CT.of' (L0 := [gR r]) plM (Nat.le_of_ble_eq_true rfl) rfl ?_
  refine go_aload_n (i := 0) dM_not_0 rfl rfl trivial ?_
  refine go_getf dM_not_1 flM284 (by assumption) rfl ?_
  rw [h18]
  refine go_bipush dM_not_4 (inR_of _ rfl) rfl ?_
  refine go_ic_ne 14 dM_not_6 rfl (fun h6 => ?_) (fun h6 => ?_)
  · rw [if_neg (by omega)]
    refine go_aload_n (i := 0) dM_not_14 rfl rfl trivial ?_
    refine go_dup dM_not_15 trivial ?_
    refine go_getf dM_not_16 flM284 (by assumption) rfl ?_
    rw [h18]
    refine go_iconst dM_not_19 (inR_of _ rfl) ?_
    refine go_iadd dM_not_20 ?_
    refine go_top (((t + 1 : Nat) : Int)) (by (try simp (discharger := (unfold inR; omega)) only [w32_id]) <;> omega) ?_
    refine go_mpf hM (hM.f18 _) dM_not_21 flM284 rfl rfl (fun F2 m2 hM2 hF2 e2 => ?_)
    have h2 : PST r F m R o (t + 1) F2 m2 := h.num hM2 hF2 e2 (by omega) rfl h.2.2.2.2.1 h.2.2.2.2.2.1 h.2.2.2.2.2.2.1 (fun hk => ⟨(h.2.2.2.2.2.2.2.1 hk).1, rfl⟩)
    have ho2 := hM2.1
    have hI2 : PI r F m B n R o (t + 1) F2 m2 := ⟨h2, hI.2⟩
    refine go_aload_n (i := 0) dM_not_24 rfl rfl trivial ?_
    refine go_VX dM_not_25 vkM269 (by assumption) (List.cons_ne_nil _ _) (h2.next hE hI.2.1) rfl (by omega) (by omega) (by omega) rfl (fun _ => Nat.le_of_ble_eq_true rfl) ?_
    rintro _ _ ⟨rfl, F3, m3, rfl, h3⟩ -
    dsimp only [rp]
    have hI3 := hI2.nx hB h3
    have ho3 := h3.1.1
    obtain ⟨-, l4, p4, w4, d4, f4, f964⟩ := hI2.lp (key := key) (f := f) (q := 5) hB (by omega)
    refine go_aload_n (i := 0) dM_not_28 rfl rfl trivial ?_
    refine go_VX dM_not_29 vkM287 (by assumption) (List.cons_ne_nil _ _) (ic 5 o (t + 1) (R.nx B n) F3 m3 (by omega) ho8 (by omega) hI3 (by omega)) rfl (by omega) (by omega) (by omega) rfl (fun _ => Nat.le_of_ble_eq_true rfl) ?_
    rintro _ _ ⟨rfl, F4, m4, rfl, h4⟩ -
    dsimp only [rp]
    generalize zpar B n key f 5 o (t + 1) (R.nx B n) = R1 at *
    have hM4 := h4.1
    have ho4 := h4.1.1
    refine go_aload_n (i := 0) dM_not_32 rfl rfl trivial ?_
    refine go_dup dM_not_33 trivial ?_
    refine go_getf dM_not_34 flM284 (by assumption) rfl ?_
    refine go_iconst dM_not_37 (inR_of _ rfl) ?_
    refine go_isub dM_not_38 ?_
    refine go_mpf hM4 (hM4.f18 _) dM_not_39 flM284 rfl rfl (fun F5 m5 hM5 hF5 e5 => ?_)
    have h5 : PST r F m R1 o t F5 m5 := by
      refine h4.num hM5 hF5 e5 (by omega) rfl h4.2.2.2.2.1 h4.2.2.2.2.2.1 h4.2.2.2.2.2.2.1 (fun hk => ⟨(h4.2.2.2.2.2.2.2.1 hk).1, ?_⟩)
      have := (h4.2.2.2.2.2.2.2.1 hk).2
      rw [va_up_self, this]
      (try simp (discharger := (unfold inR; omega)) only [w32_id]) <;> omega
    have ho5 := hM5.1
    refine go_aload_n (i := 0) dM_not_42 rfl rfl trivial ?_
    refine go_bipush dM_not_43 (inR_of _ rfl) rfl ?_
    refine go_VX dM_not_45 vkM263 (by assumption) (List.cons_ne_nil _ _) (pM_writes h5 (-43) (by omega)) rfl (by omega) (by omega) (by omega) rfl (fun _ => Nat.le_of_ble_eq_true rfl) ?_
    rintro _ _ ⟨rfl, F6, m6, rfl, h6⟩ -
    dsimp only [rp]
    refine go_vret dM_not_48 rfl ?_
    exact ⟨rfl, F6, m6, rfl, h6⟩
  · rw [if_pos (by omega)]
    refine go_aload_n (i := 0) dM_not_9 rfl rfl trivial ?_
    refine go_VX dM_not_10 vkM275 (by assumption) (List.cons_ne_nil _ _) (pM_wrong h) rfl (by omega) (by omega) (by omega) rfl (fun _ => Nat.le_of_ble_eq_true rfl) ?_
    rintro _ _ ⟨rfl, F6, m6, rfl, h6⟩ -
    dsimp only [rp]
    refine go_vret dM_not_13 rfl ?_
    exact ⟨rfl, F6, m6, rfl, h6⟩
theorem pM_inner {f : Nat} (hE : PE m B n key) (ic : PPc g N r F m B n key f) (ho8 : o ≤ 8) (ht8 : t ≤ 8) (hI : PI r F m B n R o t F1 m1) (hs : R.so = 3 ∧ B R.fr = 40) (hf : 8 * (98 - R.fr) + 1 ≤ f + 1) : CT g yM_inner (9 * (8 - o) + 2 * (8 - t) + 4) 0 0 [gR r] (N, F1) (PQ N r F m (if o = 8 then R.bad else (if (zpar B n key f 0 (o + 1) t (R.nx B n)).ok = true ∧ (zpar B n key f 0 (o + 1) t (R.nx B n)).so = 3 ∧ B (zpar B n key f 0 (o + 1) t (R.nx B n)).fr = 41 then (zpar B n key f 0 (o + 1) t (R.nx B n)).nx B n else (zpar B n key f 0 (o + 1) t (R.nx B n)).bad)) o t) := by
  have h := hI.1
  have hM := h.1
  have ho := h.1.1
  have hB := hE.2.2.1
  have hn := hB.1
  have h17 := (h.2.2.2.2.2.2.2.1 hI.2.2.2.1).1
  obtain ⟨⟨hw1, hd1, hfr, hfn⟩, -⟩ := hI.lp (key := key) (f := f) (q := 5) hB (by omega)
  refine CT.of' (L0 := [gR r]) plM (Nat.le_of_ble_eq_true rfl) rfl ?_
  refine go_aload_n (i := 0) dM_inner_0 rfl rfl trivial ?_
  refine go_getf dM_inner_1 flM272 (by assumption) rfl ?_
  rw [h17]
  refine go_bipush dM_inner_4 (inR_of _ rfl) rfl ?_
  refine go_ic_ne 14 dM_inner_6 rfl (fun h6 => ?_) (fun h6 => ?_)
  · rw [if_neg (by omega)]
    refine go_aload_n (i := 0) dM_inner_14 rfl rfl trivial ?_
    refine go_dup dM_inner_15 trivial ?_
    refine go_getf dM_inner_16 flM272 (by assumption) rfl ?_
    rw [h17]
    refine go_iconst dM_inner_19 (inR_of _ rfl) ?_
    refine go_iadd dM_inner_20 ?_
    refine go_top (((o + 1 : Nat) : Int)) (by (try simp (discharger := (unfold inR; omega)) only [w32_id]) <;> omega) ?_
    refine go_mpf hM (hM.f17 _) dM_inner_21 flM272 rfl rfl (fun F2 m2 hM2 hF2 e2 => ?_)
    have h2 : PST r F m R (o + 1) t F2 m2 := h.num hM2 hF2 e2 (by omega) rfl h.2.2.2.2.1 h.2.2.2.2.2.1 h.2.2.2.2.2.2.1 (fun hk => ⟨rfl, (h.2.2.2.2.2.2.2.1 hk).2⟩)
    have ho2 := hM2.1
    have hI2 : PI r F m B n R (o + 1) t F2 m2 := ⟨h2, hI.2⟩
    refine go_aload_n (i := 0) dM_inner_24 rfl rfl trivial ?_
    refine go_VX dM_inner_25 vkM269 (by assumption) (List.cons_ne_nil _ _) (h2.next hE hI.2.1) rfl (by omega) (by omega) (by omega) rfl (fun _ => Nat.le_of_ble_eq_true rfl) ?_
    rintro _ _ ⟨rfl, F3, m3, rfl, h3⟩ -
    dsimp only [rp]
    have hI3 := hI2.nx hB h3
    have ho3 := h3.1.1
    obtain ⟨-, l4, p4, w4, d4, f4, f964⟩ := hI2.lp (key := key) (f := f) (q := 0) hB (by omega)
    refine go_aload_n (i := 0) dM_inner_28 rfl rfl trivial ?_
    refine go_VX dM_inner_29 vkM278 (by assumption) (List.cons_ne_nil _ _) (ic 0 (o + 1) t (R.nx B n) F3 m3 (by omega) (by omega) ht8 hI3 (by omega)) rfl (by omega) (by omega) (by omega) rfl (fun _ => Nat.le_of_ble_eq_true rfl) ?_
    rintro _ _ ⟨rfl, F4, m4, rfl, h4⟩ -
    dsimp only [rp]
    generalize zpar B n key f 0 (o + 1) t (R.nx B n) = R1 at *
    have hM4 := h4.1
    have ho4 := h4.1.1
    refine go_aload_n (i := 0) dM_inner_32 rfl rfl trivial ?_
    refine go_bipush dM_inner_33 (inR_of _ rfl) rfl ?_
    refine go_VP dM_inner_35 vkM281 (by assumption) (List.cons_ne_nil _ _) (pM_isSign h4 hE 41) rfl (by omega) rfl (fun _ => Nat.le_of_ble_eq_true rfl) ?_
    refine go_if_ne 46 dM_inner_38 rfl (fun h38 => ?_) (fun h38 => ?_)
    · have hc := sgP h38
      rw [if_pos hc]
      have k17 := (h4.2.2.2.2.2.2.2.1 hc.1).1
      refine go_aload_n (i := 0) dM_inner_46 rfl rfl trivial ?_
      refine go_dup dM_inner_47 trivial ?_
      refine go_getf dM_inner_48 flM272 (by assumption) rfl ?_
      rw [k17]
      refine go_iconst dM_inner_51 (inR_of _ rfl) ?_
      refine go_isub dM_inner_52 ?_
      refine go_top (((o : Nat) : Int)) (by (try simp (discharger := (unfold inR; omega)) only [w32_id]) <;> omega) ?_
      refine go_mpf hM4 (hM4.f17 _) dM_inner_53 flM272 rfl rfl (fun F5 m5 hM5 hF5 e5 => ?_)
      have h5 : PST r F m R1 o t F5 m5 := h4.num hM5 hF5 e5 (by omega) rfl h4.2.2.2.2.1 h4.2.2.2.2.2.1 h4.2.2.2.2.2.2.1 (fun hk => ⟨rfl, (h4.2.2.2.2.2.2.2.1 hk).2⟩)
      have ho5 := hM5.1
      refine go_aload_n (i := 0) dM_inner_56 rfl rfl trivial ?_
      refine go_VX dM_inner_57 vkM269 (by assumption) (List.cons_ne_nil _ _) (h5.next hE w4) rfl (by omega) (by omega) (by omega) rfl (fun _ => Nat.le_of_ble_eq_true rfl) ?_
      rintro _ _ ⟨rfl, F6, m6, rfl, h6⟩ -
      dsimp only [rp]
      refine go_vret dM_inner_60 rfl ?_
      exact ⟨rfl, F6, m6, rfl, h6⟩
    · have hc := sgN (by omega : (if R1.ok = true ∧ R1.so = 3 ∧ B R1.fr = 41 then (1 : Int) else 0) = 0)
      rw [if_neg hc]
      refine go_aload_n (i := 0) dM_inner_41 rfl rfl trivial ?_
      refine go_VX dM_inner_42 vkM275 (by assumption) (List.cons_ne_nil _ _) (pM_wrong h4) rfl (by omega) (by omega) (by omega) rfl (fun _ => Nat.le_of_ble_eq_true rfl) ?_
      rintro _ _ ⟨rfl, F6, m6, rfl, h6⟩ -
      dsimp only [rp]
      refine go_vret dM_inner_45 rfl ?_
      exact ⟨rfl, F6, m6, rfl, h6.1, h6.2.1, h6.2.2.1, h6.2.2.2.1, h6.2.2.2.2.1, h6.2.2.2.2.2.1, h6.2.2.2.2.2.2.1, fun hh => by simp [ZR.bad, ZR.ok] at hh, h6.2.2.2.2.2.2.2.2⟩
  · rw [if_pos (by omega)]
    refine go_aload_n (i := 0) dM_inner_9 rfl rfl trivial ?_
    refine go_VX dM_inner_10 vkM275 (by assumption) (List.cons_ne_nil _ _) (pM_wrong h) rfl (by omega) (by omega) (by omega) rfl (fun _ => Nat.le_of_ble_eq_true rfl) ?_
    rintro _ _ ⟨rfl, F6, m6, rfl, h6⟩ -
    dsimp only [rp]
    refine go_vret dM_inner_13 rfl ?_
    exact ⟨rfl, F6, m6, rfl, h6⟩
theorem up_piece {f : Nat} (hE : PE m B n key) (ic : PPc g N r F m B n key f) (ho8 : o ≤ 8) (ht8 : t ≤ 8) (hI : PI r F m B n R o t F1 m1) (hf : 8 * (98 - R.fr) + 1 ≤ f + 1) : CT g yM_piece (9 * (8 - o) + 2 * (8 - t) + (6 - 5) + 4) 0 0 [gR r] (N, F1) (PQ N r F m (zpar B n key (f + 1) 5 o t R) o t) := by
  have h := hI.1
  have hM := h.1
  have ho := h.1.1
  have hB := hE.2.2.1
  have hn := hB.1
  have hw1 := hI.2.1.1
  have hw2 := hI.2.1.2.1
  have hl := hI.2.2.2.2.1
  have hp := hI.2.2.2.2.2
  have e12 := h.2.2.2.2.1.1
  have e13 := h.2.2.2.2.1.2.1
  have e14 := h.2.2.2.2.1.2.2
  have e20 : m1 17 20 = 0 := by have := h.2.2.2.2.2.2.1; rwa [if_pos hI.2.2.2.1] at this
  have hk := hI.2.2.2.1
  have hz : zpar B n key (f + 1) 5 o t R = (if R.so = 2 then (if R.to - R.fr ≤ 4 then ((R.put (znum B R.fr (R.to - R.fr))).one).nx B n else R.bad)
      else if R.so = 1 then (if R.to = R.fr + 1 ∧ 0 ≤ znameI key (B R.fr) then ((R.put (-1 - znameI key (B R.fr))).one).nx B n else R.bad)
      else if R.so = 3 ∧ B R.fr = 33 then (if t = 8 then R.bad else (zpar B n key f 5 o (t + 1) (R.nx B n)).put (-43))
      else if R.so = 3 ∧ B R.fr = 40 then (if o = 8 then R.bad else
        (if (zpar B n key f 0 (o + 1) t (R.nx B n)).ok = true ∧ (zpar B n key f 0 (o + 1) t (R.nx B n)).so = 3 ∧ B (zpar B n key f 0 (o + 1) t (R.nx B n)).fr = 41 then (zpar B n key f 0 (o + 1) t (R.nx B n)).nx B n else (zpar B n key f 0 (o + 1) t (R.nx B n)).bad))
      else R.bad) := by
    rw [zpar, if_neg (by omega), if_pos rfl]
  rw [hz]
  clear hz
  generalize hv : (if R.so = 1 ∧ R.to = R.fr + 1 then znameI key (B R.fr) else -1) = v
  -- neither a figure nor a name
  have t69 : R.so ≠ 2 ∨ ¬ R.to - R.fr ≤ 4 → v < 0 → Go g yM_piece (9 * (8 - o) + 2 * (8 - t) + (6 - 5) + 4) 0 0 69 [gR r, gI v] [] (N, F1) (PQ N r F m (if R.so = 2 then (if R.to - R.fr ≤ 4 then ((R.put (znum B R.fr (R.to - R.fr))).one).nx B n else R.bad)
      else if R.so = 1 then (if R.to = R.fr + 1 ∧ 0 ≤ znameI key (B R.fr) then ((R.put (-1 - znameI key (B R.fr))).one).nx B n else R.bad)
      else if R.so = 3 ∧ B R.fr = 33 then (if t = 8 then R.bad else (zpar B n key f 5 o (t + 1) (R.nx B n)).put (-43))
      else if R.so = 3 ∧ B R.fr = 40 then (if o = 8 then R.bad else
        (if (zpar B n key f 0 (o + 1) t (R.nx B n)).ok = true ∧ (zpar B n key f 0 (o + 1) t (R.nx B n)).so = 3 ∧ B (zpar B n key f 0 (o + 1) t (R.nx B n)).fr = 41 then (zpar B n key f 0 (o + 1) t (R.nx B n)).nx B n else (zpar B n key f 0 (o + 1) t (R.nx B n)).bad))
      else R.bad) o t) := by
    intro hfig hname
    by_cases c33 : R.so = 3 ∧ B R.fr = 33
    · rw [if_neg (by omega), if_neg (by omega), if_pos c33]
      refine go_aload_n (i := 0) dM_piece_69 rfl rfl trivial ?_
      refine go_bipush dM_piece_70 (inR_of _ rfl) rfl ?_
      refine go_VP dM_piece_72 vkM281 (by assumption) (List.cons_ne_nil _ _) (pM_isSign h hE 33) rfl (by omega) rfl (fun _ => Nat.le_of_ble_eq_true rfl) ?_
      refine go_if_eq 85 dM_piece_75 rfl (fun h75 => absurd h75 (sg1 ⟨hk, c33⟩)) (fun h75 => ?_)
      refine go_aload_n (i := 0) dM_piece_78 rfl rfl trivial ?_
      refine go_VX dM_piece_79 vkM296 (by assumption) (List.cons_ne_nil _ _) (pM_not hE ic ho8 ht8 hI c33 hf) rfl (by omega) (by omega) (by omega) rfl (fun _ => Nat.le_of_ble_eq_true rfl) ?_
      rintro _ _ ⟨rfl, F6, m6, rfl, h6⟩ -
      dsimp only [rp]
      refine go_goto 105 dM_piece_82 rfl ?_
      refine go_vret dM_piece_105 rfl ?_
      exact ⟨rfl, F6, m6, rfl, h6⟩
    · by_cases c40 : R.so = 3 ∧ B R.fr = 40
      · rw [if_neg (by omega), if_neg (by omega), if_neg c33, if_pos c40]
        refine go_aload_n (i := 0) dM_piece_69 rfl rfl trivial ?_
        refine go_bipush dM_piece_70 (inR_of _ rfl) rfl ?_
        refine go_VP dM_piece_72 vkM281 (by assumption) (List.cons_ne_nil _ _) (pM_isSign h hE 33) rfl (by omega) rfl (fun _ => Nat.le_of_ble_eq_true rfl) ?_
        refine go_if_eq 85 dM_piece_75 rfl (fun h75 => ?_) (fun h75 => absurd (sg0 (fun hh => c33 hh.2)) h75)
        refine go_aload_n (i := 0) dM_piece_85 rfl rfl trivial ?_
        refine go_bipush dM_piece_86 (inR_of _ rfl) rfl ?_
        refine go_VP dM_piece_88 vkM281 (by assumption) (List.cons_ne_nil _ _) (pM_isSign h hE 40) rfl (by omega) rfl (fun _ => Nat.le_of_ble_eq_true rfl) ?_
        refine go_if_eq 101 dM_piece_91 rfl (fun h91 => absurd h91 (sg1 ⟨hk, c40⟩)) (fun h91 => ?_)
        refine go_aload_n (i := 0) dM_piece_94 rfl rfl trivial ?_
        refine go_VX dM_piece_95 vkM299 (by assumption) (List.cons_ne_nil _ _) (pM_inner hE ic ho8 ht8 hI c40 hf) rfl (by omega) (by omega) (by omega) rfl (fun _ => Nat.le_of_ble_eq_true rfl) ?_
        rintro _ _ ⟨rfl, F6, m6, rfl, h6⟩ -
        dsimp only [rp]
        refine go_goto 105 dM_piece_98 rfl ?_
        refine go_vret dM_piece_105 rfl ?_
        exact ⟨rfl, F6, m6, rfl, h6⟩
      · have hb : (if R.so = 2 then (if R.to - R.fr ≤ 4 then ((R.put (znum B R.fr (R.to - R.fr))).one).nx B n else R.bad)
            else if R.so = 1 then (if R.to = R.fr + 1 ∧ 0 ≤ znameI key (B R.fr) then ((R.put (-1 - znameI key (B R.fr))).one).nx B n else R.bad)
            else R.bad) = R.bad := by
          by_cases c2 : R.so = 2
          · rw [if_pos c2, if_neg (by omega)]
          · rw [if_neg c2]
            by_cases c1 : R.so = 1
            · rw [if_pos c1, if_neg]
              intro hh
              rw [if_pos ⟨c1, hh.1⟩] at hv
              omega
            · rw [if_neg c1]
        rw [if_neg c33, if_neg c40, hb]
        refine go_aload_n (i := 0) dM_piece_69 rfl rfl trivial ?_
        refine go_bipush dM_piece_70 (inR_of _ rfl) rfl ?_
        refine go_VP dM_piece_72 vkM281 (by assumption) (List.cons_ne_nil _ _) (pM_isSign h hE 33) rfl (by omega) rfl (fun _ => Nat.le_of_ble_eq_true rfl) ?_
        refine go_if_eq 85 dM_piece_75 rfl (fun h75 => ?_) (fun h75 => absurd (sg0 (fun hh => c33 hh.2)) h75)
        refine go_aload_n (i := 0) dM_piece_85 rfl rfl trivial ?_
        refine go_bipush dM_piece_86 (inR_of _ rfl) rfl ?_
        refine go_VP dM_piece_88 vkM281 (by assumption) (List.cons_ne_nil _ _) (pM_isSign h hE 40) rfl (by omega) rfl (fun _ => Nat.le_of_ble_eq_true rfl) ?_
        refine go_if_eq 101 dM_piece_91 rfl (fun h91 => ?_) (fun h91 => absurd (sg0 (fun hh => c40 hh.2)) h91)
        refine go_aload_n (i := 0) dM_piece_101 rfl rfl trivial ?_
        refine go_VX dM_piece_102 vkM275 (by assumption) (List.cons_ne_nil _ _) (pM_wrong h) rfl (by omega) (by omega) (by omega) rfl (fun _ => Nat.le_of_ble_eq_true rfl) ?_
        rintro _ _ ⟨rfl, F6, m6, rfl, h6⟩ -
        dsimp only [rp]
        refine go_vret dM_piece_105 rfl ?_
        exact ⟨rfl, F6, m6, rfl, h6⟩
  have t41 : R.so ≠ 2 ∨ ¬ R.to - R.fr ≤ 4 → Go g yM_piece (9 * (8 - o) + 2 * (8 - t) + (6 - 5) + 4) 0 0 41 [gR r, gI v] [] (N, F1) (PQ N r F m (if R.so = 2 then (if R.to - R.fr ≤ 4 then ((R.put (znum B R.fr (R.to - R.fr))).one).nx B n else R.bad)
      else if R.so = 1 then (if R.to = R.fr + 1 ∧ 0 ≤ znameI key (B R.fr) then ((R.put (-1 - znameI key (B R.fr))).one).nx B n else R.bad)
      else if R.so = 3 ∧ B R.fr = 33 then (if t = 8 then R.bad else (zpar B n key f 5 o (t + 1) (R.nx B n)).put (-43))
      else if R.so = 3 ∧ B R.fr = 40 then (if o = 8 then R.bad else
        (if (zpar B n key f 0 (o + 1) t (R.nx B n)).ok = true ∧ (zpar B n key f 0 (o + 1) t (R.nx B n)).so = 3 ∧ B (zpar B n key f 0 (o + 1) t (R.nx B n)).fr = 41 then (zpar B n key f 0 (o + 1) t (R.nx B n)).nx B n else (zpar B n key f 0 (o + 1) t (R.nx B n)).bad))
      else R.bad) o t) := by
    intro hfig
    refine go_iload_n (i := 1) dM_piece_41 rfl rfl ?_
    refine go_if_lt 69 dM_piece_42 rfl (fun h42 => ?_) (fun h42 => ?_)
    · exact t69 hfig (by omega)
    · have hc : R.so = 1 ∧ R.to = R.fr + 1 := by
        by_cases c : R.so = 1 ∧ R.to = R.fr + 1
        · exact c
        · rw [if_neg c] at hv; omega
      rw [if_pos hc] at hv
      have hin := znameI_in (key := key) (c := B R.fr) (by omega)
      rw [if_neg (by omega), if_pos hc.1, if_pos ⟨hc.2, by omega⟩, hv]
      rw [hv] at hin
      have hin4 : v < 4 := by split at hin <;> omega
      refine go_aload_n (i := 0) dM_piece_45 rfl rfl trivial ?_
      refine go_iconst dM_piece_46 (inR_of _ rfl) ?_
      refine go_iload_n (i := 1) dM_piece_47 rfl rfl ?_
      refine go_isub dM_piece_48 ?_
      refine go_top (-1 - v) (by (try simp (discharger := (unfold inR; omega)) only [w32_id]) <;> omega) ?_
      refine go_VX dM_piece_49 vkM263 (by assumption) (List.cons_ne_nil _ _) (pM_writes h (-1 - v) (by omega)) rfl (by omega) (by omega) (by omega) rfl (fun _ => Nat.le_of_ble_eq_true rfl) ?_
      rintro _ _ ⟨rfl, F2, m2, rfl, h2⟩ -
      dsimp only [rp]
      have hM2 := h2.1
      have ho2 := hM2.1
      have e16 : m2 17 16 = (R.pcs : Nat) := h2.2.2.2.2.2.1.2
      refine go_aload_n (i := 0) dM_piece_52 rfl rfl trivial ?_
      refine go_dup dM_piece_53 trivial ?_
      refine go_getf dM_piece_54 flM266 (by assumption) rfl ?_
      rw [e16]
      refine go_iconst dM_piece_57 (inR_of _ rfl) ?_
      refine go_iadd dM_piece_58 ?_
      refine go_top (((R.pcs + 1 : Nat) : Int)) (by (try simp (discharger := (unfold inR; omega)) only [w32_id]) <;> omega) ?_
      refine go_mpf hM2 (hM2.f16 _) dM_piece_59 flM266 rfl rfl (fun F3 m3 hM3 hF3 e3 => ?_)
      have h3 : PST r F m ((R.put (-1 - v)).one) o t F3 m3 := h2.num hM3 hF3 e3 (by omega) rfl h2.2.2.2.2.1 ⟨h2.2.2.2.2.2.1.1, rfl⟩ h2.2.2.2.2.2.2.1 h2.2.2.2.2.2.2.2.1
      have ho3 := hM3.1
      refine go_aload_n (i := 0) dM_piece_62 rfl rfl trivial ?_
      refine go_VX dM_piece_63 vkM269 (by assumption) (List.cons_ne_nil _ _) (h3.next hE hI.2.1) rfl (by omega) (by omega) (by omega) rfl (fun _ => Nat.le_of_ble_eq_true rfl) ?_
      rintro _ _ ⟨rfl, F4, m4, rfl, h4⟩ -
      dsimp only [rp]
      refine go_goto 105 dM_piece_66 rfl ?_
      refine go_vret dM_piece_105 rfl ?_
      exact ⟨rfl, F4, m4, rfl, h4⟩
  refine CT.of' (L0 := [gR r, gU]) plM (Nat.le_of_ble_eq_true rfl) rfl ?_
  refine go_aload_n (i := 0) dM_piece_0 rfl rfl trivial ?_
  refine go_getf dM_piece_1 flM249 (by assumption) rfl ?_
  rw [e20]
  refine go_if_eq 8 dM_piece_4 rfl (fun h4 => ?_) (fun h4 => absurd rfl h4)
  refine go_aload_n (i := 0) dM_piece_8 rfl rfl trivial ?_
  refine go_VP dM_piece_9 vkM290 (by assumption) (List.cons_ne_nil _ _) (pM_nameHere h hE hI.2.1) rfl (by omega) rfl (fun _ => Nat.le_of_ble_eq_true rfl) ?_
  rw [hv]
  refine go_is1 dM_piece_12 (Nat.le_of_ble_eq_true rfl) trivial ?_
  refine go_aload_n (i := 0) dM_piece_13 rfl rfl trivial ?_
  refine go_getf dM_piece_14 flM231 (by assumption) rfl ?_
  refine go_iconst dM_piece_17 (inR_of _ rfl) ?_
  refine go_ic_ne 41 dM_piece_18 rfl (fun h18 => ?_) (fun h18 => ?_)
  · exact t41 (by omega)
  · have c2 : R.so = 2 := by omega
    refine go_aload_n (i := 0) dM_piece_21 rfl rfl trivial ?_
    refine go_getf dM_piece_22 flM234 (by assumption) rfl ?_
    refine go_aload_n (i := 0) dM_piece_25 rfl rfl trivial ?_
    refine go_getf dM_piece_26 flM237 (by assumption) rfl ?_
    rw [e12, e13]
    refine go_isub dM_piece_29 ?_
    refine go_top (((R.to - R.fr : Nat) : Int)) (by (try simp (discharger := (unfold inR; omega)) only [w32_id]) <;> omega) ?_
    refine go_iconst dM_piece_30 (inR_of _ rfl) ?_
    refine go_ic_gt 41 dM_piece_31 rfl (fun h31 => ?_) (fun h31 => ?_)
    · exact t41 (by omega)
    · rw [if_pos c2, if_pos (by omega)]
      refine go_aload_n (i := 0) dM_piece_34 rfl rfl trivial ?_
      refine go_VX dM_piece_35 vkM293 (by assumption) (List.cons_ne_nil _ _) (pM_figure h hE hI.2.1 hI.2.2.1 c2 (by omega) (by omega) (by omega)) rfl (by omega) (by omega) (by omega) rfl (fun _ => Nat.le_of_ble_eq_true rfl) ?_
      rintro _ _ ⟨rfl, F4, m4, rfl, h4⟩ -
      dsimp only [rp]
      refine go_goto 105 dM_piece_38 rfl ?_
      refine go_vret dM_piece_105 rfl ?_
      exact ⟨rfl, F4, m4, rfl, h4⟩
theorem pM_par (hE : PE m B n key) : ∀ f : Nat, PPc g N r F m B n key f ∧ PPl g N r F m B n key f := by
  intro f
  have hB := hE.2.2.1
  have hn := hB.1
  induction f with
  | zero =>
    refine ⟨fun q o t R F1 m1 hq ho8 ht8 hI hf => ?_, fun q o t R F1 m1 x hq ho8 ht8 hI hf => ?_⟩
    · have := hI.2.1.1
      have := hI.2.1.2.1
      omega
    · have := hI.2.1.1
      have := hI.2.1.2.1
      omega
  | succ f ih =>
    obtain ⟨ic, il⟩ := ih
    refine ⟨fun q o t R F1 m1 hq ho8 ht8 hI hf => ?_, fun q o t R F1 m1 x hq ho8 ht8 hI hf => ?_⟩
    · match q, hq with
      | 0, _ => exact up_either hE ic il ho8 ht8 hI hf
      | 1, _ => exact up_both hE ic il ho8 ht8 hI hf
      | 2, _ => exact up_test hE ic il ho8 ht8 hI hf
      | 3, _ => exact up_sum hE ic il ho8 ht8 hI hf
      | 4, _ => exact up_term hE ic il ho8 ht8 hI hf
      | 5, _ => exact up_piece hE ic ho8 ht8 hI hf
      | q + 6, h => omega
    · match q, hq with
      | 0, _ => exact lp_either hE ic il ho8 ht8 hI hf
      | 1, _ => exact lp_both hE ic il ho8 ht8 hI hf
      | 2, _ => exact lp_test x hE ic il ho8 ht8 hI hf
      | 3, _ => exact lp_sum x hE ic il ho8 ht8 hI hf
      | 4, _ => exact lp_term x hE ic il ho8 ht8 hI hf
      | q + 5, h => omega
end MPIECE
