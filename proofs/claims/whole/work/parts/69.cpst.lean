/-! ===== the component's reader: its state while it reads ===== -/
def RS (F : Nat → GC) (n key : Nat) (R : ZR) (F1 : Nat → GC) : Prop := ∃ (row : Nat → Int) (sz op : Int), (0 ≤ sz ∧ -1000 ≤ op ∧ op ≤ 100000) ∧ F1 = RM F row (rF n (R.fr : Nat) (R.to : Nat) (R.so : Nat) sz op key) ∧ (R.ok = true → sz = (R.out.length : Nat) ∧ op = (R.pcs : Nat) ∧ ∀ k : Nat, k < R.out.length → row k = zwm (R.out.getD k 0))
def RE (F : Nat → GC) (B : Nat → Int) (n key : Nat) : Prop := (∃ tp, F 50 = cI 96 tp ∧ ∀ k : Nat, k < n → tp k = B k) ∧ BYT B n ∧ key < 3
def RU (N : Nat) (F : Nat → GC) (n key : Nat) (v : GV) (R : ZR) : GV → GM → Prop := fun rr M' => rr = v ∧ ∃ F2 : Nat → GC, M' = (N, F2) ∧ RS F n key R F2
def RQ (N : Nat) (F : Nat → GC) (n key : Nat) (R : ZR) : GV → GM → Prop := RU N F n key (gI (if R.ok = true then 1 else 0)) R
section CPST
variable {g : GX} {N n key o t : Nat} {F F1 F2 : Nat → GC} {B : Nat → Int} {R : ZR}
theorem RS.ho (h : RS F n key R F1) : ∃ sz op, F1 49 = cO 4 (rF n (R.fr : Nat) (R.to : Nat) (R.so : Nat) sz op key) := by
  obtain ⟨row, sz, op, -, rfl, -⟩ := h
  exact ⟨sz, op, RM_49⟩
theorem RS.bad (h : RS F n key R F1) : RS F n key R.bad F1 := by
  obtain ⟨row, sz, op, h0, e, -⟩ := h
  exact ⟨row, sz, op, h0, e, fun q => by cases q⟩
theorem RS.sign (h : RS F n key R F1) (hE : RE F B n key) (hw : R.wf n) (c : Int) : CT g yR_isSign 0 0 0 [gR 49, gI c] (N, F1) (RV (if R.so = 3 ∧ B R.fr = c then 1 else 0) (N, F1)) := by
  obtain ⟨row, sz, op, h0, rfl, h1⟩ := h
  obtain ⟨⟨tp, h50, hb⟩, hB, -⟩ := hE
  have n96 := hB.1
  have e : ((R.so : Nat) : Int) = 3 ↔ R.so = 3 := by omega
  have := qR_isSign (g := g) (N := N) (F := F) (row := row) (n := n) (fr := (R.fr : Nat)) (to := (R.to : Nat)) (so := (R.so : Nat)) (sz := sz) (op := op) (key := key) (B := B) (p := R.fr) h50 rfl (fun q => by have a := hw.2.2.1 (by omega); have b := hw.2.1; exact ⟨by omega, hb _ (by omega)⟩) c
  simp only [e] at this
  exact this
theorem RS.adv (h : RS F n key R F1) (hE : RE F B n key) (hw : R.wf n) : CT g yR_advance 1 0 0 [gR 49] (N, F1) (RU N F n key gU (R.nx B n)) := by
  obtain ⟨row, sz, op, h0, rfl, h1⟩ := h
  obtain ⟨⟨tp, h50, hb⟩, hB, -⟩ := hE
  refine CT.mono ?_ (qR_advance (g := g) (N := N) (F := F) (row := row) (n := n) (to := R.to) (so := R.so) h50 hB hb hw.2.1)
  rintro _ _ ⟨rfl, rfl⟩
  exact ⟨rfl, _, rfl, row, sz, op, h0, rfl, h1⟩
theorem getD_app {l : List Int} {c : Int} {k : Nat} (h : k < l.length) : (l ++ [c]).getD k 0 = l.getD k 0 := by
  rw [List.getD_eq_getElem?_getD, List.getD_eq_getElem?_getD, List.getElem?_append_left h]
theorem getD_last {l : List Int} {c : Int} : (l ++ [c]).getD l.length 0 = c := by
  rw [List.getD_eq_getElem?_getD, List.getElem?_append_right (Nat.le_refl _)]
  simp
theorem RS.wr (h : RS F n key R F1) (c : Int) (hl : R.ok = true → R.out.length < 96) : CT g yR_write 0 0 0 [gR 49, gI (zwm c)] (N, F1) (RU N F n key gU (R.put c)) := by
  obtain ⟨row, sz, op, h0, rfl, h1⟩ := h
  by_cases hk : R.ok = true
  · obtain ⟨e1, e2, e3⟩ := h1 hk
    subst e1
    refine CT.mono ?_ (qR_write (g := g) (N := N) (F := F) (row := row) (n := n) (hl hk))
    rintro _ _ ⟨rfl, rfl⟩
    refine ⟨rfl, _, rfl, _, ((R.out.length + 1 : Nat) : Int), op, by omega, rfl, fun _ => ⟨?_, e2, fun k hk2 => ?_⟩⟩
    · show ((R.out.length + 1 : Nat) : Int) = ((R.out ++ [c]).length : Nat)
      rw [List.length_append]; rfl
    · show _ = zwm ((R.out ++ [c]).getD k 0)
      have hk2 : k < (R.out ++ [c]).length := hk2
      rw [List.length_append, List.length_singleton] at hk2
      by_cases q : k = R.out.length
      · subst q; rw [va_up_self, getD_last]
      · rw [va_up_ne _ _ q, getD_app (by omega)]; exact e3 k (by omega)
  · refine CT.mono ?_ (qR_writeA (g := g) (N := N) (F := F) (row := row) (n := n) h0.1)
    rintro _ _ ⟨rfl, row', sz', hz, rfl⟩
    exact ⟨rfl, _, rfl, row', sz', op, ⟨hz, h0.2⟩, rfl, fun q => absurd q hk⟩
theorem RS.operand (h : RS F n key R F1) (hE : RE F B n key) (hw : R.wf n) (hk : R.ok = true) (c : Int) (hl : R.out.length < 96) (hp : R.pcs < 1000) : CT g yR_readOperand 2 0 0 [gR 49, gI (zwm c)] (N, F1) (RU N F n key (gI 1) (((R.put c).one).nx B n)) := by
  obtain ⟨sz, op, ho⟩ := h.ho
  refine CT.of' (L0 := [gR 49, gI (zwm c)]) plR (Nat.le_of_ble_eq_true rfl) rfl ?_
  refine go_aload_n (i := 0) dR_readOperand_0 rfl rfl trivial ?_
  refine go_iload_n (i := 1) dR_readOperand_1 rfl rfl ?_
  refine go_VX dR_readOperand_2 vkR94 (by assumption) (List.cons_ne_nil _ _) (h.wr c (fun _ => hl)) rfl (by omega) (by omega) (by omega) rfl (fun _ => Nat.le_of_ble_eq_true rfl) ?_
  rintro _ _ ⟨rfl, F2, rfl, row, sz, op, h0, rfl, h1⟩ -
  dsimp only [rp]
  obtain ⟨e1, e2, e3⟩ := h1 hk
  have e2' : op = (R.pcs : Nat) := e2
  refine go_aload_n (i := 0) dR_readOperand_5 rfl rfl trivial ?_
  refine go_dup dR_readOperand_6 trivial ?_
  refine go_getf dR_readOperand_7 flR30 RM_49 rfl ?_
  refine go_iconst dR_readOperand_10 (inR_of _ rfl) ?_
  refine go_iadd dR_readOperand_11 ?_
  refine go_top (((R.pcs + 1 : Nat) : Int)) (by (try simp (discharger := (unfold inR; omega)) only [w32_id]) <;> omega) ?_
  refine go_putf dR_readOperand_12 flR30 RM_49 (Nat.le_of_ble_eq_true rfl) rfl rfl ?_
  rw [RM_put]
  have h3 : RS F n key ((R.put c).one) (RM F row (rF n ((R.put c).fr : Nat) ((R.put c).to : Nat) ((R.put c).so : Nat) sz ((R.pcs + 1 : Nat) : Int) key)) := ⟨row, sz, _, ⟨h0.1, by omega, by omega⟩, rfl, fun _ => ⟨e1, rfl, e3⟩⟩
  refine go_aload_n (i := 0) dR_readOperand_15 rfl rfl trivial ?_
  refine go_VX dR_readOperand_16 vkR51 RM_49 (List.cons_ne_nil _ _) (RS.adv h3 hE hw) rfl (by omega) (by omega) (by omega) rfl (fun _ => Nat.le_of_ble_eq_true rfl) ?_
  rintro _ _ ⟨rfl, F4, rfl, h4⟩ -
  dsimp only [rp]
  refine go_iconst dR_readOperand_19 (inR_of _ rfl) ?_
  refine go_iret dR_readOperand_20 rfl (zb (by simp)) ?_
  exact ⟨rfl, F4, rfl, h4⟩
theorem RS.number (h : RS F n key R F1) (hE : RE F B n key) (hw : R.wf n) (hd : R.wd B) (hk : R.ok = true) (h2 : R.so = 2) (hl : R.out.length < 96) (hp : R.pcs < 1000) : CT g yR_readNumber 3 0 0 [gR 49] (N, F1) (RQ N F n key (if R.to - R.fr ≤ 4 then ((R.put (znum B R.fr (R.to - R.fr))).one).nx B n else R.bad)) := by
  have hS := h
  obtain ⟨row, sz, op, h0, rfl, h1⟩ := h
  have hE' := hE
  obtain ⟨⟨tp, h50, hb⟩, hB, -⟩ := hE
  have n96 := hB.1
  have w1 := hw.1
  have w2 := hw.2.1
  have hx5 : ∀ fs, RM F row fs 50 = cI 96 tp := fun fs => by rw [RM_at (by omega) (by omega)]; exact h50
  refine CT.of' (L0 := [gR 49, gU, gU]) plR (Nat.le_of_ble_eq_true rfl) rfl ?_
  refine go_aload_n (i := 0) dR_readNumber_0 rfl rfl trivial ?_
  refine go_getf dR_readNumber_1 flR45 RM_49 rfl ?_
  refine go_aload_n (i := 0) dR_readNumber_4 rfl rfl trivial ?_
  refine go_getf dR_readNumber_5 flR22 RM_49 rfl ?_
  refine go_isub dR_readNumber_8 ?_
  refine go_top (((R.to - R.fr : Nat) : Int)) (by (try simp (discharger := (unfold inR; omega)) only [w32_id]) <;> omega) ?_
  refine go_iconst dR_readNumber_9 (inR_of _ rfl) ?_
  refine go_ic_le 15 dR_readNumber_10 rfl (fun h10 => ?_) (fun h10 => ?_)
  · have h4 : R.to - R.fr ≤ 4 := by omega
    rw [if_pos h4]
    have loop : ∀ (j k : Nat), k + j = R.to - R.fr → Go g yR_readNumber 3 0 0 22 [gR 49, gI (znum B R.fr k), gI ((R.fr + k : Nat) : Int)] [] (N, RM F row (rF n (R.fr : Nat) (R.to : Nat) (R.so : Nat) sz op key)) (RQ N F n key (((R.put (znum B R.fr (R.to - R.fr))).one).nx B n)) := by
      intro j
      induction j with
      | zero =>
        intro k hkj
        rw [show k = R.to - R.fr by omega]
        have z4 := znum_4 hd h2 (k := R.to - R.fr) (by omega) h4
        have opd := RS.operand (g := g) (N := N) hS hE' hw hk (znum B R.fr (R.to - R.fr)) hl hp
        rw [zwm_hi (by omega)] at opd
        refine go_iload_n (i := 2) dR_readNumber_22 rfl rfl ?_
        refine go_aload_n (i := 0) dR_readNumber_23 rfl rfl trivial ?_
        refine go_getf dR_readNumber_24 flR45 RM_49 rfl ?_
        refine go_ic_ge 51 dR_readNumber_27 rfl (fun h27 => ?_) (fun h27 => absurd (by omega) h27)
        refine go_aload_n (i := 0) dR_readNumber_51 rfl rfl trivial ?_
        refine go_iload_n (i := 1) dR_readNumber_52 rfl rfl ?_
        refine go_VX dR_readNumber_53 vkR116 RM_49 (List.cons_ne_nil _ _) (opd) rfl (by omega) (by omega) (by omega) rfl (fun _ => Nat.le_of_ble_eq_true rfl) ?_
        rintro _ _ ⟨rfl, F4, rfl, h4'⟩ -
        dsimp only [rp]
        refine go_iret dR_readNumber_56 rfl (zb (by simp)) ?_
        have ek : (((R.put (znum B R.fr (R.to - R.fr))).one).nx B n).ok = true := hk
        exact ⟨by rw [if_pos ek], F4, rfl, h4'⟩
      | succ j ih =>
        intro k hkj
        have z4 := znum_4 hd h2 (k := k) (by omega) (by omega)
        have z5 := znum_4 hd h2 (k := k + 1) (by omega) (by omega)
        have dg := zs0_2 (hd h2 (R.fr + k) (by omega) (by omega))
        have e : znum B R.fr (k + 1) = 10 * znum B R.fr k + B (R.fr + k) - 48 := rfl
        refine go_iload_n (i := 2) dR_readNumber_22 rfl rfl ?_
        refine go_aload_n (i := 0) dR_readNumber_23 rfl rfl trivial ?_
        refine go_getf dR_readNumber_24 flR45 RM_49 rfl ?_
        refine go_ic_ge 51 dR_readNumber_27 rfl (fun h27 => absurd h27 (by omega)) (fun h27 => ?_)
        refine go_iload_n (i := 1) dR_readNumber_30 rfl rfl ?_
        refine go_bipush dR_readNumber_31 (inR_of _ rfl) rfl ?_
        refine go_imul dR_readNumber_33 ?_
        refine go_top (10 * znum B R.fr k) (by (try simp (discharger := (unfold inR; omega)) only [w32_id]) <;> omega) ?_
        refine go_aload_n (i := 0) dR_readNumber_34 rfl rfl trivial ?_
        refine go_getf dR_readNumber_35 flR9 RM_49 rfl ?_
        refine go_iload_n (i := 2) dR_readNumber_38 rfl rfl ?_
        refine go_iald' (R.fr + k) _ dR_readNumber_39 (hx5 _) rfl (by omega) (hb _ (by omega)) ?_
        refine go_iadd dR_readNumber_40 ?_
        refine go_top (10 * znum B R.fr k + B (R.fr + k)) (by (try simp (discharger := (unfold inR; omega)) only [w32_id]) <;> omega) ?_
        refine go_bipush dR_readNumber_41 (inR_of _ rfl) rfl ?_
        refine go_isub dR_readNumber_43 ?_
        refine go_top (znum B R.fr (k + 1)) (by (try simp (discharger := (unfold inR; omega)) only [w32_id]) <;> omega) ?_
        refine go_is1 dR_readNumber_44 (Nat.le_of_ble_eq_true rfl) trivial ?_
        refine go_inc2 (((R.fr + (k + 1) : Nat) : Int)) dR_readNumber_45 (Nat.le_of_ble_eq_true rfl) trivial (by (try simp (discharger := (unfold inR; omega)) only [w32_id]) <;> omega) ?_
        refine go_goto 22 dR_readNumber_48 rfl ?_
        exact ih (k + 1) (by omega)
    refine go_iconst dR_readNumber_15 (inR_of _ rfl) ?_
    refine go_is1 dR_readNumber_16 (Nat.le_of_ble_eq_true rfl) trivial ?_
    refine go_aload_n (i := 0) dR_readNumber_17 rfl rfl trivial ?_
    refine go_getf dR_readNumber_18 flR22 RM_49 rfl ?_
    refine go_is2 dR_readNumber_21 (Nat.le_of_ble_eq_true rfl) trivial ?_
    exact loop (R.to - R.fr) 0 (by omega)
  · rw [if_neg (by omega)]
    refine go_iconst dR_readNumber_13 (inR_of _ rfl) ?_
    refine go_iret dR_readNumber_14 rfl (zb (by simp)) ?_
    exact ⟨rfl, _, rfl, RS.bad hS⟩
theorem RS.name (h : RS F n key R F1) (hE : RE F B n key) (hw : R.wf n) (hk : R.ok = true) (h2 : R.so = 1) (hl : R.out.length < 96) (hp : R.pcs < 1000) : CT g yR_readName 4 0 0 [gR 49] (N, F1) (RQ N F n key (if R.to = R.fr + 1 ∧ 0 ≤ znameI key (B R.fr) then ((R.put (-1 - znameI key (B R.fr))).one).nx B n else R.bad)) := by
  have hS := h
  obtain ⟨row, sz, op, h0, rfl, h1⟩ := h
  have hE' := hE
  obtain ⟨⟨tp, h50, hb⟩, hB, hk3⟩ := hE
  have n96 := hB.1
  have w1 := hw.1
  have w2 := hw.2.1
  have w3 := hw.2.2.1 (by omega)
  have hby := hB.2.1 R.fr (by omega)
  have hx5 : ∀ fs, RM F row fs 50 = cI 96 tp := fun fs => by rw [RM_at (by omega) (by omega)]; exact h50
  have zn : znameI key (B R.fr) ≤ 3 := by unfold znameI; grind
  -- behind the look-up
  have fin : ∀ (x : Int) (x1 : GV), c1 x1 → (R.to = R.fr + 1 → x = znameI key (B R.fr)) → (¬ R.to = R.fr + 1 → x = -1) → Go g yR_readName 4 0 0 59 [gR 49, x1, gU] [gI x] (N, RM F row (rF n (R.fr : Nat) (R.to : Nat) (R.so : Nat) sz op key)) (RQ N F n key (if R.to = R.fr + 1 ∧ 0 ≤ znameI key (B R.fr) then ((R.put (-1 - znameI key (B R.fr))).one).nx B n else R.bad)) := by
    intro x x1 hx1 ha hb2
    refine go_is2 dR_readName_59 (Nat.le_of_ble_eq_true rfl) hx1 ?_
    refine go_iload_n (i := 2) dR_readName_60 rfl rfl ?_
    refine go_if_lt 78 dR_readName_61 rfl (fun h61 => ?_) (fun h61 => ?_)
    · refine go_iconst dR_readName_78 (inR_of _ rfl) ?_
      refine go_iret dR_readName_79 rfl (zb (by simp)) ?_
      have nb : ¬ (R.to = R.fr + 1 ∧ 0 ≤ znameI key (B R.fr)) := fun q => by have := ha q.1; omega
      rw [if_neg nb]
      exact ⟨rfl, _, rfl, RS.bad hS⟩
    · have t1 : R.to = R.fr + 1 := by
        by_cases q : R.to = R.fr + 1
        · exact q
        · have := hb2 q; omega
      have ex := ha t1
      have opd := RS.operand (g := g) (N := N) hS hE' hw hk (-1 - znameI key (B R.fr)) hl hp
      rw [zwm_hi (by omega)] at opd
      rw [if_pos ⟨t1, by omega⟩]
      refine go_aload_n (i := 0) dR_readName_64 rfl rfl trivial ?_
      refine go_iconst dR_readName_65 (inR_of _ rfl) ?_
      refine go_iload_n (i := 2) dR_readName_66 rfl rfl ?_
      refine go_isub dR_readName_67 ?_
      refine go_top (-1 - znameI key (B R.fr)) (by (try simp (discharger := (unfold inR; omega)) only [w32_id]) <;> omega) ?_
      refine go_VX dR_readName_68 vkR116 RM_49 (List.cons_ne_nil _ _) (opd) rfl (by omega) (by omega) (by omega) rfl (fun _ => Nat.le_of_ble_eq_true rfl) ?_
      rintro _ _ ⟨rfl, F4, rfl, h4'⟩ -
      dsimp only [rp]
      refine go_if_eq 78 dR_readName_71 rfl (fun h71 => absurd h71 (by omega)) (fun h71 => ?_)
      refine go_iconst dR_readName_74 (inR_of _ rfl) ?_
      refine go_goto 79 dR_readName_75 rfl ?_
      refine go_iret dR_readName_79 rfl (zb (by simp)) ?_
      have ek : (((R.put (-1 - znameI key (B R.fr))).one).nx B n).ok = true := hk
      exact ⟨by rw [if_pos ek], F4, rfl, h4'⟩
  have look : ∀ i : Nat, i < 6 → (zix i (B R.fr) (srL.getD i 0) 0 = znameI key (B R.fr)) → Go g yR_readName 4 0 0 27 [gR 49, gU, gU] [gS (8 + i)] (N, RM F row (rF n (R.fr : Nat) (R.to : Nat) (R.so : Nat) sz op key)) (RQ N F n key (if R.to = R.fr + 1 ∧ 0 ≤ znameI key (B R.fr) then ((R.put (-1 - znameI key (B R.fr))).one).nx B n else R.bad)) := by
    intro i hi hz
    obtain ⟨cb, hcb⟩ : ∃ cb : Nat, B R.fr = (cb : Int) := ⟨(B R.fr).toNat, by omega⟩
    have io := qT_indexOf (g := g) (N := N) (F := RM F row (rF n (R.fr : Nat) (R.to : Nat) (R.so : Nat) sz op key)) hi (c := cb) (by omega)
    rw [← hcb, hz] at io
    refine go_as1 dR_readName_27 (Nat.le_of_ble_eq_true rfl) trivial trivial ?_
    refine go_aload_n (i := 0) dR_readName_28 rfl rfl trivial ?_
    refine go_getf dR_readName_29 flR45 RM_49 rfl ?_
    refine go_aload_n (i := 0) dR_readName_32 rfl rfl trivial ?_
    refine go_getf dR_readName_33 flR22 RM_49 rfl ?_
    refine go_isub dR_readName_36 ?_
    refine go_top (((R.to - R.fr : Nat) : Int)) (by (try simp (discharger := (unfold inR; omega)) only [w32_id]) <;> omega) ?_
    refine go_iconst dR_readName_37 (inR_of _ rfl) ?_
    refine go_ic_ne 58 dR_readName_38 rfl (fun h38 => ?_) (fun h38 => ?_)
    · refine go_iconst dR_readName_58 (inR_of _ rfl) ?_
      exact fin _ _ trivial (by omega) (fun _ => rfl)
    · refine go_aload_n (i := 1) dR_readName_41 rfl rfl trivial ?_
      refine go_aload_n (i := 0) dR_readName_42 rfl rfl trivial ?_
      refine go_getf dR_readName_43 flR9 RM_49 rfl ?_
      refine go_aload_n (i := 0) dR_readName_46 rfl rfl trivial ?_
      refine go_getf dR_readName_47 flR22 RM_49 rfl ?_
      refine go_iald' R.fr _ dR_readName_50 (hx5 _) rfl (by omega) (hb _ (by omega)) ?_
      refine go_i2c dR_readName_51 ?_
      refine go_top (B R.fr) (by rw [hcb]; exact i2c_ok cb (by omega)) ?_
      refine go_TP dR_readName_52 vkR125 (by omega) (io) rfl (by omega) rfl (fun _ => Nat.le_of_ble_eq_true rfl) ?_
      refine go_goto 59 dR_readName_55 rfl ?_
      exact fin _ _ trivial (fun _ => rfl) (by omega)
  refine CT.of' (L0 := [gR 49, gU, gU]) plR (Nat.le_of_ble_eq_true rfl) rfl ?_
  refine go_aload_n (i := 0) dR_readName_0 rfl rfl trivial ?_
  refine go_getf dR_readName_1 flR27 RM_49 rfl ?_
  refine go_if_ne 12 dR_readName_4 rfl (fun h4 => ?_) (fun h4 => ?_)
  · refine go_aload_n (i := 0) dR_readName_12 rfl rfl trivial ?_
    refine go_getf dR_readName_13 flR27 RM_49 rfl ?_
    refine go_iconst dR_readName_16 (inR_of _ rfl) ?_
    refine go_ic_ne 25 dR_readName_17 rfl (fun h17 => ?_) (fun h17 => ?_)
    · have : key = 2 := by omega
      subst this
      refine go_ldcS (i := 5) dR_readName_25 rfl rfl ?_
      exact look 5 (by omega) (zix_2 _)
    · have : key = 1 := by omega
      subst this
      refine go_ldcS (i := 4) dR_readName_20 rfl rfl ?_
      refine go_goto 27 dR_readName_22 rfl ?_
      exact look 4 (by omega) (zix_1 _)
  · have : key = 0 := by omega
    subst this
    refine go_ldcS (i := 3) dR_readName_7 rfl rfl ?_
    refine go_goto 27 dR_readName_9 rfl ?_
    exact look 3 (by omega) (zix_0 _)
end CPST
