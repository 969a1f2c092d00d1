/-! ===== the component's reader: all of a text ===== -/
theorem RM_self {F : Nat → GC} {row : Nat → Int} {fs : List GV} (h1 : F 49 = cO 4 fs) (h2 : F 51 = cI 96 row) : RM F row fs = F := by
  unfold RM
  rw [← h2, va_up_id, ← h1, va_up_id]
section CUNDER
variable {g : GX} {N n : Nat} {F : Nat → GC} {B tp row : Nat → Int}
/-- behind understands -/
def RZ (N : Nat) (F : Nat → GC) (n key : Nat) (R : ZR) : GV → GM → Prop := fun rr M' => rr = gI (if R.ok = true then 1 else 0) ∧ ∃ (row : Nat → Int) (to so sz op kk : Int), M' = (N, RM F row (rF n (R.fr : Nat) to so sz op kk)) ∧ (R.ok = true → sz = (R.out.length : Nat) ∧ op = (R.pcs : Nat) ∧ kk = key ∧ ∀ k : Nat, k < R.out.length → row k = zwm (R.out.getD k 0))
theorem zR0_wf (hB : BYT B n) : (zR0 B n).wf n := (ZR.nx_wf hB (R := ((0, 0, 0, [], 0, true) : ZR)) ⟨Nat.le_refl _, Nat.zero_le _, fun h => absurd rfl h, by show 0 ≤ 4; omega⟩).1
theorem qR_readKey {x8 : Int} (h50 : F 50 = cI 96 tp) (hB : BYT B n) (hb : ∀ k : Nat, k < n → tp k = B k) : CT g yR_readKey 5 0 0 [gR 49] (N, RM F row (rF n ((zR0 B n).fr : Nat) ((zR0 B n).to : Nat) ((zR0 B n).so : Nat) 0 0 x8)) (fun rr M' => (zkey B (zR0 B n) < 0 ∧ rr = gI 0 ∧ M' = (N, RM F row (rF n ((zR0 B n).fr : Nat) ((zR0 B n).to : Nat) ((zR0 B n).so : Nat) 0 0 x8))) ∨ (0 ≤ zkey B (zR0 B n) ∧ rr = gI 1 ∧ ∃ F2, M' = (N, F2) ∧ RS F n (zkey B (zR0 B n)).toNat ((zR0 B n).nx B n) F2)) := by
  have hw := zR0_wf hB
  have n96 := hB.1
  have isw := fun (i : Nat) (hi : i < 6) => qR_isWord (g := g) (N := N) (n := n) (F := F) (row := row) (B := B) (sz := 0) (op := 0) (key := x8) (fr := (zR0 B n).fr) (to := (zR0 B n).to) (so := (zR0 B n).so) h50 hb n96 ⟨hw.1, hw.2.1⟩ hi
  have fin : ∀ kk : Nat, kk < 3 → zkey B (zR0 B n) = (kk : Int) → Go g yR_readKey 5 0 0 53 [gR 49] [] (N, RM F row (rF n ((zR0 B n).fr : Nat) ((zR0 B n).to : Nat) ((zR0 B n).so : Nat) 0 0 kk)) (fun rr M' => (zkey B (zR0 B n) < 0 ∧ rr = gI 0 ∧ M' = (N, RM F row (rF n ((zR0 B n).fr : Nat) ((zR0 B n).to : Nat) ((zR0 B n).so : Nat) 0 0 x8))) ∨ (0 ≤ zkey B (zR0 B n) ∧ rr = gI 1 ∧ ∃ F2, M' = (N, F2) ∧ RS F n (zkey B (zR0 B n)).toNat ((zR0 B n).nx B n) F2)) := by
    intro kk hkk hz
    refine go_aload_n (i := 0) dR_readKey_53 rfl rfl trivial ?_
    refine go_VX dR_readKey_54 vkR51 RM_49 (List.cons_ne_nil _ _) (qR_advance h50 hB hb hw.2.1) rfl (by omega) (by omega) (by omega) rfl (fun _ => Nat.le_of_ble_eq_true rfl) ?_
    rintro _ _ ⟨rfl, rfl⟩ -
    dsimp only [rp]
    refine go_iconst dR_readKey_57 (inR_of _ rfl) ?_
    refine go_iret dR_readKey_58 rfl (zb (by simp)) ?_
    refine Or.inr ⟨by omega, rfl, _, rfl, row, 0, 0, by omega, ?_, fun _ => ⟨rfl, rfl, fun k hk => absurd hk (by show ¬ k < 0; omega)⟩⟩
    rw [show ((zkey B (zR0 B n)).toNat : Int) = (kk : Int) by omega]
    rfl
  refine CT.of' (L0 := [gR 49]) plR (Nat.le_of_ble_eq_true rfl) rfl ?_
  refine go_aload_n (i := 0) dR_readKey_0 rfl rfl trivial ?_
  refine go_ldcS (i := 0) dR_readKey_1 rfl rfl ?_
  refine go_VP dR_readKey_3 vkR80 RM_49 (List.cons_ne_nil _ _) (isw 0 (by omega)) rfl (by omega) rfl (fun _ => Nat.le_of_ble_eq_true rfl) ?_
  refine go_if_eq 17 dR_readKey_6 rfl (fun h6 => ?_) (fun h6 => ?_)
  · rw [zwI_0] at h6
    have n1 := sgN h6
    refine go_aload_n (i := 0) dR_readKey_17 rfl rfl trivial ?_
    refine go_ldcS (i := 1) dR_readKey_18 rfl rfl ?_
    refine go_VP dR_readKey_20 vkR80 RM_49 (List.cons_ne_nil _ _) (isw 1 (by omega)) rfl (by omega) rfl (fun _ => Nat.le_of_ble_eq_true rfl) ?_
    refine go_if_eq 34 dR_readKey_23 rfl (fun h23 => ?_) (fun h23 => ?_)
    · rw [zwI_1] at h23
      have n2 := sgN h23
      refine go_aload_n (i := 0) dR_readKey_34 rfl rfl trivial ?_
      refine go_ldcS (i := 2) dR_readKey_35 rfl rfl ?_
      refine go_VP dR_readKey_37 vkR80 RM_49 (List.cons_ne_nil _ _) (isw 2 (by omega)) rfl (by omega) rfl (fun _ => Nat.le_of_ble_eq_true rfl) ?_
      refine go_if_eq 51 dR_readKey_40 rfl (fun h40 => ?_) (fun h40 => ?_)
      · rw [zwI_2] at h40
        have n3 := sgN h40
        refine go_iconst dR_readKey_51 (inR_of _ rfl) ?_
        refine go_iret dR_readKey_52 rfl (zb (by simp)) ?_
        exact Or.inl ⟨by unfold zkey; rw [if_neg n1, if_neg n2, if_neg n3]; omega, rfl, rfl⟩
      · rw [zwI_2] at h40
        have n3 := sgP h40
        refine go_aload_n (i := 0) dR_readKey_43 rfl rfl trivial ?_
        refine go_iconst dR_readKey_44 (inR_of _ rfl) ?_
        refine go_putf dR_readKey_45 flR27 RM_49 (Nat.le_of_ble_eq_true rfl) rfl rfl ?_
        rw [RM_put]
        refine go_goto 53 dR_readKey_48 rfl ?_
        exact fin 2 (by omega) (by unfold zkey; rw [if_neg n1, if_neg n2, if_pos n3]; rfl)
    · rw [zwI_1] at h23
      have n2 := sgP h23
      refine go_aload_n (i := 0) dR_readKey_26 rfl rfl trivial ?_
      refine go_iconst dR_readKey_27 (inR_of _ rfl) ?_
      refine go_putf dR_readKey_28 flR27 RM_49 (Nat.le_of_ble_eq_true rfl) rfl rfl ?_
      rw [RM_put]
      refine go_goto 53 dR_readKey_31 rfl ?_
      exact fin 1 (by omega) (by unfold zkey; rw [if_neg n1, if_pos n2]; rfl)
  · rw [zwI_0] at h6
    have n1 := sgP h6
    refine go_aload_n (i := 0) dR_readKey_9 rfl rfl trivial ?_
    refine go_iconst dR_readKey_10 (inR_of _ rfl) ?_
    refine go_putf dR_readKey_11 flR27 RM_49 (Nat.le_of_ble_eq_true rfl) rfl rfl ?_
    rw [RM_put]
    refine go_goto 53 dR_readKey_14 rfl ?_
    exact fin 0 (by omega) (by unfold zkey; rw [if_pos n1]; rfl)
theorem qR_understands {x3 x4 x5 x6 x7 x8 : Int} (h50 : F 50 = cI 96 tp) (hB : BYT B n) (hb : ∀ k : Nat, k < n → tp k = B k) : CT g yR_understands 99 0 0 [gR 49] (N, RM F row (rF n x3 x4 x5 x6 x7 x8)) (RZ N F n (zkey B (zR0 B n)).toNat (zprs B n)) := by
  have hw := zR0_wf hB
  have n96 := hB.1
  refine CT.of' (L0 := [gR 49]) plR (Nat.le_of_ble_eq_true rfl) rfl ?_
  refine go_aload_n (i := 0) dR_understands_0 rfl rfl trivial ?_
  refine go_iconst dR_understands_1 (inR_of _ rfl) ?_
  refine go_putf dR_understands_2 flR45 RM_49 (Nat.le_of_ble_eq_true rfl) rfl rfl ?_
  rw [RM_put]
  refine go_aload_n (i := 0) dR_understands_5 rfl rfl trivial ?_
  refine go_iconst dR_understands_6 (inR_of _ rfl) ?_
  refine go_putf dR_understands_7 flR48 RM_49 (Nat.le_of_ble_eq_true rfl) rfl rfl ?_
  rw [RM_put]
  refine go_aload_n (i := 0) dR_understands_10 rfl rfl trivial ?_
  refine go_iconst dR_understands_11 (inR_of _ rfl) ?_
  refine go_putf dR_understands_12 flR33 RM_49 (Nat.le_of_ble_eq_true rfl) rfl rfl ?_
  rw [RM_put]
  refine go_aload_n (i := 0) dR_understands_15 rfl rfl trivial ?_
  refine go_iconst dR_understands_16 (inR_of _ rfl) ?_
  refine go_putf dR_understands_17 flR30 RM_49 (Nat.le_of_ble_eq_true rfl) rfl rfl ?_
  rw [RM_put]
  have adv := qR_advance (g := g) (N := N) (F := F) (row := row) (n := n) (B := B) (x3 := x3) (sz := 0) (op := 0) (key := x8) (to := 0) (so := 0) h50 hB hb (by omega)
  refine go_aload_n (i := 0) dR_understands_20 rfl rfl trivial ?_
  refine go_VX dR_understands_21 vkR51 RM_49 (List.cons_ne_nil _ _) (adv) rfl (by omega) (by omega) (by omega) rfl (fun _ => Nat.le_of_ble_eq_true rfl) ?_
  rintro _ _ ⟨rfl, rfl⟩ -
  dsimp only [rp]
  have rk := qR_readKey (g := g) (N := N) (F := F) (row := row) (x8 := x8) h50 hB hb
  refine go_aload_n (i := 0) dR_understands_24 rfl rfl trivial ?_
  refine go_VX dR_understands_25 vkR54 RM_49 (List.cons_ne_nil _ _) (rk) rfl (by omega) (by omega) (by omega) rfl (fun _ => Nat.le_of_ble_eq_true rfl) ?_
  rintro rr M' (⟨hz, rfl, rfl⟩ | ⟨hz, rfl, F2, rfl, h2⟩) -
  · dsimp only [rp]
    refine go_if_eq 51 dR_understands_28 rfl (fun h28 => ?_) (fun h28 => absurd (by omega) h28)
    refine go_iconst dR_understands_51 (inR_of _ rfl) ?_
    refine go_iret dR_understands_52 rfl (zb (by simp)) ?_
    have e : zprs B n = (zR0 B n).bad := by unfold zprs; rw [if_pos hz]
    rw [e]
    exact ⟨rfl, row, _, _, _, _, _, rfl, fun q => by cases q⟩
  · dsimp only [rp]
    have kin := zkey_in B (zR0 B n)
    have hE : RE F B n (zkey B (zR0 B n)).toNat := ⟨⟨tp, h50, hb⟩, hB, by omega⟩
    obtain ⟨w1, f1⟩ := ZR.nx_wf hB hw
    have hI : RIn F n (zkey B (zR0 B n)).toNat B ((zR0 B n).nx B n) F2 := ⟨h2, w1, ZR.nx_wd _ B n, rfl, Nat.zero_le _, Nat.zero_le _⟩
    have lv := (pR_par (g := g) (N := N) hE 800).1 0 0 0 ((zR0 B n).nx B n) F2 (by omega) (by omega) (by omega) hI (by omega)
    obtain ⟨sz, op, ho⟩ := h2.ho
    have no : ¬ ((zR1 B n).ok = true ∧ (zR1 B n).so = 0) → ∀ F3, RS F n (zkey B (zR0 B n)).toNat (zR1 B n) F3 → Go g yR_understands 99 0 0 51 [gR 49] [] (N, F3) (RZ N F n (zkey B (zR0 B n)).toNat (zprs B n)) := by
      intro nn F3 h3
      refine go_iconst dR_understands_51 (inR_of _ rfl) ?_
      refine go_iret dR_understands_52 rfl (zb (by simp)) ?_
      have e : zprs B n = (zR1 B n).bad := by unfold zprs; rw [if_neg (by omega), if_neg nn]
      rw [e]
      obtain ⟨row', sz', op', -, rfl, -⟩ := h3
      exact ⟨rfl, row', _, _, _, _, _, rfl, fun q => by cases q⟩
    refine go_if_eq 51 dR_understands_28 rfl (fun h28 => absurd h28 (by omega)) (fun h28 => ?_)
    refine go_aload_n (i := 0) dR_understands_31 rfl rfl trivial ?_
    refine go_iconst dR_understands_32 (inR_of _ rfl) ?_
    refine go_iconst dR_understands_33 (inR_of _ rfl) ?_
    refine go_VX dR_understands_34 vkR58 (by assumption) (List.cons_ne_nil _ _) (lv) rfl (by omega) (by omega) (by omega) rfl (fun _ => Nat.le_of_ble_eq_true rfl) ?_
    rintro _ _ ⟨rfl, F3, rfl, h3⟩ -
    dsimp only [rp]
    have h3 : RS F n (zkey B (zR0 B n)).toNat (zR1 B n) F3 := h3
    show Go g yR_understands 99 0 0 37 [gR 49] [gI (if (zR1 B n).ok = true then 1 else 0)] (N, F3) _
    by_cases k1 : (zR1 B n).ok = true
    · rw [if_pos k1]
      have h3' := h3
      obtain ⟨row', sz', op', h0, rfl, h1⟩ := h3
      refine go_if_eq 51 dR_understands_37 rfl (fun h37 => absurd h37 (by omega)) (fun h37 => ?_)
      refine go_aload_n (i := 0) dR_understands_40 rfl rfl trivial ?_
      refine go_getf dR_understands_41 flR48 RM_49 rfl ?_
      by_cases s0 : (zR1 B n).so = 0
      · refine go_if_ne 51 dR_understands_44 rfl (fun h8 => absurd (by rw [s0]; rfl) h8) (fun _ => ?_)
        refine go_iconst dR_understands_47 (inR_of _ rfl) ?_
        refine go_goto 52 dR_understands_48 rfl ?_
        refine go_iret dR_understands_52 rfl (zb (by simp)) ?_
        have e : zprs B n = zR1 B n := by unfold zprs; rw [if_neg (by omega), if_pos ⟨k1, s0⟩]
        rw [e]
        obtain ⟨q1, q2, q3⟩ := h1 k1
        exact ⟨by rw [if_pos k1], row', _, _, _, _, _, rfl, fun _ => ⟨q1, q2, rfl, q3⟩⟩
      · refine go_if_ne 51 dR_understands_44 rfl (fun _ => ?_) (fun h8 => absurd h8 (by omega))
        exact no (fun q => s0 q.2) _ h3'
    · rw [if_neg k1]
      refine go_if_eq 51 dR_understands_37 rfl (fun h37 => ?_) (fun h37 => absurd (by omega) h37)
      exact no (fun q => k1 q.1) F3 h3
end CUNDER
