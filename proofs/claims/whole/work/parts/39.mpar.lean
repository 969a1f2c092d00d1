/-! ===== the model's parser: its levels ===== -/
section MPAR
variable {g : GX} {N r : Nat} {F F1 F2 : Nat → GC} {m m1 m2 : Nat → Nat → Int} {B : Nat → Int} {n key o t : Nat} {R : ZR}
def yQ (q : Nat) : GY := match q with
  | 0 => yM_either
  | 1 => yM_both
  | 2 => yM_test
  | 3 => yM_sum
  | 4 => yM_term
  | _ => yM_piece
def LQ (q r : Nat) (x : GV) : List GV := match q with
  | 0 => [gR r]
  | 1 => [gR r]
  | _ => [gR r, x]
theorem zpar_up {f q : Nat} (hq : q < 5) (h : (zpar B n key f (q + 1) o t R).ok = true) : zpar B n key (f + 1) q o t R = zpar B n key f (q + 6) o t (zpar B n key f (q + 1) o t R) := by
  rw [zpar, if_pos hq, if_pos h]
theorem zpar_up0 {f q : Nat} (hq : q < 5) (h : ¬ (zpar B n key f (q + 1) o t R).ok = true) : zpar B n key (f + 1) q o t R = zpar B n key f (q + 1) o t R := by
  rw [zpar, if_pos hq, if_neg h]
theorem zpar_st {f q : Nat} (h : ¬ (R.so = 3 ∧ zopd q (B R.fr) = true)) : zpar B n key (f + 1) (q + 6) o t R = R := by
  rw [zpar, if_neg (by omega), if_neg (by omega), show q + 6 - 6 = q by omega, if_neg h]
theorem zpar_lp {f q : Nat} (h : R.so = 3 ∧ zopd q (B R.fr) = true) (hk : (zpar B n key f (q + 1) o t (R.nx B n)).ok = true) (h2 : q ≠ 2) : zpar B n key (f + 1) (q + 6) o t R = zpar B n key f (q + 6) o t ((zpar B n key f (q + 1) o t (R.nx B n)).put (-10 - B R.fr)) := by
  rw [zpar, if_neg (by omega), if_neg (by omega), show q + 6 - 6 = q by omega, if_pos h, show q + 6 - 5 = q + 1 by omega, if_pos ⟨hk, by omega⟩]
theorem zpar_le {f q : Nat} (h : R.so = 3 ∧ zopd q (B R.fr) = true) (hk : ¬ ((zpar B n key f (q + 1) o t (R.nx B n)).ok = true ∧ q ≠ 2)) : zpar B n key (f + 1) (q + 6) o t R = (zpar B n key f (q + 1) o t (R.nx B n)).put (-10 - B R.fr) := by
  rw [zpar, if_neg (by omega), if_neg (by omega), show q + 6 - 6 = q by omega, if_pos h, show q + 6 - 5 = q + 1 by omega, if_neg (fun hh => hk ⟨hh.1, by omega⟩)]
/-- what a call of the parser starts from -/
def PI (r : Nat) (F : Nat → GC) (m : Nat → Nat → Int) (B : Nat → Int) (n : Nat) (R : ZR) (o t : Nat) (F1 : Nat → GC) (m1 : Nat → Nat → Int) : Prop := PST r F m R o t F1 m1 ∧ R.wf n ∧ R.wd B ∧ R.ok = true ∧ R.out.length ≤ R.fr ∧ R.pcs ≤ R.fr
def PPc (g : GX) (N r : Nat) (F : Nat → GC) (m : Nat → Nat → Int) (B : Nat → Int) (n key f : Nat) : Prop := ∀ (q o t : Nat) (R : ZR) (F1 : Nat → GC) (m1 : Nat → Nat → Int), q ≤ 5 → o ≤ 8 → t ≤ 8 → PI r F m B n R o t F1 m1 → 8 * (98 - R.fr) + (6 - q) ≤ f → CT g (yQ q) (9 * (8 - o) + 2 * (8 - t) + (6 - q) + 4) 0 0 [gR r] (N, F1) (PQ N r F m (zpar B n key f q o t R) o t)
def PPl (g : GX) (N r : Nat) (F : Nat → GC) (m : Nat → Nat → Int) (B : Nat → Int) (n key f : Nat) : Prop := ∀ (q o t : Nat) (R : ZR) (F1 : Nat → GC) (m1 : Nat → Nat → Int) (x : GV), q < 5 → o ≤ 8 → t ≤ 8 → PI r F m B n R o t F1 m1 → 8 * (98 - R.fr) ≤ f → Go g (yQ q) (9 * (8 - o) + 2 * (8 - t) + (6 - q) + 4) 0 0 4 (LQ q r x) [] (N, F1) (PQ N r F m (zpar B n key f (q + 6) o t R) o t)
/-- a level's result, as the next starts from it -/
theorem PI.up {f q : Nat} {F2 : Nat → GC} {m2 : Nat → Nat → Int} (h : PI r F m B n R o t F1 m1) (hB : BYT B n) (hq : q ≤ 5) (h2 : PST r F m (zpar B n key f q o t R) o t F2 m2) (hk : (zpar B n key f q o t R).ok = true) : PI r F m B n (zpar B n key f q o t R) o t F2 m2 ∧ R.fr < (zpar B n key f q o t R).fr := by
  have g1 := zpar_go hB key f q o t R h.2.1 h.2.2.2.1
  unfold ZR.go at g1
  have a := h.2.2.2.2
  have := g1.2.2.1 hq hk
  exact ⟨⟨h2, g1.1, zpar_wd key f q o t R h.2.2.1, hk, by omega, by omega⟩, this⟩
/-- what a step of a loop needs -/
theorem PI.lp {f q : Nat} (h : PI r F m B n R o t F1 m1) (hB : BYT B n) (h0 : R.so ≠ 0) : ((R.nx B n).wf n ∧ (R.nx B n).wd B ∧ R.fr < (R.nx B n).fr ∧ R.fr < n) ∧ (zpar B n key f q o t (R.nx B n)).out.length + 1 ≤ (zpar B n key f q o t (R.nx B n)).fr ∧ (zpar B n key f q o t (R.nx B n)).pcs ≤ (zpar B n key f q o t (R.nx B n)).fr ∧ (zpar B n key f q o t (R.nx B n)).wf n ∧ (zpar B n key f q o t (R.nx B n)).wd B ∧ R.fr < (zpar B n key f q o t (R.nx B n)).fr ∧ (zpar B n key f q o t (R.nx B n)).fr ≤ 96 := by
  obtain ⟨h1, h2⟩ := ZR.nx_wf hB h.2.1
  have h3 := h.2.1.2.2.1 h0
  have g1 := zpar_go hB key f q o t _ h1 h.2.2.2.1
  unfold ZR.go at g1
  have e1 : (R.nx B n).out = R.out := rfl
  have e2 : (R.nx B n).pcs = R.pcs := rfl
  rw [e1, e2] at g1
  have a := h.2.2.2.2
  have b := g1.1.1
  have c := g1.1.2.1
  have d := hB.1
  have e := h.2.1.2.1
  exact ⟨⟨h1, ZR.nx_wd R B n, by omega, by omega⟩, by omega, by omega, g1.1, zpar_wd key f q o t _ (ZR.nx_wd R B n), by omega, by omega⟩
theorem PI.nx {F2 : Nat → GC} {m2 : Nat → Nat → Int} (h : PI r F m B n R o t F1 m1) (hB : BYT B n) (h2 : PST r F m (R.nx B n) o t F2 m2) : PI r F m B n (R.nx B n) o t F2 m2 := by
  obtain ⟨h1, h3⟩ := ZR.nx_wf hB h.2.1
  have a := h.2.1.1
  have b := h.2.2.2.2
  exact ⟨h2, h1, ZR.nx_wd R B n, h.2.2.2.1, by show R.out.length ≤ _; omega, by show R.pcs ≤ _; omega⟩
theorem PI.pt {R1 : ZR} {c : Int} {F2 : Nat → GC} {m2 : Nat → Nat → Int} (h2 : PST r F m (R1.put c) o t F2 m2) (hw : R1.wf n) (hd : R1.wd B) (hk : R1.ok = true) (hl : R1.out.length + 1 ≤ R1.fr) (hp : R1.pcs ≤ R1.fr) : PI r F m B n (R1.put c) o t F2 m2 := by
  refine ⟨h2, hw, hd, hk, ?_, hp⟩
  show (R1.out ++ [c]).length ≤ R1.fr
  rw [List.length_append, List.length_singleton]
  exact hl
theorem sg0 {c : Prop} [Decidable c] (h : ¬ c) : (if c then (1 : Int) else 0) = 0 := if_neg h
theorem sg1 {c : Prop} [Decidable c] (h : c) : (if c then (1 : Int) else 0) ≠ 0 := by rw [if_pos h]; omega
theorem sgN {c : Prop} [Decidable c] (h : (if c then (1 : Int) else 0) = 0) : ¬ c := fun hc => sg1 hc h
theorem sgP {c : Prop} [Decidable c] (h : ¬ (if c then (1 : Int) else 0) = 0) : c := by
  by_cases hc : c
  · exact hc
  · exact absurd (if_neg hc) h

theorem zopd_0 {c : Int} : zopd 0 c = true ↔ (c = 124) := by unfold zopd; simp
theorem st_either (h : PST r F m R o t F1 m1) (hE : PE m B n key) (hs : ¬ (R.ok = true ∧ R.so = 3 ∧ zopd 0 (B R.fr) = true)) : Go g yM_either (9 * (8 - o) + 2 * (8 - t) + (6 - 0) + 4) 0 0 4 [gR r] [] (N, F1) (PQ N r F m R o t) := by
  have ho := h.1.1
  rw [zopd_0] at hs
  refine go_aload_n (i := 0) dM_either_4 rfl rfl trivial ?_
  refine go_bipush dM_either_5 (inR_of _ rfl) rfl ?_
  refine go_VP dM_either_7 vkM281 (by assumption) (List.cons_ne_nil _ _) (pM_isSign h hE 124) rfl (by omega) rfl (fun _ => Nat.le_of_ble_eq_true rfl) ?_
  refine go_if_eq 31 dM_either_10 rfl (fun h10 => ?_) (fun h10 => absurd (sg0 (fun hh => hs ⟨hh.1, hh.2.1, by omega⟩)) h10)
  refine go_vret dM_either_31 rfl ?_
  exact ⟨rfl, F1, m1, rfl, h⟩
theorem lp_either {f : Nat} (hE : PE m B n key) (ic : PPc g N r F m B n key f) (il : PPl g N r F m B n key f) (ho8 : o ≤ 8) (ht8 : t ≤ 8) (hI : PI r F m B n R o t F1 m1) (hf : 8 * (98 - R.fr) ≤ f + 1) : Go g yM_either (9 * (8 - o) + 2 * (8 - t) + (6 - 0) + 4) 0 0 4 [gR r] [] (N, F1) (PQ N r F m (zpar B n key (f + 1) (0 + 6) o t R) o t) := by
  have h := hI.1
  have hB := hE.2.2.1
  by_cases hs : R.so = 3 ∧ zopd 0 (B R.fr) = true
  · obtain ⟨⟨hw1, hd1, hfr, hfn⟩, l1, p1, w1, d1, f1, f96⟩ := hI.lp (key := key) (f := f) (q := 1) hB (by omega)
    have hn := hB.1
    have ho := h.1.1
    have e12 := h.2.2.2.2.1.1
    have hk := hI.2.2.2.1
    have hop := hs.2
    rw [zopd_0] at hop
    have body : Go g yM_either (9 * (8 - o) + 2 * (8 - t) + (6 - 0) + 4) 0 0 13 [gR r] [] (N, F1) (PQ N r F m (zpar B n key (f + 1) (0 + 6) o t R) o t) := by
      refine go_aload_n (i := 0) dM_either_13 rfl rfl trivial ?_
      refine go_VX dM_either_14 vkM269 (by assumption) (List.cons_ne_nil _ _) (h.next hE hI.2.1) rfl (by omega) (by omega) (by omega) rfl (fun _ => Nat.le_of_ble_eq_true rfl) ?_
      rintro _ _ ⟨rfl, F2, m2, rfl, h2⟩ -
      dsimp only [rp]
      have hI2 := hI.nx hB h2
      have ho2 := h2.1.1
      refine go_aload_n (i := 0) dM_either_17 rfl rfl trivial ?_
      refine go_VX dM_either_18 vkM311 (by assumption) (List.cons_ne_nil _ _) (ic 1 o t (R.nx B n) F2 m2 (by omega) ho8 ht8 hI2 (by omega)) rfl (by omega) (by omega) (by omega) rfl (fun _ => Nat.le_of_ble_eq_true rfl) ?_
      rintro _ _ ⟨rfl, F3, m3, rfl, h3⟩ -
      dsimp only [rp]
      have ho3 := h3.1.1
      refine go_aload_n (i := 0) dM_either_21 rfl rfl trivial ?_
      refine go_sipush dM_either_22 (inR_of _ rfl) rfl ?_
      refine go_top (-10 - B R.fr) (by omega) ?_
      refine go_VX dM_either_25 vkM263 (by assumption) (List.cons_ne_nil _ _) (pM_writes h3 (-10 - B R.fr) (by omega)) rfl (by omega) (by omega) (by omega) rfl (fun _ => Nat.le_of_ble_eq_true rfl) ?_
      rintro _ _ ⟨rfl, F4, m4, rfl, h4⟩ -
      dsimp only [rp]
      refine go_goto 4 dM_either_28 rfl ?_
      by_cases hk1 : (zpar B n key f 1 o t (R.nx B n)).ok = true
      · rw [zpar_lp hs hk1 (by omega)]
        exact il 0 o t _ F4 m4 gU (by omega) ho8 ht8 (PI.pt h4 w1 d1 hk1 l1 p1) (by show 8 * (98 - (zpar B n key f 1 o t (R.nx B n)).fr) ≤ f; omega)
      · rw [zpar_le hs (fun hh => hk1 hh.1)]
        exact st_either h4 hE (fun hh => hk1 hh.1)
    refine go_aload_n (i := 0) dM_either_4 rfl rfl trivial ?_
    refine go_bipush dM_either_5 (inR_of _ rfl) rfl ?_
    refine go_VP dM_either_7 vkM281 (by assumption) (List.cons_ne_nil _ _) (pM_isSign h hE 124) rfl (by omega) rfl (fun _ => Nat.le_of_ble_eq_true rfl) ?_
    refine go_if_eq 31 dM_either_10 rfl (fun h10 => absurd h10 (sg1 ⟨hk, hs.1, by omega⟩)) (fun h10 => ?_)
    exact body
  · rw [zpar_st hs]
    exact st_either h hE (fun hh => hs hh.2)
theorem up_either {f : Nat} (hE : PE m B n key) (ic : PPc g N r F m B n key f) (il : PPl g N r F m B n key f) (ho8 : o ≤ 8) (ht8 : t ≤ 8) (hI : PI r F m B n R o t F1 m1) (hf : 8 * (98 - R.fr) + (6 - 0) ≤ f + 1) : CT g yM_either (9 * (8 - o) + 2 * (8 - t) + (6 - 0) + 4) 0 0 [gR r] (N, F1) (PQ N r F m (zpar B n key (f + 1) 0 o t R) o t) := by
  have h := hI.1
  have ho := h.1.1
  have hB := hE.2.2.1
  have hn := hB.1
  have hw1 := hI.2.1.1
  have hw2 := hI.2.1.2.1
  refine CT.of' (L0 := [gR r]) plM (Nat.le_of_ble_eq_true rfl) rfl ?_
  refine go_aload_n (i := 0) dM_either_0 rfl rfl trivial ?_
  refine go_VX dM_either_1 vkM311 (by assumption) (List.cons_ne_nil _ _) (ic 1 o t R F1 m1 (by omega) ho8 ht8 hI (by omega)) rfl (by omega) (by omega) (by omega) rfl (fun _ => Nat.le_of_ble_eq_true rfl) ?_
  rintro _ _ ⟨rfl, F2, m2, rfl, h2⟩ -
  dsimp only [rp]
  by_cases hk1 : (zpar B n key f 1 o t R).ok = true
  · obtain ⟨hI2, hlt⟩ := hI.up hB (by omega) h2 hk1
    rw [zpar_up (by omega) hk1]
    exact il 0 o t _ F2 m2 gU (by omega) ho8 ht8 hI2 (by show 8 * (98 - (zpar B n key f 1 o t R).fr) ≤ f; omega)
  · rw [zpar_up0 (by omega) hk1]
    exact st_either h2 hE (fun hh => hk1 hh.1)
theorem zopd_1 {c : Int} : zopd 1 c = true ↔ (c = 38) := by unfold zopd; simp
theorem st_both (h : PST r F m R o t F1 m1) (hE : PE m B n key) (hs : ¬ (R.ok = true ∧ R.so = 3 ∧ zopd 1 (B R.fr) = true)) : Go g yM_both (9 * (8 - o) + 2 * (8 - t) + (6 - 1) + 4) 0 0 4 [gR r] [] (N, F1) (PQ N r F m R o t) := by
  have ho := h.1.1
  rw [zopd_1] at hs
  refine go_aload_n (i := 0) dM_both_4 rfl rfl trivial ?_
  refine go_bipush dM_both_5 (inR_of _ rfl) rfl ?_
  refine go_VP dM_both_7 vkM281 (by assumption) (List.cons_ne_nil _ _) (pM_isSign h hE 38) rfl (by omega) rfl (fun _ => Nat.le_of_ble_eq_true rfl) ?_
  refine go_if_eq 30 dM_both_10 rfl (fun h10 => ?_) (fun h10 => absurd (sg0 (fun hh => hs ⟨hh.1, hh.2.1, by omega⟩)) h10)
  refine go_vret dM_both_30 rfl ?_
  exact ⟨rfl, F1, m1, rfl, h⟩
theorem lp_both {f : Nat} (hE : PE m B n key) (ic : PPc g N r F m B n key f) (il : PPl g N r F m B n key f) (ho8 : o ≤ 8) (ht8 : t ≤ 8) (hI : PI r F m B n R o t F1 m1) (hf : 8 * (98 - R.fr) ≤ f + 1) : Go g yM_both (9 * (8 - o) + 2 * (8 - t) + (6 - 1) + 4) 0 0 4 [gR r] [] (N, F1) (PQ N r F m (zpar B n key (f + 1) (1 + 6) o t R) o t) := by
  have h := hI.1
  have hB := hE.2.2.1
  by_cases hs : R.so = 3 ∧ zopd 1 (B R.fr) = true
  · obtain ⟨⟨hw1, hd1, hfr, hfn⟩, l1, p1, w1, d1, f1, f96⟩ := hI.lp (key := key) (f := f) (q := 2) hB (by omega)
    have hn := hB.1
    have ho := h.1.1
    have e12 := h.2.2.2.2.1.1
    have hk := hI.2.2.2.1
    have hop := hs.2
    rw [zopd_1] at hop
    have body : Go g yM_both (9 * (8 - o) + 2 * (8 - t) + (6 - 1) + 4) 0 0 13 [gR r] [] (N, F1) (PQ N r F m (zpar B n key (f + 1) (1 + 6) o t R) o t) := by
      refine go_aload_n (i := 0) dM_both_13 rfl rfl trivial ?_
      refine go_VX dM_both_14 vkM269 (by assumption) (List.cons_ne_nil _ _) (h.next hE hI.2.1) rfl (by omega) (by omega) (by omega) rfl (fun _ => Nat.le_of_ble_eq_true rfl) ?_
      rintro _ _ ⟨rfl, F2, m2, rfl, h2⟩ -
      dsimp only [rp]
      have hI2 := hI.nx hB h2
      have ho2 := h2.1.1
      refine go_aload_n (i := 0) dM_both_17 rfl rfl trivial ?_
      refine go_VX dM_both_18 vkM308 (by assumption) (List.cons_ne_nil _ _) (ic 2 o t (R.nx B n) F2 m2 (by omega) ho8 ht8 hI2 (by omega)) rfl (by omega) (by omega) (by omega) rfl (fun _ => Nat.le_of_ble_eq_true rfl) ?_
      rintro _ _ ⟨rfl, F3, m3, rfl, h3⟩ -
      dsimp only [rp]
      have ho3 := h3.1.1
      refine go_aload_n (i := 0) dM_both_21 rfl rfl trivial ?_
      refine go_bipush dM_both_22 (inR_of _ rfl) rfl ?_
      refine go_top (-10 - B R.fr) (by omega) ?_
      refine go_VX dM_both_24 vkM263 (by assumption) (List.cons_ne_nil _ _) (pM_writes h3 (-10 - B R.fr) (by omega)) rfl (by omega) (by omega) (by omega) rfl (fun _ => Nat.le_of_ble_eq_true rfl) ?_
      rintro _ _ ⟨rfl, F4, m4, rfl, h4⟩ -
      dsimp only [rp]
      refine go_goto 4 dM_both_27 rfl ?_
      by_cases hk1 : (zpar B n key f 2 o t (R.nx B n)).ok = true
      · rw [zpar_lp hs hk1 (by omega)]
        exact il 1 o t _ F4 m4 gU (by omega) ho8 ht8 (PI.pt h4 w1 d1 hk1 l1 p1) (by show 8 * (98 - (zpar B n key f 2 o t (R.nx B n)).fr) ≤ f; omega)
      · rw [zpar_le hs (fun hh => hk1 hh.1)]
        exact st_both h4 hE (fun hh => hk1 hh.1)
    refine go_aload_n (i := 0) dM_both_4 rfl rfl trivial ?_
    refine go_bipush dM_both_5 (inR_of _ rfl) rfl ?_
    refine go_VP dM_both_7 vkM281 (by assumption) (List.cons_ne_nil _ _) (pM_isSign h hE 38) rfl (by omega) rfl (fun _ => Nat.le_of_ble_eq_true rfl) ?_
    refine go_if_eq 30 dM_both_10 rfl (fun h10 => absurd h10 (sg1 ⟨hk, hs.1, by omega⟩)) (fun h10 => ?_)
    exact body
  · rw [zpar_st hs]
    exact st_both h hE (fun hh => hs hh.2)
theorem up_both {f : Nat} (hE : PE m B n key) (ic : PPc g N r F m B n key f) (il : PPl g N r F m B n key f) (ho8 : o ≤ 8) (ht8 : t ≤ 8) (hI : PI r F m B n R o t F1 m1) (hf : 8 * (98 - R.fr) + (6 - 1) ≤ f + 1) : CT g yM_both (9 * (8 - o) + 2 * (8 - t) + (6 - 1) + 4) 0 0 [gR r] (N, F1) (PQ N r F m (zpar B n key (f + 1) 1 o t R) o t) := by
  have h := hI.1
  have ho := h.1.1
  have hB := hE.2.2.1
  have hn := hB.1
  have hw1 := hI.2.1.1
  have hw2 := hI.2.1.2.1
  refine CT.of' (L0 := [gR r]) plM (Nat.le_of_ble_eq_true rfl) rfl ?_
  refine go_aload_n (i := 0) dM_both_0 rfl rfl trivial ?_
  refine go_VX dM_both_1 vkM308 (by assumption) (List.cons_ne_nil _ _) (ic 2 o t R F1 m1 (by omega) ho8 ht8 hI (by omega)) rfl (by omega) (by omega) (by omega) rfl (fun _ => Nat.le_of_ble_eq_true rfl) ?_
  rintro _ _ ⟨rfl, F2, m2, rfl, h2⟩ -
  dsimp only [rp]
  by_cases hk1 : (zpar B n key f 2 o t R).ok = true
  · obtain ⟨hI2, hlt⟩ := hI.up hB (by omega) h2 hk1
    rw [zpar_up (by omega) hk1]
    exact il 1 o t _ F2 m2 gU (by omega) ho8 ht8 hI2 (by show 8 * (98 - (zpar B n key f 2 o t R).fr) ≤ f; omega)
  · rw [zpar_up0 (by omega) hk1]
    exact st_both h2 hE (fun hh => hk1 hh.1)
theorem zopd_2 {c : Int} : zopd 2 c = true ↔ (c = 60 ∨ c = 61 ∨ c = 62) := by unfold zopd; simp
theorem st_test (x : GV) (h : PST r F m R o t F1 m1) (hE : PE m B n key) (hs : ¬ (R.ok = true ∧ R.so = 3 ∧ zopd 2 (B R.fr) = true)) : Go g yM_test (9 * (8 - o) + 2 * (8 - t) + (6 - 2) + 4) 0 0 4 [gR r, x] [] (N, F1) (PQ N r F m R o t) := by
  have ho := h.1.1
  rw [zopd_2] at hs
  refine go_aload_n (i := 0) dM_test_4 rfl rfl trivial ?_
  refine go_bipush dM_test_5 (inR_of _ rfl) rfl ?_
  refine go_VP dM_test_7 vkM281 (by assumption) (List.cons_ne_nil _ _) (pM_isSign h hE 60) rfl (by omega) rfl (fun _ => Nat.le_of_ble_eq_true rfl) ?_
  refine go_if_ne 31 dM_test_10 rfl (fun h10 => absurd h10 (fun hh => hh (sg0 (fun hh => hs ⟨hh.1, hh.2.1, by omega⟩)))) (fun h10 => ?_)
  refine go_aload_n (i := 0) dM_test_13 rfl rfl trivial ?_
  refine go_bipush dM_test_14 (inR_of _ rfl) rfl ?_
  refine go_VP dM_test_16 vkM281 (by assumption) (List.cons_ne_nil _ _) (pM_isSign h hE 61) rfl (by omega) rfl (fun _ => Nat.le_of_ble_eq_true rfl) ?_
  refine go_if_ne 31 dM_test_19 rfl (fun h19 => absurd h19 (fun hh => hh (sg0 (fun hh => hs ⟨hh.1, hh.2.1, by omega⟩)))) (fun h19 => ?_)
  refine go_aload_n (i := 0) dM_test_22 rfl rfl trivial ?_
  refine go_bipush dM_test_23 (inR_of _ rfl) rfl ?_
  refine go_VP dM_test_25 vkM281 (by assumption) (List.cons_ne_nil _ _) (pM_isSign h hE 62) rfl (by omega) rfl (fun _ => Nat.le_of_ble_eq_true rfl) ?_
  refine go_if_eq 56 dM_test_28 rfl (fun h28 => ?_) (fun h28 => absurd (sg0 (fun hh => hs ⟨hh.1, hh.2.1, by omega⟩)) h28)
  refine go_vret dM_test_56 rfl ?_
  exact ⟨rfl, F1, m1, rfl, h⟩
theorem lp_test {f : Nat} (x : GV) (hE : PE m B n key) (ic : PPc g N r F m B n key f) (il : PPl g N r F m B n key f) (ho8 : o ≤ 8) (ht8 : t ≤ 8) (hI : PI r F m B n R o t F1 m1) (hf : 8 * (98 - R.fr) ≤ f + 1) : Go g yM_test (9 * (8 - o) + 2 * (8 - t) + (6 - 2) + 4) 0 0 4 [gR r, x] [] (N, F1) (PQ N r F m (zpar B n key (f + 1) (2 + 6) o t R) o t) := by
  have h := hI.1
  have hB := hE.2.2.1
  by_cases hs : R.so = 3 ∧ zopd 2 (B R.fr) = true
  · obtain ⟨⟨hw1, hd1, hfr, hfn⟩, l1, p1, w1, d1, f1, f96⟩ := hI.lp (key := key) (f := f) (q := 3) hB (by omega)
    have hn := hB.1
    have ho := h.1.1
    have e12 := h.2.2.2.2.1.1
    have hk := hI.2.2.2.1
    have hop := hs.2
    rw [zopd_2] at hop
    have body : Go g yM_test (9 * (8 - o) + 2 * (8 - t) + (6 - 2) + 4) 0 0 31 [gR r, x] [] (N, F1) (PQ N r F m (zpar B n key (f + 1) (2 + 6) o t R) o t) := by
      refine go_aload_n (i := 0) dM_test_31 rfl rfl trivial ?_
      refine go_aload_n (i := 0) dM_test_32 rfl rfl trivial ?_
      refine go_getf dM_test_33 flM237 (by assumption) rfl ?_
      rw [e12]
      refine go_VP dM_test_36 vkM240 (by assumption) (List.cons_ne_nil _ _) (h.byt hE R.fr) rfl (by omega) rfl (fun _ => Nat.le_of_ble_eq_true rfl) ?_
      refine go_is1 dM_test_39 (Nat.le_of_ble_eq_true rfl) trivial ?_
      refine go_aload_n (i := 0) dM_test_40 rfl rfl trivial ?_
      refine go_VX dM_test_41 vkM269 (by assumption) (List.cons_ne_nil _ _) (h.next hE hI.2.1) rfl (by omega) (by omega) (by omega) rfl (fun _ => Nat.le_of_ble_eq_true rfl) ?_
      rintro _ _ ⟨rfl, F2, m2, rfl, h2⟩ -
      dsimp only [rp]
      have hI2 := hI.nx hB h2
      have ho2 := h2.1.1
      refine go_aload_n (i := 0) dM_test_44 rfl rfl trivial ?_
      refine go_VX dM_test_45 vkM305 (by assumption) (List.cons_ne_nil _ _) (ic 3 o t (R.nx B n) F2 m2 (by omega) ho8 ht8 hI2 (by omega)) rfl (by omega) (by omega) (by omega) rfl (fun _ => Nat.le_of_ble_eq_true rfl) ?_
      rintro _ _ ⟨rfl, F3, m3, rfl, h3⟩ -
      dsimp only [rp]
      have ho3 := h3.1.1
      refine go_aload_n (i := 0) dM_test_48 rfl rfl trivial ?_
      refine go_bipush dM_test_49 (inR_of _ rfl) rfl ?_
      refine go_iload_n (i := 1) dM_test_51 rfl rfl ?_
      refine go_isub dM_test_52 ?_
      refine go_top (-10 - B R.fr) (by (try simp (discharger := (unfold inR; omega)) only [w32_id]) <;> omega) ?_
      refine go_VX dM_test_53 vkM263 (by assumption) (List.cons_ne_nil _ _) (pM_writes h3 (-10 - B R.fr) (by omega)) rfl (by omega) (by omega) (by omega) rfl (fun _ => Nat.le_of_ble_eq_true rfl) ?_
      rintro _ _ ⟨rfl, F4, m4, rfl, h4⟩ -
      dsimp only [rp]
      refine go_vret dM_test_56 rfl ?_
      exact ⟨rfl, F4, m4, rfl, by rw [zpar_le hs (fun hh => hh.2 rfl)]; exact h4⟩
    refine go_aload_n (i := 0) dM_test_4 rfl rfl trivial ?_
    refine go_bipush dM_test_5 (inR_of _ rfl) rfl ?_
    refine go_VP dM_test_7 vkM281 (by assumption) (List.cons_ne_nil _ _) (pM_isSign h hE 60) rfl (by omega) rfl (fun _ => Nat.le_of_ble_eq_true rfl) ?_
    refine go_if_ne 31 dM_test_10 rfl (fun h10 => ?_) (fun h10 => ?_)
    · exact body
    have n10 : ¬ B R.fr = 60 := fun e => sgN h10 ⟨hk, hs.1, e⟩
    refine go_aload_n (i := 0) dM_test_13 rfl rfl trivial ?_
    refine go_bipush dM_test_14 (inR_of _ rfl) rfl ?_
    refine go_VP dM_test_16 vkM281 (by assumption) (List.cons_ne_nil _ _) (pM_isSign h hE 61) rfl (by omega) rfl (fun _ => Nat.le_of_ble_eq_true rfl) ?_
    refine go_if_ne 31 dM_test_19 rfl (fun h19 => ?_) (fun h19 => ?_)
    · exact body
    have n19 : ¬ B R.fr = 61 := fun e => sgN h19 ⟨hk, hs.1, e⟩
    refine go_aload_n (i := 0) dM_test_22 rfl rfl trivial ?_
    refine go_bipush dM_test_23 (inR_of _ rfl) rfl ?_
    refine go_VP dM_test_25 vkM281 (by assumption) (List.cons_ne_nil _ _) (pM_isSign h hE 62) rfl (by omega) rfl (fun _ => Nat.le_of_ble_eq_true rfl) ?_
    refine go_if_eq 56 dM_test_28 rfl (fun h28 => ?_) (fun h28 => ?_)
    · refine absurd ?_ (sgN h28)
      exact ⟨hk, hs.1, by grind⟩
    · exact body
  · rw [zpar_st hs]
    exact st_test x h hE (fun hh => hs hh.2)
theorem up_test {f : Nat} (hE : PE m B n key) (ic : PPc g N r F m B n key f) (il : PPl g N r F m B n key f) (ho8 : o ≤ 8) (ht8 : t ≤ 8) (hI : PI r F m B n R o t F1 m1) (hf : 8 * (98 - R.fr) + (6 - 2) ≤ f + 1) : CT g yM_test (9 * (8 - o) + 2 * (8 - t) + (6 - 2) + 4) 0 0 [gR r] (N, F1) (PQ N r F m (zpar B n key (f + 1) 2 o t R) o t) := by
  have h := hI.1
  have ho := h.1.1
  have hB := hE.2.2.1
  have hn := hB.1
  have hw1 := hI.2.1.1
  have hw2 := hI.2.1.2.1
  refine CT.of' (L0 := [gR r, gU]) plM (Nat.le_of_ble_eq_true rfl) rfl ?_
  refine go_aload_n (i := 0) dM_test_0 rfl rfl trivial ?_
  refine go_VX dM_test_1 vkM305 (by assumption) (List.cons_ne_nil _ _) (ic 3 o t R F1 m1 (by omega) ho8 ht8 hI (by omega)) rfl (by omega) (by omega) (by omega) rfl (fun _ => Nat.le_of_ble_eq_true rfl) ?_
  rintro _ _ ⟨rfl, F2, m2, rfl, h2⟩ -
  dsimp only [rp]
  by_cases hk1 : (zpar B n key f 3 o t R).ok = true
  · obtain ⟨hI2, hlt⟩ := hI.up hB (by omega) h2 hk1
    rw [zpar_up (by omega) hk1]
    exact il 2 o t _ F2 m2 _ (by omega) ho8 ht8 hI2 (by show 8 * (98 - (zpar B n key f 3 o t R).fr) ≤ f; omega)
  · rw [zpar_up0 (by omega) hk1]
    exact st_test _ h2 hE (fun hh => hk1 hh.1)
theorem zopd_3 {c : Int} : zopd 3 c = true ↔ (c = 43 ∨ c = 45) := by unfold zopd; simp
theorem st_sum (x : GV) (h : PST r F m R o t F1 m1) (hE : PE m B n key) (hs : ¬ (R.ok = true ∧ R.so = 3 ∧ zopd 3 (B R.fr) = true)) : Go g yM_sum (9 * (8 - o) + 2 * (8 - t) + (6 - 3) + 4) 0 0 4 [gR r, x] [] (N, F1) (PQ N r F m R o t) := by
  have ho := h.1.1
  rw [zopd_3] at hs
  refine go_aload_n (i := 0) dM_sum_4 rfl rfl trivial ?_
  refine go_bipush dM_sum_5 (inR_of _ rfl) rfl ?_
  refine go_VP dM_sum_7 vkM281 (by assumption) (List.cons_ne_nil _ _) (pM_isSign h hE 43) rfl (by omega) rfl (fun _ => Nat.le_of_ble_eq_true rfl) ?_
  refine go_if_ne 22 dM_sum_10 rfl (fun h10 => absurd h10 (fun hh => hh (sg0 (fun hh => hs ⟨hh.1, hh.2.1, by omega⟩)))) (fun h10 => ?_)
  refine go_aload_n (i := 0) dM_sum_13 rfl rfl trivial ?_
  refine go_bipush dM_sum_14 (inR_of _ rfl) rfl ?_
  refine go_VP dM_sum_16 vkM281 (by assumption) (List.cons_ne_nil _ _) (pM_isSign h hE 45) rfl (by omega) rfl (fun _ => Nat.le_of_ble_eq_true rfl) ?_
  refine go_if_eq 50 dM_sum_19 rfl (fun h19 => ?_) (fun h19 => absurd (sg0 (fun hh => hs ⟨hh.1, hh.2.1, by omega⟩)) h19)
  refine go_vret dM_sum_50 rfl ?_
  exact ⟨rfl, F1, m1, rfl, h⟩
theorem lp_sum {f : Nat} (x : GV) (hE : PE m B n key) (ic : PPc g N r F m B n key f) (il : PPl g N r F m B n key f) (ho8 : o ≤ 8) (ht8 : t ≤ 8) (hI : PI r F m B n R o t F1 m1) (hf : 8 * (98 - R.fr) ≤ f + 1) : Go g yM_sum (9 * (8 - o) + 2 * (8 - t) + (6 - 3) + 4) 0 0 4 [gR r, x] [] (N, F1) (PQ N r F m (zpar B n key (f + 1) (3 + 6) o t R) o t) := by
  have h := hI.1
  have hB := hE.2.2.1
  by_cases hs : R.so = 3 ∧ zopd 3 (B R.fr) = true
  · obtain ⟨⟨hw1, hd1, hfr, hfn⟩, l1, p1, w1, d1, f1, f96⟩ := hI.lp (key := key) (f := f) (q := 4) hB (by omega)
    have hn := hB.1
    have ho := h.1.1
    have e12 := h.2.2.2.2.1.1
    have hk := hI.2.2.2.1
    have hop := hs.2
    rw [zopd_3] at hop
    have body : Go g yM_sum (9 * (8 - o) + 2 * (8 - t) + (6 - 3) + 4) 0 0 22 [gR r, x] [] (N, F1) (PQ N r F m (zpar B n key (f + 1) (3 + 6) o t R) o t) := by
      refine go_aload_n (i := 0) dM_sum_22 rfl rfl trivial ?_
      refine go_aload_n (i := 0) dM_sum_23 rfl rfl trivial ?_
      refine go_getf dM_sum_24 flM237 (by assumption) rfl ?_
      rw [e12]
      refine go_VP dM_sum_27 vkM240 (by assumption) (List.cons_ne_nil _ _) (h.byt hE R.fr) rfl (by omega) rfl (fun _ => Nat.le_of_ble_eq_true rfl) ?_
      refine go_is1 dM_sum_30 (Nat.le_of_ble_eq_true rfl) trivial ?_
      refine go_aload_n (i := 0) dM_sum_31 rfl rfl trivial ?_
      refine go_VX dM_sum_32 vkM269 (by assumption) (List.cons_ne_nil _ _) (h.next hE hI.2.1) rfl (by omega) (by omega) (by omega) rfl (fun _ => Nat.le_of_ble_eq_true rfl) ?_
      rintro _ _ ⟨rfl, F2, m2, rfl, h2⟩ -
      dsimp only [rp]
      have hI2 := hI.nx hB h2
      have ho2 := h2.1.1
      refine go_aload_n (i := 0) dM_sum_35 rfl rfl trivial ?_
      refine go_VX dM_sum_36 vkM302 (by assumption) (List.cons_ne_nil _ _) (ic 4 o t (R.nx B n) F2 m2 (by omega) ho8 ht8 hI2 (by omega)) rfl (by omega) (by omega) (by omega) rfl (fun _ => Nat.le_of_ble_eq_true rfl) ?_
      rintro _ _ ⟨rfl, F3, m3, rfl, h3⟩ -
      dsimp only [rp]
      have ho3 := h3.1.1
      refine go_aload_n (i := 0) dM_sum_39 rfl rfl trivial ?_
      refine go_bipush dM_sum_40 (inR_of _ rfl) rfl ?_
      refine go_iload_n (i := 1) dM_sum_42 rfl rfl ?_
      refine go_isub dM_sum_43 ?_
      refine go_top (-10 - B R.fr) (by (try simp (discharger := (unfold inR; omega)) only [w32_id]) <;> omega) ?_
      refine go_VX dM_sum_44 vkM263 (by assumption) (List.cons_ne_nil _ _) (pM_writes h3 (-10 - B R.fr) (by omega)) rfl (by omega) (by omega) (by omega) rfl (fun _ => Nat.le_of_ble_eq_true rfl) ?_
      rintro _ _ ⟨rfl, F4, m4, rfl, h4⟩ -
      dsimp only [rp]
      refine go_goto 4 dM_sum_47 rfl ?_
      by_cases hk1 : (zpar B n key f 4 o t (R.nx B n)).ok = true
      · rw [zpar_lp hs hk1 (by omega)]
        exact il 3 o t _ F4 m4 _ (by omega) ho8 ht8 (PI.pt h4 w1 d1 hk1 l1 p1) (by show 8 * (98 - (zpar B n key f 4 o t (R.nx B n)).fr) ≤ f; omega)
      · rw [zpar_le hs (fun hh => hk1 hh.1)]
        exact st_sum _ h4 hE (fun hh => hk1 hh.1)
    refine go_aload_n (i := 0) dM_sum_4 rfl rfl trivial ?_
    refine go_bipush dM_sum_5 (inR_of _ rfl) rfl ?_
    refine go_VP dM_sum_7 vkM281 (by assumption) (List.cons_ne_nil _ _) (pM_isSign h hE 43) rfl (by omega) rfl (fun _ => Nat.le_of_ble_eq_true rfl) ?_
    refine go_if_ne 22 dM_sum_10 rfl (fun h10 => ?_) (fun h10 => ?_)
    · exact body
    have n10 : ¬ B R.fr = 43 := fun e => sgN h10 ⟨hk, hs.1, e⟩
    refine go_aload_n (i := 0) dM_sum_13 rfl rfl trivial ?_
    refine go_bipush dM_sum_14 (inR_of _ rfl) rfl ?_
    refine go_VP dM_sum_16 vkM281 (by assumption) (List.cons_ne_nil _ _) (pM_isSign h hE 45) rfl (by omega) rfl (fun _ => Nat.le_of_ble_eq_true rfl) ?_
    refine go_if_eq 50 dM_sum_19 rfl (fun h19 => ?_) (fun h19 => ?_)
    · refine absurd ?_ (sgN h19)
      exact ⟨hk, hs.1, by grind⟩
    · exact body
  · rw [zpar_st hs]
    exact st_sum x h hE (fun hh => hs hh.2)
theorem up_sum {f : Nat} (hE : PE m B n key) (ic : PPc g N r F m B n key f) (il : PPl g N r F m B n key f) (ho8 : o ≤ 8) (ht8 : t ≤ 8) (hI : PI r F m B n R o t F1 m1) (hf : 8 * (98 - R.fr) + (6 - 3) ≤ f + 1) : CT g yM_sum (9 * (8 - o) + 2 * (8 - t) + (6 - 3) + 4) 0 0 [gR r] (N, F1) (PQ N r F m (zpar B n key (f + 1) 3 o t R) o t) := by
  have h := hI.1
  have ho := h.1.1
  have hB := hE.2.2.1
  have hn := hB.1
  have hw1 := hI.2.1.1
  have hw2 := hI.2.1.2.1
  refine CT.of' (L0 := [gR r, gU]) plM (Nat.le_of_ble_eq_true rfl) rfl ?_
  refine go_aload_n (i := 0) dM_sum_0 rfl rfl trivial ?_
  refine go_VX dM_sum_1 vkM302 (by assumption) (List.cons_ne_nil _ _) (ic 4 o t R F1 m1 (by omega) ho8 ht8 hI (by omega)) rfl (by omega) (by omega) (by omega) rfl (fun _ => Nat.le_of_ble_eq_true rfl) ?_
  rintro _ _ ⟨rfl, F2, m2, rfl, h2⟩ -
  dsimp only [rp]
  by_cases hk1 : (zpar B n key f 4 o t R).ok = true
  · obtain ⟨hI2, hlt⟩ := hI.up hB (by omega) h2 hk1
    rw [zpar_up (by omega) hk1]
    exact il 3 o t _ F2 m2 _ (by omega) ho8 ht8 hI2 (by show 8 * (98 - (zpar B n key f 4 o t R).fr) ≤ f; omega)
  · rw [zpar_up0 (by omega) hk1]
    exact st_sum _ h2 hE (fun hh => hk1 hh.1)
theorem zopd_4 {c : Int} : zopd 4 c = true ↔ (c = 42 ∨ c = 47) := by unfold zopd; simp
theorem st_term (x : GV) (h : PST r F m R o t F1 m1) (hE : PE m B n key) (hs : ¬ (R.ok = true ∧ R.so = 3 ∧ zopd 4 (B R.fr) = true)) : Go g yM_term (9 * (8 - o) + 2 * (8 - t) + (6 - 4) + 4) 0 0 4 [gR r, x] [] (N, F1) (PQ N r F m R o t) := by
  have ho := h.1.1
  rw [zopd_4] at hs
  refine go_aload_n (i := 0) dM_term_4 rfl rfl trivial ?_
  refine go_bipush dM_term_5 (inR_of _ rfl) rfl ?_
  refine go_VP dM_term_7 vkM281 (by assumption) (List.cons_ne_nil _ _) (pM_isSign h hE 42) rfl (by omega) rfl (fun _ => Nat.le_of_ble_eq_true rfl) ?_
  refine go_if_ne 22 dM_term_10 rfl (fun h10 => absurd h10 (fun hh => hh (sg0 (fun hh => hs ⟨hh.1, hh.2.1, by omega⟩)))) (fun h10 => ?_)
  refine go_aload_n (i := 0) dM_term_13 rfl rfl trivial ?_
  refine go_bipush dM_term_14 (inR_of _ rfl) rfl ?_
  refine go_VP dM_term_16 vkM281 (by assumption) (List.cons_ne_nil _ _) (pM_isSign h hE 47) rfl (by omega) rfl (fun _ => Nat.le_of_ble_eq_true rfl) ?_
  refine go_if_eq 50 dM_term_19 rfl (fun h19 => ?_) (fun h19 => absurd (sg0 (fun hh => hs ⟨hh.1, hh.2.1, by omega⟩)) h19)
  refine go_vret dM_term_50 rfl ?_
  exact ⟨rfl, F1, m1, rfl, h⟩
theorem lp_term {f : Nat} (x : GV) (hE : PE m B n key) (ic : PPc g N r F m B n key f) (il : PPl g N r F m B n key f) (ho8 : o ≤ 8) (ht8 : t ≤ 8) (hI : PI r F m B n R o t F1 m1) (hf : 8 * (98 - R.fr) ≤ f + 1) : Go g yM_term (9 * (8 - o) + 2 * (8 - t) + (6 - 4) + 4) 0 0 4 [gR r, x] [] (N, F1) (PQ N r F m (zpar B n key (f + 1) (4 + 6) o t R) o t) := by
  have h := hI.1
  have hB := hE.2.2.1
  by_cases hs : R.so = 3 ∧ zopd 4 (B R.fr) = true
  · obtain ⟨⟨hw1, hd1, hfr, hfn⟩, l1, p1, w1, d1, f1, f96⟩ := hI.lp (key := key) (f := f) (q := 5) hB (by omega)
    have hn := hB.1
    have ho := h.1.1
    have e12 := h.2.2.2.2.1.1
    have hk := hI.2.2.2.1
    have hop := hs.2
    rw [zopd_4] at hop
    have body : Go g yM_term (9 * (8 - o) + 2 * (8 - t) + (6 - 4) + 4) 0 0 22 [gR r, x] [] (N, F1) (PQ N r F m (zpar B n key (f + 1) (4 + 6) o t R) o t) := by
      refine go_aload_n (i := 0) dM_term_22 rfl rfl trivial ?_
      refine go_aload_n (i := 0) dM_term_23 rfl rfl trivial ?_
      refine go_getf dM_term_24 flM237 (by assumption) rfl ?_
      rw [e12]
      refine go_VP dM_term_27 vkM240 (by assumption) (List.cons_ne_nil _ _) (h.byt hE R.fr) rfl (by omega) rfl (fun _ => Nat.le_of_ble_eq_true rfl) ?_
      refine go_is1 dM_term_30 (Nat.le_of_ble_eq_true rfl) trivial ?_
      refine go_aload_n (i := 0) dM_term_31 rfl rfl trivial ?_
      refine go_VX dM_term_32 vkM269 (by assumption) (List.cons_ne_nil _ _) (h.next hE hI.2.1) rfl (by omega) (by omega) (by omega) rfl (fun _ => Nat.le_of_ble_eq_true rfl) ?_
      rintro _ _ ⟨rfl, F2, m2, rfl, h2⟩ -
      dsimp only [rp]
      have hI2 := hI.nx hB h2
      have ho2 := h2.1.1
      refine go_aload_n (i := 0) dM_term_35 rfl rfl trivial ?_
      refine go_VX dM_term_36 vkM287 (by assumption) (List.cons_ne_nil _ _) (ic 5 o t (R.nx B n) F2 m2 (by omega) ho8 ht8 hI2 (by omega)) rfl (by omega) (by omega) (by omega) rfl (fun _ => Nat.le_of_ble_eq_true rfl) ?_
      rintro _ _ ⟨rfl, F3, m3, rfl, h3⟩ -
      dsimp only [rp]
      have ho3 := h3.1.1
      refine go_aload_n (i := 0) dM_term_39 rfl rfl trivial ?_
      refine go_bipush dM_term_40 (inR_of _ rfl) rfl ?_
      refine go_iload_n (i := 1) dM_term_42 rfl rfl ?_
      refine go_isub dM_term_43 ?_
      refine go_top (-10 - B R.fr) (by (try simp (discharger := (unfold inR; omega)) only [w32_id]) <;> omega) ?_
      refine go_VX dM_term_44 vkM263 (by assumption) (List.cons_ne_nil _ _) (pM_writes h3 (-10 - B R.fr) (by omega)) rfl (by omega) (by omega) (by omega) rfl (fun _ => Nat.le_of_ble_eq_true rfl) ?_
      rintro _ _ ⟨rfl, F4, m4, rfl, h4⟩ -
      dsimp only [rp]
      refine go_goto 4 dM_term_47 rfl ?_
      by_cases hk1 : (zpar B n key f 5 o t (R.nx B n)).ok = true
      · rw [zpar_lp hs hk1 (by omega)]
        exact il 4 o t _ F4 m4 _ (by omega) ho8 ht8 (PI.pt h4 w1 d1 hk1 l1 p1) (by show 8 * (98 - (zpar B n key f 5 o t (R.nx B n)).fr) ≤ f; omega)
      · rw [zpar_le hs (fun hh => hk1 hh.1)]
        exact st_term _ h4 hE (fun hh => hk1 hh.1)
    refine go_aload_n (i := 0) dM_term_4 rfl rfl trivial ?_
    refine go_bipush dM_term_5 (inR_of _ rfl) rfl ?_
    refine go_VP dM_term_7 vkM281 (by assumption) (List.cons_ne_nil _ _) (pM_isSign h hE 42) rfl (by omega) rfl (fun _ => Nat.le_of_ble_eq_true rfl) ?_
    refine go_if_ne 22 dM_term_10 rfl (fun h10 => ?_) (fun h10 => ?_)
    · exact body
    have n10 : ¬ B R.fr = 42 := fun e => sgN h10 ⟨hk, hs.1, e⟩
    refine go_aload_n (i := 0) dM_term_13 rfl rfl trivial ?_
    refine go_bipush dM_term_14 (inR_of _ rfl) rfl ?_
    refine go_VP dM_term_16 vkM281 (by assumption) (List.cons_ne_nil _ _) (pM_isSign h hE 47) rfl (by omega) rfl (fun _ => Nat.le_of_ble_eq_true rfl) ?_
    refine go_if_eq 50 dM_term_19 rfl (fun h19 => ?_) (fun h19 => ?_)
    · refine absurd ?_ (sgN h19)
      exact ⟨hk, hs.1, by grind⟩
    · exact body
  · rw [zpar_st hs]
    exact st_term x h hE (fun hh => hs hh.2)
theorem up_term {f : Nat} (hE : PE m B n key) (ic : PPc g N r F m B n key f) (il : PPl g N r F m B n key f) (ho8 : o ≤ 8) (ht8 : t ≤ 8) (hI : PI r F m B n R o t F1 m1) (hf : 8 * (98 - R.fr) + (6 - 4) ≤ f + 1) : CT g yM_term (9 * (8 - o) + 2 * (8 - t) + (6 - 4) + 4) 0 0 [gR r] (N, F1) (PQ N r F m (zpar B n key (f + 1) 4 o t R) o t) := by
  have h := hI.1
  have ho := h.1.1
  have hB := hE.2.2.1
  have hn := hB.1
  have hw1 := hI.2.1.1
  have hw2 := hI.2.1.2.1
  refine CT.of' (L0 := [gR r, gU]) plM (Nat.le_of_ble_eq_true rfl) rfl ?_
  refine go_aload_n (i := 0) dM_term_0 rfl rfl trivial ?_
  refine go_VX dM_term_1 vkM287 (by assumption) (List.cons_ne_nil _ _) (ic 5 o t R F1 m1 (by omega) ho8 ht8 hI (by omega)) rfl (by omega) (by omega) (by omega) rfl (fun _ => Nat.le_of_ble_eq_true rfl) ?_
  rintro _ _ ⟨rfl, F2, m2, rfl, h2⟩ -
  dsimp only [rp]
  by_cases hk1 : (zpar B n key f 5 o t R).ok = true
  · obtain ⟨hI2, hlt⟩ := hI.up hB (by omega) h2 hk1
    rw [zpar_up (by omega) hk1]
    exact il 4 o t _ F2 m2 _ (by omega) ho8 ht8 hI2 (by show 8 * (98 - (zpar B n key f 5 o t R).fr) ≤ f; omega)
  · rw [zpar_up0 (by omega) hk1]
    exact st_term _ h2 hE (fun hh => hk1 hh.1)
end MPAR
