/-! ===== the component's reader: its levels ===== -/
section CPAR
variable {g : GX} {N n key o t : Nat} {F F1 F2 : Nat → GC} {B : Nat → Int} {R : ZR}
def yRQ (q : Nat) : GY := match q with
  | 0 => yR_readOr
  | 1 => yR_readAnd
  | 2 => yR_readTest
  | 3 => yR_readSum
  | 4 => yR_readTerm
  | _ => yR_readPiece
def LR (q o t mo : Nat) (x : GV) : List GV := match q with
  | 0 => [gR 49, gI (o : Int), gI (t : Int), gI 1, gI (mo : Int)]
  | 1 => [gR 49, gI (o : Int), gI (t : Int), gI 1, gI (mo : Int)]
  | 2 => [gR 49, gI (o : Int), gI (t : Int), gU, gU]
  | _ => [gR 49, gI (o : Int), gI (t : Int), gI 1, gI (mo : Int), x]
def pQ (q : Nat) : Nat := match q with
  | 2 => 11
  | _ => 10
def RIn (F : Nat → GC) (n key : Nat) (B : Nat → Int) (R : ZR) (F1 : Nat → GC) : Prop := RS F n key R F1 ∧ R.wf n ∧ R.wd B ∧ R.ok = true ∧ R.out.length ≤ R.fr ∧ R.pcs ≤ R.fr
def RPc (g : GX) (N : Nat) (F : Nat → GC) (B : Nat → Int) (n key f : Nat) : Prop := ∀ (q o t : Nat) (R : ZR) (F1 : Nat → GC), q ≤ 5 → o ≤ 8 → t ≤ 8 → RIn F n key B R F1 → 8 * (98 - R.fr) + (6 - q) ≤ f → CT g (yRQ q) (9 * (8 - o) + 2 * (8 - t) + (6 - q) + 4) 0 0 [gR 49, gI (o : Int), gI (t : Int)] (N, F1) (RQ N F n key (zpar B n key f q o t R))
def RPl (g : GX) (N : Nat) (F : Nat → GC) (B : Nat → Int) (n key f : Nat) : Prop := ∀ (q o t : Nat) (R : ZR) (F1 : Nat → GC) (mo : Nat) (x : GV), q < 5 → o ≤ 8 → t ≤ 8 → RIn F n key B R F1 → 8 * (98 - R.fr) ≤ f → mo ≤ R.fr → Go g (yRQ q) (9 * (8 - o) + 2 * (8 - t) + (6 - q) + 4) 0 0 (pQ q) (LR q o t mo x) [] (N, F1) (RQ N F n key (zpar B n key f (q + 6) o t R))
theorem RIn.up {f q : Nat} (h : RIn F n key B R F1) (hB : BYT B n) (hq : q ≤ 5) (h2 : RS F n key (zpar B n key f q o t R) F2) (hk : (zpar B n key f q o t R).ok = true) : RIn F n key B (zpar B n key f q o t R) F2 ∧ R.fr < (zpar B n key f q o t R).fr := by
  have g1 := zpar_go hB key f q o t R h.2.1 h.2.2.2.1
  unfold ZR.go at g1
  have a := h.2.2.2.2
  have := g1.2.2.1 hq hk
  exact ⟨⟨h2, g1.1, zpar_wd key f q o t R h.2.2.1, hk, by omega, by omega⟩, this⟩
theorem RIn.lp {f q : Nat} (h : RIn F n key B R F1) (hB : BYT B n) (h0 : R.so ≠ 0) : ((R.nx B n).wf n ∧ (R.nx B n).wd B ∧ R.fr < (R.nx B n).fr ∧ R.fr < n) ∧ (zpar B n key f q o t (R.nx B n)).out.length + 1 ≤ (zpar B n key f q o t (R.nx B n)).fr ∧ (zpar B n key f q o t (R.nx B n)).pcs ≤ (zpar B n key f q o t (R.nx B n)).fr ∧ (zpar B n key f q o t (R.nx B n)).wf n ∧ (zpar B n key f q o t (R.nx B n)).wd B ∧ R.fr < (zpar B n key f q o t (R.nx B n)).fr ∧ (zpar B n key f q o t (R.nx B n)).fr ≤ 96 := by
  obtain ⟨h1, h2⟩ := ZR.nx_wf hB h.2.1
  have h3 := h.2.1.2.2.1 h0
  have g1 := zpar_go hB key f q o t _ h1 h.2.2.2.1
  unfold ZR.go at g1
  have e1 : (R.nx B n).out = R.out := rfl
  have e2 : (R.nx B n).pcs = R.pcs := rfl
  rw [e1, e2] at g1
  have a := h.2.2.2.2
  have b := g1.1.1
  have c := g1.1.2.1
  have d := hB.1
  have e := h.2.1.2.1
  exact ⟨⟨h1, ZR.nx_wd R B n, by omega, by omega⟩, by omega, by omega, g1.1, zpar_wd key f q o t _ (ZR.nx_wd R B n), by omega, by omega⟩
theorem RIn.nx (h : RIn F n key B R F1) (hB : BYT B n) (h2 : RS F n key (R.nx B n) F2) : RIn F n key B (R.nx B n) F2 := by
  obtain ⟨h1, h3⟩ := ZR.nx_wf hB h.2.1
  have a := h.2.1.1
  have b := h.2.2.2.2
  exact ⟨h2, h1, ZR.nx_wd R B n, h.2.2.2.1, by show R.out.length ≤ _; omega, by show R.pcs ≤ _; omega⟩
theorem RIn.pt {R1 : ZR} {c : Int} (h2 : RS F n key (R1.put c) F2) (hw : R1.wf n) (hd : R1.wd B) (hk : R1.ok = true) (hl : R1.out.length + 1 ≤ R1.fr) (hp : R1.pcs ≤ R1.fr) : RIn F n key B (R1.put c) F2 := by
  refine ⟨h2, hw, hd, hk, ?_, hp⟩
  show (R1.out ++ [c]).length ≤ R1.fr
  rw [List.length_append, List.length_singleton]
  exact hl
theorem zbq {c : Prop} [Decidable c] : narrow .boolean (.int (Int32.ofInt (if c then 1 else 0))) = .int (Int32.ofInt (if c then 1 else 0)) := by
  split <;> rfl

theorem rx_readOr {mo : Int} (h : RS F n key R F1) (hk : ¬ R.ok = true) : Go g yR_readOr (9 * (8 - o) + 2 * (8 - t) + (6 - 0) + 4) 0 0 10 [gR 49, gI (o : Int), gI (t : Int), gI 0, gI mo] [] (N, F1) (RQ N F n key R) := by
  refine go_iload dR_readOr_10 rfl ?_
  refine go_bipush dR_readOr_12 (inR_of _ rfl) rfl ?_
  refine go_ic_ge 53 dR_readOr_14 rfl (fun h14 => ?_) (fun h14 => ?_)
  · refine go_iload_n (i := 3) dR_readOr_53 rfl rfl ?_
    refine go_iret dR_readOr_54 rfl (zb (by simp)) ?_
    exact ⟨by rw [if_neg hk], F1, rfl, h⟩
  · refine go_iload_n (i := 3) dR_readOr_17 rfl rfl ?_
    refine go_if_eq 53 dR_readOr_18 rfl (fun h18 => ?_) (fun h18 => absurd (by omega) h18)
    refine go_iload_n (i := 3) dR_readOr_53 rfl rfl ?_
    refine go_iret dR_readOr_54 rfl (zb (by simp)) ?_
    exact ⟨by rw [if_neg hk], F1, rfl, h⟩
theorem rl_readOr {f mo : Nat} (hE : RE F B n key) (ic : RPc g N F B n key f) (il : RPl g N F B n key f) (ho8 : o ≤ 8) (ht8 : t ≤ 8) (hI : RIn F n key B R F1) (hf : 8 * (98 - R.fr) ≤ f + 1) (hm : mo ≤ R.fr) : Go g yR_readOr (9 * (8 - o) + 2 * (8 - t) + (6 - 0) + 4) 0 0 10 [gR 49, gI (o : Int), gI (t : Int), gI 1, gI (mo : Int)] [] (N, F1) (RQ N F n key (zpar B n key (f + 1) (0 + 6) o t R)) := by
  have h := hI.1
  have hB := hE.2.1
  have hn := hB.1
  have hk := hI.2.2.2.1
  obtain ⟨sz, op, ho⟩ := h.ho
  have sg := fun c : Int => RS.sign (g := g) (N := N) h hE hI.2.1 c
  by_cases hs : R.so = 3 ∧ zopd 0 (B R.fr) = true
  · obtain ⟨⟨hw1, hd1, hfr, hfn⟩, l1, p1, w1, d1, f1, f96⟩ := hI.lp (o := o) (t := t) (key := key) (f := f) (q := 1) hB (by omega)
    have hop := hs.2
    rw [zopd_0] at hop
    refine go_iload dR_readOr_10 rfl ?_
    refine go_bipush dR_readOr_12 (inR_of _ rfl) rfl ?_
    refine go_ic_ge 53 dR_readOr_14 rfl (fun h14 => absurd h14 (by omega)) (fun h14 => ?_)
    refine go_iload_n (i := 3) dR_readOr_17 rfl rfl ?_
    refine go_if_eq 53 dR_readOr_18 rfl (fun h18 => absurd h18 (by omega)) (fun h18 => ?_)
    refine go_aload_n (i := 0) dR_readOr_21 rfl rfl trivial ?_
    refine go_bipush dR_readOr_22 (inR_of _ rfl) rfl ?_
    refine go_VP dR_readOr_24 vkR91 (by assumption) (List.cons_ne_nil _ _) (sg 124) rfl (by omega) rfl (fun _ => Nat.le_of_ble_eq_true rfl) ?_
    refine go_if_eq 53 dR_readOr_27 rfl (fun h27 => absurd h27 (sg1 ⟨hs.1, hop⟩)) (fun h27 => ?_)
    refine go_aload_n (i := 0) dR_readOr_30 rfl rfl trivial ?_
    refine go_VX dR_readOr_31 vkR51 (by assumption) (List.cons_ne_nil _ _) (h.adv hE hI.2.1) rfl (by omega) (by omega) (by omega) rfl (fun _ => Nat.le_of_ble_eq_true rfl) ?_
    rintro _ _ ⟨rfl, F2, rfl, h2⟩ -
    dsimp only [rp]
    have hI2 := hI.nx hB h2
    obtain ⟨sz, op, ho⟩ := h2.ho
    refine go_aload_n (i := 0) dR_readOr_34 rfl rfl trivial ?_
    refine go_iload_n (i := 1) dR_readOr_35 rfl rfl ?_
    refine go_iload_n (i := 2) dR_readOr_36 rfl rfl ?_
    refine go_VX dR_readOr_37 vkR88 (by assumption) (List.cons_ne_nil _ _) (ic 1 o t (R.nx B n) F2 (by omega) ho8 ht8 hI2 (by omega)) rfl (by omega) (by omega) (by omega) rfl (fun _ => Nat.le_of_ble_eq_true rfl) ?_
    rintro _ _ ⟨rfl, F3, rfl, h3⟩ -
    dsimp only [rp]
    obtain ⟨sz, op, ho⟩ := h3.ho
    refine go_is3 dR_readOr_40 (Nat.le_of_ble_eq_true rfl) trivial ?_
    refine go_aload_n (i := 0) dR_readOr_41 rfl rfl trivial ?_
    refine go_bipush dR_readOr_42 (inR_of _ rfl) rfl ?_
    refine go_top (zwm (-10 - B R.fr)) (by rw [hop]; decide) ?_
    refine go_VX dR_readOr_44 vkR94 (by assumption) (List.cons_ne_nil _ _) (h3.wr (-10 - B R.fr) (fun _ => by omega)) rfl (by omega) (by omega) (by omega) rfl (fun _ => Nat.le_of_ble_eq_true rfl) ?_
    rintro _ _ ⟨rfl, F4, rfl, h4⟩ -
    dsimp only [rp]
    refine go_inc4 (((mo + 1 : Nat) : Int)) dR_readOr_47 (Nat.le_of_ble_eq_true rfl) trivial (by (try simp (discharger := (unfold inR; omega)) only [w32_id]) <;> omega) ?_
    refine go_goto 10 dR_readOr_50 rfl ?_
    by_cases hk1 : (zpar B n key f 1 o t (R.nx B n)).ok = true
    · rw [if_pos hk1, zpar_lp hs hk1 (by omega)]
      exact il 0 o t _ F4 (mo + 1) gU (by omega) ho8 ht8 (RIn.pt h4 w1 d1 hk1 l1 p1) (by show 8 * (98 - (zpar B n key f 1 o t (R.nx B n)).fr) ≤ f; omega) (by show mo + 1 ≤ (zpar B n key f 1 o t (R.nx B n)).fr; omega)
    · rw [if_neg hk1, zpar_le hs (fun hh => hk1 hh.1)]
      exact rx_readOr h4 (fun hh => hk1 hh)
  · rw [zpar_st hs]
    rw [zopd_0] at hs
    have ex : Go g yR_readOr (9 * (8 - o) + 2 * (8 - t) + (6 - 0) + 4) 0 0 53 [gR 49, gI (o : Int), gI (t : Int), gI 1, gI (mo : Int)] [] (N, F1) (RQ N F n key R) := by
      refine go_iload_n (i := 3) dR_readOr_53 rfl rfl ?_
      refine go_iret dR_readOr_54 rfl (zb (by simp)) ?_
      exact ⟨by rw [if_pos hk], F1, rfl, h⟩
    refine go_iload dR_readOr_10 rfl ?_
    refine go_bipush dR_readOr_12 (inR_of _ rfl) rfl ?_
    refine go_ic_ge 53 dR_readOr_14 rfl (fun h14 => ?_) (fun h14 => ?_)
    · exact ex
    · refine go_iload_n (i := 3) dR_readOr_17 rfl rfl ?_
      refine go_if_eq 53 dR_readOr_18 rfl (fun h18 => absurd h18 (by omega)) (fun h18 => ?_)
      refine go_aload_n (i := 0) dR_readOr_21 rfl rfl trivial ?_
      refine go_bipush dR_readOr_22 (inR_of _ rfl) rfl ?_
      refine go_VP dR_readOr_24 vkR91 (by assumption) (List.cons_ne_nil _ _) (sg 124) rfl (by omega) rfl (fun _ => Nat.le_of_ble_eq_true rfl) ?_
      refine go_if_eq 53 dR_readOr_27 rfl (fun h27 => ?_) (fun h27 => absurd (sg0 (fun hh => hs ⟨hh.1, hh.2⟩)) h27)
      exact ex
theorem ru_readOr {f : Nat} (hE : RE F B n key) (ic : RPc g N F B n key f) (il : RPl g N F B n key f) (ho8 : o ≤ 8) (ht8 : t ≤ 8) (hI : RIn F n key B R F1) (hf : 8 * (98 - R.fr) + (6 - 0) ≤ f + 1) : CT g yR_readOr (9 * (8 - o) + 2 * (8 - t) + (6 - 0) + 4) 0 0 [gR 49, gI (o : Int), gI (t : Int)] (N, F1) (RQ N F n key (zpar B n key (f + 1) 0 o t R)) := by
  have hB := hE.2.1
  have hn := hB.1
  have w1 := hI.2.1.1
  have w2 := hI.2.1.2.1
  obtain ⟨sz, op, ho⟩ := hI.1.ho
  refine CT.of' (L0 := [gR 49, gI (o : Int), gI (t : Int), gU, gU]) plR (Nat.le_of_ble_eq_true rfl) rfl ?_
  refine go_aload_n (i := 0) dR_readOr_0 rfl rfl trivial ?_
  refine go_iload_n (i := 1) dR_readOr_1 rfl rfl ?_
  refine go_iload_n (i := 2) dR_readOr_2 rfl rfl ?_
  refine go_VX dR_readOr_3 vkR88 (by assumption) (List.cons_ne_nil _ _) (ic 1 o t R F1 (by omega) ho8 ht8 hI (by omega)) rfl (by omega) (by omega) (by omega) rfl (fun _ => Nat.le_of_ble_eq_true rfl) ?_
  rintro _ _ ⟨rfl, F2, rfl, h2⟩ -
  dsimp only [rp]
  refine go_is3 dR_readOr_6 (Nat.le_of_ble_eq_true rfl) trivial ?_
  refine go_iconst dR_readOr_7 (inR_of _ rfl) ?_
  refine go_is4 dR_readOr_8 (Nat.le_of_ble_eq_true rfl) trivial ?_
  by_cases hk : (zpar B n key f 1 o t R).ok = true
  · obtain ⟨hI2, hlt⟩ := hI.up hB (by omega) h2 hk
    rw [if_pos hk, zpar_up (by omega) hk]
    exact il 0 o t (zpar B n key f 1 o t R) F2 0 gU (by omega) ho8 ht8 hI2 (by omega) (by omega)
  · rw [if_neg hk, zpar_up0 (by omega) hk]
    exact rx_readOr h2 hk
theorem rx_readAnd {mo : Int} (h : RS F n key R F1) (hk : ¬ R.ok = true) : Go g yR_readAnd (9 * (8 - o) + 2 * (8 - t) + (6 - 1) + 4) 0 0 10 [gR 49, gI (o : Int), gI (t : Int), gI 0, gI mo] [] (N, F1) (RQ N F n key R) := by
  refine go_iload dR_readAnd_10 rfl ?_
  refine go_bipush dR_readAnd_12 (inR_of _ rfl) rfl ?_
  refine go_ic_ge 53 dR_readAnd_14 rfl (fun h14 => ?_) (fun h14 => ?_)
  · refine go_iload_n (i := 3) dR_readAnd_53 rfl rfl ?_
    refine go_iret dR_readAnd_54 rfl (zb (by simp)) ?_
    exact ⟨by rw [if_neg hk], F1, rfl, h⟩
  · refine go_iload_n (i := 3) dR_readAnd_17 rfl rfl ?_
    refine go_if_eq 53 dR_readAnd_18 rfl (fun h18 => ?_) (fun h18 => absurd (by omega) h18)
    refine go_iload_n (i := 3) dR_readAnd_53 rfl rfl ?_
    refine go_iret dR_readAnd_54 rfl (zb (by simp)) ?_
    exact ⟨by rw [if_neg hk], F1, rfl, h⟩
theorem rl_readAnd {f mo : Nat} (hE : RE F B n key) (ic : RPc g N F B n key f) (il : RPl g N F B n key f) (ho8 : o ≤ 8) (ht8 : t ≤ 8) (hI : RIn F n key B R F1) (hf : 8 * (98 - R.fr) ≤ f + 1) (hm : mo ≤ R.fr) : Go g yR_readAnd (9 * (8 - o) + 2 * (8 - t) + (6 - 1) + 4) 0 0 10 [gR 49, gI (o : Int), gI (t : Int), gI 1, gI (mo : Int)] [] (N, F1) (RQ N F n key (zpar B n key (f + 1) (1 + 6) o t R)) := by
  have h := hI.1
  have hB := hE.2.1
  have hn := hB.1
  have hk := hI.2.2.2.1
  obtain ⟨sz, op, ho⟩ := h.ho
  have sg := fun c : Int => RS.sign (g := g) (N := N) h hE hI.2.1 c
  by_cases hs : R.so = 3 ∧ zopd 1 (B R.fr) = true
  · obtain ⟨⟨hw1, hd1, hfr, hfn⟩, l1, p1, w1, d1, f1, f96⟩ := hI.lp (o := o) (t := t) (key := key) (f := f) (q := 2) hB (by omega)
    have hop := hs.2
    rw [zopd_1] at hop
    refine go_iload dR_readAnd_10 rfl ?_
    refine go_bipush dR_readAnd_12 (inR_of _ rfl) rfl ?_
    refine go_ic_ge 53 dR_readAnd_14 rfl (fun h14 => absurd h14 (by omega)) (fun h14 => ?_)
    refine go_iload_n (i := 3) dR_readAnd_17 rfl rfl ?_
    refine go_if_eq 53 dR_readAnd_18 rfl (fun h18 => absurd h18 (by omega)) (fun h18 => ?_)
    refine go_aload_n (i := 0) dR_readAnd_21 rfl rfl trivial ?_
    refine go_bipush dR_readAnd_22 (inR_of _ rfl) rfl ?_
    refine go_VP dR_readAnd_24 vkR91 (by assumption) (List.cons_ne_nil _ _) (sg 38) rfl (by omega) rfl (fun _ => Nat.le_of_ble_eq_true rfl) ?_
    refine go_if_eq 53 dR_readAnd_27 rfl (fun h27 => absurd h27 (sg1 ⟨hs.1, hop⟩)) (fun h27 => ?_)
    refine go_aload_n (i := 0) dR_readAnd_30 rfl rfl trivial ?_
    refine go_VX dR_readAnd_31 vkR51 (by assumption) (List.cons_ne_nil _ _) (h.adv hE hI.2.1) rfl (by omega) (by omega) (by omega) rfl (fun _ => Nat.le_of_ble_eq_true rfl) ?_
    rintro _ _ ⟨rfl, F2, rfl, h2⟩ -
    dsimp only [rp]
    have hI2 := hI.nx hB h2
    obtain ⟨sz, op, ho⟩ := h2.ho
    refine go_aload_n (i := 0) dR_readAnd_34 rfl rfl trivial ?_
    refine go_iload_n (i := 1) dR_readAnd_35 rfl rfl ?_
    refine go_iload_n (i := 2) dR_readAnd_36 rfl rfl ?_
    refine go_VX dR_readAnd_37 vkR98 (by assumption) (List.cons_ne_nil _ _) (ic 2 o t (R.nx B n) F2 (by omega) ho8 ht8 hI2 (by omega)) rfl (by omega) (by omega) (by omega) rfl (fun _ => Nat.le_of_ble_eq_true rfl) ?_
    rintro _ _ ⟨rfl, F3, rfl, h3⟩ -
    dsimp only [rp]
    obtain ⟨sz, op, ho⟩ := h3.ho
    refine go_is3 dR_readAnd_40 (Nat.le_of_ble_eq_true rfl) trivial ?_
    refine go_aload_n (i := 0) dR_readAnd_41 rfl rfl trivial ?_
    refine go_bipush dR_readAnd_42 (inR_of _ rfl) rfl ?_
    refine go_top (zwm (-10 - B R.fr)) (by rw [hop]; decide) ?_
    refine go_VX dR_readAnd_44 vkR94 (by assumption) (List.cons_ne_nil _ _) (h3.wr (-10 - B R.fr) (fun _ => by omega)) rfl (by omega) (by omega) (by omega) rfl (fun _ => Nat.le_of_ble_eq_true rfl) ?_
    rintro _ _ ⟨rfl, F4, rfl, h4⟩ -
    dsimp only [rp]
    refine go_inc4 (((mo + 1 : Nat) : Int)) dR_readAnd_47 (Nat.le_of_ble_eq_true rfl) trivial (by (try simp (discharger := (unfold inR; omega)) only [w32_id]) <;> omega) ?_
    refine go_goto 10 dR_readAnd_50 rfl ?_
    by_cases hk1 : (zpar B n key f 2 o t (R.nx B n)).ok = true
    · rw [if_pos hk1, zpar_lp hs hk1 (by omega)]
      exact il 1 o t _ F4 (mo + 1) gU (by omega) ho8 ht8 (RIn.pt h4 w1 d1 hk1 l1 p1) (by show 8 * (98 - (zpar B n key f 2 o t (R.nx B n)).fr) ≤ f; omega) (by show mo + 1 ≤ (zpar B n key f 2 o t (R.nx B n)).fr; omega)
    · rw [if_neg hk1, zpar_le hs (fun hh => hk1 hh.1)]
      exact rx_readAnd h4 (fun hh => hk1 hh)
  · rw [zpar_st hs]
    rw [zopd_1] at hs
    have ex : Go g yR_readAnd (9 * (8 - o) + 2 * (8 - t) + (6 - 1) + 4) 0 0 53 [gR 49, gI (o : Int), gI (t : Int), gI 1, gI (mo : Int)] [] (N, F1) (RQ N F n key R) := by
      refine go_iload_n (i := 3) dR_readAnd_53 rfl rfl ?_
      refine go_iret dR_readAnd_54 rfl (zb (by simp)) ?_
      exact ⟨by rw [if_pos hk], F1, rfl, h⟩
    refine go_iload dR_readAnd_10 rfl ?_
    refine go_bipush dR_readAnd_12 (inR_of _ rfl) rfl ?_
    refine go_ic_ge 53 dR_readAnd_14 rfl (fun h14 => ?_) (fun h14 => ?_)
    · exact ex
    · refine go_iload_n (i := 3) dR_readAnd_17 rfl rfl ?_
      refine go_if_eq 53 dR_readAnd_18 rfl (fun h18 => absurd h18 (by omega)) (fun h18 => ?_)
      refine go_aload_n (i := 0) dR_readAnd_21 rfl rfl trivial ?_
      refine go_bipush dR_readAnd_22 (inR_of _ rfl) rfl ?_
      refine go_VP dR_readAnd_24 vkR91 (by assumption) (List.cons_ne_nil _ _) (sg 38) rfl (by omega) rfl (fun _ => Nat.le_of_ble_eq_true rfl) ?_
      refine go_if_eq 53 dR_readAnd_27 rfl (fun h27 => ?_) (fun h27 => absurd (sg0 (fun hh => hs ⟨hh.1, hh.2⟩)) h27)
      exact ex
theorem ru_readAnd {f : Nat} (hE : RE F B n key) (ic : RPc g N F B n key f) (il : RPl g N F B n key f) (ho8 : o ≤ 8) (ht8 : t ≤ 8) (hI : RIn F n key B R F1) (hf : 8 * (98 - R.fr) + (6 - 1) ≤ f + 1) : CT g yR_readAnd (9 * (8 - o) + 2 * (8 - t) + (6 - 1) + 4) 0 0 [gR 49, gI (o : Int), gI (t : Int)] (N, F1) (RQ N F n key (zpar B n key (f + 1) 1 o t R)) := by
  have hB := hE.2.1
  have hn := hB.1
  have w1 := hI.2.1.1
  have w2 := hI.2.1.2.1
  obtain ⟨sz, op, ho⟩ := hI.1.ho
  refine CT.of' (L0 := [gR 49, gI (o : Int), gI (t : Int), gU, gU]) plR (Nat.le_of_ble_eq_true rfl) rfl ?_
  refine go_aload_n (i := 0) dR_readAnd_0 rfl rfl trivial ?_
  refine go_iload_n (i := 1) dR_readAnd_1 rfl rfl ?_
  refine go_iload_n (i := 2) dR_readAnd_2 rfl rfl ?_
  refine go_VX dR_readAnd_3 vkR98 (by assumption) (List.cons_ne_nil _ _) (ic 2 o t R F1 (by omega) ho8 ht8 hI (by omega)) rfl (by omega) (by omega) (by omega) rfl (fun _ => Nat.le_of_ble_eq_true rfl) ?_
  rintro _ _ ⟨rfl, F2, rfl, h2⟩ -
  dsimp only [rp]
  refine go_is3 dR_readAnd_6 (Nat.le_of_ble_eq_true rfl) trivial ?_
  refine go_iconst dR_readAnd_7 (inR_of _ rfl) ?_
  refine go_is4 dR_readAnd_8 (Nat.le_of_ble_eq_true rfl) trivial ?_
  by_cases hk : (zpar B n key f 2 o t R).ok = true
  · obtain ⟨hI2, hlt⟩ := hI.up hB (by omega) h2 hk
    rw [if_pos hk, zpar_up (by omega) hk]
    exact il 1 o t (zpar B n key f 2 o t R) F2 0 gU (by omega) ho8 ht8 hI2 (by omega) (by omega)
  · rw [if_neg hk, zpar_up0 (by omega) hk]
    exact rx_readAnd h2 hk
theorem rx_readSum {x : GV} {mo : Int} (h : RS F n key R F1) (hk : ¬ R.ok = true) : Go g yR_readSum (9 * (8 - o) + 2 * (8 - t) + (6 - 3) + 4) 0 0 10 [gR 49, gI (o : Int), gI (t : Int), gI 0, gI mo, x] [] (N, F1) (RQ N F n key R) := by
  refine go_iload dR_readSum_10 rfl ?_
  refine go_bipush dR_readSum_12 (inR_of _ rfl) rfl ?_
  refine go_ic_ge 80 dR_readSum_14 rfl (fun h14 => ?_) (fun h14 => ?_)
  · refine go_iload_n (i := 3) dR_readSum_80 rfl rfl ?_
    refine go_iret dR_readSum_81 rfl (zb (by simp)) ?_
    exact ⟨by rw [if_neg hk], F1, rfl, h⟩
  · refine go_iload_n (i := 3) dR_readSum_17 rfl rfl ?_
    refine go_if_eq 80 dR_readSum_18 rfl (fun h18 => ?_) (fun h18 => absurd (by omega) h18)
    refine go_iload_n (i := 3) dR_readSum_80 rfl rfl ?_
    refine go_iret dR_readSum_81 rfl (zb (by simp)) ?_
    exact ⟨by rw [if_neg hk], F1, rfl, h⟩
theorem rl_readSum {f mo : Nat} {x : GV} (hE : RE F B n key) (ic : RPc g N F B n key f) (il : RPl g N F B n key f) (ho8 : o ≤ 8) (ht8 : t ≤ 8) (hI : RIn F n key B R F1) (hf : 8 * (98 - R.fr) ≤ f + 1) (hm : mo ≤ R.fr) : Go g yR_readSum (9 * (8 - o) + 2 * (8 - t) + (6 - 3) + 4) 0 0 10 [gR 49, gI (o : Int), gI (t : Int), gI 1, gI (mo : Int), x] [] (N, F1) (RQ N F n key (zpar B n key (f + 1) (3 + 6) o t R)) := by
  have h := hI.1
  have hB := hE.2.1
  have hn := hB.1
  have hk := hI.2.2.2.1
  obtain ⟨sz, op, ho⟩ := h.ho
  have sg := fun c : Int => RS.sign (g := g) (N := N) h hE hI.2.1 c
  by_cases hs : R.so = 3 ∧ zopd 3 (B R.fr) = true
  · obtain ⟨⟨hw1, hd1, hfr, hfn⟩, l1, p1, w1, d1, f1, f96⟩ := hI.lp (o := o) (t := t) (key := key) (f := f) (q := 4) hB (by omega)
    have hop := hs.2
    rw [zopd_3] at hop
    have body : ∀ w : Int, w = zwm (-10 - B R.fr) → ∀ x : GV, Go g yR_readSum (9 * (8 - o) + 2 * (8 - t) + (6 - 3) + 4) 0 0 55 [gR 49, gI (o : Int), gI (t : Int), gI 1, gI (mo : Int), x] [gI w] (N, F1) (RQ N F n key (zpar B n key (f + 1) (3 + 6) o t R)) := by
      intro w hw x
      subst hw
      refine go_is5 dR_readSum_55 (Nat.le_of_ble_eq_true rfl) trivial ?_
      refine go_aload_n (i := 0) dR_readSum_57 rfl rfl trivial ?_
      refine go_VX dR_readSum_58 vkR51 (by assumption) (List.cons_ne_nil _ _) (h.adv hE hI.2.1) rfl (by omega) (by omega) (by omega) rfl (fun _ => Nat.le_of_ble_eq_true rfl) ?_
      rintro _ _ ⟨rfl, F2, rfl, h2⟩ -
      dsimp only [rp]
      have hI2 := hI.nx hB h2
      obtain ⟨sz, op, ho⟩ := h2.ho
      refine go_aload_n (i := 0) dR_readSum_61 rfl rfl trivial ?_
      refine go_iload_n (i := 1) dR_readSum_62 rfl rfl ?_
      refine go_iload_n (i := 2) dR_readSum_63 rfl rfl ?_
      refine go_VX dR_readSum_64 vkR104 (by assumption) (List.cons_ne_nil _ _) (ic 4 o t (R.nx B n) F2 (by omega) ho8 ht8 hI2 (by omega)) rfl (by omega) (by omega) (by omega) rfl (fun _ => Nat.le_of_ble_eq_true rfl) ?_
      rintro _ _ ⟨rfl, F3, rfl, h3⟩ -
      dsimp only [rp]
      obtain ⟨sz, op, ho⟩ := h3.ho
      refine go_is3 dR_readSum_67 (Nat.le_of_ble_eq_true rfl) trivial ?_
      refine go_aload_n (i := 0) dR_readSum_68 rfl rfl trivial ?_
      refine go_iload dR_readSum_69 rfl ?_
      refine go_VX dR_readSum_71 vkR94 (by assumption) (List.cons_ne_nil _ _) (h3.wr (-10 - B R.fr) (fun _ => by omega)) rfl (by omega) (by omega) (by omega) rfl (fun _ => Nat.le_of_ble_eq_true rfl) ?_
      rintro _ _ ⟨rfl, F4, rfl, h4⟩ -
      dsimp only [rp]
      refine go_inc4 (((mo + 1 : Nat) : Int)) dR_readSum_74 (Nat.le_of_ble_eq_true rfl) trivial (by (try simp (discharger := (unfold inR; omega)) only [w32_id]) <;> omega) ?_
      refine go_goto 10 dR_readSum_77 rfl ?_
      by_cases hk1 : (zpar B n key f 4 o t (R.nx B n)).ok = true
      · rw [if_pos hk1, zpar_lp hs hk1 (by omega)]
        exact il 3 o t _ F4 (mo + 1) _ (by omega) ho8 ht8 (RIn.pt h4 w1 d1 hk1 l1 p1) (by show 8 * (98 - (zpar B n key f 4 o t (R.nx B n)).fr) ≤ f; omega) (by show mo + 1 ≤ (zpar B n key f 4 o t (R.nx B n)).fr; omega)
      · rw [if_neg hk1, zpar_le hs (fun hh => hk1 hh.1)]
        exact rx_readSum h4 (fun hh => hk1 hh)
    have at39 : Go g yR_readSum (9 * (8 - o) + 2 * (8 - t) + (6 - 3) + 4) 0 0 39 [gR 49, gI (o : Int), gI (t : Int), gI 1, gI (mo : Int), x] [] (N, F1) (RQ N F n key (zpar B n key (f + 1) (3 + 6) o t R)) := by
      refine go_aload_n (i := 0) dR_readSum_39 rfl rfl trivial ?_
      refine go_bipush dR_readSum_40 (inR_of _ rfl) rfl ?_
      refine go_VP dR_readSum_42 vkR91 (by assumption) (List.cons_ne_nil _ _) (sg 43) rfl (by omega) rfl (fun _ => Nat.le_of_ble_eq_true rfl) ?_
      refine go_if_eq 53 dR_readSum_45 rfl (fun h45 => ?_) (fun h45 => ?_)
      · have c2 : B R.fr = 45 := by
          rcases hop with q | q
          · exact absurd ⟨hs.1, q⟩ (sgN h45)
          · exact q
        refine go_bipush dR_readSum_53 (inR_of _ rfl) rfl ?_
        exact body _ (by rw [c2]; decide) _
      · have c1 : B R.fr = 43 := (sgP h45).2
        refine go_bipush dR_readSum_48 (inR_of _ rfl) rfl ?_
        refine go_goto 55 dR_readSum_50 rfl ?_
        exact body _ (by rw [c1]; decide) _
    refine go_iload dR_readSum_10 rfl ?_
    refine go_bipush dR_readSum_12 (inR_of _ rfl) rfl ?_
    refine go_ic_ge 80 dR_readSum_14 rfl (fun h14 => absurd h14 (by omega)) (fun h14 => ?_)
    refine go_iload_n (i := 3) dR_readSum_17 rfl rfl ?_
    refine go_if_eq 80 dR_readSum_18 rfl (fun h18 => absurd h18 (by omega)) (fun h18 => ?_)
    refine go_aload_n (i := 0) dR_readSum_21 rfl rfl trivial ?_
    refine go_bipush dR_readSum_22 (inR_of _ rfl) rfl ?_
    refine go_VP dR_readSum_24 vkR91 (by assumption) (List.cons_ne_nil _ _) (sg 43) rfl (by omega) rfl (fun _ => Nat.le_of_ble_eq_true rfl) ?_
    refine go_if_ne 39 dR_readSum_27 rfl (fun h27 => ?_) (fun h27 => ?_)
    · exact at39
    · have c2 : B R.fr = 45 := by
        rcases hop with q | q
        · exact absurd ⟨hs.1, q⟩ (sgN h27)
        · exact q
      refine go_aload_n (i := 0) dR_readSum_30 rfl rfl trivial ?_
      refine go_bipush dR_readSum_31 (inR_of _ rfl) rfl ?_
      refine go_VP dR_readSum_33 vkR91 (by assumption) (List.cons_ne_nil _ _) (sg 45) rfl (by omega) rfl (fun _ => Nat.le_of_ble_eq_true rfl) ?_
      refine go_if_eq 80 dR_readSum_36 rfl (fun h36 => absurd h36 (sg1 ⟨hs.1, c2⟩)) (fun h36 => ?_)
      exact at39
  · rw [zpar_st hs]
    rw [zopd_3] at hs
    have ex : Go g yR_readSum (9 * (8 - o) + 2 * (8 - t) + (6 - 3) + 4) 0 0 80 [gR 49, gI (o : Int), gI (t : Int), gI 1, gI (mo : Int), x] [] (N, F1) (RQ N F n key R) := by
      refine go_iload_n (i := 3) dR_readSum_80 rfl rfl ?_
      refine go_iret dR_readSum_81 rfl (zb (by simp)) ?_
      exact ⟨by rw [if_pos hk], F1, rfl, h⟩
    refine go_iload dR_readSum_10 rfl ?_
    refine go_bipush dR_readSum_12 (inR_of _ rfl) rfl ?_
    refine go_ic_ge 80 dR_readSum_14 rfl (fun h14 => ?_) (fun h14 => ?_)
    · exact ex
    · refine go_iload_n (i := 3) dR_readSum_17 rfl rfl ?_
      refine go_if_eq 80 dR_readSum_18 rfl (fun h18 => absurd h18 (by omega)) (fun h18 => ?_)
      refine go_aload_n (i := 0) dR_readSum_21 rfl rfl trivial ?_
      refine go_bipush dR_readSum_22 (inR_of _ rfl) rfl ?_
      refine go_VP dR_readSum_24 vkR91 (by assumption) (List.cons_ne_nil _ _) (sg 43) rfl (by omega) rfl (fun _ => Nat.le_of_ble_eq_true rfl) ?_
      refine go_if_ne 39 dR_readSum_27 rfl (fun h8 => absurd (sg0 (fun hh => hs ⟨hh.1, Or.inl hh.2⟩)) h8) (fun _ => ?_)
      refine go_aload_n (i := 0) dR_readSum_30 rfl rfl trivial ?_
      refine go_bipush dR_readSum_31 (inR_of _ rfl) rfl ?_
      refine go_VP dR_readSum_33 vkR91 (by assumption) (List.cons_ne_nil _ _) (sg 45) rfl (by omega) rfl (fun _ => Nat.le_of_ble_eq_true rfl) ?_
      refine go_if_eq 80 dR_readSum_36 rfl (fun h36 => ?_) (fun h36 => absurd (sg0 (fun hh => hs ⟨hh.1, Or.inr hh.2⟩)) h36)
      exact ex
theorem ru_readSum {f : Nat} (hE : RE F B n key) (ic : RPc g N F B n key f) (il : RPl g N F B n key f) (ho8 : o ≤ 8) (ht8 : t ≤ 8) (hI : RIn F n key B R F1) (hf : 8 * (98 - R.fr) + (6 - 3) ≤ f + 1) : CT g yR_readSum (9 * (8 - o) + 2 * (8 - t) + (6 - 3) + 4) 0 0 [gR 49, gI (o : Int), gI (t : Int)] (N, F1) (RQ N F n key (zpar B n key (f + 1) 3 o t R)) := by
  have hB := hE.2.1
  have hn := hB.1
  have w1 := hI.2.1.1
  have w2 := hI.2.1.2.1
  obtain ⟨sz, op, ho⟩ := hI.1.ho
  refine CT.of' (L0 := [gR 49, gI (o : Int), gI (t : Int), gU, gU, gU]) plR (Nat.le_of_ble_eq_true rfl) rfl ?_
  refine go_aload_n (i := 0) dR_readSum_0 rfl rfl trivial ?_
  refine go_iload_n (i := 1) dR_readSum_1 rfl rfl ?_
  refine go_iload_n (i := 2) dR_readSum_2 rfl rfl ?_
  refine go_VX dR_readSum_3 vkR104 (by assumption) (List.cons_ne_nil _ _) (ic 4 o t R F1 (by omega) ho8 ht8 hI (by omega)) rfl (by omega) (by omega) (by omega) rfl (fun _ => Nat.le_of_ble_eq_true rfl) ?_
  rintro _ _ ⟨rfl, F2, rfl, h2⟩ -
  dsimp only [rp]
  refine go_is3 dR_readSum_6 (Nat.le_of_ble_eq_true rfl) trivial ?_
  refine go_iconst dR_readSum_7 (inR_of _ rfl) ?_
  refine go_is4 dR_readSum_8 (Nat.le_of_ble_eq_true rfl) trivial ?_
  by_cases hk : (zpar B n key f 4 o t R).ok = true
  · obtain ⟨hI2, hlt⟩ := hI.up hB (by omega) h2 hk
    rw [if_pos hk, zpar_up (by omega) hk]
    exact il 3 o t (zpar B n key f 4 o t R) F2 0 gU (by omega) ho8 ht8 hI2 (by omega) (by omega)
  · rw [if_neg hk, zpar_up0 (by omega) hk]
    exact rx_readSum h2 hk
theorem rx_readTerm {x : GV} {mo : Int} (h : RS F n key R F1) (hk : ¬ R.ok = true) : Go g yR_readTerm (9 * (8 - o) + 2 * (8 - t) + (6 - 4) + 4) 0 0 10 [gR 49, gI (o : Int), gI (t : Int), gI 0, gI mo, x] [] (N, F1) (RQ N F n key R) := by
  refine go_iload dR_readTerm_10 rfl ?_
  refine go_bipush dR_readTerm_12 (inR_of _ rfl) rfl ?_
  refine go_ic_ge 80 dR_readTerm_14 rfl (fun h14 => ?_) (fun h14 => ?_)
  · refine go_iload_n (i := 3) dR_readTerm_80 rfl rfl ?_
    refine go_iret dR_readTerm_81 rfl (zb (by simp)) ?_
    exact ⟨by rw [if_neg hk], F1, rfl, h⟩
  · refine go_iload_n (i := 3) dR_readTerm_17 rfl rfl ?_
    refine go_if_eq 80 dR_readTerm_18 rfl (fun h18 => ?_) (fun h18 => absurd (by omega) h18)
    refine go_iload_n (i := 3) dR_readTerm_80 rfl rfl ?_
    refine go_iret dR_readTerm_81 rfl (zb (by simp)) ?_
    exact ⟨by rw [if_neg hk], F1, rfl, h⟩
theorem rl_readTerm {f mo : Nat} {x : GV} (hE : RE F B n key) (ic : RPc g N F B n key f) (il : RPl g N F B n key f) (ho8 : o ≤ 8) (ht8 : t ≤ 8) (hI : RIn F n key B R F1) (hf : 8 * (98 - R.fr) ≤ f + 1) (hm : mo ≤ R.fr) : Go g yR_readTerm (9 * (8 - o) + 2 * (8 - t) + (6 - 4) + 4) 0 0 10 [gR 49, gI (o : Int), gI (t : Int), gI 1, gI (mo : Int), x] [] (N, F1) (RQ N F n key (zpar B n key (f + 1) (4 + 6) o t R)) := by
  have h := hI.1
  have hB := hE.2.1
  have hn := hB.1
  have hk := hI.2.2.2.1
  obtain ⟨sz, op, ho⟩ := h.ho
  have sg := fun c : Int => RS.sign (g := g) (N := N) h hE hI.2.1 c
  by_cases hs : R.so = 3 ∧ zopd 4 (B R.fr) = true
  · obtain ⟨⟨hw1, hd1, hfr, hfn⟩, l1, p1, w1, d1, f1, f96⟩ := hI.lp (o := o) (t := t) (key := key) (f := f) (q := 5) hB (by omega)
    have hop := hs.2
    rw [zopd_4] at hop
    have body : ∀ w : Int, w = zwm (-10 - B R.fr) → ∀ x : GV, Go g yR_readTerm (9 * (8 - o) + 2 * (8 - t) + (6 - 4) + 4) 0 0 55 [gR 49, gI (o : Int), gI (t : Int), gI 1, gI (mo : Int), x] [gI w] (N, F1) (RQ N F n key (zpar B n key (f + 1) (4 + 6) o t R)) := by
      intro w hw x
      subst hw
      refine go_is5 dR_readTerm_55 (Nat.le_of_ble_eq_true rfl) trivial ?_
      refine go_aload_n (i := 0) dR_readTerm_57 rfl rfl trivial ?_
      refine go_VX dR_readTerm_58 vkR51 (by assumption) (List.cons_ne_nil _ _) (h.adv hE hI.2.1) rfl (by omega) (by omega) (by omega) rfl (fun _ => Nat.le_of_ble_eq_true rfl) ?_
      rintro _ _ ⟨rfl, F2, rfl, h2⟩ -
      dsimp only [rp]
      have hI2 := hI.nx hB h2
      obtain ⟨sz, op, ho⟩ := h2.ho
      refine go_aload_n (i := 0) dR_readTerm_61 rfl rfl trivial ?_
      refine go_iload_n (i := 1) dR_readTerm_62 rfl rfl ?_
      refine go_iload_n (i := 2) dR_readTerm_63 rfl rfl ?_
      refine go_VX dR_readTerm_64 vkR107 (by assumption) (List.cons_ne_nil _ _) (ic 5 o t (R.nx B n) F2 (by omega) ho8 ht8 hI2 (by omega)) rfl (by omega) (by omega) (by omega) rfl (fun _ => Nat.le_of_ble_eq_true rfl) ?_
      rintro _ _ ⟨rfl, F3, rfl, h3⟩ -
      dsimp only [rp]
      obtain ⟨sz, op, ho⟩ := h3.ho
      refine go_is3 dR_readTerm_67 (Nat.le_of_ble_eq_true rfl) trivial ?_
      refine go_aload_n (i := 0) dR_readTerm_68 rfl rfl trivial ?_
      refine go_iload dR_readTerm_69 rfl ?_
      refine go_VX dR_readTerm_71 vkR94 (by assumption) (List.cons_ne_nil _ _) (h3.wr (-10 - B R.fr) (fun _ => by omega)) rfl (by omega) (by omega) (by omega) rfl (fun _ => Nat.le_of_ble_eq_true rfl) ?_
      rintro _ _ ⟨rfl, F4, rfl, h4⟩ -
      dsimp only [rp]
      refine go_inc4 (((mo + 1 : Nat) : Int)) dR_readTerm_74 (Nat.le_of_ble_eq_true rfl) trivial (by (try simp (discharger := (unfold inR; omega)) only [w32_id]) <;> omega) ?_
      refine go_goto 10 dR_readTerm_77 rfl ?_
      by_cases hk1 : (zpar B n key f 5 o t (R.nx B n)).ok = true
      · rw [if_pos hk1, zpar_lp hs hk1 (by omega)]
        exact il 4 o t _ F4 (mo + 1) _ (by omega) ho8 ht8 (RIn.pt h4 w1 d1 hk1 l1 p1) (by show 8 * (98 - (zpar B n key f 5 o t (R.nx B n)).fr) ≤ f; omega) (by show mo + 1 ≤ (zpar B n key f 5 o t (R.nx B n)).fr; omega)
      · rw [if_neg hk1, zpar_le hs (fun hh => hk1 hh.1)]
        exact rx_readTerm h4 (fun hh => hk1 hh)
    have at39 : Go g yR_readTerm (9 * (8 - o) + 2 * (8 - t) + (6 - 4) + 4) 0 0 39 [gR 49, gI (o : Int), gI (t : Int), gI 1, gI (mo : Int), x] [] (N, F1) (RQ N F n key (zpar B n key (f + 1) (4 + 6) o t R)) := by
      refine go_aload_n (i := 0) dR_readTerm_39 rfl rfl trivial ?_
      refine go_bipush dR_readTerm_40 (inR_of _ rfl) rfl ?_
      refine go_VP dR_readTerm_42 vkR91 (by assumption) (List.cons_ne_nil _ _) (sg 42) rfl (by omega) rfl (fun _ => Nat.le_of_ble_eq_true rfl) ?_
      refine go_if_eq 53 dR_readTerm_45 rfl (fun h45 => ?_) (fun h45 => ?_)
      · have c2 : B R.fr = 47 := by
          rcases hop with q | q
          · exact absurd ⟨hs.1, q⟩ (sgN h45)
          · exact q
        refine go_bipush dR_readTerm_53 (inR_of _ rfl) rfl ?_
        exact body _ (by rw [c2]; decide) _
      · have c1 : B R.fr = 42 := (sgP h45).2
        refine go_bipush dR_readTerm_48 (inR_of _ rfl) rfl ?_
        refine go_goto 55 dR_readTerm_50 rfl ?_
        exact body _ (by rw [c1]; decide) _
    refine go_iload dR_readTerm_10 rfl ?_
    refine go_bipush dR_readTerm_12 (inR_of _ rfl) rfl ?_
    refine go_ic_ge 80 dR_readTerm_14 rfl (fun h14 => absurd h14 (by omega)) (fun h14 => ?_)
    refine go_iload_n (i := 3) dR_readTerm_17 rfl rfl ?_
    refine go_if_eq 80 dR_readTerm_18 rfl (fun h18 => absurd h18 (by omega)) (fun h18 => ?_)
    refine go_aload_n (i := 0) dR_readTerm_21 rfl rfl trivial ?_
    refine go_bipush dR_readTerm_22 (inR_of _ rfl) rfl ?_
    refine go_VP dR_readTerm_24 vkR91 (by assumption) (List.cons_ne_nil _ _) (sg 42) rfl (by omega) rfl (fun _ => Nat.le_of_ble_eq_true rfl) ?_
    refine go_if_ne 39 dR_readTerm_27 rfl (fun h27 => ?_) (fun h27 => ?_)
    · exact at39
    · have c2 : B R.fr = 47 := by
        rcases hop with q | q
        · exact absurd ⟨hs.1, q⟩ (sgN h27)
        · exact q
      refine go_aload_n (i := 0) dR_readTerm_30 rfl rfl trivial ?_
      refine go_bipush dR_readTerm_31 (inR_of _ rfl) rfl ?_
      refine go_VP dR_readTerm_33 vkR91 (by assumption) (List.cons_ne_nil _ _) (sg 47) rfl (by omega) rfl (fun _ => Nat.le_of_ble_eq_true rfl) ?_
      refine go_if_eq 80 dR_readTerm_36 rfl (fun h36 => absurd h36 (sg1 ⟨hs.1, c2⟩)) (fun h36 => ?_)
      exact at39
  · rw [zpar_st hs]
    rw [zopd_4] at hs
    have ex : Go g yR_readTerm (9 * (8 - o) + 2 * (8 - t) + (6 - 4) + 4) 0 0 80 [gR 49, gI (o : Int), gI (t : Int), gI 1, gI (mo : Int), x] [] (N, F1) (RQ N F n key R) := by
      refine go_iload_n (i := 3) dR_readTerm_80 rfl rfl ?_
      refine go_iret dR_readTerm_81 rfl (zb (by simp)) ?_
      exact ⟨by rw [if_pos hk], F1, rfl, h⟩
    refine go_iload dR_readTerm_10 rfl ?_
    refine go_bipush dR_readTerm_12 (inR_of _ rfl) rfl ?_
    refine go_ic_ge 80 dR_readTerm_14 rfl (fun h14 => ?_) (fun h14 => ?_)
    · exact ex
    · refine go_iload_n (i := 3) dR_readTerm_17 rfl rfl ?_
      refine go_if_eq 80 dR_readTerm_18 rfl (fun h18 => absurd h18 (by omega)) (fun h18 => ?_)
      refine go_aload_n (i := 0) dR_readTerm_21 rfl rfl trivial ?_
      refine go_bipush dR_readTerm_22 (inR_of _ rfl) rfl ?_
      refine go_VP dR_readTerm_24 vkR91 (by assumption) (List.cons_ne_nil _ _) (sg 42) rfl (by omega) rfl (fun _ => Nat.le_of_ble_eq_true rfl) ?_
      refine go_if_ne 39 dR_readTerm_27 rfl (fun h8 => absurd (sg0 (fun hh => hs ⟨hh.1, Or.inl hh.2⟩)) h8) (fun _ => ?_)
      refine go_aload_n (i := 0) dR_readTerm_30 rfl rfl trivial ?_
      refine go_bipush dR_readTerm_31 (inR_of _ rfl) rfl ?_
      refine go_VP dR_readTerm_33 vkR91 (by assumption) (List.cons_ne_nil _ _) (sg 47) rfl (by omega) rfl (fun _ => Nat.le_of_ble_eq_true rfl) ?_
      refine go_if_eq 80 dR_readTerm_36 rfl (fun h36 => ?_) (fun h36 => absurd (sg0 (fun hh => hs ⟨hh.1, Or.inr hh.2⟩)) h36)
      exact ex
theorem ru_readTerm {f : Nat} (hE : RE F B n key) (ic : RPc g N F B n key f) (il : RPl g N F B n key f) (ho8 : o ≤ 8) (ht8 : t ≤ 8) (hI : RIn F n key B R F1) (hf : 8 * (98 - R.fr) + (6 - 4) ≤ f + 1) : CT g yR_readTerm (9 * (8 - o) + 2 * (8 - t) + (6 - 4) + 4) 0 0 [gR 49, gI (o : Int), gI (t : Int)] (N, F1) (RQ N F n key (zpar B n key (f + 1) 4 o t R)) := by
  have hB := hE.2.1
  have hn := hB.1
  have w1 := hI.2.1.1
  have w2 := hI.2.1.2.1
  obtain ⟨sz, op, ho⟩ := hI.1.ho
  refine CT.of' (L0 := [gR 49, gI (o : Int), gI (t : Int), gU, gU, gU]) plR (Nat.le_of_ble_eq_true rfl) rfl ?_
  refine go_aload_n (i := 0) dR_readTerm_0 rfl rfl trivial ?_
  refine go_iload_n (i := 1) dR_readTerm_1 rfl rfl ?_
  refine go_iload_n (i := 2) dR_readTerm_2 rfl rfl ?_
  refine go_VX dR_readTerm_3 vkR107 (by assumption) (List.cons_ne_nil _ _) (ic 5 o t R F1 (by omega) ho8 ht8 hI (by omega)) rfl (by omega) (by omega) (by omega) rfl (fun _ => Nat.le_of_ble_eq_true rfl) ?_
  rintro _ _ ⟨rfl, F2, rfl, h2⟩ -
  dsimp only [rp]
  refine go_is3 dR_readTerm_6 (Nat.le_of_ble_eq_true rfl) trivial ?_
  refine go_iconst dR_readTerm_7 (inR_of _ rfl) ?_
  refine go_is4 dR_readTerm_8 (Nat.le_of_ble_eq_true rfl) trivial ?_
  by_cases hk : (zpar B n key f 5 o t R).ok = true
  · obtain ⟨hI2, hlt⟩ := hI.up hB (by omega) h2 hk
    rw [if_pos hk, zpar_up (by omega) hk]
    exact il 4 o t (zpar B n key f 5 o t R) F2 0 gU (by omega) ho8 ht8 hI2 (by omega) (by omega)
  · rw [if_neg hk, zpar_up0 (by omega) hk]
    exact rx_readTerm h2 hk
theorem rl_readTest {f : Nat} (hE : RE F B n key) (ic : RPc g N F B n key f) (ho8 : o ≤ 8) (ht8 : t ≤ 8) (hI : RIn F n key B R F1) (hf : 8 * (98 - R.fr) ≤ f + 1) : Go g yR_readTest (9 * (8 - o) + 2 * (8 - t) + (6 - 2) + 4) 0 0 11 [gR 49, gI (o : Int), gI (t : Int), gU, gU] [] (N, F1) (RQ N F n key (zpar B n key (f + 1) (2 + 6) o t R)) := by
  have h := hI.1
  have hB := hE.2.1
  have hn := hB.1
  have hk := hI.2.2.2.1
  obtain ⟨sz, op, ho⟩ := h.ho
  have sg := fun c : Int => RS.sign (g := g) (N := N) h hE hI.2.1 c
  have act : (R.so = 3 ∧ zopd 2 (B R.fr) = true) → ∀ w : Int, w = zwm (-10 - B R.fr) → w ≠ 0 → Go g yR_readTest (9 * (8 - o) + 2 * (8 - t) + (6 - 2) + 4) 0 0 54 [gR 49, gI (o : Int), gI (t : Int), gU, gU] [gI w] (N, F1) (RQ N F n key (zpar B n key (f + 1) (2 + 6) o t R)) := by
    intro hs w hw hw0
    obtain ⟨⟨hw1, hd1, hfr, hfn⟩, l1, p1, w1, d1, f1, f96⟩ := hI.lp (o := o) (t := t) (key := key) (f := f) (q := 3) hB (by omega)
    refine go_is3 dR_readTest_54 (Nat.le_of_ble_eq_true rfl) trivial ?_
    refine go_iload_n (i := 3) dR_readTest_55 rfl rfl ?_
    refine go_if_ne 61 dR_readTest_56 rfl (fun _ => ?_) (fun h8 => absurd h8 hw0)
    subst hw
    refine go_aload_n (i := 0) dR_readTest_61 rfl rfl trivial ?_
    refine go_VX dR_readTest_62 vkR51 (by assumption) (List.cons_ne_nil _ _) (h.adv hE hI.2.1) rfl (by omega) (by omega) (by omega) rfl (fun _ => Nat.le_of_ble_eq_true rfl) ?_
    rintro _ _ ⟨rfl, F2, rfl, h2⟩ -
    dsimp only [rp]
    have hI2 := hI.nx hB h2
    obtain ⟨sz, op, ho⟩ := h2.ho
    refine go_aload_n (i := 0) dR_readTest_65 rfl rfl trivial ?_
    refine go_iload_n (i := 1) dR_readTest_66 rfl rfl ?_
    refine go_iload_n (i := 2) dR_readTest_67 rfl rfl ?_
    refine go_VX dR_readTest_68 vkR101 (by assumption) (List.cons_ne_nil _ _) (ic 3 o t (R.nx B n) F2 (by omega) ho8 ht8 hI2 (by omega)) rfl (by omega) (by omega) (by omega) rfl (fun _ => Nat.le_of_ble_eq_true rfl) ?_
    rintro _ _ ⟨rfl, F3, rfl, h3⟩ -
    dsimp only [rp]
    obtain ⟨sz, op, ho⟩ := h3.ho
    refine go_is4 dR_readTest_71 (Nat.le_of_ble_eq_true rfl) trivial ?_
    refine go_aload_n (i := 0) dR_readTest_73 rfl rfl trivial ?_
    refine go_iload_n (i := 3) dR_readTest_74 rfl rfl ?_
    refine go_VX dR_readTest_75 vkR94 (by assumption) (List.cons_ne_nil _ _) (h3.wr (-10 - B R.fr) (fun _ => by omega)) rfl (by omega) (by omega) (by omega) rfl (fun _ => Nat.le_of_ble_eq_true rfl) ?_
    rintro _ _ ⟨rfl, F4, rfl, h4⟩ -
    dsimp only [rp]
    refine go_iload dR_readTest_78 rfl ?_
    refine go_iret dR_readTest_80 rfl zbq ?_
    rw [zpar_le hs (fun hh => hh.2 rfl)]
    exact ⟨rfl, F4, rfl, h4⟩
  refine go_aload_n (i := 0) dR_readTest_11 rfl rfl trivial ?_
  refine go_bipush dR_readTest_12 (inR_of _ rfl) rfl ?_
  refine go_VP dR_readTest_14 vkR91 (by assumption) (List.cons_ne_nil _ _) (sg 60) rfl (by omega) rfl (fun _ => Nat.le_of_ble_eq_true rfl) ?_
  refine go_if_eq 25 dR_readTest_17 rfl (fun h17 => ?_) (fun h17 => ?_)
  · refine go_aload_n (i := 0) dR_readTest_25 rfl rfl trivial ?_
    refine go_bipush dR_readTest_26 (inR_of _ rfl) rfl ?_
    refine go_VP dR_readTest_28 vkR91 (by assumption) (List.cons_ne_nil _ _) (sg 61) rfl (by omega) rfl (fun _ => Nat.le_of_ble_eq_true rfl) ?_
    refine go_if_eq 39 dR_readTest_31 rfl (fun h31 => ?_) (fun h31 => ?_)
    · refine go_aload_n (i := 0) dR_readTest_39 rfl rfl trivial ?_
      refine go_bipush dR_readTest_40 (inR_of _ rfl) rfl ?_
      refine go_VP dR_readTest_42 vkR91 (by assumption) (List.cons_ne_nil _ _) (sg 62) rfl (by omega) rfl (fun _ => Nat.le_of_ble_eq_true rfl) ?_
      refine go_if_eq 53 dR_readTest_45 rfl (fun h45 => ?_) (fun h45 => ?_)
      · have hs : ¬ (R.so = 3 ∧ zopd 2 (B R.fr) = true) := fun q => by
          have q2 := zopd_2.mp q.2
          rcases q2 with q2 | q2 | q2
          · exact sgN h17 ⟨q.1, q2⟩
          · exact sgN h31 ⟨q.1, q2⟩
          · exact sgN h45 ⟨q.1, q2⟩
        rw [zpar_st hs]
        refine go_iconst dR_readTest_53 (inR_of _ rfl) ?_
        refine go_is3 dR_readTest_54 (Nat.le_of_ble_eq_true rfl) trivial ?_
        refine go_iload_n (i := 3) dR_readTest_55 rfl rfl ?_
        refine go_if_ne 61 dR_readTest_56 rfl (fun h8 => absurd rfl h8) (fun _ => ?_)
        refine go_iconst dR_readTest_59 (inR_of _ rfl) ?_
        refine go_iret dR_readTest_60 rfl (zb (by simp)) ?_
        exact ⟨by rw [if_pos hk], F1, rfl, h⟩
      · have q := sgP h45
        refine go_bipush dR_readTest_48 (inR_of _ rfl) rfl ?_
        refine go_goto 54 dR_readTest_50 rfl ?_
        exact act ⟨q.1, zopd_2.mpr (Or.inr (Or.inr q.2))⟩ _ (by rw [q.2]; decide) (by omega)
    · have q := sgP h31
      refine go_bipush dR_readTest_34 (inR_of _ rfl) rfl ?_
      refine go_goto 54 dR_readTest_36 rfl ?_
      exact act ⟨q.1, zopd_2.mpr (Or.inr (Or.inl q.2))⟩ _ (by rw [q.2]; decide) (by omega)
  · have q := sgP h17
    refine go_bipush dR_readTest_20 (inR_of _ rfl) rfl ?_
    refine go_goto 54 dR_readTest_22 rfl ?_
    exact act ⟨q.1, zopd_2.mpr (Or.inl q.2)⟩ _ (by rw [q.2]; decide) (by omega)
theorem ru_readTest {f : Nat} (hE : RE F B n key) (ic : RPc g N F B n key f) (il : RPl g N F B n key f) (ho8 : o ≤ 8) (ht8 : t ≤ 8) (hI : RIn F n key B R F1) (hf : 8 * (98 - R.fr) + (6 - 2) ≤ f + 1) : CT g yR_readTest (9 * (8 - o) + 2 * (8 - t) + (6 - 2) + 4) 0 0 [gR 49, gI (o : Int), gI (t : Int)] (N, F1) (RQ N F n key (zpar B n key (f + 1) 2 o t R)) := by
  have hB := hE.2.1
  have hn := hB.1
  have w1 := hI.2.1.1
  have w2 := hI.2.1.2.1
  obtain ⟨sz, op, ho⟩ := hI.1.ho
  refine CT.of' (L0 := [gR 49, gI (o : Int), gI (t : Int), gU, gU]) plR (Nat.le_of_ble_eq_true rfl) rfl ?_
  refine go_aload_n (i := 0) dR_readTest_0 rfl rfl trivial ?_
  refine go_iload_n (i := 1) dR_readTest_1 rfl rfl ?_
  refine go_iload_n (i := 2) dR_readTest_2 rfl rfl ?_
  refine go_VX dR_readTest_3 vkR101 (by assumption) (List.cons_ne_nil _ _) (ic 3 o t R F1 (by omega) ho8 ht8 hI (by omega)) rfl (by omega) (by omega) (by omega) rfl (fun _ => Nat.le_of_ble_eq_true rfl) ?_
  rintro _ _ ⟨rfl, F2, rfl, h2⟩ -
  dsimp only [rp]
  by_cases hk : (zpar B n key f 3 o t R).ok = true
  · obtain ⟨hI2, hlt⟩ := hI.up hB (by omega) h2 hk
    rw [if_pos hk, zpar_up (by omega) hk]
    refine go_if_ne 11 dR_readTest_6 rfl (fun _ => ?_) (fun h8 => absurd h8 (by omega))
    exact il 2 o t (zpar B n key f 3 o t R) F2 0 gU (by omega) ho8 ht8 hI2 (by omega) (by omega)
  · rw [if_neg hk, zpar_up0 (by omega) hk]
    refine go_if_ne 11 dR_readTest_6 rfl (fun h8 => absurd rfl h8) (fun _ => ?_)
    refine go_iconst dR_readTest_9 (inR_of _ rfl) ?_
    refine go_iret dR_readTest_10 rfl (zb (by simp)) ?_
    exact ⟨by rw [if_neg hk], F2, rfl, h2⟩
theorem zpar_5 (f : Nat) : zpar B n key (f + 1) 5 o t R = (if R.so = 2 then (if R.to - R.fr ≤ 4 then ((R.put (znum B R.fr (R.to - R.fr))).one).nx B n else R.bad)
      else if R.so = 1 then (if R.to = R.fr + 1 ∧ 0 ≤ znameI key (B R.fr) then ((R.put (-1 - znameI key (B R.fr))).one).nx B n else R.bad)
      else if R.so = 3 ∧ B R.fr = 33 then (if t = 8 then R.bad else (zpar B n key f 5 o (t + 1) (R.nx B n)).put (-43))
      else if R.so = 3 ∧ B R.fr = 40 then (if o = 8 then R.bad else
        (if (zpar B n key f 0 (o + 1) t (R.nx B n)).ok = true ∧ (zpar B n key f 0 (o + 1) t (R.nx B n)).so = 3 ∧ B (zpar B n key f 0 (o + 1) t (R.nx B n)).fr = 41 then (zpar B n key f 0 (o + 1) t (R.nx B n)).nx B n else (zpar B n key f 0 (o + 1) t (R.nx B n)).bad))
      else R.bad) := by
  rw [zpar, if_neg (by omega), if_pos rfl]
theorem ru_readPiece {f : Nat} (hE : RE F B n key) (ic : RPc g N F B n key f) (ho8 : o ≤ 8) (ht8 : t ≤ 8) (hI : RIn F n key B R F1) (hf : 8 * (98 - R.fr) + (6 - 5) ≤ f + 1) : CT g yR_readPiece (9 * (8 - o) + 2 * (8 - t) + (6 - 5) + 4) 0 0 [gR 49, gI (o : Int), gI (t : Int)] (N, F1) (RQ N F n key (zpar B n key (f + 1) 5 o t R)) := by
  have h := hI.1
  have hB := hE.2.1
  have hn := hB.1
  have hk := hI.2.2.2.1
  have w1 := hI.2.1.1
  have w2 := hI.2.1.2.1
  have w4 := hI.2.1.2.2.2
  have hl := hI.2.2.2.2.1
  have hp := hI.2.2.2.2.2
  obtain ⟨sz, op, ho⟩ := h.ho
  have sg := fun c : Int => RS.sign (g := g) (N := N) h hE hI.2.1 c
  rw [zpar_5]
  generalize hZ : (if R.so = 2 then (if R.to - R.fr ≤ 4 then ((R.put (znum B R.fr (R.to - R.fr))).one).nx B n else R.bad)
      else if R.so = 1 then (if R.to = R.fr + 1 ∧ 0 ≤ znameI key (B R.fr) then ((R.put (-1 - znameI key (B R.fr))).one).nx B n else R.bad)
      else if R.so = 3 ∧ B R.fr = 33 then (if t = 8 then R.bad else (zpar B n key f 5 o (t + 1) (R.nx B n)).put (-43))
      else if R.so = 3 ∧ B R.fr = 40 then (if o = 8 then R.bad else
        (if (zpar B n key f 0 (o + 1) t (R.nx B n)).ok = true ∧ (zpar B n key f 0 (o + 1) t (R.nx B n)).so = 3 ∧ B (zpar B n key f 0 (o + 1) t (R.nx B n)).fr = 41 then (zpar B n key f 0 (o + 1) t (R.nx B n)).nx B n else (zpar B n key f 0 (o + 1) t (R.nx B n)).bad))
      else R.bad) = Z
  have at83 : ¬ (R.so = 3 ∧ B R.fr = 33 ∧ t < 8) → ¬ (R.so = 3 ∧ B R.fr = 40 ∧ o < 8) → Go g yR_readPiece (9 * (8 - o) + 2 * (8 - t) + (6 - 5) + 4) 0 0 83 [gR 49, gI (o : Int), gI (t : Int), gU] [] (N, F1) (RQ N F n key Z) := by
    intro n1 n2
    have bad : ¬ R.so = 2 → ¬ R.so = 1 → Z = R.bad := by
      intro c1 c2
      rw [← hZ, if_neg c1, if_neg c2]
      by_cases c3 : R.so = 3 ∧ B R.fr = 33
      · rw [if_pos c3, if_pos (by omega)]
      · rw [if_neg c3]
        by_cases c4 : R.so = 3 ∧ B R.fr = 40
        · rw [if_pos c4, if_pos (by omega)]
        · rw [if_neg c4]
    refine go_aload_n (i := 0) dR_readPiece_83 rfl rfl trivial ?_
    refine go_getf dR_readPiece_84 flR48 (by assumption) rfl ?_
    refine go_iconst dR_readPiece_87 (inR_of _ rfl) ?_
    refine go_ic_ne 98 dR_readPiece_88 rfl (fun h88 => ?_) (fun h88 => ?_)
    · refine go_aload_n (i := 0) dR_readPiece_98 rfl rfl trivial ?_
      refine go_getf dR_readPiece_99 flR48 (by assumption) rfl ?_
      refine go_iconst dR_readPiece_102 (inR_of _ rfl) ?_
      refine go_ic_ne 117 dR_readPiece_103 rfl (fun h103 => ?_) (fun h103 => ?_)
      · refine go_iconst dR_readPiece_117 (inR_of _ rfl) ?_
        refine go_iret dR_readPiece_118 rfl (zb (by simp)) ?_
        rw [bad (by omega) (by omega)]
        exact ⟨rfl, F1, rfl, h.bad⟩
      · have c1 : R.so = 1 := by omega
        have lt := hI.2.1.2.2.1 (by omega)
        rw [if_neg (by omega), if_pos c1] at hZ
        have nm := RS.name (g := g) (N := N) h hE hI.2.1 hk c1 (by omega) (by omega)
        rw [hZ] at nm
        refine go_aload_n (i := 0) dR_readPiece_106 rfl rfl trivial ?_
        refine go_VX dR_readPiece_107 vkR113 (by assumption) (List.cons_ne_nil _ _) (nm) rfl (by omega) (by omega) (by omega) rfl (fun _ => Nat.le_of_ble_eq_true rfl) ?_
        rintro _ _ ⟨rfl, F2, rfl, h2⟩ -
        dsimp only [rp]
        by_cases zk : Z.ok = true
        · rw [if_pos zk]
          refine go_if_eq 117 dR_readPiece_110 rfl (fun h110 => absurd h110 (by omega)) (fun h110 => ?_)
          refine go_iconst dR_readPiece_113 (inR_of _ rfl) ?_
          refine go_goto 118 dR_readPiece_114 rfl ?_
          refine go_iret dR_readPiece_118 rfl (zb (by simp)) ?_
          exact ⟨by rw [if_pos zk], F2, rfl, h2⟩
        · rw [if_neg zk]
          refine go_if_eq 117 dR_readPiece_110 rfl (fun h110 => ?_) (fun h110 => absurd (by omega) h110)
          refine go_iconst dR_readPiece_117 (inR_of _ rfl) ?_
          refine go_iret dR_readPiece_118 rfl (zb (by simp)) ?_
          exact ⟨by rw [if_neg zk], F2, rfl, h2⟩
    · have c1 : R.so = 2 := by omega
      have lt := hI.2.1.2.2.1 (by omega)
      rw [if_pos c1] at hZ
      have nm := RS.number (g := g) (N := N) h hE hI.2.1 hI.2.2.1 hk c1 (by omega) (by omega)
      rw [hZ] at nm
      refine go_aload_n (i := 0) dR_readPiece_91 rfl rfl trivial ?_
      refine go_VX dR_readPiece_92 vkR110 (by assumption) (List.cons_ne_nil _ _) (nm) rfl (by omega) (by omega) (by omega) rfl (fun _ => Nat.le_of_ble_eq_true rfl) ?_
      rintro _ _ ⟨rfl, F2, rfl, h2⟩ -
      dsimp only [rp]
      refine go_goto 118 dR_readPiece_95 rfl ?_
      refine go_iret dR_readPiece_118 rfl zbq ?_
      exact ⟨rfl, F2, rfl, h2⟩
  have at36 : ¬ (R.so = 3 ∧ B R.fr = 33 ∧ t < 8) → Go g yR_readPiece (9 * (8 - o) + 2 * (8 - t) + (6 - 5) + 4) 0 0 36 [gR 49, gI (o : Int), gI (t : Int), gU] [] (N, F1) (RQ N F n key Z) := by
    intro n1
    refine go_aload_n (i := 0) dR_readPiece_36 rfl rfl trivial ?_
    refine go_bipush dR_readPiece_37 (inR_of _ rfl) rfl ?_
    refine go_VP dR_readPiece_39 vkR91 (by assumption) (List.cons_ne_nil _ _) (sg 40) rfl (by omega) rfl (fun _ => Nat.le_of_ble_eq_true rfl) ?_
    refine go_if_eq 83 dR_readPiece_42 rfl (fun h42 => ?_) (fun h42 => ?_)
    · exact at83 n1 (fun q => sgN h42 ⟨q.1, q.2.1⟩)
    · have c := sgP h42
      refine go_iload_n (i := 1) dR_readPiece_45 rfl rfl ?_
      refine go_bipush dR_readPiece_46 (inR_of _ rfl) rfl ?_
      refine go_ic_ge 83 dR_readPiece_48 rfl (fun h48 => ?_) (fun h48 => ?_)
      · exact at83 n1 (fun q => by have := q.2.2; omega)
      · obtain ⟨⟨hw1, hd1, hfr, hfn⟩, -⟩ := hI.lp (o := o) (t := t) (key := key) (f := f) (q := 0) hB (by omega)
        rw [if_neg (by omega), if_neg (by omega), if_neg (by omega), if_pos c, if_neg (by omega)] at hZ
        refine go_aload_n (i := 0) dR_readPiece_51 rfl rfl trivial ?_
        refine go_VX dR_readPiece_52 vkR51 (by assumption) (List.cons_ne_nil _ _) (h.adv hE hI.2.1) rfl (by omega) (by omega) (by omega) rfl (fun _ => Nat.le_of_ble_eq_true rfl) ?_
        rintro _ _ ⟨rfl, F2, rfl, h2⟩ -
        dsimp only [rp]
        have hI2 := hI.nx hB h2
        obtain ⟨sz, op, ho⟩ := h2.ho
        refine go_aload_n (i := 0) dR_readPiece_55 rfl rfl trivial ?_
        refine go_iload_n (i := 1) dR_readPiece_56 rfl rfl ?_
        refine go_iconst dR_readPiece_57 (inR_of _ rfl) ?_
        refine go_iadd dR_readPiece_58 ?_
        refine go_top (((o + 1 : Nat) : Int)) (by (try simp (discharger := (unfold inR; omega)) only [w32_id]) <;> omega) ?_
        refine go_iload_n (i := 2) dR_readPiece_59 rfl rfl ?_
        refine go_VX dR_readPiece_60 vkR58 (by assumption) (List.cons_ne_nil _ _) (ic 0 (o + 1) t (R.nx B n) F2 (by omega) (by omega) ht8 hI2 (by omega)) rfl (by omega) (by omega) (by omega) rfl (fun _ => Nat.le_of_ble_eq_true rfl) ?_
        rintro _ _ ⟨rfl, F3, rfl, h3⟩ -
        dsimp only [rp]
        have g1 := zpar_go hB key f 0 (o + 1) t _ hw1 hk
        unfold ZR.go at g1
        generalize zpar B n key f 0 (o + 1) t (R.nx B n) = R1 at *
        obtain ⟨sz, op, ho⟩ := h3.ho
        have no : ¬ (R1.ok = true ∧ R1.so = 3 ∧ B R1.fr = 41) → Go g yR_readPiece (9 * (8 - o) + 2 * (8 - t) + (6 - 5) + 4) 0 0 75 [gR 49, gI (o : Int), gI (t : Int), gU] [] (N, F3) (RQ N F n key Z) := by
          intro nn
          rw [if_neg nn] at hZ
          refine go_iconst dR_readPiece_75 (inR_of _ rfl) ?_
          refine go_iret dR_readPiece_76 rfl (zb (by simp)) ?_
          rw [← hZ]
          exact ⟨rfl, F3, rfl, h3.bad⟩
        by_cases k1 : R1.ok = true
        · rw [if_pos k1]
          have sg3 := RS.sign (g := g) (N := N) h3 hE g1.1 41
          refine go_if_eq 75 dR_readPiece_63 rfl (fun h63 => absurd h63 (by omega)) (fun h63 => ?_)
          refine go_aload_n (i := 0) dR_readPiece_66 rfl rfl trivial ?_
          refine go_bipush dR_readPiece_67 (inR_of _ rfl) rfl ?_
          refine go_VP dR_readPiece_69 vkR91 (by assumption) (List.cons_ne_nil _ _) (sg3) rfl (by omega) rfl (fun _ => Nat.le_of_ble_eq_true rfl) ?_
          by_cases s1 : R1.so = 3 ∧ B R1.fr = 41
          · rw [if_pos s1]
            rw [if_pos ⟨k1, s1⟩] at hZ
            refine go_if_ne 77 dR_readPiece_72 rfl (fun _ => ?_) (fun h8 => absurd h8 (by omega))
            refine go_aload_n (i := 0) dR_readPiece_77 rfl rfl trivial ?_
            refine go_VX dR_readPiece_78 vkR51 (by assumption) (List.cons_ne_nil _ _) (h3.adv hE g1.1) rfl (by omega) (by omega) (by omega) rfl (fun _ => Nat.le_of_ble_eq_true rfl) ?_
            rintro _ _ ⟨rfl, F4, rfl, h4⟩ -
            dsimp only [rp]
            refine go_iconst dR_readPiece_81 (inR_of _ rfl) ?_
            refine go_iret dR_readPiece_82 rfl (zb (by simp)) ?_
            rw [← hZ]
            have ek : (R1.nx B n).ok = true := k1
            exact ⟨by rw [if_pos ek], F4, rfl, h4⟩
          · rw [if_neg s1]
            refine go_if_ne 77 dR_readPiece_72 rfl (fun h8 => absurd rfl h8) (fun _ => ?_)
            exact no (fun q => s1 q.2)
        · rw [if_neg k1]
          refine go_if_eq 75 dR_readPiece_63 rfl (fun h63 => ?_) (fun h63 => absurd (by omega) h63)
          exact no (fun q => k1 q.1)
  refine CT.of' (L0 := [gR 49, gI (o : Int), gI (t : Int), gU]) plR (Nat.le_of_ble_eq_true rfl) rfl ?_
  refine go_aload_n (i := 0) dR_readPiece_0 rfl rfl trivial ?_
  refine go_bipush dR_readPiece_1 (inR_of _ rfl) rfl ?_
  refine go_VP dR_readPiece_3 vkR91 (by assumption) (List.cons_ne_nil _ _) (sg 33) rfl (by omega) rfl (fun _ => Nat.le_of_ble_eq_true rfl) ?_
  refine go_if_eq 36 dR_readPiece_6 rfl (fun h6 => ?_) (fun h6 => ?_)
  · exact at36 (fun q => sgN h6 ⟨q.1, q.2.1⟩)
  · have c := sgP h6
    refine go_iload_n (i := 2) dR_readPiece_9 rfl rfl ?_
    refine go_bipush dR_readPiece_10 (inR_of _ rfl) rfl ?_
    refine go_ic_ge 36 dR_readPiece_12 rfl (fun h12 => ?_) (fun h12 => ?_)
    · exact at36 (fun q => by have := q.2.2; omega)
    · obtain ⟨⟨hw1, hd1, hfr, hfn⟩, l1, p1, w1', d1, f1, f96⟩ := hI.lp (o := o) (t := t + 1) (key := key) (f := f) (q := 5) hB (by omega)
      rw [if_neg (by omega), if_neg (by omega), if_pos c, if_neg (by omega)] at hZ
      refine go_aload_n (i := 0) dR_readPiece_15 rfl rfl trivial ?_
      refine go_VX dR_readPiece_16 vkR51 (by assumption) (List.cons_ne_nil _ _) (h.adv hE hI.2.1) rfl (by omega) (by omega) (by omega) rfl (fun _ => Nat.le_of_ble_eq_true rfl) ?_
      rintro _ _ ⟨rfl, F2, rfl, h2⟩ -
      dsimp only [rp]
      have hI2 := hI.nx hB h2
      obtain ⟨sz, op, ho⟩ := h2.ho
      refine go_aload_n (i := 0) dR_readPiece_19 rfl rfl trivial ?_
      refine go_iload_n (i := 1) dR_readPiece_20 rfl rfl ?_
      refine go_iload_n (i := 2) dR_readPiece_21 rfl rfl ?_
      refine go_iconst dR_readPiece_22 (inR_of _ rfl) ?_
      refine go_iadd dR_readPiece_23 ?_
      refine go_top (((t + 1 : Nat) : Int)) (by (try simp (discharger := (unfold inR; omega)) only [w32_id]) <;> omega) ?_
      refine go_VX dR_readPiece_24 vkR107 (by assumption) (List.cons_ne_nil _ _) (ic 5 o (t + 1) (R.nx B n) F2 (by omega) ho8 (by omega) hI2 (by omega)) rfl (by omega) (by omega) (by omega) rfl (fun _ => Nat.le_of_ble_eq_true rfl) ?_
      rintro _ _ ⟨rfl, F3, rfl, h3⟩ -
      dsimp only [rp]
      obtain ⟨sz, op, ho⟩ := h3.ho
      refine go_is3 dR_readPiece_27 (Nat.le_of_ble_eq_true rfl) trivial ?_
      refine go_aload_n (i := 0) dR_readPiece_28 rfl rfl trivial ?_
      refine go_bipush dR_readPiece_29 (inR_of _ rfl) rfl ?_
      refine go_top (zwm (-43)) (by decide) ?_
      refine go_VX dR_readPiece_31 vkR94 (by assumption) (List.cons_ne_nil _ _) (h3.wr (-43) (fun _ => by omega)) rfl (by omega) (by omega) (by omega) rfl (fun _ => Nat.le_of_ble_eq_true rfl) ?_
      rintro _ _ ⟨rfl, F4, rfl, h4⟩ -
      dsimp only [rp]
      refine go_iload_n (i := 3) dR_readPiece_34 rfl rfl ?_
      refine go_iret dR_readPiece_35 rfl zbq ?_
      rw [← hZ]
      exact ⟨rfl, F4, rfl, h4⟩
theorem pR_par (hE : RE F B n key) : ∀ f : Nat, RPc g N F B n key f ∧ RPl g N F B n key f := by
  intro f
  have hB := hE.2.1
  have hn := hB.1
  induction f with
  | zero =>
    refine ⟨fun q o t R F1 hq ho8 ht8 hI hf => ?_, fun q o t R F1 mo x hq ho8 ht8 hI hf hm => ?_⟩
    · have := hI.2.1.1
      have := hI.2.1.2.1
      omega
    · have := hI.2.1.1
      have := hI.2.1.2.1
      omega
  | succ f ih =>
    obtain ⟨ic, il⟩ := ih
    refine ⟨fun q o t R F1 hq ho8 ht8 hI hf => ?_, fun q o t R F1 mo x hq ho8 ht8 hI hf hm => ?_⟩
    · match q, hq with
      | 0, _ => exact ru_readOr hE ic il ho8 ht8 hI hf
      | 1, _ => exact ru_readAnd hE ic il ho8 ht8 hI hf
      | 2, _ => exact ru_readTest hE ic il ho8 ht8 hI hf
      | 3, _ => exact ru_readSum hE ic il ho8 ht8 hI hf
      | 4, _ => exact ru_readTerm hE ic il ho8 ht8 hI hf
      | 5, _ => exact ru_readPiece hE ic ho8 ht8 hI hf
    · match q, hq with
      | 0, _ => exact rl_readOr hE ic il ho8 ht8 hI hf hm
      | 1, _ => exact rl_readAnd hE ic il ho8 ht8 hI hf hm
      | 2, _ => exact rl_readTest hE ic ho8 ht8 hI hf
      | 3, _ => exact rl_readSum hE ic il ho8 ht8 hI hf hm
      | 4, _ => exact rl_readTerm hE ic il ho8 ht8 hI hf hm
end CPAR
