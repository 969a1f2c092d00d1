/-! ===== the component: eyes, by one run of days ===== -/
theorem zsum_add (f h : Nat → Int) : ∀ n : Nat, zsum (fun i => f i + h i) n = zsum f n + zsum h n
  | 0 => rfl
  | n + 1 => by show zsum (fun i => f i + h i) n + (f n + h n) = zsum f n + f n + (zsum h n + h n); rw [zsum_add f h n]; omega
/-- what is tallied in yard y with the eye e -/
def zcE (s : Nat → Int) (y e : Int) : Int := zsum (fun i => if zk s i 3 = y ∧ e ≤ zsees s i then ztal (zk s i 0) else 0) (zmany s)
/-- of those that see just v -/
def zcV (s : Nat → Int) (y v : Int) (n : Nat) : Int := zsum (fun i => if zk s i 3 = y ∧ zsees s i = v then ztal (zk s i 0) else 0) n
theorem zcE_step (s : Nat → Int) (y e : Int) : zcE s y e = zcE s y (e + 1) + zcV s y e (zmany s) := by
  unfold zcE zcV
  rw [← zsum_add]
  refine zsum_congr (fun i _ => ?_)
  by_cases c : zk s i 3 = y
  · by_cases d : zsees s i = e
    · rw [if_pos ⟨c, by omega⟩, if_neg (by omega), if_pos ⟨c, d⟩]; omega
    · by_cases d2 : e ≤ zsees s i
      · rw [if_pos ⟨c, d2⟩, if_pos ⟨c, by omega⟩, if_neg (fun q => d q.2)]; omega
      · rw [if_neg (fun q => d2 q.2), if_neg (by omega), if_neg (fun q => d q.2)]; rfl
  · rw [if_neg (fun q => c q.1), if_neg (fun q => c q.1), if_neg (fun q => c q.1)]; rfl
theorem zsees_in (s : Nat → Int) (i : Int) : 0 ≤ zsees s i ∧ zsees s i ≤ 99 := zsee_in _ _ _ _
theorem zcE_top (s : Nat → Int) (y : Int) : zcE s y 100 = 0 := by
  unfold zcE
  have : ∀ n : Nat, zsum (fun i => if zk s i 3 = y ∧ 100 ≤ zsees s i then ztal (zk s i 0) else 0) n = 0 := by
    intro n
    induction n with
    | zero => rfl
    | succ n ih => show zsum _ n + (if _ then _ else _) = 0; rw [ih, if_neg (fun q => by have := (zsees_in s n).2; omega)]; rfl
  exact this _
theorem zcE_in {s : Nat → Int} (h : zW s) (y e : Int) : -20 ≤ zcE s y e ∧ zcE s y e ≤ 40 := by
  obtain ⟨hz1, -⟩ := zmany_le h
  have := zsum_le (f := fun i => if zk s i 3 = y ∧ e ≤ zsees s i then ztal (zk s i 0) else 0) (a := -2) (b := 4) (n := zmany s) (fun i _ => by have := ztal_in (zk s i 0); split <;> omega)
  unfold zcE
  omega
theorem zcV_in (s : Nat → Int) (y v : Int) (n : Nat) : n * (-2 : Int) ≤ zcV s y v n ∧ zcV s y v n ≤ n * 4 := zsum_le (fun i _ => by have := ztal_in (zk s i 0); split <;> omega)
theorem zcount_E (s : Nat → Int) (y : Int) : zcount s y = zcE s y (s 1) := by
  unfold zcount zcE
  refine zsum_congr (fun i _ => ?_)
  unfold zwit
  by_cases c : zk s i 3 = y ∧ s 1 ≤ zsees s i
  · rw [if_pos c, if_pos c]; rfl
  · rw [if_neg c, if_neg c]; rfl
/-- alike but for the eye, what held and broke, and what geese saw -/
def ZE (s s' : Nat → Int) : Prop := ∀ j : Nat, j ≠ 1 → j ≠ 3 → j ≠ 4 → (∀ i : Nat, i < 10 → j ≠ 14 + 5 * i + 4) → s' j = s j
theorem ZE.gz {s s' : Nat → Int} (h : ZE s s') (i w : Nat) (hw : w < 4) : zk s' i w = zk s i w := by
  rw [zk_nat, zk_nat]; exact h _ (by omega) (by omega) (by omega) (fun i' _ => by omega)
theorem ZE.hi {s s' : Nat → Int} (h : ZE s s') {j : Nat} (hj : 64 ≤ j) : s' j = s j := h j (by omega) (by omega) (by omega) (fun i' _ => by omega)
theorem ZE.lo {s s' : Nat → Int} (h : ZE s s') {j : Nat} (hj : j < 14) (h1 : j ≠ 1) (h3 : j ≠ 3) (h4 : j ≠ 4) : s' j = s j := h j h1 h3 h4 (fun i' _ => by omega)
theorem ZE.many {s s' : Nat → Int} (h : ZE s s') : zmany s' = zmany s := by unfold zmany; rw [h.lo (by omega) (by omega) (by omega) (by omega)]
theorem ZE.inY {s s' : Nat → Int} (h : ZE s s') (y : Int) (n : Nat) : zinY s' y n = zinY s y n := by
  unfold zinY
  refine zsum_congr (fun i _ => ?_)
  have q := h.gz i 3 (by omega)
  rw [show zk s' i 3 = zk s i 3 from q]
theorem ZE.law {s s' : Nat → Int} (h : ZE s s') (nm : Nat → Int) : zlaw s' 0 nm = zlaw s 0 nm := by
  unfold zlaw
  rw [h.hi (j := 65 + 0) (by omega), h.hi (j := 82 + (s (65 + 0)).toNat) (by omega)]
  congr 1
  funext k
  exact h.hi (by omega)
theorem ZE.see {s s' : Nat → Int} (h : ZE s s') {i : Nat} {y : Int} (hy : 0 ≤ y ∧ y ≤ 5) (c : Int) : zsee s' i y c = zsee s i y c := by
  have q0 : zk s' i 0 = zk s i 0 := h.gz i 0 (by omega)
  have q1 : zk s' i 1 = zk s i 1 := h.gz i 1 (by omega)
  have q2 : zk s' i 2 = zk s i 2 := h.gz i 2 (by omega)
  have l : zlook s' i y c = zlook s i y c := by
    unfold zlook
    rw [h.hi (j := 65) (by omega), q1, q2, h.law, h.lo (j := (8 + y).toNat) (by omega) (by omega) (by omega) (by omega)]
  unfold zsee
  rw [q0, l, h.lo (j := 6) (by omega) (by omega) (by omega) (by omega)]
theorem ZE.sees {s s' : Nat → Int} (h : ZE s s') (hw : zW s) {i : Nat} (hi : (i : Int) < s 0) : zsees s' i = zsees s i := by
  have g3 := (hw.goose (i := (i : Int)) (by omega) hi).2.2.2.1
  have q3 : zk s' i 3 = zk s i 3 := h.gz i 3 (by omega)
  unfold zsees
  rw [q3, h.see g3, h.inY, h.many]
theorem ZE.cE {s s' : Nat → Int} (h : ZE s s') (hw : zW s) (y e : Int) : zcE s' y e = zcE s y e := by
  obtain ⟨-, hz⟩ := zmany_le hw
  unfold zcE
  rw [h.many]
  refine zsum_congr (fun i hi => ?_)
  have q3 : zk s' i 3 = zk s i 3 := h.gz i 3 (by omega)
  have q0 : zk s' i 0 = zk s i 0 := h.gz i 0 (by omega)
  rw [q3, q0, h.sees hw (by omega)]
theorem zset_rel {s s' : Nat → Int} {w : Nat} {f f' : Nat → Int} {j : Nat} (hj : s' j = s j) : ∀ {n : Nat}, (∀ i, i < n → f' i = f i) → zset s' w f' n j = zset s w f n j
  | 0, _ => hj
  | n + 1, hf => by
    show va_up (zset s' w f' n) (14 + 5 * n + w) (f' n) j = va_up (zset s w f n) (14 + 5 * n + w) (f n) j
    by_cases e : j = 14 + 5 * n + w
    · subst e; rw [va_up_self, va_up_self]; exact hf n (by omega)
    · rw [va_up_ne _ _ e, va_up_ne _ _ e]; exact zset_rel hj (fun i hi => hf i (by omega))
theorem up_rel {s s' : Nat → Int} {j k : Nat} {x : Int} (h : s' j = s j) : va_up s' k x j = va_up s k x j := by
  by_cases e : j = k
  · subst e; rw [va_up_self, va_up_self]
  · rw [va_up_ne _ _ e, va_up_ne _ _ e]; exact h
theorem ZE.barg {s s' : Nat → Int} (h : ZE s s') (hw : zW s) (hw' : zW s') (y : Int) : ZE (zbarg s y) (zbarg s' y) := by
  obtain ⟨hz1, -⟩ := zmany_le hw
  obtain ⟨hz2, -⟩ := zmany_le hw'
  intro j h1 h3 h4 hj
  unfold zbarg
  rw [va_up_ne _ _ (by split <;> omega), va_up_ne _ _ (by split <;> omega), zset_miss (fun i hi => hj i (by omega)), zset_miss (fun i hi => hj i (by omega))]
  exact h j h1 h3 h4 hj
theorem ZE.wander {s s' : Nat → Int} (h : ZE s s') : ZE (zwander s) (zwander s') := by
  intro j h1 h3 h4 hj
  unfold zwander
  rw [h.many]
  refine zset_rel (h j h1 h3 h4 hj) (fun i _ => ?_)
  have q3 : zk s' i 3 = zk s i 3 := h.gz i 3 (by omega)
  have q0 : zk s' i 0 = zk s i 0 := h.gz i 0 (by omega)
  show (zk s' i 3 + zwan (zk s' i 0)).tmod 6 = (zk s i 3 + zwan (zk s i 0)).tmod 6
  rw [q3, q0]
theorem ZE.older {s s' : Nat → Int} (h : ZE s s') : ZE (zolder s) (zolder s') := by
  intro j h1 h3 h4 hj
  unfold zolder
  rw [h.many]
  refine zset_rel (h j h1 h3 h4 hj) (fun i _ => ?_)
  have q2 : zk s' i 2 = zk s i 2 := h.gz i 2 (by omega)
  show zheld (zk s' i 2 + (if (s' 6).tmod 5 = 4 then 1 else 0)) 0 99 = zheld (zk s i 2 + (if (s 6).tmod 5 = 4 then 1 else 0)) 0 99
  rw [q2, h.lo (j := 6) (by omega) (by omega) (by omega) (by omega)]
theorem ZE.fox {s s' : Nat → Int} (h : ZE s s') : ZE (zfox s) (zfox s') := by
  intro j h1 h3 h4 hj
  have e := h j h1 h3 h4 hj
  unfold zfox
  rw [h.lo (j := 7) (by omega) (by omega) (by omega) (by omega), h.lo (j := 2) (by omega) (by omega) (by omega) (by omega), h.lo (j := 0) (by omega) (by omega) (by omega) (by omega), h.lo (j := 5) (by omega) (by omega) (by omega) (by omega)]
  split
  · exact up_rel (up_rel (up_rel (up_rel e)))
  · exact up_rel e
theorem zday_3 {s : Nat → Int} (h : zW s) : zday s 3 = if zhold s ((s 6).tmod 6) = 1 then zheld (s 3 + 1) 0 99999 else s 3 := by
  obtain ⟨hz1, -⟩ := zmany_le h
  have wb := zbarg_W h ((s 6).tmod 6)
  obtain ⟨ww, -, wl, -⟩ := zwander_W wb
  obtain ⟨wo, -, ol⟩ := zolder_W ww
  obtain ⟨-, -, -, f3, -⟩ := zfox_W wo
  unfold zday
  rw [va_up_ne _ _ (by omega), f3, ol 3 (by omega), wl 3 (by omega)]
  unfold zbarg
  by_cases c : zhold s ((s 6).tmod 6) = 1
  · rw [if_pos c, if_pos c, va_up_self]
  · rw [if_neg c, if_neg c, va_up_ne _ _ (by omega), zset_low (by omega) (by omega) (by omega)]
theorem ZE.day {s s' : Nat → Int} (h : ZE s s') (hw : zW s) (hw' : zW s') (hd : s 6 < 20000) : ZE (zday s) (zday s') ∧ zday s' 3 = (if s (8 + (s 6).tmod 6).toNat ≤ zcE s ((s 6).tmod 6) (s' 1) then zheld (s' 3 + 1) 0 99999 else s' 3) ∧ zday s' 1 = s' 1 := by
  have e6 : s' 6 = s 6 := h.lo (by omega) (by omega) (by omega) (by omega)
  have w6 := hw.2.2.1
  have tm := tmod_in (a := s 6) (b := 6) (by omega) (by omega)
  refine ⟨?_, ?_, (zday_W hw' (by omega)).2.1.2.1⟩
  · intro j h1 h3 h4 hj
    unfold zday
    rw [e6]
    exact up_rel ((h.barg hw hw' _).wander.older.fox j h1 h3 h4 hj)
  · rw [zday_3 hw', e6]
    have : zhold s' ((s 6).tmod 6) = 1 ↔ s (8 + (s 6).tmod 6).toNat ≤ zcE s ((s 6).tmod 6) (s' 1) := by
      unfold zhold
      rw [zcount_E, h.cE hw, h.lo (j := (8 + (s 6).tmod 6).toNat) (by omega) (by omega) (by omega) (by omega)]
      split <;> simp_all
    by_cases c : zhold s' ((s 6).tmod 6) = 1
    · rw [if_pos c, if_pos (this.mp c)]
    · rw [if_neg c, if_neg (fun q => c (this.mpr q))]
theorem zE_days {s : Nat → Int} (h : ZG s) {e : Nat} (he : e < 100) : ∀ d : Nat, s 6 + d ≤ 20000 → ZE (zdays s d) (zdays (va_up s 1 e) d) ∧ zdays (va_up s 1 e) d 1 = e ∧ zW (zdays (va_up s 1 e) d) := by
  have hW : zW (va_up s 1 e) := zW_up h.1 (by omega) (by omega) (by omega) (by omega) (by omega) (by omega) (by omega) (fun i' v' h1 h2 h3 => by omega)
  intro d
  induction d with
  | zero => intro _; exact ⟨fun j h1 _ _ _ => va_up_ne _ _ h1, va_up_self _ _ _, hW⟩
  | succ d ih =>
    intro hd
    obtain ⟨a, b, c⟩ := ih (by omega)
    obtain ⟨zw, -, z6⟩ := zdays_W h.1 d (by omega)
    obtain ⟨q1, -, q3⟩ := a.day zw c (by omega)
    have e6 : va_up s 1 (e : Int) 6 = s 6 := rfl
    exact ⟨q1, q3.trans b, (zdays_W hW (d + 1) (by omega)).1⟩
section CEYES
variable {g : GX} {N b aH : Nat} {F : Nat → GC} {s : Nat → Int}
def EE (N b aH : Nat) (F : Nat → GC) (s f : Nat → Int) : GV → GM → Prop := fun rr M' => rr = gU ∧ ∃ (F2 : Nat → GC) (f' : Nat → Int), M' = (N, F2) ∧ CTY F2 b s ∧ FK (fun k => inC b k ∨ k = aH) F F2 ∧ F2 aH = cI 100 f' ∧ ∀ e : Nat, e < 100 → f' e = if s (8 + (s 6).tmod 6).toNat ≤ zcE s ((s 6).tmod 6) e then zheld (f e + 1) 0 99999 else f e
theorem qB_eachEye (h : CTY F b s) (h103 : b + 16 ≤ 103) (hZ : ZG s) {f : Nat → Int} (hH : F aH = cI 100 f) (ha : aH < 85) (hab : aH < b ∨ b + 16 ≤ aH) (hf : ∀ e : Nat, e < 100 → 0 ≤ f e ∧ f e ≤ 99999) : CT g yB_bargainWithEachEye 3 0 0 [gR b, gR aH] (N, F) (EE N b aH F s f) := by
  have ho := h.1
  have w6 := hZ.1.2.2.1
  obtain ⟨hz1, hz⟩ := zmany_le hZ.1
  generalize hyy : (s 6).tmod 6 = y
  have hy : 0 ≤ y ∧ y ≤ 5 := by have := tmod_in (a := s 6) (b := 6) (by omega) (by omega); omega
  have hcr := zinY_in s y (zmany s)
  obtain ⟨f5, h5⟩ := h.2.2.2.2.2.1
  have down : ∀ (k : Nat), k ≤ 100 → ∀ (F1 : Nat → GC) (t f1 : Nat → Int), CTY F1 b s → FK (fun k => inC b k ∨ k = aH) F F1 → F1 (b + 5) = cI 100 t → (∀ v : Nat, v < 100 → t v = zcV s y v (zmany s)) → F1 aH = cI 100 f1 → (∀ e : Nat, e < 100 → f1 e = if k ≤ e then (if s (8 + y).toNat ≤ zcE s y e then zheld (f e + 1) 0 99999 else f e) else f e) → Go g yB_bargainWithEachEye 3 0 0 102 [gR b, gR aH, gI y, gI (zinY s y (zmany s)), gI (zcE s y k), gI ((k : Int) - 1)] [] (N, F1) (EE N b aH F s f) := by
    intro k
    induction k with
    | zero =>
      intro hk F1 t f1 hC hF hTa ht h1 hf1
      refine go_iload dB_bargainWithEachEye_102 rfl ?_
      refine go_if_lt 151 dB_bargainWithEachEye_104 rfl (fun h104 => ?_) (fun h104 => absurd (by omega) h104)
      refine go_vret dB_bargainWithEachEye_151 rfl ?_
      exact ⟨rfl, F1, f1, rfl, hC, hF, h1, fun e he => by rw [hf1 e he, if_pos (by omega), hyy]⟩
    | succ k ih =>
      intro hk F1 t f1 hC hF hTa ht h1 hf1
      have ho := hC.1
      obtain ⟨f2, h2, e2⟩ := hC.nd hy
      have c1 := zcE_in hZ.1 y (k : Int)
      have c2 := zcE_in hZ.1 y ((k + 1 : Nat) : Int)
      have st := zcE_step s y (k : Int)
      have et := ht k (by omega)
      rw [show ((k : Int) + 1) = ((k + 1 : Nat) : Int) by omega] at st
      have hfk := hf k (by omega)
      have f1k := hf1 k (by omega)
      rw [if_neg (by omega)] at f1k
      refine go_cast (pc' := 102) rfl (show _ = [gR b, gR aH, gI y, gI (zinY s y (zmany s)), gI (zcE s y ((k + 1 : Nat) : Int)), gI (k : Int)] from by rw [show (((k + 1 : Nat) : Int) - 1) = (k : Int) by omega]) rfl rfl ?_
      refine go_iload dB_bargainWithEachEye_102 rfl ?_
      refine go_if_lt 151 dB_bargainWithEachEye_104 rfl (fun h104 => absurd h104 (by omega)) (fun h104 => ?_)
      refine go_iload dB_bargainWithEachEye_107 rfl ?_
      refine go_aload_n (i := 0) dB_bargainWithEachEye_109 rfl rfl trivial ?_
      refine go_getf dB_bargainWithEachEye_110 flB30 (by assumption) rfl ?_
      refine go_iload dB_bargainWithEachEye_113 rfl ?_
      refine go_iald' k _ dB_bargainWithEachEye_115 hTa rfl (by omega) et ?_
      refine go_iadd dB_bargainWithEachEye_116 ?_
      refine go_top (zcE s y k) (by (try simp (discharger := (unfold inR; omega)) only [w32_id]) <;> omega) ?_
      refine go_is4 dB_bargainWithEachEye_117 (Nat.le_of_ble_eq_true rfl) trivial ?_
      refine go_iload dB_bargainWithEachEye_119 rfl ?_
      refine go_aload_n (i := 0) dB_bargainWithEachEye_121 rfl rfl trivial ?_
      refine go_getf dB_bargainWithEachEye_122 flB17 (by assumption) rfl ?_
      refine go_iload_n (i := 2) dB_bargainWithEachEye_125 rfl rfl ?_
      refine go_iald' y.toNat _ dB_bargainWithEachEye_126 h2 (by omega) (by omega) e2 ?_
      refine go_ic_lt 145 dB_bargainWithEachEye_127 rfl (fun h127 => ?_) (fun h127 => ?_)
      · refine go_inc5 (((k : Int) - 1)) dB_bargainWithEachEye_145 (Nat.le_of_ble_eq_true rfl) trivial (by (try simp (discharger := (unfold inR; omega)) only [w32_id]) <;> omega) ?_
        refine go_goto 102 dB_bargainWithEachEye_148 rfl ?_
        refine ih (by omega) F1 t f1 hC hF hTa ht h1 (fun e he => ?_)
        rw [hf1 e he]
        by_cases q : e = k
        · subst q; rw [if_neg (by omega), if_pos (by omega), if_neg (by omega)]
        · by_cases q2 : k ≤ e
          · rw [if_pos (by omega), if_pos q2]
          · rw [if_neg (by omega), if_neg q2]
      · refine go_aload_n (i := 1) dB_bargainWithEachEye_130 rfl rfl trivial ?_
        refine go_iload dB_bargainWithEachEye_131 rfl ?_
        refine go_ldc dB_bargainWithEachEye_133 kcB153 (inR_of _ rfl) ?_
        refine go_aload_n (i := 1) dB_bargainWithEachEye_135 rfl rfl trivial ?_
        refine go_iload dB_bargainWithEachEye_136 rfl ?_
        refine go_iald' k _ dB_bargainWithEachEye_138 h1 rfl (by omega) f1k ?_
        refine go_iconst dB_bargainWithEachEye_139 (inR_of _ rfl) ?_
        refine go_iadd dB_bargainWithEachEye_140 ?_
        refine go_top (f k + 1) (by (try simp (discharger := (unfold inR; omega)) only [w32_id]) <;> omega) ?_
        refine go_mmin dB_bargainWithEachEye_141 vkB154 (fun _ => Nat.le_of_ble_eq_true rfl) (by omega) ?_
        refine go_top (zheld (f k + 1) 0 99999) (iMin_held (by omega)) ?_
        refine go_iast' k dB_bargainWithEachEye_144 h1 rfl (by omega) ?_
        refine go_inc5 (((k : Int) - 1)) dB_bargainWithEachEye_145 (Nat.le_of_ble_eq_true rfl) trivial (by (try simp (discharger := (unfold inR; omega)) only [w32_id]) <;> omega) ?_
        refine go_goto 102 dB_bargainWithEachEye_148 rfl ?_
        have hfk2 : FK (fun k => k = aH) F1 (va_up F1 aH (cI 100 (va_up f1 k (zheld (f k + 1) 0 99999)))) := FK.rf.put rfl
        refine ih (by omega) _ t _ (hC.fk hfk2 (fun k q r => by omega) (fun k k1 k2 r => by omega) h103) (hF.put (Or.inr rfl)) (by rw [va_up_ne _ _ (by omega)]; exact hTa) ht (va_up_self _ _ _) (fun e he => ?_)
        by_cases q : e = k
        · subst q; rw [va_up_self, if_pos (by omega), if_pos (by omega)]
        · rw [va_up_ne _ _ q, hf1 e he]
          by_cases q2 : k ≤ e
          · rw [if_pos (by omega), if_pos q2]
          · rw [if_neg (by omega), if_neg q2]
  have up : ∀ (n i : Nat), i + n = zmany s → ∀ (F1 : Nat → GC) (t : Nat → Int) (x5 : GV), CTY F1 b s → FK (fun k => inC b k ∨ k = aH) F F1 → F1 (b + 5) = cI 100 t → (∀ v : Nat, v < 100 → t v = zcV s y v i) → F1 aH = cI 100 f → Go g yB_bargainWithEachEye 3 0 0 25 [gR b, gR aH, gI y, gI (zinY s y (zmany s)), gI (i : Int), x5] [] (N, F1) (EE N b aH F s f) := by
    intro n
    induction n with
    | zero =>
      intro i hi F1 t x5 hC hF hTa ht h1
      have ho := hC.1
      refine go_iload dB_bargainWithEachEye_25 rfl ?_
      refine go_aload_n (i := 0) dB_bargainWithEachEye_27 rfl rfl trivial ?_
      refine go_getf dB_bargainWithEachEye_28 flB33 (by assumption) rfl ?_
      refine go_ic_ge 95 dB_bargainWithEachEye_31 rfl (fun h31 => ?_) (fun h31 => absurd (by omega) h31)
      refine go_iconst dB_bargainWithEachEye_95 (inR_of _ rfl) ?_
      refine go_is4 dB_bargainWithEachEye_96 (Nat.le_of_ble_eq_true rfl) trivial ?_
      refine go_bipush dB_bargainWithEachEye_98 (inR_of _ rfl) rfl ?_
      refine go_is5 dB_bargainWithEachEye_100 (Nat.le_of_ble_eq_true rfl) trivial ?_
      have := down 100 (by omega) F1 t f hC hF hTa (fun v hv => by rw [ht v hv, show i = zmany s by omega]) h1 (fun e he => by rw [if_neg (by omega)])
      rw [show zcE s y ((100 : Nat) : Int) = 0 from zcE_top s y] at this
      exact this
    | succ n ih =>
      intro i hi F1 t x5 hC hF hTa ht h1
      have ho := hC.1
      have hr := hC.2.1
      have hg := hC.gs (i := i) (by omega) (by omega)
      have hgo := hZ.1.goose (i := (i : Int)) (by omega) (by omega)
      have es : ∀ v : Int, zcV s y v (i + 1) = zcV s y v i + (if zk s i 3 = y ∧ zsees s i = v then ztal (zk s i 0) else 0) := fun v => rfl
      refine go_iload dB_bargainWithEachEye_25 rfl ?_
      refine go_aload_n (i := 0) dB_bargainWithEachEye_27 rfl rfl trivial ?_
      refine go_getf dB_bargainWithEachEye_28 flB33 (by assumption) rfl ?_
      refine go_ic_ge 95 dB_bargainWithEachEye_31 rfl (fun h31 => absurd h31 (by omega)) (fun h31 => ?_)
      refine go_aload_n (i := 0) dB_bargainWithEachEye_34 rfl rfl trivial ?_
      refine go_getf dB_bargainWithEachEye_35 flB11 (by assumption) rfl ?_
      refine go_iload dB_bargainWithEachEye_38 rfl ?_
      refine go_aald' 1 "GooseCounty$Goose" (i) (b + 6 + i) dB_bargainWithEachEye_40 (by assumption) rfl (by omega) (by omega) (gRow_at (by omega)) ?_
      refine go_getf dB_bargainWithEachEye_41 flB88 (by assumption) rfl ?_
      refine go_iload_n (i := 2) dB_bargainWithEachEye_44 rfl rfl ?_
      refine go_ic_ne 89 dB_bargainWithEachEye_45 rfl (fun h45 => ?_) (fun h45 => ?_)
      · refine go_inc4 (((i + 1 : Nat) : Int)) dB_bargainWithEachEye_89 (Nat.le_of_ble_eq_true rfl) trivial (by (try simp (discharger := (unfold inR; omega)) only [w32_id]) <;> omega) ?_
        refine go_goto 25 dB_bargainWithEachEye_92 rfl ?_
        exact ih (i + 1) (by omega) F1 t x5 hC hF hTa (fun v hv => by rw [ht v hv, es, if_neg (fun q => h45 q.1)]; omega) h1
      · refine go_aload_n (i := 0) dB_bargainWithEachEye_48 rfl rfl trivial ?_
        refine go_aload_n (i := 0) dB_bargainWithEachEye_49 rfl rfl trivial ?_
        refine go_getf dB_bargainWithEachEye_50 flB11 (by assumption) rfl ?_
        refine go_iload dB_bargainWithEachEye_53 rfl ?_
        refine go_aald' 1 "GooseCounty$Goose" (i) (b + 6 + i) dB_bargainWithEachEye_55 (by assumption) rfl (by omega) (by omega) (gRow_at (by omega)) ?_
        refine go_iload_n (i := 2) dB_bargainWithEachEye_56 rfl rfl ?_
        refine go_iload_n (i := 3) dB_bargainWithEachEye_57 rfl rfl ?_
        refine go_VX dB_bargainWithEachEye_58 vkB137 (by assumption) (List.cons_ne_nil _ _) (qB_sees hC h103 hZ (i := i) (by omega) hy (by omega)) rfl (by omega) (by omega) (by omega) rfl (fun _ => Nat.le_of_ble_eq_true rfl) ?_
        rintro _ _ ⟨rfl, F2, rfl, hF2⟩ -
        dsimp only [rp]
        have hC2 := hC.fs hF2 h103
        have ho := hC2.1
        have hr := hC2.2.1
        have hg := hC2.gs (i := i) (by omega) (by omega)
        have hT2 : F2 (b + 5) = cI 100 t := by rw [FS.at hF2 (by omega)]; exact hTa
        have h12 : F2 aH = cI 100 f := by rw [FS.at hF2 (by omega)]; exact h1
        have esee : zseeM s i y (zinY s y (zmany s)) = zsees s i := by
          rw [zseeM_eq (zinY_one (i := i) (by omega) h45)]
          unfold zsees
          rw [h45]
        rw [esee]
        have hsi := zsees_in s i
        have et := ht (zsees s i).toNat (by omega)
        have eti : (((zsees s i).toNat : Nat) : Int) = zsees s i := by omega
        rw [eti] at et
        have c1 := zcV_in s y (zsees s i) i
        have tl := ztal_in (zk s i 0)
        have es2 := es (zsees s i)
        rw [if_pos ⟨h45, rfl⟩] at es2
        refine go_iconst dB_bargainWithEachEye_61 (inR_of _ rfl) ?_
        refine go_bipush dB_bargainWithEachEye_62 (inR_of _ rfl) rfl ?_
        refine go_SNP dB_bargainWithEachEye_64 vkB127 (ct_within _ _ _) rfl (by omega) rfl (fun _ => Nat.le_of_ble_eq_true rfl) ?_
        rw [zheld_id hsi.1 hsi.2]
        refine go_is5 dB_bargainWithEachEye_67 (Nat.le_of_ble_eq_true rfl) trivial ?_
        refine go_aload_n (i := 0) dB_bargainWithEachEye_69 rfl rfl trivial ?_
        refine go_getf dB_bargainWithEachEye_70 flB30 (by assumption) rfl ?_
        refine go_iload dB_bargainWithEachEye_73 rfl ?_
        refine go_dup2 dB_bargainWithEachEye_75 trivial trivial ?_
        refine go_iald' (zsees s i).toNat _ dB_bargainWithEachEye_76 hT2 (by omega) (by omega) et ?_
        refine go_aload_n (i := 0) dB_bargainWithEachEye_77 rfl rfl trivial ?_
        refine go_getf dB_bargainWithEachEye_78 flB11 (by assumption) rfl ?_
        refine go_iload dB_bargainWithEachEye_81 rfl ?_
        refine go_aald' 1 "GooseCounty$Goose" (i) (b + 6 + i) dB_bargainWithEachEye_83 (by assumption) rfl (by omega) (by omega) (gRow_at (by omega)) ?_
        refine go_VP dB_bargainWithEachEye_84 vkB141 (by assumption) (List.cons_ne_nil _ _) (cG_tallies hg hgo.1) rfl (by omega) rfl (fun _ => Nat.le_of_ble_eq_true rfl) ?_
        refine go_iadd dB_bargainWithEachEye_87 ?_
        refine go_top (zcV s y (zsees s i) (i + 1)) (by (try simp (discharger := (unfold inR; omega)) only [w32_id]) <;> omega) ?_
        refine go_iast' (zsees s i).toNat dB_bargainWithEachEye_88 hT2 (by omega) (by omega) ?_
        refine go_inc4 (((i + 1 : Nat) : Int)) dB_bargainWithEachEye_89 (Nat.le_of_ble_eq_true rfl) trivial (by (try simp (discharger := (unfold inR; omega)) only [w32_id]) <;> omega) ?_
        refine go_goto 25 dB_bargainWithEachEye_92 rfl ?_
        refine ih (i + 1) (by omega) _ _ _ (hC2.tally h103) ((hF.tr (FK.mono hF2 (fun _ q => False.elim q))).put (Or.inl (by omega))) (va_up_self _ _ _) (fun v hv => ?_) (by rw [va_up_ne _ _ (by omega)]; exact h12)
        by_cases q : v = (zsees s i).toNat
        · subst q; rw [va_up_self, eti]
        · rw [va_up_ne _ _ q, ht v hv, es, if_neg (fun r => q (by omega))]; omega
  refine CT.of' (L0 := [gR b, gR aH, gU, gU, gU, gU]) plB (Nat.le_of_ble_eq_true rfl) rfl ?_
  refine go_aload_n (i := 0) dB_bargainWithEachEye_0 rfl rfl trivial ?_
  refine go_getf dB_bargainWithEachEye_1 flB55 (by assumption) rfl ?_
  refine go_bipush dB_bargainWithEachEye_4 (inR_of _ rfl) rfl ?_
  refine go_irem dB_bargainWithEachEye_6 (by omega) ?_
  rw [hyy]
  refine go_is2 dB_bargainWithEachEye_7 (Nat.le_of_ble_eq_true rfl) trivial ?_
  refine go_aload_n (i := 0) dB_bargainWithEachEye_8 rfl rfl trivial ?_
  refine go_iload_n (i := 2) dB_bargainWithEachEye_9 rfl rfl ?_
  refine go_VP dB_bargainWithEachEye_10 vkB157 (by assumption) (List.cons_ne_nil _ _) (qB_crowd h hZ.1) rfl (by omega) rfl (fun _ => Nat.le_of_ble_eq_true rfl) ?_
  refine go_is3 dB_bargainWithEachEye_13 (Nat.le_of_ble_eq_true rfl) trivial ?_
  refine go_aload_n (i := 0) dB_bargainWithEachEye_14 rfl rfl trivial ?_
  refine go_getf dB_bargainWithEachEye_15 flB30 (by assumption) rfl ?_
  refine go_iconst dB_bargainWithEachEye_18 (inR_of _ rfl) ?_
  refine go_SX dB_bargainWithEachEye_19 vkB62 (qJ_fill h5 (by omega)) rfl (by omega) (by omega) (by omega) rfl (fun _ => Nat.le_of_ble_eq_true rfl) ?_
  rintro _ _ ⟨rfl, t, rfl, ht⟩ -
  dsimp only [rp]
  refine go_iconst dB_bargainWithEachEye_22 (inR_of _ rfl) ?_
  refine go_is4 dB_bargainWithEachEye_23 (Nat.le_of_ble_eq_true rfl) trivial ?_
  exact up (zmany s) 0 (by omega) _ t _ (h.tally h103) (FK.rf.put (Or.inl (by omega))) (va_up_self _ _ _) (fun v hv => ht v hv) (by rw [va_up_ne _ _ (by omega)]; exact hH)
theorem bA_eyes {m : Nat → Nat → Int} (h : COMP F m) (hJ : JV m) {n v : Int} : CT g yA_eyes 6 0 0 [gR 0, gI n, gI v] (N, F) (CB N F (gI (v_eyes (m 0) n v)) m) := by
  have ho := h.1
  have hn := h.2.1.1
  have z1 := zout_or n 0 60
  have z2 := zout_or v 0 99999
  have w6 := hJ.zg.1.2.2.1
  have w3 := hJ.zg.1.2.1
  have hd := hJ.1.1.2.2
  obtain ⟨f55, h55⟩ := h.2.2.2.2.2.2.2.2.1
  have bad : ¬ ((0 ≤ n ∧ n ≤ 60) ∧ 0 ≤ v ∧ v ≤ 99999) → Go g yA_eyes 6 0 0 20 [gR 0, gI n, gI v, gU] [] (N, F) (CB N F (gI (v_eyes (m 0) n v)) m) := by
    intro hb
    refine go_ldc dA_eyes_20 kcA65 (inR_of _ rfl) ?_
    refine go_iret dA_eyes_22 rfl rfl ?_
    exact CB.same h (by unfold v_eyes; rw [if_neg hb])
  have fin : ((0 ≤ n ∧ n ≤ 60) ∧ 0 ≤ v ∧ v ≤ 99999) → ∀ (F1 : Nat → GC) (f : Nat → Int) (S : Nat → Int), TH F F1 m S → F1 55 = cI 100 f → (∀ e : Nat, e < 100 → f e = zdays (va_up (m 0) 1 e) n.toNat 3) → ∀ k : Nat, k ≤ 100 → zlst (z_eye (m 0) n v) 100 = zlst (z_eye (m 0) n v) k → Go g yA_eyes 6 0 0 83 [gR 0, gI n, gI v, gI ((k : Int) - 1)] [] (N, F1) (CB N F (gI (v_eyes (m 0) n v)) m) := by
    intro ok F1 f S hT h1 hf k
    have ho := hT.1.1
    have ev : v_eyes (m 0) n v = if zlst (z_eye (m 0) n v) 100 < 0 then NONE else zlst (z_eye (m 0) n v) 100 := by unfold v_eyes; rw [if_pos ok]
    induction k with
    | zero =>
      intro hk e
      refine go_iload_n (i := 3) dA_eyes_83 rfl rfl ?_
      refine go_if_lt 105 dA_eyes_84 rfl (fun h84 => ?_) (fun h84 => absurd (by omega) h84)
      refine go_ldc dA_eyes_105 kcA162 (inR_of _ rfl) ?_
      refine go_iret dA_eyes_107 rfl rfl ?_
      refine hT.cb ?_
      rw [ev, e]
      show NONE = if (-1 : Int) < 0 then NONE else -1
      rw [if_pos (by omega)]
    | succ k ih =>
      intro hk e
      have e' : zlst (z_eye (m 0) n v) (k + 1) = if z_eye (m 0) n v k = 1 then (k : Int) else zlst (z_eye (m 0) n v) k := rfl
      refine go_cast (pc' := 83) rfl (show _ = [gR 0, gI n, gI v, gI (k : Int)] from by rw [show (((k + 1 : Nat) : Int) - 1) = (k : Int) by omega]) rfl rfl ?_
      refine go_iload_n (i := 3) dA_eyes_83 rfl rfl ?_
      refine go_if_lt 105 dA_eyes_84 rfl (fun h84 => absurd h84 (by omega)) (fun h84 => ?_)
      refine go_aload_n (i := 0) dA_eyes_87 rfl rfl trivial ?_
      refine go_getf dA_eyes_88 flA45 (by assumption) rfl ?_
      refine go_iload_n (i := 3) dA_eyes_91 rfl rfl ?_
      refine go_iald' k _ dA_eyes_92 h1 rfl (by omega) (hf k (by omega)) ?_
      refine go_iload_n (i := 2) dA_eyes_93 rfl rfl ?_
      refine go_ic_lt 99 dA_eyes_94 rfl (fun h94 => ?_) (fun h94 => ?_)
      · refine go_inc3 (((k : Int) - 1)) dA_eyes_99 (Nat.le_of_ble_eq_true rfl) trivial (by (try simp (discharger := (unfold inR; omega)) only [w32_id]) <;> omega) ?_
        refine go_goto 83 dA_eyes_102 rfl ?_
        refine ih (by omega) ?_
        rw [e, e', if_neg (by unfold z_eye; rw [if_neg (by omega)]; omega)]
      · refine go_iload_n (i := 3) dA_eyes_97 rfl rfl ?_
        refine go_iret dA_eyes_98 rfl rfl ?_
        refine hT.cb ?_
        rw [if_pos (show z_eye (m 0) n v k = 1 from by unfold z_eye; rw [if_pos (by omega)])] at e'
        rw [ev, e, e', if_neg (by omega)]
  have loop : ((0 ≤ n ∧ n ≤ 60) ∧ 0 ≤ v ∧ v ≤ 99999) → ∀ (k d : Nat), d + k = n.toNat → ∀ (F1 : Nat → GC) (f : Nat → Int), TH F F1 m (zdays (m 0) d) → F1 55 = cI 100 f → (∀ e : Nat, e < 100 → f e = zdays (va_up (m 0) 1 e) d 3) → Go g yA_eyes 6 0 0 50 [gR 0, gI n, gI v, gI (d : Int)] [] (N, F1) (CB N F (gI (v_eyes (m 0) n v)) m) := by
    intro ok k
    induction k with
    | zero =>
      intro d hdk F1 f hT h1 hf
      refine go_iload_n (i := 3) dA_eyes_50 rfl rfl ?_
      refine go_iload_n (i := 1) dA_eyes_51 rfl rfl ?_
      refine go_ic_ge 80 dA_eyes_52 rfl (fun h52 => ?_) (fun h52 => absurd (by omega) h52)
      refine go_bipush dA_eyes_80 (inR_of _ rfl) rfl ?_
      refine go_is3 dA_eyes_82 (Nat.le_of_ble_eq_true rfl) trivial ?_
      exact fin ok F1 f _ hT h1 (fun e he => by rw [hf e he, show d = n.toNat by omega]) 100 (by omega) rfl
    | succ k ih =>
      intro d hdk F1 f hT h1 hf
      have ho := hT.1.1
      have ht := hT.2.1.1
      obtain ⟨zg, kp, d6⟩ := zdays_G hJ.zg (n := d) (by omega)
      have each := qB_eachEye (g := g) (N := N) hT.2.1 (by omega) zg h1 (by omega) (by omega) (fun e he => by rw [hf e he]; have := (zE_days hJ.zg he d (by omega)).2.2.2.1; omega)
      refine go_iload_n (i := 3) dA_eyes_50 rfl rfl ?_
      refine go_iload_n (i := 1) dA_eyes_51 rfl rfl ?_
      refine go_ic_ge 80 dA_eyes_52 rfl (fun h52 => absurd h52 (by omega)) (fun h52 => ?_)
      refine go_aload_n (i := 0) dA_eyes_55 rfl rfl trivial ?_
      refine go_getf dA_eyes_56 flA19 (by assumption) rfl ?_
      refine go_aload_n (i := 0) dA_eyes_59 rfl rfl trivial ?_
      refine go_getf dA_eyes_60 flA45 (by assumption) rfl ?_
      refine go_VX dA_eyes_63 vkA224 (by assumption) (List.cons_ne_nil _ _) (each) rfl (by omega) (by omega) (by omega) rfl (fun _ => Nat.le_of_ble_eq_true rfl) ?_
      rintro _ _ ⟨rfl, F2, f2, rfl, hC2, hF2, h12, hf2⟩ -
      dsimp only [rp]
      have hC2' : COMP (va_up F1 55 (cI 100 f2)) m := hT.1.c55
      have hT2 : TH F F2 m (zdays (m 0) d) := by
        have hfk : FK (inC 33) (va_up F1 55 (cI 100 f2)) F2 := by
          intro j hj
          by_cases q : j = 55
          · subst q
            refine ⟨fun _ => by rw [h12, va_up_self], fun n' f' e => ⟨f', by rw [va_up_self] at e; rw [h12]; exact e⟩⟩
          · rw [va_up_ne _ _ q]
            exact hF2 j (fun r => r.elim hj q)
        exact ⟨hC2'.tho hC2 hfk, hC2, hT.2.2.tr (hF2.mono (fun j q => by rcases q with q | q <;> (show j < 85) <;> (try have := q.2) <;> omega))⟩
      have ho := hT2.1.1
      have ht := hT2.2.1.1
      have pass := qB_pass (g := g) (N := N) hT2.2.1 (by omega) zg (n := 1) (by omega) (by omega)
      refine go_aload_n (i := 0) dA_eyes_66 rfl rfl trivial ?_
      refine go_getf dA_eyes_67 flA19 (by assumption) rfl ?_
      refine go_iconst dA_eyes_70 (inR_of _ rfl) ?_
      refine go_VX dA_eyes_71 vkA177 (by assumption) (List.cons_ne_nil _ _) (pass) rfl (by omega) (by omega) (by omega) rfl (fun _ => Nat.le_of_ble_eq_true rfl) ?_
      rintro _ _ ⟨rfl, F3, rfl, hC3, hF3⟩ -
      dsimp only [rp]
      refine go_inc3 (((d + 1 : Nat) : Int)) dA_eyes_74 (Nat.le_of_ble_eq_true rfl) trivial (by (try simp (discharger := (unfold inR; omega)) only [w32_id]) <;> omega) ?_
      refine go_goto 50 dA_eyes_77 rfl ?_
      refine ih (d + 1) (by omega) F3 f2 (hT2.op hC3 hF3) (by rw [hF3.at (by omega) (fun q => by have := q.2; omega)]; exact h12) (fun e he => ?_)
      obtain ⟨a1, a2, a3⟩ := zE_days hJ.zg he d (by omega)
      have := (a1.day zg.1 a3 (by omega)).2.1
      show f2 e = zday (zdays (va_up (m 0) 1 e) d) 3
      rw [this, a2, hf2 e he, hf e he]
  refine CT.of' (L0 := [gR 0, gI n, gI v, gU]) plA (Nat.le_of_ble_eq_true rfl) rfl ?_
  refine go_iload_n (i := 1) dA_eyes_0 rfl rfl ?_
  refine go_iconst dA_eyes_1 (inR_of _ rfl) ?_
  refine go_bipush dA_eyes_2 (inR_of _ rfl) rfl ?_
  refine go_SP dA_eyes_4 vkA61 (ct_outside _ _ _) rfl (by omega) rfl (fun _ => Nat.le_of_ble_eq_true rfl) ?_
  refine go_if_ne 20 dA_eyes_7 rfl (fun h7 => ?_) (fun h7 => ?_)
  · exact bad (by omega)
  · refine go_iload_n (i := 2) dA_eyes_10 rfl rfl ?_
    refine go_iconst dA_eyes_11 (inR_of _ rfl) ?_
    refine go_ldc dA_eyes_12 kcA217 (inR_of _ rfl) ?_
    refine go_SP dA_eyes_14 vkA61 (ct_outside _ _ _) rfl (by omega) rfl (fun _ => Nat.le_of_ble_eq_true rfl) ?_
    refine go_if_eq 23 dA_eyes_17 rfl (fun h17 => ?_) (fun h17 => ?_)
    · have ok : (0 ≤ n ∧ n ≤ 60) ∧ 0 ≤ v ∧ v ≤ 99999 := by omega
      refine go_aload_n (i := 0) dA_eyes_23 rfl rfl trivial ?_
      refine go_getf dA_eyes_24 flA45 (by assumption) rfl ?_
      refine go_aload_n (i := 0) dA_eyes_27 rfl rfl trivial ?_
      refine go_getf dA_eyes_28 flA10 (by assumption) rfl ?_
      refine go_getf dA_eyes_31 flA171 (by assumption) rfl ?_
      refine go_SX dA_eyes_34 vkA218 (qJ_fill h55 (by omega)) rfl (by omega) (by omega) (by omega) rfl (fun _ => Nat.le_of_ble_eq_true rfl) ?_
      rintro _ _ ⟨rfl, f1, rfl, hf1⟩ -
      dsimp only [rp]
      have hC := h.c55 (f := f1)
      have ho := hC.1
      have hn := hC.2.1.1
      obtain ⟨s33, h33⟩ := hC.2.2.2.1
      have ht := h33.1
      have bec := qB_become (g := g) (N := N) h33 hC.2.1 (by omega) (by omega) (by omega) hJ.zg.1 hJ.zg.2.1.1.2
      refine go_aload_n (i := 0) dA_eyes_37 rfl rfl trivial ?_
      refine go_getf dA_eyes_38 flA19 (by assumption) rfl ?_
      refine go_aload_n (i := 0) dA_eyes_41 rfl rfl trivial ?_
      refine go_getf dA_eyes_42 flA10 (by assumption) rfl ?_
      refine go_VX dA_eyes_45 vkA203 (by assumption) (List.cons_ne_nil _ _) (bec) rfl (by omega) (by omega) (by omega) rfl (fun _ => Nat.le_of_ble_eq_true rfl) ?_
      rintro _ _ ⟨rfl, F2, rfl, hC2, hF2⟩ -
      dsimp only [rp]
      have hT : TH F F2 m (m 0) := ⟨hC.tho hC2 hF2, hC2, (FK.rf.put (P := pA) (by omega)).tr hF2.c33⟩
      refine go_iconst dA_eyes_48 (inR_of _ rfl) ?_
      refine go_is3 dA_eyes_49 (Nat.le_of_ble_eq_true rfl) trivial ?_
      refine loop ok n.toNat 0 (by omega) F2 f1 hT ?_ (fun e he => hf1 e he)
      rw [hF2.at (by omega) (fun q => by have := q.2; omega), va_up_self]
    · exact bad (by omega)
end CEYES
