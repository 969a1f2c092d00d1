/-! ===== the component's public calls: what will be ===== -/
/-- the component while it thinks: the thought county is S -/
def TH (F F1 : Nat → GC) (m : Nat → Nat → Int) (S : Nat → Int) : Prop := COMP F1 m ∧ CTY F1 33 S ∧ FK pA F F1
theorem TH.op {F F1 F2 : Nat → GC} {m : Nat → Nat → Int} {S S' : Nat → Int} (h : TH F F1 m S) (hC : CTY F2 33 S') (hF : FK (inC 33) F1 F2) : TH F F2 m S' := ⟨h.1.tho hC hF, hC, h.2.2.tr hF.c33⟩
theorem TH.fs {F F1 F2 : Nat → GC} {m : Nat → Nat → Int} {S : Nat → Int} (h : TH F F1 m S) (hF : FS F1 F2) : TH F F2 m S := ⟨h.1.fs hF, h.2.1.fs hF (by omega), h.2.2.tr hF.a⟩
theorem TH.cb {N : Nat} {F F1 : Nat → GC} {m : Nat → Nat → Int} {S : Nat → Int} {v v' : Int} (h : TH F F1 m S) (e : v' = v) : CB N F (gI v) m (gI v') (N, F1) := ⟨by rw [e], F1, rfl, h.1, h.2.2⟩
theorem zdays_G {s : Nat → Int} (h : ZG s) {n : Nat} (hn : s 6 + n ≤ 20000) : ZG (zdays s n) ∧ zkeep s (zdays s n) ∧ zdays s n 6 = s 6 + n := by
  obtain ⟨a, b, c⟩ := zdays_W h.1 n hn
  exact ⟨h.keep a b.2.2.2.2.2, b, c⟩
theorem zday_yard {s : Nat → Int} (h : zW s) (hd : s 6 < 20000) {i : Nat} (hi : (i : Int) < s 0) : zk (zday s) i 3 = (zk s i 3 + zwan (zk s i 0)).tmod 6 ∧ zk (zday s) i 0 = zk s i 0 := by
  obtain ⟨hz1, hz⟩ := zmany_le h
  have wb := zbarg_W h ((s 6).tmod 6)
  obtain ⟨kb, -, -, -⟩ := zbarg_keep h ((s 6).tmod 6)
  obtain ⟨ww, kw, -, wy⟩ := zwander_W wb
  obtain ⟨wo, ko, -⟩ := zolder_W ww
  obtain ⟨wf, -, -, -, fy⟩ := zfox_W wo
  have e3 : ∀ w : Nat, w < 4 → zk (zbarg s ((s 6).tmod 6)) i w = zk s i w := fun w hw => by
    rw [zk_nat, zk_nat]
    unfold zbarg
    rw [va_up_ne _ _ (by split <;> omega), zset_goose (by omega) (by omega), if_neg (by omega)]
  constructor
  · have e : zk (zday s) i 3 = zday s (17 + 5 * i) := by rw [show (3 : Int) = ((3 : Nat) : Int) from rfl, zk_nat]; congr 1; omega
    rw [e]
    unfold zday
    rw [va_up_ne _ _ (by omega), fy i (by rw [ko.1, kw.1, kb.1]; exact hi)]
    have e2 : zolder (zwander (zbarg s ((s 6).tmod 6))) (17 + 5 * i) = zwander (zbarg s ((s 6).tmod 6)) (17 + 5 * i) := by
      unfold zolder
      rw [show 17 + 5 * i = 14 + 5 * i + 3 by omega, zset_goose (by omega) (by omega), if_neg (by omega)]
    rw [e2, (wy i (by rw [kb.1]; exact hi)).2.2]
    have q3 := e3 3 (by omega)
    have q0 := e3 0 (by omega)
    rw [show zk (zbarg s ((s 6).tmod 6)) i 3 = zk s i 3 from q3, show zk (zbarg s ((s 6).tmod 6)) i 0 = zk s i 0 from q0]
  · have := (zday_W h hd).2.1.2.2.2.2.1 i hi
    rw [show (0 : Int) = ((0 : Nat) : Int) from rfl, zk_nat, zk_nat]
    exact this.1
def zwn (s : Nat → Int) : Nat → Nat → Int
  | 0 => s
  | n + 1 => zwander (zwn s n)
theorem zwn_days {s : Nat → Int} (h : zW s) : ∀ n : Nat, s 6 + n ≤ 20000 → zW (zwn s n) ∧ zwn s n 0 = s 0 ∧ (∀ j : Nat, 64 ≤ j → zwn s n j = s j) ∧ ∀ i : Nat, (i : Int) < s 0 → zk (zwn s n) i 3 = zk (zdays s n) i 3 ∧ zk (zwn s n) i 0 = zk (zdays s n) i 0 := by
  intro n
  induction n with
  | zero => intro _; exact ⟨h, rfl, fun _ _ => rfl, fun i hi => ⟨rfl, rfl⟩⟩
  | succ n ih =>
    intro hn
    obtain ⟨a, b, c, d⟩ := ih (by omega)
    obtain ⟨ww, kw, -, wy⟩ := zwander_W a
    obtain ⟨dw, dk, d6⟩ := zdays_W h n (by omega)
    refine ⟨ww, kw.1.trans b, fun j hj => (kw.2.2.2.2.2 j hj).trans (c j hj), fun i hi => ?_⟩
    obtain ⟨q1, q2⟩ := zday_yard dw (by omega) (i := i) (by rw [dk.1]; exact hi)
    have w1 := (wy i (by rw [b]; exact hi)).2.2
    have w2 := (kw.2.2.2.2.1 i (by rw [b]; exact hi)).1
    have e3 : zk (zwander (zwn s n)) i 3 = zwander (zwn s n) (17 + 5 * i) := by rw [show (3 : Int) = ((3 : Nat) : Int) from rfl, zk_nat]; congr 1; omega
    have e0 : zk (zwander (zwn s n)) i 0 = zwander (zwn s n) (14 + 5 * i) := by rw [show (0 : Int) = ((0 : Nat) : Int) from rfl, zk_nat]; rfl
    have f0 : zk (zwn s n) i 0 = zwn s n (14 + 5 * i) := by rw [show (0 : Int) = ((0 : Nat) : Int) from rfl, zk_nat]; rfl
    show zk (zwander (zwn s n)) i 3 = zk (zday (zdays s n)) i 3 ∧ zk (zwander (zwn s n)) i 0 = zk (zday (zdays s n)) i 0
    rw [q1, q2, e3, e0, w1, w2, ← f0, (d i hi).1, (d i hi).2]
    exact ⟨rfl, rfl⟩
section CPUB2
variable {g : GX} {N : Nat} {F F1 : Nat → GC} {m : Nat → Nat → Int}
theorem qA_think (h : COMP F1 m) (hJ : JV m) (hF : FK pA F F1) : CT g yB_become 1 0 0 [gR 33, gR 1] (N, F1) (fun rr M' => rr = gU ∧ ∃ F2, M' = (N, F2) ∧ TH F F2 m (m 0)) := by
  obtain ⟨s, hs⟩ := h.2.2.2.1
  refine CT.mono ?_ (qB_become hs h.2.1 (by omega) (by omega) (by omega) hJ.zg.1 hJ.zg.2.1.1.2)
  rintro _ _ ⟨rfl, F2, rfl, hC, hF2⟩
  exact ⟨rfl, F2, rfl, h.tho hC hF2, hC, hF.tr hF2.c33⟩
theorem qA_pass {S : Nat → Int} (h : TH F F1 m S) (hZ : ZG S) {n : Nat} (hn : n ≤ 1000) (hd : S 6 + n ≤ 20000) : CT g yB_pass 5 0 0 [gR 33, gI (n : Int)] (N, F1) (fun rr M' => rr = gU ∧ ∃ F2, M' = (N, F2) ∧ TH F F2 m (zdays S n)) := by
  refine CT.mono ?_ (qB_pass h.2.1 (by omega) hZ hn hd)
  rintro _ _ ⟨rfl, F2, rfl, hC, hF2⟩
  exact ⟨rfl, F2, rfl, h.op hC hF2⟩
theorem bA_behind (h : COMP F m) (hJ : JV m) {n w : Int} : CT g yA_behind 7 0 0 [gR 0, gI n, gI w] (N, F) (CB N F (gI (v_behind (m 0) n w)) m) := by
  have ho := h.1
  have hn := h.2.1.1
  have z1 := zout_or n 0 100
  have z2 := zout_or w 0 (4 + m 0 0)
  have w0 := hJ.zg.1.1
  have w6 := hJ.zg.1.2.2.1
  have hd := hJ.1.1.2.2
  obtain ⟨s33, h33⟩ := h.2.2.2.1
  have ht := h33.1
  refine CT.of' (L0 := [gR 0, gI n, gI w, gU]) plA (Nat.le_of_ble_eq_true rfl) rfl ?_
  have bad : ¬ ((0 ≤ n ∧ n ≤ 100) ∧ 0 ≤ w ∧ w ≤ 4 + m 0 0) → Go g yA_behind 7 0 0 27 [gR 0, gI n, gI w, gU] [] (N, F) (CB N F (gI (v_behind (m 0) n w)) m) := by
    intro hb
    refine go_ldc dA_behind_27 kcA65 (inR_of _ rfl) ?_
    refine go_iret dA_behind_29 rfl rfl ?_
    exact CB.same h (by unfold v_behind; rw [if_neg hb])
  refine go_iload_n (i := 1) dA_behind_0 rfl rfl ?_
  refine go_iconst dA_behind_1 (inR_of _ rfl) ?_
  refine go_bipush dA_behind_2 (inR_of _ rfl) rfl ?_
  refine go_SP dA_behind_4 vkA61 (ct_outside _ _ _) rfl (by omega) rfl (fun _ => Nat.le_of_ble_eq_true rfl) ?_
  refine go_if_ne 27 dA_behind_7 rfl (fun h7 => ?_) (fun h7 => ?_)
  · exact bad (by omega)
  · refine go_iload_n (i := 2) dA_behind_10 rfl rfl ?_
    refine go_iconst dA_behind_11 (inR_of _ rfl) ?_
    refine go_iconst dA_behind_12 (inR_of _ rfl) ?_
    refine go_aload_n (i := 0) dA_behind_13 rfl rfl trivial ?_
    refine go_getf dA_behind_14 flA10 (by assumption) rfl ?_
    refine go_getf dA_behind_17 flA70 (by assumption) rfl ?_
    refine go_iadd dA_behind_20 ?_
    refine go_top (4 + m 0 0) (by (try simp (discharger := (unfold inR; omega)) only [w32_id]) <;> omega) ?_
    refine go_SP dA_behind_21 vkA61 (ct_outside _ _ _) rfl (by omega) rfl (fun _ => Nat.le_of_ble_eq_true rfl) ?_
    refine go_if_eq 30 dA_behind_24 rfl (fun h24 => ?_) (fun h24 => ?_)
    · have ok : (0 ≤ n ∧ n ≤ 100) ∧ 0 ≤ w ∧ w ≤ 4 + m 0 0 := by omega
      obtain ⟨zg, kp, -⟩ := zdays_G hJ.zg (n := n.toNat) (by omega)
      have en : ((n.toNat : Nat) : Int) = n := by omega
      refine go_aload_n (i := 0) dA_behind_30 rfl rfl trivial ?_
      refine go_getf dA_behind_31 flA19 (by assumption) rfl ?_
      refine go_aload_n (i := 0) dA_behind_34 rfl rfl trivial ?_
      refine go_getf dA_behind_35 flA10 (by assumption) rfl ?_
      refine go_VX dA_behind_38 vkA203 (by assumption) (List.cons_ne_nil _ _) (qA_think h hJ FK.rf) rfl (by omega) (by omega) (by omega) rfl (fun _ => Nat.le_of_ble_eq_true rfl) ?_
      rintro _ _ ⟨rfl, F1, rfl, hT⟩ -
      dsimp only [rp]
      have ho := hT.1.1
      have ht := hT.2.1.1
      have pass := qA_pass (g := g) (N := N) hT hJ.zg (n := n.toNat) (by omega) (by omega)
      rw [en] at pass
      refine go_aload_n (i := 0) dA_behind_41 rfl rfl trivial ?_
      refine go_getf dA_behind_42 flA19 (by assumption) rfl ?_
      refine go_iload_n (i := 1) dA_behind_45 rfl rfl ?_
      refine go_VX dA_behind_46 vkA177 (by assumption) (List.cons_ne_nil _ _) (pass) rfl (by omega) (by omega) (by omega) rfl (fun _ => Nat.le_of_ble_eq_true rfl) ?_
      rintro _ _ ⟨rfl, F2, rfl, hT2⟩ -
      dsimp only [rp]
      have ho := hT2.1.1
      have ht := hT2.2.1.1
      have hr := hT2.2.1.2.1
      have e0 : zdays (m 0) n.toNat 0 = m 0 0 := kp.1
      refine go_iload_n (i := 2) dA_behind_49 rfl rfl ?_
      refine go_iconst dA_behind_50 (inR_of _ rfl) ?_
      refine go_isub dA_behind_51 ?_
      refine go_top (w - 5) (by (try simp (discharger := (unfold inR; omega)) only [w32_id]) <;> omega) ?_
      refine go_is3 dA_behind_52 (Nat.le_of_ble_eq_true rfl) trivial ?_
      refine go_aload_n (i := 0) dA_behind_53 rfl rfl trivial ?_
      refine go_getf dA_behind_54 flA19 (by assumption) rfl ?_
      refine go_iload_n (i := 3) dA_behind_57 rfl rfl ?_
      refine go_VP dA_behind_58 vkA74 (by assumption) (List.cons_ne_nil _ _) (qB_hasGoose hT2.2.1) rfl (by omega) rfl (fun _ => Nat.le_of_ble_eq_true rfl) ?_
      by_cases c : 0 ≤ w - 5 ∧ w - 5 < zdays (m 0) n.toNat 0
      · rw [if_pos c]
        have hg := hT2.2.1.gs (i := (w - 5).toNat) (by omega) (by omega)
        have ei : (((w - 5).toNat : Nat) : Int) = w - 5 := by omega
        rw [ei] at hg
        refine go_if_eq 79 dA_behind_61 rfl (fun h61 => absurd h61 (by omega)) (fun h61 => ?_)
        refine go_aload_n (i := 0) dA_behind_64 rfl rfl trivial ?_
        refine go_getf dA_behind_65 flA19 (by assumption) rfl ?_
        refine go_getf dA_behind_68 flA78 (by assumption) rfl ?_
        refine go_iload_n (i := 3) dA_behind_71 rfl rfl ?_
        refine go_aald' 1 "GooseCounty$Goose" ((w - 5).toNat) (33 + 6 + (w - 5).toNat) dA_behind_72 (by assumption) rfl (by omega) (by omega) (gRow_at (by omega)) ?_
        refine go_getf dA_behind_73 flA207 (by assumption) rfl ?_
        refine go_goto 87 dA_behind_76 rfl ?_
        refine go_iret dA_behind_87 rfl rfl ?_
        exact hT2.cb (by unfold v_behind; rw [if_pos ok, if_neg (by omega), if_neg (by omega), if_neg (by omega)])
      · rw [if_neg c]
        refine go_if_eq 79 dA_behind_61 rfl (fun h61 => ?_) (fun h61 => absurd (by omega) h61)
        refine go_aload_n (i := 0) dA_behind_79 rfl rfl trivial ?_
        refine go_getf dA_behind_80 flA19 (by assumption) rfl ?_
        refine go_iload_n (i := 2) dA_behind_83 rfl rfl ?_
        refine go_SX dA_behind_84 vkA187 (qA_figure hT2.2.1 (by omega) zg) rfl (by omega) (by omega) (by omega) rfl (fun _ => Nat.le_of_ble_eq_true rfl) ?_
        rintro _ _ ⟨rfl, F3, rfl, hF3⟩ -
        dsimp only [rp]
        refine go_iret dA_behind_87 rfl rfl ?_
        refine (hT2.fs hF3).cb ?_
        unfold v_behind
        rw [if_pos ok]
        by_cases q1 : w < 3
        · rw [if_pos q1, if_pos (by omega)]
        · rw [if_neg q1, if_neg (by omega)]
          by_cases q2 : w = 3
          · rw [if_pos q2, if_pos q2]
          · rw [if_neg q2, if_neg q2, if_pos (by omega), if_pos (by omega), kp.many]
    · exact bad (by omega)
theorem bA_holds (h : COMP F m) (hJ : JV m) {y : Int} : CT g yA_holds 6 0 0 [gR 0, gI y] (N, F) (CB N F (gI (v_holds (m 0) y)) m) := by
  have ho := h.1
  have z1 := zout_or y 0 5
  have w6 := hJ.zg.1.2.2.1
  have hd := hJ.1.1.2.2
  obtain ⟨s33, h33⟩ := h.2.2.2.1
  have ht := h33.1
  have loop : (0 ≤ y ∧ y ≤ 5) → ∀ (k d : Nat), d + k = 201 → ∀ F1 : Nat → GC, TH F F1 m (zdays (m 0) d) → v_holds (m 0) y = z_none (zfst (fun d => zhold (zdays (m 0) d) y) k d) → Go g yA_holds 6 0 0 25 [gR 0, gI y, gI (d : Int)] [] (N, F1) (CB N F (gI (v_holds (m 0) y)) m) := by
    intro hy k
    induction k with
    | zero =>
      intro d hdk F1 hT e
      refine go_iload_n (i := 2) dA_holds_25 rfl rfl ?_
      refine go_sipush dA_holds_26 (inR_of _ rfl) rfl ?_
      refine go_ic_gt 59 dA_holds_29 rfl (fun h29 => ?_) (fun h29 => absurd (by omega) h29)
      refine go_ldc dA_holds_59 kcA162 (inR_of _ rfl) ?_
      refine go_iret dA_holds_61 rfl rfl ?_
      refine hT.cb ?_
      rw [e]
      show NONE = z_none d
      unfold z_none
      rw [if_pos (by omega)]
    | succ k ih =>
      intro d hdk F1 hT e
      obtain ⟨zg, kp, d6⟩ := zdays_G hJ.zg (n := d) (by omega)
      have ho := hT.1.1
      have ht := hT.2.1.1
      have hz := zhold01 (zdays (m 0) d) y
      refine go_iload_n (i := 2) dA_holds_25 rfl rfl ?_
      refine go_sipush dA_holds_26 (inR_of _ rfl) rfl ?_
      refine go_ic_gt 59 dA_holds_29 rfl (fun h29 => absurd h29 (by omega)) (fun h29 => ?_)
      refine go_aload_n (i := 0) dA_holds_32 rfl rfl trivial ?_
      refine go_getf dA_holds_33 flA19 (by assumption) rfl ?_
      refine go_iload_n (i := 1) dA_holds_36 rfl rfl ?_
      refine go_VX dA_holds_37 vkA138 (by assumption) (List.cons_ne_nil _ _) (qB_wouldHold hT.2.1 (by omega) zg hy) rfl (by omega) (by omega) (by omega) rfl (fun _ => Nat.le_of_ble_eq_true rfl) ?_
      rintro _ _ ⟨rfl, F2, rfl, hF2⟩ -
      dsimp only [rp]
      have hT2 := hT.fs hF2
      have ho := hT2.1.1
      have ht := hT2.2.1.1
      have e' : zfst (fun d => zhold (zdays (m 0) d) y) (k + 1) d = if zhold (zdays (m 0) d) y = 1 then d else zfst (fun d => zhold (zdays (m 0) d) y) k (d + 1) := rfl
      refine go_if_eq 45 dA_holds_40 rfl (fun h40 => ?_) (fun h40 => ?_)
      · rw [e', if_neg (by omega)] at e
        refine go_aload_n (i := 0) dA_holds_45 rfl rfl trivial ?_
        refine go_getf dA_holds_46 flA19 (by assumption) rfl ?_
        refine go_iconst dA_holds_49 (inR_of _ rfl) ?_
        refine go_VX dA_holds_50 vkA177 (by assumption) (List.cons_ne_nil _ _) (qA_pass hT2 zg (n := 1) (by omega) (by omega)) rfl (by omega) (by omega) (by omega) rfl (fun _ => Nat.le_of_ble_eq_true rfl) ?_
        rintro _ _ ⟨rfl, F3, rfl, hT3⟩ -
        dsimp only [rp]
        refine go_inc2 (((d + 1 : Nat) : Int)) dA_holds_53 (Nat.le_of_ble_eq_true rfl) trivial (by (try simp (discharger := (unfold inR; omega)) only [w32_id]) <;> omega) ?_
        refine go_goto 25 dA_holds_56 rfl ?_
        exact ih (d + 1) (by omega) F3 hT3 e
      · rw [e', if_pos (by omega)] at e
        refine go_iload_n (i := 2) dA_holds_43 rfl rfl ?_
        refine go_iret dA_holds_44 rfl rfl ?_
        refine hT2.cb ?_
        rw [e]
        unfold z_none
        rw [if_neg (by omega)]
  refine CT.of' (L0 := [gR 0, gI y, gU]) plA (Nat.le_of_ble_eq_true rfl) rfl ?_
  refine go_iload_n (i := 1) dA_holds_0 rfl rfl ?_
  refine go_iconst dA_holds_1 (inR_of _ rfl) ?_
  refine go_iconst dA_holds_2 (inR_of _ rfl) ?_
  refine go_SP dA_holds_3 vkA61 (ct_outside _ _ _) rfl (by omega) rfl (fun _ => Nat.le_of_ble_eq_true rfl) ?_
  refine go_if_eq 12 dA_holds_6 rfl (fun h6 => ?_) (fun h6 => ?_)
  · have hy : 0 ≤ y ∧ y ≤ 5 := by omega
    refine go_aload_n (i := 0) dA_holds_12 rfl rfl trivial ?_
    refine go_getf dA_holds_13 flA19 (by assumption) rfl ?_
    refine go_aload_n (i := 0) dA_holds_16 rfl rfl trivial ?_
    refine go_getf dA_holds_17 flA10 (by assumption) rfl ?_
    refine go_VX dA_holds_20 vkA203 (by assumption) (List.cons_ne_nil _ _) (qA_think h hJ FK.rf) rfl (by omega) (by omega) (by omega) rfl (fun _ => Nat.le_of_ble_eq_true rfl) ?_
    rintro _ _ ⟨rfl, F1, rfl, hT⟩ -
    dsimp only [rp]
    refine go_iconst dA_holds_23 (inR_of _ rfl) ?_
    refine go_is2 dA_holds_24 (Nat.le_of_ble_eq_true rfl) trivial ?_
    exact loop hy 201 0 rfl F1 hT (by unfold v_holds; rw [if_pos hy])
  · refine go_ldc dA_holds_9 kcA65 (inR_of _ rfl) ?_
    refine go_iret dA_holds_11 rfl rfl ?_
    exact CB.same h (by unfold v_holds; rw [if_neg (by omega)])
theorem bA_meets (h : COMP F m) (hJ : JV m) {i o : Int} : CT g yA_meets 3 0 0 [gR 0, gI i, gI o] (N, F) (CB N F (gI (v_meets (m 0) i o)) m) := by
  have ho := h.1
  have hn := h.2.1.1
  have w0 := hJ.zg.1.1
  have w6 := hJ.zg.1.2.2.1
  have hd := hJ.1.1.2.2
  obtain ⟨s33, h33⟩ := h.2.2.2.1
  have ht := h33.1
  have loop : ((0 ≤ i ∧ i < m 0 0) ∧ (0 ≤ o ∧ o < m 0 0) ∧ i ≠ o) → ∀ (k d : Nat), d + k = 201 → ∀ F1 : Nat → GC, TH F F1 m (zwn (m 0) d) → v_meets (m 0) i o = z_none (zfst (fun d => if zk (zdays (m 0) d) i 3 = zk (zdays (m 0) d) o 3 then 1 else 0) k d) → Go g yA_meets 3 0 0 43 [gR 0, gI i, gI o, gI (d : Int)] [] (N, F1) (CB N F (gI (v_meets (m 0) i o)) m) := by
    intro hy k
    induction k with
    | zero =>
      intro d hdk F1 hT e
      refine go_iload_n (i := 3) dA_meets_43 rfl rfl ?_
      refine go_sipush dA_meets_44 (inR_of _ rfl) rfl ?_
      refine go_ic_gt 92 dA_meets_47 rfl (fun h47 => ?_) (fun h47 => absurd (by omega) h47)
      refine go_ldc dA_meets_92 kcA162 (inR_of _ rfl) ?_
      refine go_iret dA_meets_94 rfl rfl ?_
      refine hT.cb ?_
      rw [e]
      show NONE = z_none d
      unfold z_none
      rw [if_pos (by omega)]
    | succ k ih =>
      intro d hdk F1 hT e
      obtain ⟨zw, e0, -, ek⟩ := zwn_days hJ.zg.1 d (by omega)
      have ho := hT.1.1
      have ht := hT.2.1.1
      have hr := hT.2.1.2.1
      have ei : ((i.toNat : Nat) : Int) = i := by omega
      have eo : ((o.toNat : Nat) : Int) = o := by omega
      have hg := hT.2.1.gs (i := i.toNat) (by omega) (by omega)
      have hg2 := hT.2.1.gs (i := o.toNat) (by omega) (by omega)
      have k1 := (ek i.toNat (by omega)).1
      have k2 := (ek o.toNat (by omega)).1
      rw [ei] at hg k1
      rw [eo] at hg2 k2
      have e' : zfst (fun d => if zk (zdays (m 0) d) i 3 = zk (zdays (m 0) d) o 3 then 1 else 0) (k + 1) d = if (if zk (zdays (m 0) d) i 3 = zk (zdays (m 0) d) o 3 then (1 : Int) else 0) = 1 then d else zfst (fun d => if zk (zdays (m 0) d) i 3 = zk (zdays (m 0) d) o 3 then 1 else 0) k (d + 1) := rfl
      refine go_iload_n (i := 3) dA_meets_43 rfl rfl ?_
      refine go_sipush dA_meets_44 (inR_of _ rfl) rfl ?_
      refine go_ic_gt 92 dA_meets_47 rfl (fun h47 => absurd h47 (by omega)) (fun h47 => ?_)
      refine go_aload_n (i := 0) dA_meets_50 rfl rfl trivial ?_
      refine go_getf dA_meets_51 flA19 (by assumption) rfl ?_
      refine go_getf dA_meets_54 flA78 (by assumption) rfl ?_
      refine go_iload_n (i := 1) dA_meets_57 rfl rfl ?_
      refine go_aald' 1 "GooseCounty$Goose" (i.toNat) (33 + 6 + i.toNat) dA_meets_58 (by assumption) rfl (by omega) (by omega) (gRow_at (by omega)) ?_
      refine go_getf dA_meets_59 flA88 (by assumption) rfl ?_
      refine go_aload_n (i := 0) dA_meets_62 rfl rfl trivial ?_
      refine go_getf dA_meets_63 flA19 (by assumption) rfl ?_
      refine go_getf dA_meets_66 flA78 (by assumption) rfl ?_
      refine go_iload_n (i := 2) dA_meets_69 rfl rfl ?_
      refine go_aald' 1 "GooseCounty$Goose" (o.toNat) (33 + 6 + o.toNat) dA_meets_70 (by assumption) rfl (by omega) (by omega) (gRow_at (by omega)) ?_
      refine go_getf dA_meets_71 flA88 (by assumption) rfl ?_
      rw [k1, k2]
      refine go_ic_ne 79 dA_meets_74 rfl (fun h74 => ?_) (fun h74 => ?_)
      · rw [e', if_neg (by rw [if_neg h74]; omega)] at e
        refine go_aload_n (i := 0) dA_meets_79 rfl rfl trivial ?_
        refine go_getf dA_meets_80 flA19 (by assumption) rfl ?_
        refine go_VX dA_meets_83 vkA210 (by assumption) (List.cons_ne_nil _ _) (qB_wander hT.2.1 (by omega) zw) rfl (by omega) (by omega) (by omega) rfl (fun _ => Nat.le_of_ble_eq_true rfl) ?_
        rintro _ _ ⟨rfl, F3, rfl, hC3, hF3⟩ -
        dsimp only [rp]
        refine go_inc3 (((d + 1 : Nat) : Int)) dA_meets_86 (Nat.le_of_ble_eq_true rfl) trivial (by (try simp (discharger := (unfold inR; omega)) only [w32_id]) <;> omega) ?_
        refine go_goto 43 dA_meets_89 rfl ?_
        exact ih (d + 1) (by omega) F3 (hT.op hC3 hF3) e
      · rw [e', if_pos (by rw [if_pos h74])] at e
        refine go_iload_n (i := 3) dA_meets_77 rfl rfl ?_
        refine go_iret dA_meets_78 rfl rfl ?_
        refine hT.cb ?_
        rw [e]
        unfold z_none
        rw [if_neg (by omega)]
  refine CT.of' (L0 := [gR 0, gI i, gI o, gU]) plA (Nat.le_of_ble_eq_true rfl) rfl ?_
  have bad : ¬ ((0 ≤ i ∧ i < m 0 0) ∧ (0 ≤ o ∧ o < m 0 0) ∧ i ≠ o) → Go g yA_meets 3 0 0 27 [gR 0, gI i, gI o, gU] [] (N, F) (CB N F (gI (v_meets (m 0) i o)) m) := by
    intro hb
    refine go_ldc dA_meets_27 kcA65 (inR_of _ rfl) ?_
    refine go_iret dA_meets_29 rfl rfl ?_
    exact CB.same h (by unfold v_meets; rw [if_neg hb])
  refine go_aload_n (i := 0) dA_meets_0 rfl rfl trivial ?_
  refine go_getf dA_meets_1 flA10 (by assumption) rfl ?_
  refine go_iload_n (i := 1) dA_meets_4 rfl rfl ?_
  refine go_VP dA_meets_5 vkA74 (by assumption) (List.cons_ne_nil _ _) (qB_hasGoose h.2.1) rfl (by omega) rfl (fun _ => Nat.le_of_ble_eq_true rfl) ?_
  by_cases c1 : 0 ≤ i ∧ i < m 0 0
  · rw [if_pos c1]
    refine go_if_eq 27 dA_meets_8 rfl (fun h8 => absurd h8 (by omega)) (fun h8 => ?_)
    refine go_aload_n (i := 0) dA_meets_11 rfl rfl trivial ?_
    refine go_getf dA_meets_12 flA10 (by assumption) rfl ?_
    refine go_iload_n (i := 2) dA_meets_15 rfl rfl ?_
    refine go_VP dA_meets_16 vkA74 (by assumption) (List.cons_ne_nil _ _) (qB_hasGoose h.2.1) rfl (by omega) rfl (fun _ => Nat.le_of_ble_eq_true rfl) ?_
    by_cases c2 : 0 ≤ o ∧ o < m 0 0
    · rw [if_pos c2]
      refine go_if_eq 27 dA_meets_19 rfl (fun h19 => absurd h19 (by omega)) (fun h19 => ?_)
      refine go_iload_n (i := 1) dA_meets_22 rfl rfl ?_
      refine go_iload_n (i := 2) dA_meets_23 rfl rfl ?_
      refine go_ic_ne 30 dA_meets_24 rfl (fun h24 => ?_) (fun h24 => ?_)
      · have hy : (0 ≤ i ∧ i < m 0 0) ∧ (0 ≤ o ∧ o < m 0 0) ∧ i ≠ o := ⟨c1, c2, h24⟩
        refine go_aload_n (i := 0) dA_meets_30 rfl rfl trivial ?_
        refine go_getf dA_meets_31 flA19 (by assumption) rfl ?_
        refine go_aload_n (i := 0) dA_meets_34 rfl rfl trivial ?_
        refine go_getf dA_meets_35 flA10 (by assumption) rfl ?_
        refine go_VX dA_meets_38 vkA203 (by assumption) (List.cons_ne_nil _ _) (qA_think h hJ FK.rf) rfl (by omega) (by omega) (by omega) rfl (fun _ => Nat.le_of_ble_eq_true rfl) ?_
        rintro _ _ ⟨rfl, F1, rfl, hT⟩ -
        dsimp only [rp]
        refine go_iconst dA_meets_41 (inR_of _ rfl) ?_
        refine go_is3 dA_meets_42 (Nat.le_of_ble_eq_true rfl) trivial ?_
        exact loop hy 201 0 rfl F1 hT (by unfold v_meets; rw [if_pos hy])
      · exact bad (fun q => q.2.2 (by omega))
    · rw [if_neg c2]
      refine go_if_eq 27 dA_meets_19 rfl (fun h19 => ?_) (fun h19 => absurd (by omega) h19)
      exact bad (fun q => c2 q.2.1)
  · rw [if_neg c1]
    refine go_if_eq 27 dA_meets_8 rfl (fun h8 => ?_) (fun h8 => absurd (by omega) h8)
    exact bad (fun q => c1 q.1)
theorem qA_best (h : COMP F m) (hJ : JV m) {i n w : Int} {v : Nat} (hv : v = 0 ∨ v = 3) [Decidable (c_ask (m 0) i n w)] : CT g yA_best 6 0 0 [gR 0, gI i, gI (v : Int), gI n, gI w] (N, F) (CB N F (gI (if c_ask (m 0) i n w then v_most (m 0) (14 + 5 * i.toNat + v) n.toNat w else BAD)) m) := by
  have ho := h.1
  have hn := h.2.1.1
  have w0 := hJ.zg.1.1
  have w6 := hJ.zg.1.2.2.1
  have hd := hJ.1.1.2.2
  have z1 := zout_or n 1 60
  have z2 := zout_or w 0 1
  obtain ⟨s33, h33⟩ := h.2.2.2.1
  have ht := h33.1
  have bad : ¬ c_ask (m 0) i n w → Go g yA_best 6 0 0 31 [gR 0, gI i, gI (v : Int), gI n, gI w, gU, gU, gU] [] (N, F) (CB N F (gI (if c_ask (m 0) i n w then v_most (m 0) (14 + 5 * i.toNat + v) n.toNat w else BAD)) m) := by
    intro hb
    refine go_ldc dA_best_31 kcA65 (inR_of _ rfl) ?_
    refine go_iret dA_best_33 rfl rfl ?_
    exact CB.same h (by rw [if_neg hb])
  have loop : c_ask (m 0) i n w → ∀ (k x : Nat), x + k = 6 → ∀ (F1 : Nat → GC) (fd mo : Int), COMP F1 m → FK pA F F1 → (x = 0 → fd = 0 ∧ mo = -1) → (0 < x → fd = ((zbest (zmost (m 0) (14 + 5 * i.toNat + v) n.toNat) x : Nat) : Int) ∧ mo = zmost (m 0) (14 + 5 * i.toNat + v) n.toNat (zbest (zmost (m 0) (14 + 5 * i.toNat + v) n.toNat) x)) → Go g yA_best 6 0 0 43 [gR 0, gI i, gI (v : Int), gI n, gI w, gI fd, gI mo, gI (x : Int)] [] (N, F1) (CB N F (gI (if c_ask (m 0) i n w then v_most (m 0) (14 + 5 * i.toNat + v) n.toNat w else BAD)) m) := by
    intro hc k
    have hc' := hc
    obtain ⟨ci, cn, cw⟩ := hc
    induction k with
    | zero =>
      intro x hx F1 fd mo hC hF k0 k1
      obtain ⟨q1, q2⟩ := k1 (by omega)
      refine go_iload dA_best_43 rfl ?_
      refine go_gets (i := 3) (q := ("MOST_OF_TRAIT", [5, 99, 99, 5, 9999])) dA_best_45 flA119 rfl ?_
      refine go_iload_n (i := 2) dA_best_48 rfl rfl ?_
      refine go_stald' 5 dA_best_49 rfl (by have := tb_most (k := (v : Int)) (by omega); rw [if_pos (by omega)] at this; exact this) ?_
      refine go_ic_gt 118 dA_best_50 rfl (fun h50 => ?_) (fun h50 => absurd (by omega) h50)
      refine go_iload dA_best_118 rfl ?_
      refine go_if_ne 128 dA_best_120 rfl (fun h120 => ?_) (fun h120 => ?_)
      · refine go_iload dA_best_128 rfl ?_
        refine go_iret dA_best_130 rfl rfl ?_
        exact ⟨by rw [if_pos hc']; unfold v_most; rw [if_neg h120, q2, show x = 6 by omega], F1, rfl, hC, hF⟩
      · refine go_iload dA_best_123 rfl ?_
        refine go_goto 130 dA_best_125 rfl ?_
        refine go_iret dA_best_130 rfl rfl ?_
        exact ⟨by rw [if_pos hc']; unfold v_most; rw [if_pos (by omega), q1, show x = 6 by omega], F1, rfl, hC, hF⟩
    | succ k ih =>
      intro x hx F1 fd mo hC hF k0 k1
      have ho := hC.1
      have hn := hC.2.1.1
      obtain ⟨s33, h33⟩ := hC.2.2.2.1
      have ht := h33.1
      have hW : zW (va_up (m 0) (14 + 5 * i.toNat + v) x) := zW_up hJ.zg.1 (by omega) (by omega) (by omega) (by omega) (by omega) (by omega) (by omega) (fun i' v' h1 h2 h3 => by omega)
      have hZ : ZG (va_up (m 0) (14 + 5 * i.toNat + v) x) := hJ.zg.keep hW (fun j hj => va_up_ne _ _ (by omega))
      have e6 : va_up (m 0) (14 + 5 * i.toNat + v) x 6 = m 0 6 := va_up_ne _ _ (by omega)
      have en : ((n.toNat : Nat) : Int) = n := by omega
      refine go_iload dA_best_43 rfl ?_
      refine go_gets (i := 3) (q := ("MOST_OF_TRAIT", [5, 99, 99, 5, 9999])) dA_best_45 flA119 rfl ?_
      refine go_iload_n (i := 2) dA_best_48 rfl rfl ?_
      refine go_stald' 5 dA_best_49 rfl (by have := tb_most (k := (v : Int)) (by omega); rw [if_pos (by omega)] at this; exact this) ?_
      refine go_ic_gt 118 dA_best_50 rfl (fun h50 => absurd h50 (by omega)) (fun h50 => ?_)
      refine go_aload_n (i := 0) dA_best_53 rfl rfl trivial ?_
      refine go_getf dA_best_54 flA19 (by assumption) rfl ?_
      refine go_aload_n (i := 0) dA_best_57 rfl rfl trivial ?_
      refine go_getf dA_best_58 flA10 (by assumption) rfl ?_
      refine go_VX dA_best_61 vkA203 (by assumption) (List.cons_ne_nil _ _) (qA_think hC hJ hF) rfl (by omega) (by omega) (by omega) rfl (fun _ => Nat.le_of_ble_eq_true rfl) ?_
      rintro _ _ ⟨rfl, F2, rfl, hT⟩ -
      dsimp only [rp]
      have ho := hT.1.1
      have ht := hT.2.1.1
      have hr := hT.2.1.2.1
      obtain ⟨f, hf, -⟩ := hT.2.1.2.2.2.2.2.2 i.toNat (by omega)
      refine go_aload_n (i := 0) dA_best_64 rfl rfl trivial ?_
      refine go_getf dA_best_65 flA19 (by assumption) rfl ?_
      refine go_getf dA_best_68 flA78 (by assumption) rfl ?_
      refine go_iload_n (i := 1) dA_best_71 rfl rfl ?_
      refine go_aald' 1 "GooseCounty$Goose" (i.toNat) (33 + 6 + i.toNat) dA_best_72 (by assumption) rfl (by omega) (by omega) (gRow_at (by omega)) ?_
      refine go_iload_n (i := 2) dA_best_73 rfl rfl ?_
      refine go_iload dA_best_74 rfl ?_
      refine go_VX dA_best_76 vkA122 (by assumption) (List.cons_ne_nil _ _) (qG_change hf (w := v) (by omega)) rfl (by omega) (by omega) (by omega) rfl (fun _ => Nat.le_of_ble_eq_true rfl) ?_
      rintro _ _ ⟨rfl, rfl⟩ -
      dsimp only [rp]
      have hC3 := hT.2.1.goose (by omega) (i := i.toNat) (w := v) (x := (x : Int)) (by omega) (by omega) hf
      have hT3 := hT.op hC3 (FK.rf.put (by omega))
      have ho := hT3.1.1
      have ht := hT3.2.1.1
      have pass := qA_pass (g := g) (N := N) hT3 hZ (n := n.toNat) (by omega) (by omega)
      rw [en] at pass
      refine go_aload_n (i := 0) dA_best_79 rfl rfl trivial ?_
      refine go_getf dA_best_80 flA19 (by assumption) rfl ?_
      refine go_iload_n (i := 3) dA_best_83 rfl rfl ?_
      refine go_VX dA_best_84 vkA177 (by assumption) (List.cons_ne_nil _ _) (pass) rfl (by omega) (by omega) (by omega) rfl (fun _ => Nat.le_of_ble_eq_true rfl) ?_
      rintro _ _ ⟨rfl, F4, rfl, hT4⟩ -
      dsimp only [rp]
      have ho := hT4.1.1
      have ht := hT4.2.1.1
      have h3 : 0 ≤ zdays (va_up (m 0) (14 + 5 * i.toNat + v) x) n.toNat 3 := (zdays_W hW n.toNat (by omega)).1.2.1.1
      have em : zdays (va_up (m 0) (14 + 5 * i.toNat + v) x) n.toNat 3 = zmost (m 0) (14 + 5 * i.toNat + v) n.toNat x := rfl
      have e : zbest (zmost (m 0) (14 + 5 * i.toNat + v) n.toNat) (x + 1) = if zmost (m 0) (14 + 5 * i.toNat + v) n.toNat (zbest (zmost (m 0) (14 + 5 * i.toNat + v) n.toNat) x) < zmost (m 0) (14 + 5 * i.toNat + v) n.toNat x then x else zbest (zmost (m 0) (14 + 5 * i.toNat + v) n.toNat) x := rfl
      refine go_aload_n (i := 0) dA_best_87 rfl rfl trivial ?_
      refine go_getf dA_best_88 flA19 (by assumption) rfl ?_
      refine go_getf dA_best_91 flA171 (by assumption) rfl ?_
      rw [em]
      rw [em] at h3
      refine go_iload dA_best_94 rfl ?_
      refine go_ic_le 112 dA_best_96 rfl (fun h96 => ?_) (fun h96 => ?_)
      · refine go_inc7 (((x + 1 : Nat) : Int)) dA_best_112 (Nat.le_of_ble_eq_true rfl) trivial (by (try simp (discharger := (unfold inR; omega)) only [w32_id]) <;> omega) ?_
        refine go_goto 43 dA_best_115 rfl ?_
        refine ih (x + 1) (by omega) F4 fd mo hT4.1 hT4.2.2 (by omega) (fun _ => ?_)
        by_cases c : x = 0
        · have := (k0 c).2; omega
        · obtain ⟨q1, q2⟩ := k1 (by omega)
          rw [e, if_neg (by omega)]
          exact ⟨q1, q2⟩
      · refine go_aload_n (i := 0) dA_best_99 rfl rfl trivial ?_
        refine go_getf dA_best_100 flA19 (by assumption) rfl ?_
        refine go_getf dA_best_103 flA171 (by assumption) rfl ?_
        rw [em]
        refine go_is6 dA_best_106 (Nat.le_of_ble_eq_true rfl) trivial ?_
        refine go_iload dA_best_108 rfl ?_
        refine go_is5 dA_best_110 (Nat.le_of_ble_eq_true rfl) trivial ?_
        refine go_inc7 (((x + 1 : Nat) : Int)) dA_best_112 (Nat.le_of_ble_eq_true rfl) trivial (by (try simp (discharger := (unfold inR; omega)) only [w32_id]) <;> omega) ?_
        refine go_goto 43 dA_best_115 rfl ?_
        refine ih (x + 1) (by omega) F4 _ _ hT4.1 hT4.2.2 (by omega) (fun _ => ?_)
        by_cases c : x = 0
        · subst c
          rw [show zbest (zmost (m 0) (14 + 5 * i.toNat + v) n.toNat) (0 + 1) = 0 from by rw [e]; split <;> rfl]
          exact ⟨rfl, rfl⟩
        · obtain ⟨q1, q2⟩ := k1 (by omega)
          rw [e, if_pos (by omega)]
          exact ⟨rfl, rfl⟩
  refine CT.of' (L0 := [gR 0, gI i, gI (v : Int), gI n, gI w, gU, gU, gU]) plA (Nat.le_of_ble_eq_true rfl) rfl ?_
  refine go_aload_n (i := 0) dA_best_0 rfl rfl trivial ?_
  refine go_getf dA_best_1 flA10 (by assumption) rfl ?_
  refine go_iload_n (i := 1) dA_best_4 rfl rfl ?_
  refine go_VP dA_best_5 vkA74 (by assumption) (List.cons_ne_nil _ _) (qB_hasGoose h.2.1) rfl (by omega) rfl (fun _ => Nat.le_of_ble_eq_true rfl) ?_
  by_cases c1 : 0 ≤ i ∧ i < m 0 0
  · rw [if_pos c1]
    refine go_if_eq 31 dA_best_8 rfl (fun h8 => absurd h8 (by omega)) (fun h8 => ?_)
    refine go_iload_n (i := 3) dA_best_11 rfl rfl ?_
    refine go_iconst dA_best_12 (inR_of _ rfl) ?_
    refine go_bipush dA_best_13 (inR_of _ rfl) rfl ?_
    refine go_SP dA_best_15 vkA61 (ct_outside _ _ _) rfl (by omega) rfl (fun _ => Nat.le_of_ble_eq_true rfl) ?_
    refine go_if_ne 31 dA_best_18 rfl (fun h18 => ?_) (fun h18 => ?_)
    · exact bad (fun q => by have := q.2.1; omega)
    · refine go_iload dA_best_21 rfl ?_
      refine go_iconst dA_best_23 (inR_of _ rfl) ?_
      refine go_iconst dA_best_24 (inR_of _ rfl) ?_
      refine go_SP dA_best_25 vkA61 (ct_outside _ _ _) rfl (by omega) rfl (fun _ => Nat.le_of_ble_eq_true rfl) ?_
      refine go_if_eq 34 dA_best_28 rfl (fun h28 => ?_) (fun h28 => ?_)
      · refine go_iconst dA_best_34 (inR_of _ rfl) ?_
        refine go_is5 dA_best_35 (Nat.le_of_ble_eq_true rfl) trivial ?_
        refine go_iconst dA_best_37 (inR_of _ rfl) ?_
        refine go_is6 dA_best_38 (Nat.le_of_ble_eq_true rfl) trivial ?_
        refine go_iconst dA_best_40 (inR_of _ rfl) ?_
        refine go_is7 dA_best_41 (Nat.le_of_ble_eq_true rfl) trivial ?_
        exact loop ⟨c1, by omega, by omega⟩ 6 0 rfl F _ _ h FK.rf (fun _ => ⟨rfl, rfl⟩) (fun q => absurd q (by omega))
      · exact bad (fun q => by have := q.2.2; omega)
  · rw [if_neg c1]
    refine go_if_eq 31 dA_best_8 rfl (fun h8 => ?_) (fun h8 => absurd (by omega) h8)
    exact bad (fun q => c1 q.1)
theorem bA_place (h : COMP F m) (hJ : JV m) {i n w : Int} [Decidable (c_ask (m 0) i n w)] : CT g yA_place 7 0 0 [gR 0, gI i, gI n, gI w] (N, F) (CB N F (gI (if c_ask (m 0) i n w then v_most (m 0) (14 + 5 * i.toNat + 3) n.toNat w else BAD)) m) := by
  have ho := h.1
  refine CT.of' (L0 := [gR 0, gI i, gI n, gI w]) plA (Nat.le_of_ble_eq_true rfl) rfl ?_
  refine go_aload_n (i := 0) dA_place_0 rfl rfl trivial ?_
  refine go_iload_n (i := 1) dA_place_1 rfl rfl ?_
  refine go_iconst dA_place_2 (inR_of _ rfl) ?_
  refine go_iload_n (i := 2) dA_place_3 rfl rfl ?_
  refine go_iload_n (i := 3) dA_place_4 rfl rfl ?_
  refine go_VX dA_place_5 vkA213 (by assumption) (List.cons_ne_nil _ _) (qA_best h hJ (v := 3) (Or.inr rfl)) rfl (by omega) (by omega) (by omega) rfl (fun _ => Nat.le_of_ble_eq_true rfl) ?_
  rintro _ _ ⟨rfl, F2, rfl, hC, hF⟩ -
  dsimp only [rp]
  refine go_iret dA_place_8 rfl rfl ?_
  exact ⟨rfl, F2, rfl, hC, hF⟩
theorem bA_becomes (h : COMP F m) (hJ : JV m) {i n w : Int} [Decidable (c_ask (m 0) i n w)] : CT g yA_becomes 7 0 0 [gR 0, gI i, gI n, gI w] (N, F) (CB N F (gI (if c_ask (m 0) i n w then v_most (m 0) (14 + 5 * i.toNat + 0) n.toNat w else BAD)) m) := by
  have ho := h.1
  refine CT.of' (L0 := [gR 0, gI i, gI n, gI w]) plA (Nat.le_of_ble_eq_true rfl) rfl ?_
  refine go_aload_n (i := 0) dA_becomes_0 rfl rfl trivial ?_
  refine go_iload_n (i := 1) dA_becomes_1 rfl rfl ?_
  refine go_iconst dA_becomes_2 (inR_of _ rfl) ?_
  refine go_iload_n (i := 2) dA_becomes_3 rfl rfl ?_
  refine go_iload_n (i := 3) dA_becomes_4 rfl rfl ?_
  refine go_VX dA_becomes_5 vkA213 (by assumption) (List.cons_ne_nil _ _) (qA_best h hJ (v := 0) (Or.inl rfl)) rfl (by omega) (by omega) (by omega) rfl (fun _ => Nat.le_of_ble_eq_true rfl) ?_
  rintro _ _ ⟨rfl, F2, rfl, hC, hF⟩ -
  dsimp only [rp]
  refine go_iret dA_becomes_8 rfl rfl ?_
  exact ⟨rfl, F2, rfl, hC, hF⟩
end CPUB2
