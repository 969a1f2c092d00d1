/-! ===== the model's parser: its state ===== -/
section MPST
variable {g : GX} {N r : Nat} {F F1 F2 : Nat → GC} {m m1 m2 : Nat → Nat → Int} {B : Nat → Int} {n key o t : Nat} {R : ZR}
def PST (r : Nat) (F : Nat → GC) (m : Nat → Nat → Int) (R : ZR) (o t : Nat) (F1 : Nat → GC) (m1 : Nat → Nat → Int) : Prop := MOD F1 r m1 ∧ FR r F F1 ∧ SB [8, 17] m m1 ∧ (∀ j : Nat, (j < 12 ∨ j = 19) → m1 17 j = m 17 j) ∧ (m1 17 12 = (R.fr : Nat) ∧ m1 17 13 = (R.to : Nat) ∧ m1 17 14 = (R.so : Nat)) ∧ (m1 17 15 = (R.out.length : Nat) ∧ m1 17 16 = (R.pcs : Nat)) ∧ m1 17 20 = (if R.ok = true then 0 else 1) ∧ (R.ok = true → m1 17 17 = (o : Nat) ∧ m1 17 18 = (t : Nat)) ∧ ∀ k : Nat, k < R.out.length → m1 8 k = R.out.getD k 0
def PE (m : Nat → Nat → Int) (B : Nat → Int) (n key : Nat) : Prop := B = zBT (m 7) n ∧ m 17 11 = (n : Int) ∧ BYT B n ∧ m 17 19 = (key : Int) ∧ key < 3
def PQ (N r : Nat) (F : Nat → GC) (m : Nat → Nat → Int) (R : ZR) (o t : Nat) : GV → GM → Prop := fun rr M' => rr = gU ∧ ∃ (F2 : Nat → GC) (m2 : Nat → Nat → Int), M' = (N, F2) ∧ PST r F m R o t F2 m2
theorem PST.byt (h : PST r F m R o t F1 m1) (hE : PE m B n key) (k : Nat) : CT g yM_byteAt 0 0 0 [gR r, gI (k : Int)] (N, F1) (RV (B k) (N, F1)) := by
  rw [hE.1]
  exact qM_byteAt h.1 (h.2.2.1 7 (by decide)) ((h.2.2.2.1 11 (by omega)).trans hE.2.1) hE.2.2.1.1 k
theorem PST.next (h : PST r F m R o t F1 m1) (hE : PE m B n key) (hw : R.wf n) : CT g yM_next 2 0 0 [gR r] (N, F1) (PQ N r F m (R.nx B n) o t) := by
  have hb : BYT (zBT (m 7) n) n := by rw [← hE.1]; exact hE.2.2.1
  have := qM_next (g := g) (N := N) h.1 (T := m 7) (n := n) (to := R.to) (so := R.so) (h.2.2.1 7 (by decide)) ((h.2.2.2.1 11 (by omega)).trans hE.2.1) hb h.2.2.2.2.1.2.1 hw.2.1 h.2.2.2.2.1.2.2
  refine this.mono (fun rr M' hq => ?_)
  obtain ⟨e, F2, m2, e2, hk, e12, e13, e14⟩ := hq
  rw [← hE.1] at e12 e13 e14
  have k := hk.2.2.2
  refine ⟨e, F2, m2, e2, hk.1, h.2.1.tr hk.2.1, h.2.2.1.tr (hk.2.2.1.mono (by simp)), fun j hj => ?_, ⟨e12, e13, e14⟩, ⟨?_, ?_⟩, ?_, fun hok => ⟨?_, ?_⟩, fun j hj => ?_⟩
  · rw [k j (by omega) (by omega) (by omega)]; exact h.2.2.2.1 j hj
  · rw [k 15 (by omega) (by omega) (by omega)]; exact h.2.2.2.2.2.1.1
  · rw [k 16 (by omega) (by omega) (by omega)]; exact h.2.2.2.2.2.1.2
  · rw [k 20 (by omega) (by omega) (by omega)]; exact h.2.2.2.2.2.2.1
  · rw [k 17 (by omega) (by omega) (by omega)]; exact (h.2.2.2.2.2.2.2.1 hok).1
  · rw [k 18 (by omega) (by omega) (by omega)]; exact (h.2.2.2.2.2.2.2.1 hok).2
  · rw [hk.2.2.1 8 (by decide)]; exact h.2.2.2.2.2.2.2.2 j hj
/-- a number of the parser is put -/
theorem PST.num {R2 : ZR} {o2 t2 j : Nat} {x : Int} (h : PST r F m R o t F1 m1) (hM : MOD F2 r m2) (hF : FR r F1 F2) (e : m2 = va_up m1 17 (va_up (m1 17) j x)) (hj : 12 ≤ j ∧ j ≠ 19) (hR : R2.out = R.out) (h12 : va_up (m1 17) j x 12 = (R2.fr : Nat) ∧ va_up (m1 17) j x 13 = (R2.to : Nat) ∧ va_up (m1 17) j x 14 = (R2.so : Nat)) (h15 : va_up (m1 17) j x 15 = (R2.out.length : Nat) ∧ va_up (m1 17) j x 16 = (R2.pcs : Nat)) (h20 : va_up (m1 17) j x 20 = (if R2.ok = true then 0 else 1)) (h17 : R2.ok = true → va_up (m1 17) j x 17 = (o2 : Nat) ∧ va_up (m1 17) j x 18 = (t2 : Nat)) : PST r F m R2 o2 t2 F2 m2 := by
  refine ⟨hM, h.2.1.tr hF, by rw [e]; exact h.2.2.1.put (by simp), fun i hi => ?_, ?_, ?_, ?_, ?_, fun k hk => ?_⟩
  · rw [e]
    show va_up (m1 17) j x i = _
    rw [va_up_ne _ _ (by omega)]
    exact h.2.2.2.1 i hi
  · rw [e]; exact h12
  · rw [e]; exact h15
  · rw [e]; exact h20
  · rw [e]; exact h17
  · rw [hR] at hk ⊢
    rw [e]
    exact h.2.2.2.2.2.2.2.2 k hk
theorem pM_wrong (h : PST r F m R o t F1 m1) : CT g yM_wrong 0 0 0 [gR r] (N, F1) (PQ N r F m R.bad o t) := by
  have hM := h.1
  refine CT.of' (L0 := [gR r]) plM (Nat.le_of_ble_eq_true rfl) rfl ?_
  refine go_aload_n (i := 0) dM_wrong_0 rfl rfl trivial ?_
  refine go_iconst dM_wrong_1 (inR_of _ rfl) ?_
  refine go_mpf hM (hM.f20 _) dM_wrong_2 flM249 rfl rfl (fun F2 m2 hM2 hF2 e2 => ?_)
  refine go_vret dM_wrong_5 rfl ?_
  exact ⟨rfl, F2, m2, rfl, h.num hM2 hF2 e2 (by omega) rfl h.2.2.2.2.1 h.2.2.2.2.2.1 rfl (fun hh => by simp [ZR.bad, ZR.ok] at hh)⟩
theorem pM_writes (h : PST r F m R o t F1 m1) (c : Int) (hl : R.out.length < 100) : CT g yM_writes 0 0 0 [gR r, gI c] (N, F1) (PQ N r F m (R.put c) o t) := by
  have hM := h.1
  have ho := h.1.1
  have e15 := h.2.2.2.2.2.1.1
  have el : (R.put c).out.length = R.out.length + 1 := by show (R.out ++ [c]).length = _; rw [List.length_append, List.length_singleton]
  refine CT.of' (L0 := [gR r, gI c]) plM (Nat.le_of_ble_eq_true rfl) rfl ?_
  refine go_aload_n (i := 0) dM_writes_0 rfl rfl trivial ?_
  refine go_getf dM_writes_1 flM34 (by assumption) rfl ?_
  refine go_aload_n (i := 0) dM_writes_4 rfl rfl trivial ?_
  refine go_getf dM_writes_5 flM253 (by assumption) rfl ?_
  refine go_iload_n (i := 1) dM_writes_8 rfl rfl ?_
  rw [e15]
  refine go_mst (i := 8) (k := R.out.length) h.1 (by omega) dM_writes_9 rfl rfl (by show _ < 100; omega) (fun F2 m2 hM2 hF2 e2 => ?_)
  have ho2 := hM2.1
  have e215 : m2 17 15 = (R.out.length : Nat) := by rw [e2]; exact e15
  refine go_aload_n (i := 0) dM_writes_10 rfl rfl trivial ?_
  refine go_dup dM_writes_11 trivial ?_
  refine go_getf dM_writes_12 flM253 (by assumption) rfl ?_
  rw [e215]
  refine go_iconst dM_writes_15 (inR_of _ rfl) ?_
  refine go_iadd dM_writes_16 ?_
  refine go_top (((R.out.length + 1 : Nat) : Int)) (by (try simp (discharger := (unfold inR; omega)) only [w32_id]) <;> omega) ?_
  refine go_mpf hM2 (hM2.f15 _) dM_writes_17 flM253 rfl rfl (fun F3 m3 hM3 hF3 e3 => ?_)
  refine go_vret dM_writes_20 rfl ?_
  have e17 : m2 17 = m1 17 := by rw [e2]; rfl
  refine ⟨rfl, F3, m3, rfl, hM3, (h.2.1.tr hF2).tr hF3, by rw [e3, e2]; exact (h.2.2.1.put (by simp)).put (by simp), fun i hi => ?_, ?_, ⟨?_, ?_⟩, ?_, ?_, fun k hk => ?_⟩
  · rw [e3]
    show va_up (m2 17) 15 _ i = _
    rw [va_up_ne _ _ (by omega), e17]
    exact h.2.2.2.1 i hi
  · rw [e3]
    show m2 17 12 = _ ∧ m2 17 13 = _ ∧ m2 17 14 = _
    rw [e17]
    exact h.2.2.2.2.1
  · rw [el, e3]; rfl
  · rw [e3]
    show m2 17 16 = _
    rw [e17]
    exact h.2.2.2.2.2.1.2
  · rw [e3]
    show m2 17 20 = _
    rw [e17]
    exact h.2.2.2.2.2.2.1
  · rw [e3]
    show _ → m2 17 17 = _ ∧ m2 17 18 = _
    rw [e17]
    exact h.2.2.2.2.2.2.2.1
  · rw [e3, e2]
    show va_up (m1 8) R.out.length c k = (R.out ++ [c]).getD k 0
    rw [el] at hk
    by_cases ek : k = R.out.length
    · rw [ek, va_up_self]; simp [List.getD_eq_getElem?_getD]
    · rw [va_up_ne _ _ ek, h.2.2.2.2.2.2.2.2 k (by omega)]
      simp only [List.getD_eq_getElem?_getD]
      rw [List.getElem?_append_left (by omega)]
theorem pM_isSign (h : PST r F m R o t F1 m1) (hE : PE m B n key) (c : Int) : CT g yM_isSign 1 0 0 [gR r, gI c] (N, F1) (RV (if R.ok = true ∧ R.so = 3 ∧ B R.fr = c then 1 else 0) (N, F1)) := by
  have ho := h.1.1
  have e12 := h.2.2.2.2.1.1
  have e14 := h.2.2.2.2.1.2.2
  have e20 := h.2.2.2.2.2.2.1
  have t31 : ¬ (R.ok = true ∧ R.so = 3 ∧ B R.fr = c) → Go g yM_isSign 1 0 0 31 [gR r, gI c] [] (N, F1) (RV (if R.ok = true ∧ R.so = 3 ∧ B R.fr = c then 1 else 0) (N, F1)) := by
    intro hc
    refine go_iconst dM_isSign_31 (inR_of _ rfl) ?_
    refine go_iret dM_isSign_32 rfl (zb (by simp)) ?_
    exact ⟨by rw [if_neg hc], rfl⟩
  refine CT.of' (L0 := [gR r, gI c]) plM (Nat.le_of_ble_eq_true rfl) rfl ?_
  refine go_aload_n (i := 0) dM_isSign_0 rfl rfl trivial ?_
  refine go_getf dM_isSign_1 flM249 (by assumption) rfl ?_
  refine go_if_ne 31 dM_isSign_4 rfl (fun h4 => ?_) (fun h4 => ?_)
  · exact t31 (fun hh => h4 (by rw [e20, if_pos hh.1]))
  · have hok : R.ok = true := by
      by_cases c0 : R.ok = true
      · exact c0
      · rw [if_neg c0] at e20; omega
    refine go_aload_n (i := 0) dM_isSign_7 rfl rfl trivial ?_
    refine go_getf dM_isSign_8 flM231 (by assumption) rfl ?_
    refine go_iconst dM_isSign_11 (inR_of _ rfl) ?_
    refine go_ic_ne 31 dM_isSign_12 rfl (fun h12 => ?_) (fun h12 => ?_)
    · exact t31 (fun hh => by omega)
    · refine go_aload_n (i := 0) dM_isSign_15 rfl rfl trivial ?_
      refine go_aload_n (i := 0) dM_isSign_16 rfl rfl trivial ?_
      refine go_getf dM_isSign_17 flM237 (by assumption) rfl ?_
      rw [e12]
      refine go_VP dM_isSign_20 vkM240 (by assumption) (List.cons_ne_nil _ _) (h.byt hE R.fr) rfl (by omega) rfl (fun _ => Nat.le_of_ble_eq_true rfl) ?_
      refine go_iload_n (i := 1) dM_isSign_23 rfl rfl ?_
      refine go_ic_ne 31 dM_isSign_24 rfl (fun h24 => ?_) (fun h24 => ?_)
      · exact t31 (fun hh => h24 hh.2.2)
      · refine go_iconst dM_isSign_27 (inR_of _ rfl) ?_
        refine go_goto 32 dM_isSign_28 rfl ?_
        refine go_iret dM_isSign_32 rfl (zb (by simp)) ?_
        exact ⟨by rw [if_pos ⟨hok, by omega, h24⟩], rfl⟩
theorem pM_nameHere (h : PST r F m R o t F1 m1) (hE : PE m B n key) (hw : R.wf n) : CT g yM_nameHere 1 0 0 [gR r] (N, F1) (RV (if R.so = 1 ∧ R.to = R.fr + 1 then znameI key (B R.fr) else -1) (N, F1)) := by
  have ho := h.1.1
  have e12 := h.2.2.2.2.1.1
  have e13 := h.2.2.2.2.1.2.1
  have e14 := h.2.2.2.2.1.2.2
  have e19 : m1 17 19 = (key : Int) := (h.2.2.2.1 19 (by omega)).trans hE.2.2.2.1
  have hk3 := hE.2.2.2.2
  have hn := hE.2.2.1.1
  have hwt := hw.2.1
  have hw1 := hw.1
  have t33 : ∀ c v : Int, v = znameI key c → Go g yM_nameHere 1 0 0 33 [gR r, gU] [gI c] (N, F1) (RV v (N, F1)) := by
    intro c v hv
    subst hv
    refine go_is1 dM_nameHere_33 (Nat.le_of_ble_eq_true rfl) trivial ?_
    refine go_aload_n (i := 0) dM_nameHere_34 rfl rfl trivial ?_
    refine go_getf dM_nameHere_35 flM260 (by assumption) rfl ?_
    rw [e19]
    refine lookC dM_nameHere_38 (by decide) (fun off hoff => ?_)
    have hkk : key = 0 ∨ key = 1 ∨ key = 2 := by omega
    rcases hkk with hk | hk | hk
    · subst hk
      refine ⟨64, by rw [← hoff]; rfl, ?_⟩
      refine go_iload_n (i := 1) dM_nameHere_64 rfl rfl ?_
      refine go_bipush dM_nameHere_65 (inR_of _ rfl) rfl ?_
      refine go_ic_ne 74 dM_nameHere_67 rfl (fun h67 => ?_) (fun h67 => ?_)
      · refine go_iload_n (i := 1) dM_nameHere_74 rfl rfl ?_
        refine go_bipush dM_nameHere_75 (inR_of _ rfl) rfl ?_
        refine go_ic_ne 84 dM_nameHere_77 rfl (fun h77 => ?_) (fun h77 => ?_)
        · refine go_iload_n (i := 1) dM_nameHere_84 rfl rfl ?_
          refine go_bipush dM_nameHere_85 (inR_of _ rfl) rfl ?_
          refine go_ic_ne 94 dM_nameHere_87 rfl (fun h87 => ?_) (fun h87 => ?_)
          · refine go_iload_n (i := 1) dM_nameHere_94 rfl rfl ?_
            refine go_bipush dM_nameHere_95 (inR_of _ rfl) rfl ?_
            refine go_ic_ne 104 dM_nameHere_97 rfl (fun h97 => ?_) (fun h97 => ?_)
            · refine go_iconst dM_nameHere_104 (inR_of _ rfl) ?_
              refine go_iret dM_nameHere_105 rfl rfl ?_
              exact ⟨by unfold znameI; simp [h67, h77, h87, h97], rfl⟩
            · refine go_iconst dM_nameHere_100 (inR_of _ rfl) ?_
              refine go_goto 105 dM_nameHere_101 rfl ?_
              refine go_iret dM_nameHere_105 rfl rfl ?_
              exact ⟨by unfold znameI; simp [h97], rfl⟩
          · refine go_iconst dM_nameHere_90 (inR_of _ rfl) ?_
            refine go_goto 105 dM_nameHere_91 rfl ?_
            refine go_iret dM_nameHere_105 rfl rfl ?_
            exact ⟨by unfold znameI; simp [h87], rfl⟩
        · refine go_iconst dM_nameHere_80 (inR_of _ rfl) ?_
          refine go_goto 105 dM_nameHere_81 rfl ?_
          refine go_iret dM_nameHere_105 rfl rfl ?_
          exact ⟨by unfold znameI; simp [h77], rfl⟩
      · refine go_iconst dM_nameHere_70 (inR_of _ rfl) ?_
        refine go_goto 105 dM_nameHere_71 rfl ?_
        refine go_iret dM_nameHere_105 rfl rfl ?_
        exact ⟨by unfold znameI; simp [h67], rfl⟩
    · subst hk
      refine ⟨106, by rw [← hoff]; rfl, ?_⟩
      refine go_iload_n (i := 1) dM_nameHere_106 rfl rfl ?_
      refine go_bipush dM_nameHere_107 (inR_of _ rfl) rfl ?_
      refine go_ic_ne 116 dM_nameHere_109 rfl (fun h109 => ?_) (fun h109 => ?_)
      · refine go_iload_n (i := 1) dM_nameHere_116 rfl rfl ?_
        refine go_bipush dM_nameHere_117 (inR_of _ rfl) rfl ?_
        refine go_ic_ne 126 dM_nameHere_119 rfl (fun h119 => ?_) (fun h119 => ?_)
        · refine go_iconst dM_nameHere_126 (inR_of _ rfl) ?_
          refine go_iret dM_nameHere_127 rfl rfl ?_
          exact ⟨by unfold znameI; simp [h109, h119], rfl⟩
        · refine go_iconst dM_nameHere_122 (inR_of _ rfl) ?_
          refine go_goto 127 dM_nameHere_123 rfl ?_
          refine go_iret dM_nameHere_127 rfl rfl ?_
          exact ⟨by unfold znameI; simp [h119], rfl⟩
      · refine go_iconst dM_nameHere_112 (inR_of _ rfl) ?_
        refine go_goto 127 dM_nameHere_113 rfl ?_
        refine go_iret dM_nameHere_127 rfl rfl ?_
        exact ⟨by unfold znameI; simp [h109], rfl⟩
    · subst hk
      refine ⟨128, by rw [← hoff]; rfl, ?_⟩
      refine go_iload_n (i := 1) dM_nameHere_128 rfl rfl ?_
      refine go_bipush dM_nameHere_129 (inR_of _ rfl) rfl ?_
      refine go_ic_ne 138 dM_nameHere_131 rfl (fun h131 => ?_) (fun h131 => ?_)
      · refine go_iload_n (i := 1) dM_nameHere_138 rfl rfl ?_
        refine go_bipush dM_nameHere_139 (inR_of _ rfl) rfl ?_
        refine go_ic_ne 148 dM_nameHere_141 rfl (fun h141 => ?_) (fun h141 => ?_)
        · refine go_iconst dM_nameHere_148 (inR_of _ rfl) ?_
          refine go_iret dM_nameHere_149 rfl rfl ?_
          exact ⟨by unfold znameI; simp [h131, h141], rfl⟩
        · refine go_iconst dM_nameHere_144 (inR_of _ rfl) ?_
          refine go_goto 149 dM_nameHere_145 rfl ?_
          refine go_iret dM_nameHere_149 rfl rfl ?_
          exact ⟨by unfold znameI; simp [h141], rfl⟩
      · refine go_iconst dM_nameHere_134 (inR_of _ rfl) ?_
        refine go_goto 149 dM_nameHere_135 rfl ?_
        refine go_iret dM_nameHere_149 rfl rfl ?_
        exact ⟨by unfold znameI; simp [h131], rfl⟩
  have hneg : znameI key (-1) = -1 := by
    have hkk : key = 0 ∨ key = 1 ∨ key = 2 := by omega
    rcases hkk with hk | hk | hk <;> subst hk <;> decide
  refine CT.of' (L0 := [gR r, gU]) plM (Nat.le_of_ble_eq_true rfl) rfl ?_
  refine go_aload_n (i := 0) dM_nameHere_0 rfl rfl trivial ?_
  refine go_getf dM_nameHere_1 flM231 (by assumption) rfl ?_
  refine go_iconst dM_nameHere_4 (inR_of _ rfl) ?_
  refine go_ic_ne 32 dM_nameHere_5 rfl (fun h5 => ?_) (fun h5 => ?_)
  · refine go_iconst dM_nameHere_32 (inR_of _ rfl) ?_
    exact t33 _ _ (by rw [hneg, if_neg (by omega)])
  · refine go_aload_n (i := 0) dM_nameHere_8 rfl rfl trivial ?_
    refine go_getf dM_nameHere_9 flM234 (by assumption) rfl ?_
    refine go_aload_n (i := 0) dM_nameHere_12 rfl rfl trivial ?_
    refine go_getf dM_nameHere_13 flM237 (by assumption) rfl ?_
    rw [e12, e13]
    refine go_iconst dM_nameHere_16 (inR_of _ rfl) ?_
    refine go_iadd dM_nameHere_17 ?_
    refine go_top (((R.fr + 1 : Nat) : Int)) (by (try simp (discharger := (unfold inR; omega)) only [w32_id]) <;> omega) ?_
    refine go_ic_ne 32 dM_nameHere_18 rfl (fun h18 => ?_) (fun h18 => ?_)
    · have hne : ¬ R.to = R.fr + 1 := by
        intro hh
        exact h18 (by rw [hh])
      refine go_iconst dM_nameHere_32 (inR_of _ rfl) ?_
      exact t33 _ _ (by rw [hneg, if_neg (fun h => hne h.2)])
    · have heq : R.to = R.fr + 1 := by omega
      refine go_aload_n (i := 0) dM_nameHere_21 rfl rfl trivial ?_
      refine go_aload_n (i := 0) dM_nameHere_22 rfl rfl trivial ?_
      refine go_getf dM_nameHere_23 flM237 (by assumption) rfl ?_
      rw [e12]
      refine go_VP dM_nameHere_26 vkM240 (by assumption) (List.cons_ne_nil _ _) (h.byt hE R.fr) rfl (by omega) rfl (fun _ => Nat.le_of_ble_eq_true rfl) ?_
      refine go_goto 33 dM_nameHere_29 rfl ?_
      exact t33 _ _ (by rw [if_pos ⟨by omega, heq⟩])
theorem pM_figure (h : PST r F m R o t F1 m1) (hE : PE m B n key) (hw : R.wf n) (hd : R.wd B) (h2 : R.so = 2) (h4 : R.to - R.fr ≤ 4) (hl : R.out.length < 100) (hp : R.pcs < 1000) : CT g yM_figure 3 0 0 [gR r] (N, F1) (PQ N r F m (((R.put (znum B R.fr (R.to - R.fr))).one).nx B n) o t) := by
  have ho := h.1.1
  have e12 := h.2.2.2.2.1.1
  have e13 := h.2.2.2.2.1.2.1
  have hw1 := hw.1
  have hwt := hw.2.1
  have hn := hE.2.2.1.1
  have loop : ∀ (j k : Nat), R.fr + k + j = R.to → Go g yM_figure 3 0 0 7 [gR r, gI (znum B R.fr k), gI ((R.fr + k : Nat) : Int)] [] (N, F1) (PQ N r F m (((R.put (znum B R.fr (R.to - R.fr))).one).nx B n) o t) := by
    intro j
    induction j with
    | zero =>
      intro k hk
      rw [show k = R.to - R.fr by omega]
      refine go_iload_n (i := 2) dM_figure_7 rfl rfl ?_
      refine go_aload_n (i := 0) dM_figure_8 rfl rfl trivial ?_
      refine go_getf dM_figure_9 flM234 (by assumption) rfl ?_
      rw [e13]
      refine go_ic_ge 35 dM_figure_12 rfl (fun h12 => ?_) (fun h12 => absurd (by omega) h12)
      refine go_aload_n (i := 0) dM_figure_35 rfl rfl trivial ?_
      refine go_iload_n (i := 1) dM_figure_36 rfl rfl ?_
      refine go_VX dM_figure_37 vkM263 (by assumption) (List.cons_ne_nil _ _) (pM_writes h (znum B R.fr (R.to - R.fr)) hl) rfl (by omega) (by omega) (by omega) rfl (fun _ => Nat.le_of_ble_eq_true rfl) ?_
      rintro _ _ ⟨rfl, F2, m2, rfl, h2⟩ -
      dsimp only [rp]
      have hM2 := h2.1
      have ho2 := hM2.1
      have e16 : m2 17 16 = (R.pcs : Nat) := h2.2.2.2.2.2.1.2
      refine go_aload_n (i := 0) dM_figure_40 rfl rfl trivial ?_
      refine go_dup dM_figure_41 trivial ?_
      refine go_getf dM_figure_42 flM266 (by assumption) rfl ?_
      rw [e16]
      refine go_iconst dM_figure_45 (inR_of _ rfl) ?_
      refine go_iadd dM_figure_46 ?_
      refine go_top (((R.pcs + 1 : Nat) : Int)) (by (try simp (discharger := (unfold inR; omega)) only [w32_id]) <;> omega) ?_
      refine go_mpf hM2 (hM2.f16 _) dM_figure_47 flM266 rfl rfl (fun F3 m3 hM3 hF3 e3 => ?_)
      have h3 : PST r F m ((R.put (znum B R.fr (R.to - R.fr))).one) o t F3 m3 := h2.num hM3 hF3 e3 (by omega) rfl h2.2.2.2.2.1 ⟨h2.2.2.2.2.2.1.1, rfl⟩ h2.2.2.2.2.2.2.1 h2.2.2.2.2.2.2.2.1
      have ho3 := hM3.1
      refine go_aload_n (i := 0) dM_figure_50 rfl rfl trivial ?_
      refine go_VX dM_figure_51 vkM269 (by assumption) (List.cons_ne_nil _ _) (h3.next hE hw) rfl (by omega) (by omega) (by omega) rfl (fun _ => Nat.le_of_ble_eq_true rfl) ?_
      rintro _ _ ⟨rfl, F4, m4, rfl, h4⟩ -
      dsimp only [rp]
      refine go_vret dM_figure_54 rfl ?_
      exact ⟨rfl, F4, m4, rfl, h4⟩
    | succ j ih =>
      intro k hk
      have z1 := znum_4 hd h2 (k := k) (by omega) (by omega)
      have b1 := zs0_2 (hd h2 (R.fr + k) (by omega) (by omega))
      have hs : znum B R.fr (k + 1) = 10 * znum B R.fr k + B (R.fr + k) - 48 := rfl
      refine go_iload_n (i := 2) dM_figure_7 rfl rfl ?_
      refine go_aload_n (i := 0) dM_figure_8 rfl rfl trivial ?_
      refine go_getf dM_figure_9 flM234 (by assumption) rfl ?_
      rw [e13]
      refine go_ic_ge 35 dM_figure_12 rfl (fun h12 => absurd h12 (by omega)) (fun h12 => ?_)
      refine go_bipush dM_figure_15 (inR_of _ rfl) rfl ?_
      refine go_iload_n (i := 1) dM_figure_17 rfl rfl ?_
      refine go_imul dM_figure_18 ?_
      refine go_aload_n (i := 0) dM_figure_19 rfl rfl trivial ?_
      refine go_iload_n (i := 2) dM_figure_20 rfl rfl ?_
      refine go_VP dM_figure_21 vkM240 (by assumption) (List.cons_ne_nil _ _) (h.byt hE (R.fr + k)) rfl (by omega) rfl (fun _ => Nat.le_of_ble_eq_true rfl) ?_
      refine go_iadd dM_figure_24 ?_
      refine go_bipush dM_figure_25 (inR_of _ rfl) rfl ?_
      refine go_isub dM_figure_27 ?_
      refine go_top (znum B R.fr (k + 1)) (by (try simp (discharger := (unfold inR; omega)) only [w32_id]) <;> omega) ?_
      refine go_is1 dM_figure_28 (Nat.le_of_ble_eq_true rfl) trivial ?_
      refine go_inc2 (((R.fr + (k + 1) : Nat) : Int)) dM_figure_29 (Nat.le_of_ble_eq_true rfl) trivial (by (try simp (discharger := (unfold inR; omega)) only [w32_id]) <;> omega) ?_
      refine go_goto 7 dM_figure_32 rfl ?_
      exact ih (k + 1) (by omega)
  refine CT.of' (L0 := [gR r, gU, gU]) plM (Nat.le_of_ble_eq_true rfl) rfl ?_
  refine go_iconst dM_figure_0 (inR_of _ rfl) ?_
  refine go_is1 dM_figure_1 (Nat.le_of_ble_eq_true rfl) trivial ?_
  refine go_aload_n (i := 0) dM_figure_2 rfl rfl trivial ?_
  refine go_getf dM_figure_3 flM237 (by assumption) rfl ?_
  rw [e12]
  refine go_is2 dM_figure_6 (Nat.le_of_ble_eq_true rfl) trivial ?_
  exact loop (R.to - R.fr) 0 (by omega)
end MPST
