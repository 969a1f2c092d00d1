/-! ===== the words of a text; the component's call text ===== -/
def zcl : List Int → Nat
  | [] => 0
  | c :: l => (if -10 < c then 1 else 0) + zcl l
theorem zcl_app (c : Int) : ∀ l : List Int, zcl (l ++ [c]) = zcl l + (if -10 < c then 1 else 0)
  | [] => by show (if -10 < c then 1 else 0) + 0 = 0 + _; omega
  | a :: l => by show (if -10 < a then 1 else 0) + zcl (l ++ [c]) = (if -10 < a then 1 else 0) + zcl l + _; rw [zcl_app c l]; omega
def ZV (R : ZR) : Prop := (∀ c ∈ R.out, c ≤ -10 → zop c) ∧ R.pcs = zcl R.out
theorem ZV.put {R : ZR} (h : ZV R) {c : Int} (hc : c ≤ -10) (hz : zop c) : ZV (R.put c) := by
  refine ⟨fun x hx hx2 => ?_, ?_⟩
  · have hx : x ∈ R.out ++ [c] := hx
    rcases List.mem_append.mp hx with q | q
    · exact h.1 x q hx2
    · rw [List.mem_singleton] at q; subst q; exact hz
  · show R.pcs = zcl (R.out ++ [c])
    rw [zcl_app, if_neg (by omega), h.2]; omega
theorem ZV.one {R : ZR} (h : ZV R) {c : Int} (hc : -10 < c) : ZV ((R.put c).one) := by
  refine ⟨fun x hx hx2 => ?_, ?_⟩
  · have hx : x ∈ R.out ++ [c] := hx
    rcases List.mem_append.mp hx with q | q
    · exact h.1 x q hx2
    · rw [List.mem_singleton] at q; omega
  · show R.pcs + 1 = zcl (R.out ++ [c])
    rw [zcl_app, if_pos hc, h.2]
theorem zopd_op {l : Nat} {c : Int} (h : zopd l c = true) : zop (-10 - c) ∧ -10 - c ≤ -10 := by
  unfold zopd at h
  unfold zop
  split at h
  · have := of_decide_eq_true h; omega
  · split at h
    · have := of_decide_eq_true h; omega
    · split at h
      · have := of_decide_eq_true h; omega
      · split at h
        · have := of_decide_eq_true h; omega
        · have := of_decide_eq_true h; omega
theorem zpar_ZV {B : Nat → Int} {n : Nat} (hB : BYT B n) (key : Nat) : ∀ (f q o t : Nat) (R : ZR), R.wf n → R.wd B → R.ok = true → ZV R → (zpar B n key f q o t R).ok = true → ZV (zpar B n key f q o t R) := by
  intro f
  induction f with
  | zero =>
    intro q o t R hw hd hk hv h
    unfold zpar at h
    simp [ZR.bad, ZR.ok] at h
  | succ f ih =>
    intro q o t R hw hd hk hv
    obtain ⟨hnw, hnf⟩ := ZR.nx_wf hB hw
    have hnd := ZR.nx_wd R B n
    have hnk : (R.nx B n).ok = true := hk
    have hnv : ZV (R.nx B n) := hv
    have nb : R.bad.ok = true → False := fun h => by simp [ZR.bad, ZR.ok] at h
    unfold zpar
    split
    · split
      · rename_i c
        intro h
        have g1 := zpar_go hB key f (q + 1) o t R hw hk
        exact ih (q + 6) o t _ g1.1 (zpar_wd key f _ o t R hd) c (ih (q + 1) o t R hw hd hk hv c) h
      · rename_i c
        intro h
        exact absurd h c
    · split
      · split
        · rename_i c2
          split
          · rename_i c4
            intro _
            have z := znum_4 hd c2 (k := R.to - R.fr) (by have := hw.1; omega) c4
            exact hv.one (by omega)
          · intro h; exact (nb h).elim
        · split
          · split
            · rename_i c4
              intro _
              have z : znameI key (B R.fr) ≤ 3 := by unfold znameI; grind
              exact hv.one (by omega)
            · intro h; exact (nb h).elim
          · split
            · split
              · intro h; exact (nb h).elim
              · intro h
                exact (ih 5 o (t + 1) (R.nx B n) hnw hnd hnk hnv h).put (by omega) (Or.inl rfl)
            · split
              · split
                · intro h; exact (nb h).elim
                · split
                  · rename_i c6
                    intro _
                    exact ih 0 (o + 1) t (R.nx B n) hnw hnd hnk hnv c6.1
                  · intro h; simp [ZR.bad, ZR.ok] at h
              · intro h; exact (nb h).elim
      · split
        · rename_i c3
          have zo := zopd_op c3.2
          have g1 := zpar_go hB key f (q - 5) o t (R.nx B n) hnw hnk
          split
          · rename_i c7
            intro h
            exact ih q o t _ g1.1 (zpar_wd key f _ o t _ hnd) c7.1 ((ih (q - 5) o t (R.nx B n) hnw hnd hnk hnv c7.1).put zo.2 zo.1) h
          · intro h
            exact (ih (q - 5) o t (R.nx B n) hnw hnd hnk hnv h).put zo.2 zo.1
        · intro _; exact hv
theorem zprs_ZV {B : Nat → Int} {n : Nat} (hB : BYT B n) (h : (zprs B n).ok = true) : ZV (zprs B n) ∧ (zprs B n).out.length < 96 := by
  obtain ⟨k0, e, -⟩ := zprs_ok hB h
  have hw := zR0_wf hB
  obtain ⟨w1, f1⟩ := ZR.nx_wf hB hw
  have h1 : (zR1 B n).ok = true := by rw [← e]; exact h
  rw [e]
  refine ⟨zpar_ZV hB _ 800 0 0 0 _ w1 (ZR.nx_wd _ B n) rfl ⟨fun c hc => absurd hc (by show ¬ c ∈ []; simp), rfl⟩ h1, ?_⟩
  have g1 := zpar_go hB (zkey B (zR0 B n)).toNat 800 0 0 0 _ w1 rfl
  unfold ZR.go at g1
  have e0 : ((zR0 B n).nx B n).out.length = 0 := rfl
  have so1 : (zR0 B n).so = 1 := by
    unfold zkey at k0
    by_cases q1 : zwd B (zR0 B n) 108 111 111 107 = true
    · exact (zwd_iff.mp q1).1
    · rw [if_neg q1] at k0
      by_cases q2 : zwd B (zR0 B n) 102 101 101 0 = true
      · exact (zwd_iff.mp q2).1
      · rw [if_neg q2] at k0
        by_cases q3 : zwd B (zR0 B n) 102 105 110 101 = true
        · exact (zwd_iff.mp q3).1
        · rw [if_neg q3] at k0; omega
  have lt := hw.2.2.1 (by omega)
  have n96 := hB.1
  have t1 := g1.1.1
  have t2 := g1.1.2.1
  show (zpar B n (zkey B (zR0 B n)).toNat 800 0 0 0 ((zR0 B n).nx B n)).out.length < 96
  omega
theorem zops_cl {code : Nat → Int} : ∀ (l : List Int) (i : Nat), (∀ k : Nat, k < l.length → code (i + k) = l.getD k 0) → zops code (i + l.length) = zops code i + zcl l
  | [], _, _ => rfl
  | c :: l, i, h => by
    have h0 : code i = c := h 0 (by simp)
    have ih := zops_cl (code := code) l (i + 1) (fun k hk => by
      have := h (k + 1) (by simp; exact hk)
      rw [show i + 1 + k = i + (k + 1) by omega, this]
      rfl)
    show zops code (i + (l.length + 1)) = zops code i + ((if -10 < c then 1 else 0) + zcl l)
    rw [show i + (l.length + 1) = i + 1 + l.length by omega, ih]
    show zops code i + (if -10 < code i then 1 else 0) + zcl l = _
    rw [h0]; omega
theorem zops_cong {code code' : Nat → Int} {n : Nat} (h : ∀ i, i < n → code' i = code i) : ∀ k, k ≤ n → zops code' k = zops code k
  | 0, _ => rfl
  | k + 1, hk => by show zops code' k + _ = zops code k + _; rw [zops_cong h k (by omega), h k (by omega)]
theorem zlay_P {s : Nat → Int} {key t : Nat} {R : ZR} (hP : zP s) (hT : zT s) (ht : s 64 = (t : Int)) (h14 : t < 14) (hk : key < 3) (hl : R.out.length ≤ 96) (hv : ZV R) : zP (zlay s key R) := by
  intro t' ht'
  rw [zlay_64 ht] at ht'
  obtain ⟨-, z2, z3⟩ := zlay_tx (R := R) ht h14 hk (t' := t') (by omega)
  have cd := fun (k : Nat) (hk' : k < 100) => zlay_cd (R := R) ht h14 hk hl (t' := t') (k := k) (by omega) hk'
  by_cases c : t' = t
  · rw [if_pos c] at z2 z3
    rw [z2, z3]
    have e : zops (fun k => zlay s key R (110 + 100 * t' + k)) R.out.length = zcl R.out := by
      have := zops_cl (code := fun k => zlay s key R (110 + 100 * t' + k)) R.out 0 (fun k hk' => by rw [Nat.zero_add]; exact (cd k (by omega)).2 c hk')
      rw [Nat.zero_add] at this
      rw [this]; show 0 + _ = _; omega
    refine ⟨?_, fun k hk' hk2 => ?_⟩
    · show (R.pcs : Int) = (zops _ R.out.length : Nat)
      rw [e, hv.2]
    · have hk' : k < R.out.length := hk'
      rw [(cd k (by omega)).2 c hk'] at hk2 ⊢
      refine hv.1 _ ?_ hk2
      rw [List.getD_eq_getElem?_getD, List.getElem?_eq_getElem hk']
      exact List.getElem_mem _
  · rw [if_neg c] at z2 z3
    have hlt : (t' : Int) < s 64 := by omega
    have tl := (hT.2.2.2 t' hlt).2.1
    obtain ⟨p1, p2⟩ := hP t' hlt
    rw [z2, z3]
    refine ⟨?_, fun k hk' hk2 => ?_⟩
    · rw [p1, zops_cong (code := fun k => s (110 + 100 * t' + k)) (n := 96) (fun i hi => (cd i (by omega)).1 c) _ (by omega)]
    · rw [(cd k (by omega)).1 c] at hk2 ⊢
      exact p2 k hk' hk2
section CTEXT2
variable {g : GX} {N : Nat} {F F' : Nat → GC} {m : Nat → Nat → Int}
theorem COMP.grow (h : COMP F m) (h1 : ∀ k, F k ≠ gBad → F' k = F k) (h2 : ∀ k : Nat, k < 85 → F' k = F k) : COMP F' m := by
  obtain ⟨a, b, ⟨⟨s1, c1⟩, c2⟩, ⟨s2, d⟩, r⟩ := h
  exact ⟨by rw [h2 0 (by omega)]; exact a, b.grow h1, ⟨⟨s1, c1.grow h1⟩, fun q => (c2 q).grow h1⟩, ⟨s2, d.grow h1⟩, r.at (fun j j1 j2 => h2 j (by omega))⟩
/-- behind text: three cells more, or none -/
def CX2 (N : Nat) (F : Nat → GC) (v : GV) (U : Nat → Nat → Int) : GV → GM → Prop := fun rr M' => rr = v ∧ ∃ (N2 : Nat) (F2 : Nat → GC), M' = (N2, F2) ∧ (N2 = N ∨ N2 = N + 3) ∧ COMP F2 U ∧ ∀ k : Nat, 85 ≤ k → k < 103 → F2 k = F k
theorem bA_text (h : COMP F m) (hJ : JV m) (hN : 103 ≤ N ∧ (N - 103) % 3 = 0) (hfree : ∀ j : Nat, N ≤ j → F j = gBad) : CT g yA_text 100 3 196 [gR 0] (N, F) (CX2 N F (gI (v_text m)) (u_text m)) := by
  have ho := h.1
  obtain ⟨⟨x3, x4, x5, x6, x7, x8, h49⟩, ⟨tp, h50, et⟩, ⟨row, h51⟩⟩ := h.2.2.2.2.1
  have ht := hJ.1.2.2.2.1
  have hB : BYT (mB m) (m 17 11).toNat := ht.byt
  have htl : 0 ≤ m 17 11 ∧ m 17 11 ≤ 96 := ⟨ht.1, ht.2.1⟩
  obtain ⟨n, hn⟩ : ∃ n : Nat, m 17 11 = (n : Int) := ⟨(m 17 11).toNat, by omega⟩
  have en : (m 17 11).toNat = n := by omega
  rw [hn] at h49
  have hmR : mR m = zprs (mB m) n := by unfold mR; rw [en]
  have hmK : mK m = (zkey (mB m) (zR0 (mB m) n)).toNat := by unfold mK; rw [en]
  rw [en] at hB
  have hb : ∀ k : Nat, k < n → tp k = mB m k := fun k hk => by
    rw [et k (by omega)]
    unfold mB zBT
    rw [if_pos (by omega)]
  have eF : RM F row (rF n x3 x4 x5 x6 x7 x8) = F := RM_self h49 h51
  have un := qR_understands (g := g) (N := N) (F := F) (row := row) (x3 := x3) (x4 := x4) (x5 := x5) (x6 := x6) (x7 := x7) (x8 := x8) h50 hB hb
  rw [eF, ← hmR, ← hmK] at un
  -- the reader behind it, its tape empty
  have hC1 : ∀ (row' : Nat → Int) (fr to so sz op kk : Int), COMP (RM F row' (rF 0 fr to so sz op kk)) (va_up m 17 (va_up (m 17) 11 0)) := by
    intro row' fr to so sz op kk
    have hfk : FK (fun k => k = 49 ∨ k = 51) F (RM F row' (rF 0 fr to so sz op kk)) := fun k hk => by
      have e : RM F row' (rF 0 fr to so sz op kk) k = F k := RM_at (fun q => hk (Or.inl q)) (fun q => hk (Or.inr q))
      exact ⟨fun _ => e, fun n f q => ⟨f, by rw [e]; exact q⟩⟩
    refine h.rst hfk (fun k q => by omega) (h.2.2.2.2.rdr ⟨⟨fr, to, so, sz, op, kk, RM_49⟩, ⟨tp, by rw [RM_at (by omega) (by omega)]; exact h50, et⟩, ⟨row', RM_51⟩⟩ (fun j j1 j2 => RM_at (by omega) (by omega)) (fun i hi => ?_)) rfl rfl rfl rfl
    simp at hi
    rcases hi with rfl | rfl | rfl | rfl | rfl | rfl | rfl <;> rfl
  have keep : ∀ (row' : Nat → Int) (fr to so sz op kk : Int), ¬ ((mR m).ok = true ∧ ¬ m 0 64 = 14) → COMP (RM F row' (rF 0 fr to so sz op kk)) (u_text m) := by
    intro row' fr to so sz op kk hno
    have := hC1 row' fr to so sz op kk
    unfold u_text
    rw [if_neg hno, va_up_id]
    exact this
  have fr85 : ∀ (row' : Nat → Int) (fs : List GV) (k : Nat), 85 ≤ k → RM F row' fs k = F k := fun row' fs k hk => RM_at (by omega) (by omega)
  refine CT.of' (L0 := [gR 0, gU]) plA (Nat.le_of_ble_eq_true rfl) rfl ?_
  refine go_aload_n (i := 0) dA_text_0 rfl rfl trivial ?_
  refine go_getf dA_text_1 flA25 (by assumption) rfl ?_
  refine go_VX dA_text_4 vkA264 (by assumption) (List.cons_ne_nil _ _) (un) rfl (by omega) (by omega) (by omega) rfl (fun _ => Nat.le_of_ble_eq_true rfl) ?_
  rintro _ _ ⟨rfl, row', to, so, sz, op, kk, rfl, hok⟩ -
  dsimp only [rp]
  have ho1 : ∀ fs, RM F row' fs 0 = cO 0 (aFld m) := fun fs => by rw [RM_at (by omega) (by omega)]; exact h.1
  have hn1 : ∀ fs, RM F row' fs 1 = cO 1 (cFld 1 (m 0)) := fun fs => by rw [RM_at (by omega) (by omega)]; exact h.2.1.1
  refine go_is1 dA_text_7 (Nat.le_of_ble_eq_true rfl) trivial ?_
  refine go_aload_n (i := 0) dA_text_8 rfl rfl trivial ?_
  refine go_getf dA_text_9 flA25 (ho1 _) rfl ?_
  refine go_iconst dA_text_12 (inR_of _ rfl) ?_
  refine go_putf dA_text_13 flA258 RM_49 (Nat.le_of_ble_eq_true rfl) rfl rfl ?_
  rw [RM_put]
  have hfr : (mR m).fr ≤ 200 ∨ True := Or.inr trivial
  by_cases k1 : (mR m).ok = true
  · rw [if_pos k1]
    obtain ⟨o1, o2, o3, o4⟩ := hok k1
    rw [hmR] at k1
    obtain ⟨z1, -, z3, -, z5, -, -⟩ := zprs_ok hB k1
    have z4 := zprs_pcs hB k1
    obtain ⟨zv, zl⟩ := zprs_ZV hB k1
    rw [← hmR] at k1 z3 z4 z5 zv zl
    have kin := zkey_in (mB m) (zR0 (mB m) n)
    have t64 := hJ.zg.2.1.1
    refine go_iload_n (i := 1) dA_text_16 rfl rfl ?_
    refine go_if_ne 31 dA_text_17 rfl (fun _ => ?_) (fun h8 => absurd h8 (by omega))
    refine go_aload_n (i := 0) dA_text_31 rfl rfl trivial ?_
    refine go_getf dA_text_32 flA10 (ho1 _) rfl ?_
    refine go_getf dA_text_35 flA270 (hn1 _) rfl ?_
    refine go_bipush dA_text_38 (inR_of _ rfl) rfl ?_
    refine go_ic_lt 46 dA_text_40 rfl (fun h40 => ?_) (fun h40 => ?_)
    · have nf : ¬ m 0 64 = 14 := by omega
      obtain ⟨t, hts⟩ : ∃ t : Nat, m 0 64 = (t : Int) := ⟨(m 0 64).toNat, by omega⟩
      subst o1 o2 o3
      have wr := qR_written (g := g) (N := N) (F := RM F row' (rF 0 ((mR m).fr : Nat) to so ((mR m).out.length : Nat) ((mR m).pcs : Nat) (mK m))) (row := row') (n := 0) (sz := (mR m).out.length) RM_49 RM_51 hN.1 zl (by omega)
      refine go_aload_n (i := 0) dA_text_46 rfl rfl trivial ?_
      refine go_getf dA_text_47 flA10 (ho1 _) rfl ?_
      refine go_aload_n (i := 0) dA_text_50 rfl rfl trivial ?_
      refine go_getf dA_text_51 flA25 (ho1 _) rfl ?_
      refine go_VX dA_text_54 vkA273 RM_49 (List.cons_ne_nil _ _) (wr) rfl (by omega) (by omega) (by omega) rfl (fun _ => Nat.le_of_ble_eq_true rfl) ?_
      rintro _ _ ⟨rfl, F2, rfl, hlt, hN0, ⟨f1, hN1, ef1⟩, ⟨f2, hN2⟩⟩ -
      dsimp only [rp]
      have hg1 : ∀ k, RM F row' (rF 0 ((mR m).fr : Nat) to so ((mR m).out.length : Nat) ((mR m).pcs : Nat) (mK m)) k ≠ gBad → F2 k = RM F row' (rF 0 ((mR m).fr : Nat) to so ((mR m).out.length : Nat) ((mR m).pcs : Nat) (mK m)) k := fun k hk => by
        by_cases q : k < N
        · exact hlt k q
        · exact absurd (by rw [fr85 _ _ _ (by omega)]; exact hfree k (by omega)) hk
      have hC2 : COMP F2 (va_up m 17 (va_up (m 17) 11 0)) := (hC1 row' _ _ _ _ _ _).grow hg1 (fun k hk => hlt k (by omega))
      have hn2 := hC2.2.1.1
      have hn2 : F2 1 = cO 1 (cFld 1 (m 0)) := hn2
      have al := qB_addLaw (g := g) (N := N + 3) (F := F2) (s := m 0) (key := mK m) (t := t) (a := N) (R := mR m) hC2.2.1 hts (by omega) (by rw [hmK]; omega) (by omega) z4 hN hN0 ⟨f1, hN1, fun k hk => by rw [ef1 k hk]; exact o4 k hk⟩ ⟨f2, by rw [hN2]; rfl⟩ hJ.zg.2.1
      refine go_VX dA_text_57 vkA277 hn2 (List.cons_ne_nil _ _) (al) rfl (by omega) (by omega) (by omega) rfl (fun _ => Nat.le_of_ble_eq_true rfl) ?_
      rintro _ _ ⟨rfl, F3, rfl, hC3, hF3⟩ -
      dsimp only [rp]
      have ho3 : F3 0 = cO 0 (aFld m) := by
        rw [hF3.at (by omega) (fun q => by have := q.1; omega), hlt 0 (by omega)]; exact ho1 _
      have hn3 := hC3.1
      refine go_aload_n (i := 0) dA_text_60 rfl rfl trivial ?_
      refine go_getf dA_text_61 flA10 ho3 rfl ?_
      refine go_getf dA_text_64 flA270 hn3 rfl ?_
      rw [zlay_64 hts]
      refine go_iconst dA_text_67 (inR_of _ rfl) ?_
      refine go_isub dA_text_68 ?_
      refine go_top (m 0 64) (by (try simp (discharger := (unfold inR; omega)) only [w32_id]) <;> omega) ?_
      refine go_iret dA_text_69 rfl rfl ?_
      refine ⟨by unfold v_text; rw [if_pos k1, if_neg nf], N + 3, F3, rfl, Or.inr rfl, ?_, fun k hk1 hk2 => ?_⟩
      · have := hC2.now hC3 hF3
        unfold u_text
        rw [if_pos ⟨k1, nf⟩, va_up_comm _ _ (by omega)]
        exact this
      · rw [hF3.at hk2 (fun q => by have := q.2; omega), hlt k (by omega), fr85 _ _ _ hk1]
    · have nf : m 0 64 = 14 := by omega
      refine go_ldc dA_text_43 kcA73 (inR_of _ rfl) ?_
      refine go_iret dA_text_45 rfl rfl ?_
      exact ⟨by unfold v_text; rw [if_pos k1, if_pos nf], N, _, rfl, Or.inl rfl, keep _ _ _ _ _ _ _ (fun q => q.2 nf), fun k hk1 hk2 => fr85 _ _ _ hk1⟩
  · rw [if_neg k1]
    have f96 : (mR m).fr ≤ 96 := by
      rw [hmR]
      unfold zprs
      have n96 := hB.1
      have hw := zR0_wf hB
      obtain ⟨w1, f1⟩ := ZR.nx_wf hB hw
      have g1 := zpar_go hB (zkey (mB m) (zR0 (mB m) n)).toNat 800 0 0 0 _ w1 rfl
      have a1 := hw.1
      have a2 := hw.2.1
      have a3 := g1.1.1
      have a4 := g1.1.2.1
      split
      · show (zR0 (mB m) n).fr ≤ 96; omega
      · split
        · show (zpar (mB m) n (zkey (mB m) (zR0 (mB m) n)).toNat 800 0 0 0 ((zR0 (mB m) n).nx (mB m) n)).fr ≤ 96; omega
        · show (zpar (mB m) n (zkey (mB m) (zR0 (mB m) n)).toNat 800 0 0 0 ((zR0 (mB m) n).nx (mB m) n)).fr ≤ 96; omega
    refine go_iload_n (i := 1) dA_text_16 rfl rfl ?_
    refine go_if_ne 31 dA_text_17 rfl (fun h8 => absurd rfl h8) (fun _ => ?_)
    refine go_bipush dA_text_20 (inR_of _ rfl) rfl ?_
    refine go_aload_n (i := 0) dA_text_22 rfl rfl trivial ?_
    refine go_getf dA_text_23 flA25 (ho1 _) rfl ?_
    refine go_getf dA_text_26 flA267 RM_49 rfl ?_
    refine go_isub dA_text_29 ?_
    refine go_top (-100 - ((mR m).fr : Nat)) (by (try simp (discharger := (unfold inR; omega)) only [w32_id]) <;> omega) ?_
    refine go_iret dA_text_30 rfl rfl ?_
    exact ⟨by unfold v_text; rw [if_neg k1], N, _, rfl, Or.inl rfl, keep _ _ _ _ _ _ _ (fun q => k1 q.1), fun k hk1 hk2 => fr85 _ _ _ hk1⟩
end CTEXT2
