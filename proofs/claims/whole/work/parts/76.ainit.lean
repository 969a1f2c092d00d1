/-! ===== the component and the model when they are new ===== -/
def m9 (k : Nat) : Int := if k < 9 then -1 else 0
def m0 (i : Nat) : Nat → Int := if i = 0 then z0 else if i = 9 then m9 else fun _ => 0
def shN (n i : Nat) : Option Nat := if i < n then some (57 + 2 * i) else none
def slN (n i : Nat) : Option Nat := if i < n then some (65 + 4 * i) else none
theorem shN_up (k : Nat) : va_up (shN k) k (some (57 + 2 * k)) = shN (k + 1) := by
  funext i
  unfold shN
  by_cases q : i = k
  · subst q; rw [va_up_self, if_pos (by omega)]
  · rw [va_up_ne _ _ q]
    by_cases c : i < k
    · rw [if_pos c, if_pos (by omega)]
    · rw [if_neg c, if_neg (by omega)]
theorem slN_up (k : Nat) : va_up (slN k) k (some (65 + 4 * k)) = slN (k + 1) := by
  funext i
  unfold slN
  by_cases q : i = k
  · subst q; rw [va_up_self, if_pos (by omega)]
  · rw [va_up_ne _ _ q]
    by_cases c : i < k
    · rw [if_pos c, if_pos (by omega)]
    · rw [if_neg c, if_neg (by omega)]
/-- the first cells of the component, its rows of sheets and slots as far as they are -/
def AB (F : Nat → GC) (k l : Nat) : Prop := F 0 = cO 0 [gR 1, gR 17, gR 33, gR 49, gR 52, gR 53, gR 54, gR 55, gR 56, gI 0, gI 0] ∧ CT0 F 1 ∧ CT0 F 17 ∧ CT0 F 33 ∧ F 49 = cO 4 [gR 50, gR 51, gI 0, gI 0, gI 0, gI 0, gI 0, gI 0, gI 0] ∧ F 50 = cI 96 (fun _ => 0) ∧ F 51 = cI 96 (fun _ => 0) ∧ F 52 = cR 5 4 (shN k) ∧ F 53 = cR 6 5 (slN l) ∧ F 54 = cI 60 (fun _ => 0) ∧ F 55 = cI 100 (fun _ => 0) ∧ F 56 = cI 10 (fun _ => 0)
theorem AB.at {F F' : Nat → GC} {k l k' l' : Nat} (h : AB F k l) (hF : ∀ j : Nat, j < 57 → j ≠ 52 → j ≠ 53 → F' j = F j) (h1 : F' 52 = cR 5 4 (shN k')) (h2 : F' 53 = cR 6 5 (slN l')) : AB F' k' l' := by
  obtain ⟨a, b, c, d, e, f, x, -, -, y, z, w⟩ := h
  exact ⟨by rw [hF _ (by omega) (by omega) (by omega)]; exact a, b.at (fun j j1 j2 => hF j (by omega) (by omega) (by omega)), c.at (fun j j1 j2 => hF j (by omega) (by omega) (by omega)), d.at (fun j j1 j2 => hF j (by omega) (by omega) (by omega)), by rw [hF _ (by omega) (by omega) (by omega)]; exact e, by rw [hF _ (by omega) (by omega) (by omega)]; exact f, by rw [hF _ (by omega) (by omega) (by omega)]; exact x, h1, h2, by rw [hF _ (by omega) (by omega) (by omega)]; exact y, by rw [hF _ (by omega) (by omega) (by omega)]; exact z, by rw [hF _ (by omega) (by omega) (by omega)]; exact w⟩
def SH0 (F : Nat → GC) (a : Nat) : Prop := F a = cO 5 [gI (-1), gI 0, gR (a + 1)] ∧ F (a + 1) = cI 24 (fun _ => 0)
def SL0 (F : Nat → GC) (k : Nat) : Prop := F (65 + 4 * k) = cO 6 [gI 0, gI 0, gR (66 + 4 * k), gR (67 + 4 * k)] ∧ F (66 + 4 * k) = cO 2 [gI 0, gI 0, gI 0, gI 0, gI 0] ∧ SH0 F (67 + 4 * k)
theorem AB.comp {F : Nat → GC} (h : AB F 4 5) (hs : ∀ k : Nat, k < 4 → SH0 F (57 + 2 * k)) (hl : ∀ k : Nat, k < 5 → SL0 F k) : COMP F m0 := by
  obtain ⟨a, b, c, d, e, f, x, s1, s2, y, z, w⟩ := h
  have e9 : ∀ k : Nat, k < 9 → m0 9 k = -1 := fun k hk => by show m9 k = -1; unfold m9; rw [if_pos hk]
  have sht : ∀ a k : Nat, k < 9 → SH0 F a → SHT F a k m0 := fun a k hk h => ⟨by rw [e9 k hk]; exact h.1, _, h.2, fun q => absurd (e9 k hk) (by omega)⟩
  exact ⟨a, b.cty, ⟨⟨_, c.cty⟩, fun q => absurd rfl q⟩, ⟨_, d.cty⟩, ⟨⟨0, 0, 0, 0, 0, 0, e⟩, ⟨_, f, fun k hk => rfl⟩, ⟨_, x⟩⟩, s1, s2, ⟨_, y, fun j hj => rfl⟩, ⟨_, z⟩, ⟨_, w⟩, fun k hk => sht _ k (by omega) (hs k hk), fun k hk => ⟨(hl k hk).1, ⟨fun _ => 0, (hl k hk).2.1, rfl, rfl, rfl, rfl⟩, sht _ (4 + k) (by omega) (hl k hk).2.2⟩⟩
section GOROOM
variable {g : GX} {y : GY} {d bc bs bc' bs' pc : Nat} {L st : List GV} {M : GM} {Q : GV → GM → Prop}
theorem go_room (h1 : bc ≤ bc') (h2 : bs ≤ bs') (k : Go g y d bc bs pc L st M Q) : Go g y d bc' bs' pc L st M Q := by
  intro p e R s m args below meth c H locs cells slots ls Z C hRT hr hM hl hs
  exact k.use C hRT ⟨hr.1, hr.2.1, by omega, by omega⟩ hM hl hs
end GOROOM
section AINIT
variable {g : GX} {F : Nat → GC}
theorem qA_slots (Q : GV → GM → Prop) (d bc : Nat) (hd : 3 ≤ d) (kk : ∀ F2 : Nat → GC, COMP F2 m0 → Q gU (85, F2)) : ∀ (j k : Nat), k + j = 5 → ∀ F1 : Nat → GC, AB F1 4 k → (∀ i : Nat, i < 4 → SH0 F1 (57 + 2 * i)) → (∀ i : Nat, i < k → SL0 F1 i) → Go g yA_init d (bc + 4 * j) (50 * j) 126 [gR 0, gI (k : Int)] [] (65 + 4 * k, F1) Q := by
  intro j
  induction j with
  | zero =>
    intro k hk F1 hA hS hL
    have hk5 : k = 5 := by omega
    subst hk5
    refine go_iload_n (i := 1) dA_init_126 rfl rfl ?_
    refine go_iconst dA_init_127 (inR_of _ rfl) ?_
    refine go_ic_ge 150 dA_init_128 rfl (fun h128 => ?_) (fun h128 => absurd (by omega) h128)
    refine go_vret dA_init_150 rfl ?_
    exact kk F1 (hA.comp hS hL)
  | succ j ih =>
    intro k hk F1 hA hS hL
    have ho := hA.1
    refine go_iload_n (i := 1) dA_init_126 rfl rfl ?_
    refine go_iconst dA_init_127 (inR_of _ rfl) ?_
    refine go_ic_ge 150 dA_init_128 rfl (fun h128 => absurd h128 (by omega)) (fun h128 => ?_)
    refine go_aload_n (i := 0) dA_init_131 rfl rfl trivial ?_
    refine go_getf dA_init_132 flA37 (by assumption) rfl ?_
    refine go_iload_n (i := 1) dA_init_135 rfl rfl ?_
    refine go_new (fs := [gI 0, gI 0, gN, gN]) dA_init_136 cls_6 klA35 ki6 kj6 (fun g j hj => by match j, hj with | 0, _ => rfl | 1, _ => rfl | 2, _ => rfl | 3, _ => rfl) (List.cons_ne_nil _ _) (fun v hv => by simp at hv; rcases hv with rfl | rfl <;> first | exact inR_0 | trivial) (by omega) (by omega) ?_
    refine go_dup dA_init_139 trivial ?_
    refine go_callIN dA_init_140 vkA60.1 vkA60.2.1 vkA60.2.2.1 vkA60.2.2.2.1 vkA60.2.2.2.2 (qT_init (va_up_self _ _ _) (by omega)) rfl (by omega) (by omega) (by omega) rfl (fun _ => Nat.le_of_ble_eq_true rfl) ?_
    rintro _ _ ⟨rfl, F2, rfl, t1, t2, t3, t4, t5⟩ -
    dsimp only [rp]
    have o2 : ∀ i : Nat, i < 65 + 4 * k → F2 i = F1 i := fun i hi => by rw [t5 i (by omega) (by omega), va_up_ne _ _ (by omega)]
    refine go_aast 4 "GooseCounty$Slot" dA_init_143 (show F2 53 = cR 6 5 (slN k) by rw [o2 53 (by omega)]; exact hA.2.2.2.2.2.2.2.2.1) t1 (List.cons_ne_nil _ _) rfl rfl (by omega) (by omega) ?_
    rw [Int.toNat_natCast, slN_up]
    have o3 : ∀ i : Nat, i ≠ 53 → va_up F2 53 (cR 6 5 (slN (k + 1))) i = F2 i := fun i hi => va_up_ne _ _ hi
    refine go_inc1 (((k + 1 : Nat) : Int)) dA_init_144 (Nat.le_of_ble_eq_true rfl) trivial (by (try simp (discharger := (unfold inR; omega)) only [w32_id]) <;> omega) ?_
    refine go_goto 126 dA_init_147 rfl ?_
    have := ih (k + 1) (by omega) (va_up F2 53 (cR 6 5 (slN (k + 1)))) (hA.at (fun i i1 i2 i3 => by rw [o3 i i3, o2 i (by omega)]) (by rw [o3 52 (by omega), o2 52 (by omega)]; exact hA.2.2.2.2.2.2.2.1) (va_up_self _ _ _)) (fun i hi => ⟨by rw [o3 _ (by omega), o2 _ (by omega)]; exact (hS i hi).1, by rw [o3 _ (by omega), o2 _ (by omega)]; exact (hS i hi).2⟩) (fun i hi => by
      by_cases q : i = k
      · subst q
        refine ⟨?_, ?_, ?_, ?_⟩
        · rw [o3 _ (by omega), t1, show 65 + 4 * i + 1 = 66 + 4 * i by omega, show 66 + 4 * i + 1 = 67 + 4 * i by omega]
        · rw [o3 _ (by omega), show 66 + 4 * i = 65 + 4 * i + 1 by omega]; exact t2
        · rw [o3 _ (by omega), show 67 + 4 * i = 65 + 4 * i + 1 + 1 by omega]; exact t3
        · rw [o3 _ (by omega), show 67 + 4 * i + 1 = 65 + 4 * i + 1 + 2 by omega]; exact t4
      · obtain ⟨s1, s2, s3, s4⟩ := hL i (by omega)
        exact ⟨by rw [o3 _ (by omega), o2 _ (by omega)]; exact s1, by rw [o3 _ (by omega), o2 _ (by omega)]; exact s2, by rw [o3 _ (by omega), o2 _ (by omega)]; exact s3, by rw [o3 _ (by omega), o2 _ (by omega)]; exact s4⟩)
    refine go_cast rfl rfl rfl (show _ = (65 + 4 * (k + 1), va_up F2 53 (cR 6 5 (slN (k + 1)))) from by rw [show 65 + 4 * k + 1 + 3 = 65 + 4 * (k + 1) by omega]) ?_
    exact go_room (by omega) (by omega) this
theorem qA_sheets (Q : GV → GM → Prop) (d bc : Nat) (hd : 3 ≤ d) (kk : ∀ F2 : Nat → GC, COMP F2 m0 → Q gU (85, F2)) : ∀ (j k : Nat), k + j = 4 → ∀ F1 : Nat → GC, AB F1 k 0 → (∀ i : Nat, i < k → SH0 F1 (57 + 2 * i)) → Go g yA_init d (bc + 20 + 2 * j) (250 + 30 * j) 100 [gR 0, gI (k : Int)] [] (57 + 2 * k, F1) Q := by
  intro j
  induction j with
  | zero =>
    intro k hk F1 hA hS
    have hk4 : k = 4 := by omega
    subst hk4
    refine go_iload_n (i := 1) dA_init_100 rfl rfl ?_
    refine go_iconst dA_init_101 (inR_of _ rfl) ?_
    refine go_ic_ge 124 dA_init_102 rfl (fun h102 => ?_) (fun h102 => absurd (by omega) h102)
    refine go_iconst dA_init_124 (inR_of _ rfl) ?_
    refine go_is1 dA_init_125 (Nat.le_of_ble_eq_true rfl) trivial ?_
    exact go_room (by omega) (by omega) (qA_slots Q d bc hd kk 5 0 rfl F1 hA hS (fun i hi => absurd hi (by omega)))
  | succ j ih =>
    intro k hk F1 hA hS
    have ho := hA.1
    refine go_iload_n (i := 1) dA_init_100 rfl rfl ?_
    refine go_iconst dA_init_101 (inR_of _ rfl) ?_
    refine go_ic_ge 124 dA_init_102 rfl (fun h102 => absurd h102 (by omega)) (fun h102 => ?_)
    refine go_aload_n (i := 0) dA_init_105 rfl rfl trivial ?_
    refine go_getf dA_init_106 flA31 (by assumption) rfl ?_
    refine go_iload_n (i := 1) dA_init_109 rfl rfl ?_
    refine go_new (fs := [gI 0, gI 0, gN]) dA_init_110 cls_5 klA29 ki5 kj5 (fun g j hj => by match j, hj with | 0, _ => rfl | 1, _ => rfl | 2, _ => rfl) (List.cons_ne_nil _ _) (fun v hv => by simp at hv; rcases hv with rfl | rfl <;> first | exact inR_0 | trivial) (by omega) (by omega) ?_
    refine go_dup dA_init_113 trivial ?_
    refine go_callIN dA_init_114 vkA59.1 vkA59.2.1 vkA59.2.2.1 vkA59.2.2.2.1 vkA59.2.2.2.2 (qS_init (va_up_self _ _ _) (by omega)) rfl (by omega) (by omega) (by omega) rfl (fun _ => Nat.le_of_ble_eq_true rfl) ?_
    rintro _ _ ⟨rfl, F2, rfl, t1, t2, t5⟩ -
    dsimp only [rp]
    have o2 : ∀ i : Nat, i < 57 + 2 * k → F2 i = F1 i := fun i hi => by rw [t5 i (by omega) (by omega), va_up_ne _ _ (by omega)]
    refine go_aast 3 "GooseCounty$Sheet" dA_init_117 (show F2 52 = cR 5 4 (shN k) by rw [o2 52 (by omega)]; exact hA.2.2.2.2.2.2.2.1) t1 (List.cons_ne_nil _ _) rfl rfl (by omega) (by omega) ?_
    rw [Int.toNat_natCast, shN_up]
    have o3 : ∀ i : Nat, i ≠ 52 → va_up F2 52 (cR 5 4 (shN (k + 1))) i = F2 i := fun i hi => va_up_ne _ _ hi
    refine go_inc1 (((k + 1 : Nat) : Int)) dA_init_118 (Nat.le_of_ble_eq_true rfl) trivial (by (try simp (discharger := (unfold inR; omega)) only [w32_id]) <;> omega) ?_
    refine go_goto 100 dA_init_121 rfl ?_
    have := ih (k + 1) (by omega) (va_up F2 52 (cR 5 4 (shN (k + 1)))) (hA.at (fun i i1 i2 i3 => by rw [o3 i i2, o2 i (by omega)]) (va_up_self _ _ _) (by rw [o3 53 (by omega), o2 53 (by omega)]; exact hA.2.2.2.2.2.2.2.2.1)) (fun i hi => by
      by_cases q : i = k
      · subst q; exact ⟨by rw [o3 _ (by omega)]; exact t1, by rw [o3 _ (by omega)]; exact t2⟩
      · exact ⟨by rw [o3 _ (by omega), o2 _ (by omega)]; exact (hS i (by omega)).1, by rw [o3 _ (by omega), o2 _ (by omega)]; exact (hS i (by omega)).2⟩)
    refine go_cast rfl rfl rfl (show _ = (57 + 2 * (k + 1), va_up F2 52 (cR 5 4 (shN (k + 1)))) from by rw [show 57 + 2 * k + 1 + 1 = 57 + 2 * (k + 1) by omega]) ?_
    exact go_room (by omega) (by omega) this
theorem go_county {d bc bs pc b j idx : Nat} {fs L st : List GV} {Q : GV → GM → Prop} (hd1 : decode yA_init.2.1 pc = .ok (.new 7, 3)) (hd2 : decode yA_init.2.1 (pc + 3) = .ok (.dup, 1)) (hd3 : decode yA_init.2.1 (pc + 3 + 1) = .ok (.invokespecial 9, 3)) (hd4 : decode yA_init.2.1 (pc + 3 + 1 + 3) = .ok (.putfield idx, 3)) (hf : FL "GooseCounty" idx 0 j (.object "GooseCounty$County") true) (hm : F 0 = cO 0 fs) (hj : j < fs.length) (hb : 0 < b) (hd : 3 ≤ d) (hbc : 16 ≤ bc) (hbs : 197 ≤ bs) (h8 : cat8 (gR 0 :: st)) (h9 : cat8 (gR b :: gR 0 :: st))
    (kk : ∀ F2 : Nat → GC, F2 0 = cO 0 (fs.set j (gR b)) → CT0 F2 b → (∀ i : Nat, 0 < i → i < b → F2 i = F i) → Go g yA_init d (bc - 16) (bs - 197) (pc + 10) L st (b + 16, F2) Q) : Go g yA_init d bc bs pc L (gR 0 :: st) (b, F) Q := by
  refine go_new (fs := [gN, gN, gN, gN, gN, gI 0, gI 0, gI 0, gI 0, gI 0, gI 0, gI 0, gI 0, gI 0]) hd1 cls_1 klA7 ki1 kj1 (fun g j hj => by match j, hj with | 0, _ => rfl | 1, _ => rfl | 2, _ => rfl | 3, _ => rfl | 4, _ => rfl | 5, _ => rfl | 6, _ => rfl | 7, _ => rfl | 8, _ => rfl | 9, _ => rfl | 10, _ => rfl | 11, _ => rfl | 12, _ => rfl | 13, _ => rfl) (List.cons_ne_nil _ _) (fun v hv => by simp at hv; rcases hv with rfl | rfl <;> first | exact inR_0 | trivial) (by omega) (by omega) ?_
  refine go_dup hd2 trivial ?_
  refine go_callI hd3 vkA9.1 vkA9.2.1 vkA9.2.2.1 vkA9.2.2.2.1 vkA9.2.2.2.2 (qB_init (va_up_self _ _ _)) rfl (by omega) (by omega) (by omega) rfl h9 ?_
  rintro _ _ ⟨rfl, F2, rfl, c1, c2⟩ -
  dsimp only [rp]
  refine go_putF hd4 hf rfl rfl (show F2 0 = cO 0 fs by rw [c2 0 hb, va_up_ne _ _ (by omega)]; exact hm) hj rfl rfl ?_
  refine go_room (bc := bc - 16) (bs := bs - 197) (by omega) (by omega) (kk _ (va_up_self _ _ _) (c1.at (fun k k1 k2 => va_up_ne _ _ (by omega))) (fun i i1 i2 => ?_))
  rw [va_up_ne _ _ (by omega), c2 i i2, va_up_ne _ _ (by omega)]
theorem qA_init (h : F 0 = cO 0 [gN, gN, gN, gN, gN, gN, gN, gN, gN, gI 0, gI 0]) : CT g yA_init 3 84 1400 [gR 0] (1, F) (fun rr M' => rr = gU ∧ ∃ F2 : Nat → GC, M' = (85, F2) ∧ COMP F2 m0) := by
  refine CT.of' (L0 := [gR 0, gU]) plA (Nat.le_of_ble_eq_true rfl) rfl ?_
  refine go_aload_n (i := 0) dA_init_0 rfl rfl trivial ?_
  refine go_objInit dA_init_1 obA1 obI obC (Nat.le_of_ble_eq_true rfl) (by omega) ?_
  refine go_aload_n (i := 0) dA_init_4 rfl rfl trivial ?_
  refine go_county dA_init_5 dA_init_8 dA_init_9 dA_init_12 flA10 h (by show 0 < 11; omega) (by omega) (by omega) (by omega) (by omega) (fun _ => Nat.le_of_ble_eq_true rfl) (fun _ => Nat.le_of_ble_eq_true rfl) ?_
  intro F1 a0 a1 ao
  show Go g yA_init 3 68 1203 _ _ _ (17, F1) _
  refine go_aload_n (i := 0) dA_init_15 rfl rfl trivial ?_
  refine go_county dA_init_16 dA_init_19 dA_init_20 dA_init_23 flA16 a0 (by show 1 < 11; omega) (by omega) (by omega) (by omega) (by omega) (fun _ => Nat.le_of_ble_eq_true rfl) (fun _ => Nat.le_of_ble_eq_true rfl) ?_
  intro F2 b0 b1 bo
  show Go g yA_init 3 52 1006 _ _ _ (33, F2) _
  refine go_aload_n (i := 0) dA_init_26 rfl rfl trivial ?_
  refine go_county dA_init_27 dA_init_30 dA_init_31 dA_init_34 flA19 b0 (by show 2 < 11; omega) (by omega) (by omega) (by omega) (by omega) (fun _ => Nat.le_of_ble_eq_true rfl) (fun _ => Nat.le_of_ble_eq_true rfl) ?_
  intro F3 c0 c1 co
  show Go g yA_init 3 36 809 _ _ _ (49, F3) _
  refine go_aload_n (i := 0) dA_init_37 rfl rfl trivial ?_
  refine go_new (fs := [gN, gN, gI 0, gI 0, gI 0, gI 0, gI 0, gI 0, gI 0]) dA_init_38 cls_4 klA22 ki4 kj4 (fun g j hj => by match j, hj with | 0, _ => rfl | 1, _ => rfl | 2, _ => rfl | 3, _ => rfl | 4, _ => rfl | 5, _ => rfl | 6, _ => rfl | 7, _ => rfl | 8, _ => rfl) (List.cons_ne_nil _ _) (fun v hv => by simp at hv; rcases hv with rfl | rfl <;> first | exact inR_0 | trivial) (by omega) (by omega) ?_
  refine go_dup dA_init_41 trivial ?_
  refine go_callIN dA_init_42 vkA24.1 vkA24.2.1 vkA24.2.2.1 vkA24.2.2.2.1 vkA24.2.2.2.2 (qR_init (va_up_self _ _ _) (by omega)) rfl (by omega) (by omega) (by omega) rfl (fun _ => Nat.le_of_ble_eq_true rfl) ?_
  rintro _ _ ⟨rfl, F4, rfl, r1, r2, r3, r4⟩ -
  dsimp only [rp]
  have d0 : F4 0 = cO 0 [gR 1, gR 17, gR 33, gN, gN, gN, gN, gN, gN, gI 0, gI 0] := by rw [r4 0 (by omega) (by omega), va_up_ne _ _ (by omega)]; exact c0
  have ro : ∀ i : Nat, i < 49 → F4 i = F3 i := fun i hi => by rw [r4 i (by omega) (by omega), va_up_ne _ _ (by omega)]
  refine go_putF dA_init_45 flA25 rfl rfl d0 (by show 3 < 11; omega) rfl rfl ?_
  generalize hF5 : va_up F4 0 _ = F5
  have e0 : F5 0 = cO 0 [gR 1, gR 17, gR 33, gR 49, gN, gN, gN, gN, gN, gI 0, gI 0] := by rw [← hF5, va_up_self]; rfl
  have eo : ∀ i : Nat, 0 < i → F5 i = F4 i := fun i hi => by rw [← hF5, va_up_ne _ _ (by omega)]
  show Go g yA_init 3 33 608 _ _ _ (52, F5) _
  refine go_aload_n (i := 0) dA_init_48 rfl rfl trivial ?_
  refine go_iconst dA_init_49 (inR_of _ rfl) ?_
  refine go_newR 3 "GooseCounty$Sheet" dA_init_50 klA29 (by decide) rfl (by omega) (by omega) (by omega) (by show 4 ≤ _; omega) ?_
  refine go_putF dA_init_53 flA31 rfl rfl (show _ = cO 0 _ by rw [va_up_ne _ _ (by omega)]; exact e0) (by show 4 < 11; omega) rfl rfl ?_
  generalize hF6 : va_up (va_up F5 52 _) 0 _ = F6
  have f0 : F6 0 = cO 0 [gR 1, gR 17, gR 33, gR 49, gR 52, gN, gN, gN, gN, gI 0, gI 0] := by rw [← hF6, va_up_self]; rfl
  have f52 : F6 52 = cR 5 4 (shN 0) := by rw [← hF6, va_up_ne _ _ (by omega), va_up_self]; rfl
  have fo : ∀ i : Nat, 0 < i → i < 52 → F6 i = F5 i := fun i i1 i2 => by rw [← hF6, va_up_ne _ _ (by omega), va_up_ne _ _ (by omega)]
  show Go g yA_init 3 32 604 _ _ _ (53, F6) _
  refine go_aload_n (i := 0) dA_init_56 rfl rfl trivial ?_
  refine go_iconst dA_init_57 (inR_of _ rfl) ?_
  refine go_newR 4 "GooseCounty$Slot" dA_init_58 klA35 (by decide) rfl (by omega) (by omega) (by omega) (by show 5 ≤ _; omega) ?_
  refine go_putF dA_init_61 flA37 rfl rfl (show _ = cO 0 _ by rw [va_up_ne _ _ (by omega)]; exact f0) (by show 5 < 11; omega) rfl rfl ?_
  generalize hF7 : va_up (va_up F6 53 _) 0 _ = F7
  have g0 : F7 0 = cO 0 [gR 1, gR 17, gR 33, gR 49, gR 52, gR 53, gN, gN, gN, gI 0, gI 0] := by rw [← hF7, va_up_self]; rfl
  have g53 : F7 53 = cR 6 5 (slN 0) := by rw [← hF7, va_up_ne _ _ (by omega), va_up_self]; rfl
  have gO' : ∀ i : Nat, 0 < i → i < 53 → F7 i = F6 i := fun i i1 i2 => by rw [← hF7, va_up_ne _ _ (by omega), va_up_ne _ _ (by omega)]
  show Go g yA_init 3 31 599 _ _ _ (54, F7) _
  refine go_aload_n (i := 0) dA_init_64 rfl rfl trivial ?_
  refine go_bipush dA_init_65 (inR_of _ rfl) rfl ?_
  refine go_mnew dA_init_67 dA_init_69 flA41 rfl rfl (by omega) g0 (by show 6 < 11; omega) (by omega) (by omega) (by omega) (by show 60 ≤ _; omega) ?_
  intro F8 h0 h54 ho
  show Go g yA_init 3 30 539 _ _ _ (55, F8) _
  refine go_aload_n (i := 0) dA_init_72 rfl rfl trivial ?_
  refine go_bipush dA_init_73 (inR_of _ rfl) rfl ?_
  refine go_mnew dA_init_75 dA_init_77 flA45 rfl rfl (by omega) h0 (by show 7 < 11; omega) (by omega) (by omega) (by omega) (by show 100 ≤ _; omega) ?_
  intro F9 i0 i55 io
  show Go g yA_init 3 29 439 _ _ _ (56, F9) _
  refine go_aload_n (i := 0) dA_init_80 rfl rfl trivial ?_
  refine go_bipush dA_init_81 (inR_of _ rfl) rfl ?_
  refine go_mnew dA_init_83 dA_init_85 flA48 rfl rfl (by omega) i0 (by show 8 < 11; omega) (by omega) (by omega) (by omega) (by show 10 ≤ _; omega) ?_
  intro FA j0 j56 jo
  show Go g yA_init 3 28 429 _ _ _ (57, FA) _
  refine go_aload_n (i := 0) dA_init_88 rfl rfl trivial ?_
  refine go_iconst dA_init_89 (inR_of _ rfl) ?_
  refine go_putf dA_init_90 flA51 j0 (by show 9 < 11; omega) rfl rfl ?_
  refine go_aload_n (i := 0) dA_init_93 rfl rfl trivial ?_
  refine go_iconst dA_init_94 (inR_of _ rfl) ?_
  refine go_putf dA_init_95 flA55 (va_up_self _ _ _) (by show 10 < 11; omega) rfl rfl ?_
  rw [va_up_up]
  generalize hFB : va_up FA 0 _ = FB
  have k0 : FB 0 = cO 0 [gR 1, gR 17, gR 33, gR 49, gR 52, gR 53, gR 54, gR 55, gR 56, gI 0, gI 0] := by rw [← hFB, va_up_self]; rfl
  have ko : ∀ i : Nat, 0 < i → FB i = FA i := fun i hi => by rw [← hFB, va_up_ne _ _ (by omega)]
  have lo : ∀ i : Nat, 0 < i → i < 52 → FB i = F4 i := fun i i1 i2 => by rw [ko i i1, jo i (by omega) (by omega), io i (by omega) (by omega), ho i (by omega) (by omega), gO' i i1 (by omega), fo i i1 i2, eo i i1]
  have lo49 : ∀ i : Nat, 0 < i → i < 49 → FB i = F3 i := fun i i1 i2 => by rw [lo i i1 (by omega), ro i i2]
  have hAB : AB FB 0 0 := ⟨k0, a1.at (fun k k1 k2 => by rw [lo49 k (by omega) (by omega), co k (by omega) (by omega), bo k (by omega) (by omega)]), b1.at (fun k k1 k2 => by rw [lo49 k (by omega) (by omega), co k (by omega) (by omega)]), c1.at (fun k k1 k2 => lo49 k (by omega) (by omega)), by rw [lo 49 (by omega) (by omega)]; exact r1, by rw [lo 50 (by omega) (by omega)]; exact r2, by rw [lo 51 (by omega) (by omega)]; exact r3, by rw [ko 52 (by omega), jo 52 (by omega) (by omega), io 52 (by omega) (by omega), ho 52 (by omega) (by omega), gO' 52 (by omega) (by omega)]; exact f52, by rw [ko 53 (by omega), jo 53 (by omega) (by omega), io 53 (by omega) (by omega), ho 53 (by omega) (by omega)]; exact g53, by rw [ko 54 (by omega), jo 54 (by omega) (by omega), io 54 (by omega) (by omega)]; exact h54, by rw [ko 55 (by omega), jo 55 (by omega) (by omega)]; exact i55, by rw [ko 56 (by omega)]; exact j56⟩
  refine go_iconst dA_init_98 (inR_of _ rfl) ?_
  refine go_is1 dA_init_99 (Nat.le_of_ble_eq_true rfl) trivial ?_
  exact go_room (by omega) (by omega) (qA_sheets (fun rr M' => rr = gU ∧ ∃ F2 : Nat → GC, M' = (85, F2) ∧ COMP F2 m0) 3 0 (by omega) (fun F2 hC => ⟨rfl, F2, rfl, hC⟩) 4 0 rfl FB hAB (fun i hi => absurd hi (by omega)))
end AINIT
