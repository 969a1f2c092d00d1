/-! ===== the law: a call of both ===== -/
/-- what holds at the head of the law's loop -/
def LWst (N : Nat) (F : Nat → GC) (m : Nat → Nat → Int) : Prop := COMP F m ∧ MOD F 85 m ∧ JV m ∧ 103 ≤ N ∧ (N - 103) % 3 = 0
/-- the law, by whatever name -/
def ylw (nm : String) : GY := (⟨"GooseCountyLaw", nm, "([I)Z"⟩, code, 4, some .boolean)
section LAWC
variable {nm : String}
variable {g : GX} {d bc bs N i : Nat} {F F2 F3 : Nat → GC} {m m3 U : Nat → Nat → Int}
theorem MOD.at' (h : MOD F 85 m) (hF : ∀ k : Nat, 85 ≤ k → k < 103 → F2 k = F k) : MOD F2 85 m := ⟨by rw [hF 85 (by omega) (by omega)]; exact h.1, fun i hi => by rw [hF _ (by omega) (by omega)]; exact h.2 i hi⟩
theorem COMP.fr (h : COMP F m) (hF : FR 85 F F2) : COMP F2 m := by
  have hfk : FK (fun k => 85 ≤ k ∧ k < 85 + 18) F F2 := fun k hk => ⟨fun _ => hF k hk, fun n f e => ⟨f, by rw [hF k hk]; exact e⟩⟩
  obtain ⟨a, b, ⟨⟨s1, c1⟩, c2⟩, ⟨s2, e⟩, r⟩ := h
  have hP : ∀ k, 103 ≤ k → ¬ (85 ≤ k ∧ k < 85 + 18) := fun k hk q => by omega
  exact ⟨by rw [hF 0 (by omega)]; exact a, b.fk hfk hP (fun k k1 k2 q => by omega) (by omega), ⟨⟨s1, c1.fk hfk hP (fun k k1 k2 q => by omega) (by omega)⟩, fun q => (c2 q).fk hfk hP (fun k k1 k2 q => by omega) (by omega)⟩, ⟨s2, e.fk hfk hP (fun k k1 k2 q => by omega) (by omega)⟩, r.at (fun j j1 j2 => hF j (by omega))⟩
theorem LWst.next {N2 : Nat} (hC : COMP F2 U) (hJ : JV U) (hM : MOD F3 85 m3) (hF : FR 85 F2 F3) (e : EQ U m3) (hN : 103 ≤ N2 ∧ (N2 - 103) % 3 = 0) : LWst N2 F3 m3 := ⟨(hC.fr hF).eq e, hM, hJ.eq e, hN.1, hN.2⟩
theorem FK.md (h : FK pA F F2) : ∀ k : Nat, 85 ≤ k → k < 103 → F2 k = F k := fun k k1 k2 => h.at k2 (fun q => by have : k < 85 := q; omega)
theorem go_scld' {y : GY} {pc : Nat} {L st : List GV} {Q : GV → GM → Prop} {j : Int} (k : Nat) (hd : decode y.2.1 pc = .ok (.iaload, 1)) (hj : j = (k : Int)) (hk : k < xL g) (kk : Go g y d bc bs (pc + 1) L (gI (xX g k) :: st) (N, F) Q) : Go g y d bc bs pc L (gI j :: gS 30 :: st) (N, F) Q := by
  subst hj
  exact go_scld hd (by omega) (by omega) (by rw [Int.toNat_natCast]; exact kk)
theorem go_inX {y : GY} {pc : Nat} {L st : List GV} {Q : GV → GM → Prop} (k : (∀ j, inR (xX g j)) → Go g y d bc bs pc L st (N, F) Q) : Go g y d bc bs pc L st (N, F) Q := by
  intro p e R s m args below meth c H locs cells slots ls Z C hRT hr hM hl hs
  exact (k C.2.2.2.2.2.2.2.2.2.2.2.2.2.2.2.2.2.1).use C hRT hr hM hl hs

theorem lc_goose {Q : GV → GM → Prop} (hS : LWst N F m) (hi : i + 6 ≤ xL g) (hL : xL g ≤ 3072) (hX : ∀ j, inR (xX g j)) (hd101 : 102 ≤ d) (next : ∀ (N2 : Nat) (F2 : Nat → GC) (m2 : Nat → Nat → Int), LWst N2 F2 m2 → Go g (ylw nm) d bc bs 1502 [gS 30, gR 0, gR 85, gI (i : Int)] [] (N2, F2) Q) : Go g (ylw nm) d (bc + 3) (bs + 196) 216 [gS 30, gR 0, gR 85, gI (i : Int)] [] (N, F) Q := by
  classical
  obtain ⟨h, hM, hJ, hN1, hN2⟩ := hS
  have hw := hJ.zg.1
  have hT := hJ.zg.2.1
  have hd := hJ.1.1.2.2
  have ho := h.1
  refine go_aload_n (i := 1) dlaw_216 rfl rfl trivial ?_
  refine go_aload_n (i := 0) dlaw_217 rfl rfl trivial ?_
  refine go_iload_n (i := 3) dlaw_218 rfl rfl ?_
  refine go_iconst dlaw_219 (inR_of _ rfl) ?_
  refine go_iadd dlaw_220 ?_
  refine go_top ((i + 1 : Nat) : Int) (by (try simp (discharger := (unfold inR; omega)) only [w32_id]) <;> omega) ?_
  refine go_scld' (i + 1) dlaw_221 rfl (by omega) ?_
  refine go_aload_n (i := 0) dlaw_222 rfl rfl trivial ?_
  refine go_iload_n (i := 3) dlaw_223 rfl rfl ?_
  refine go_iconst dlaw_224 (inR_of _ rfl) ?_
  refine go_iadd dlaw_225 ?_
  refine go_top ((i + 2 : Nat) : Int) (by (try simp (discharger := (unfold inR; omega)) only [w32_id]) <;> omega) ?_
  refine go_scld' (i + 2) dlaw_226 rfl (by omega) ?_
  refine go_aload_n (i := 0) dlaw_227 rfl rfl trivial ?_
  refine go_iload_n (i := 3) dlaw_228 rfl rfl ?_
  refine go_iconst dlaw_229 (inR_of _ rfl) ?_
  refine go_iadd dlaw_230 ?_
  refine go_top ((i + 3 : Nat) : Int) (by (try simp (discharger := (unfold inR; omega)) only [w32_id]) <;> omega) ?_
  refine go_scld' (i + 3) dlaw_231 rfl (by omega) ?_
  refine go_aload_n (i := 0) dlaw_232 rfl rfl trivial ?_
  refine go_iload_n (i := 3) dlaw_233 rfl rfl ?_
  refine go_iconst dlaw_234 (inR_of _ rfl) ?_
  refine go_iadd dlaw_235 ?_
  refine go_top ((i + 4 : Nat) : Int) (by (try simp (discharger := (unfold inR; omega)) only [w32_id]) <;> omega) ?_
  refine go_scld' (i + 4) dlaw_236 rfl (by omega) ?_
  refine go_VX dlaw_237 vklaw13 ho (List.cons_ne_nil _ _) (bA_goose h hJ) rfl (by omega) (by omega) (by omega) rfl (fun _ => Nat.le_of_ble_eq_true rfl) ?_
  rintro _ _ ⟨rfl, F2, rfl, hC, hF⟩ -
  have hFk := FK.md hF
  dsimp only [rp]
  have hM := hM.at' hFk
  have ho := hM.1
  refine go_aload_n (i := 2) dlaw_240 rfl rfl trivial ?_
  refine go_aload_n (i := 0) dlaw_241 rfl rfl trivial ?_
  refine go_iload_n (i := 3) dlaw_242 rfl rfl ?_
  refine go_iconst dlaw_243 (inR_of _ rfl) ?_
  refine go_iadd dlaw_244 ?_
  refine go_top ((i + 1 : Nat) : Int) (by (try simp (discharger := (unfold inR; omega)) only [w32_id]) <;> omega) ?_
  refine go_scld' (i + 1) dlaw_245 rfl (by omega) ?_
  refine go_aload_n (i := 0) dlaw_246 rfl rfl trivial ?_
  refine go_iload_n (i := 3) dlaw_247 rfl rfl ?_
  refine go_iconst dlaw_248 (inR_of _ rfl) ?_
  refine go_iadd dlaw_249 ?_
  refine go_top ((i + 2 : Nat) : Int) (by (try simp (discharger := (unfold inR; omega)) only [w32_id]) <;> omega) ?_
  refine go_scld' (i + 2) dlaw_250 rfl (by omega) ?_
  refine go_aload_n (i := 0) dlaw_251 rfl rfl trivial ?_
  refine go_iload_n (i := 3) dlaw_252 rfl rfl ?_
  refine go_iconst dlaw_253 (inR_of _ rfl) ?_
  refine go_iadd dlaw_254 ?_
  refine go_top ((i + 3 : Nat) : Int) (by (try simp (discharger := (unfold inR; omega)) only [w32_id]) <;> omega) ?_
  refine go_scld' (i + 3) dlaw_255 rfl (by omega) ?_
  refine go_aload_n (i := 0) dlaw_256 rfl rfl trivial ?_
  refine go_iload_n (i := 3) dlaw_257 rfl rfl ?_
  refine go_iconst dlaw_258 (inR_of _ rfl) ?_
  refine go_iadd dlaw_259 ?_
  refine go_top ((i + 4 : Nat) : Int) (by (try simp (discharger := (unfold inR; omega)) only [w32_id]) <;> omega) ?_
  refine go_scld' (i + 4) dlaw_260 rfl (by omega) ?_
  refine go_VX dlaw_261 vklaw17 ho (List.cons_ne_nil _ _) (bM_goose hM hw) rfl (by omega) (by omega) (by omega) rfl (fun _ => Nat.le_of_ble_eq_true rfl) ?_
  rintro _ _ ⟨rfl, F3, m3, rfl, hM3, hF3, e3⟩ -
  dsimp only [rp]
  refine go_ic_eq 1502 dlaw_264 rfl (fun _ => ?_) (fun q => absurd rfl q)
  exact go_room (by omega) (by omega) (next _ _ _ (LWst.next hC (hJ.goose _ _ _ _) hM3 hF3 e3 ⟨hN1, hN2⟩))
theorem lc_told {Q : GV → GM → Prop} (hS : LWst N F m) (hi : i + 6 ≤ xL g) (hL : xL g ≤ 3072) (hX : ∀ j, inR (xX g j)) (hd101 : 102 ≤ d) (next : ∀ (N2 : Nat) (F2 : Nat → GC) (m2 : Nat → Nat → Int), LWst N2 F2 m2 → Go g (ylw nm) d bc bs 1502 [gS 30, gR 0, gR 85, gI (i : Int)] [] (N2, F2) Q) : Go g (ylw nm) d (bc + 3) (bs + 196) 269 [gS 30, gR 0, gR 85, gI (i : Int)] [] (N, F) Q := by
  classical
  obtain ⟨h, hM, hJ, hN1, hN2⟩ := hS
  have hw := hJ.zg.1
  have hT := hJ.zg.2.1
  have hd := hJ.1.1.2.2
  have ho := h.1
  refine go_aload_n (i := 1) dlaw_269 rfl rfl trivial ?_
  refine go_aload_n (i := 0) dlaw_270 rfl rfl trivial ?_
  refine go_iload_n (i := 3) dlaw_271 rfl rfl ?_
  refine go_iconst dlaw_272 (inR_of _ rfl) ?_
  refine go_iadd dlaw_273 ?_
  refine go_top ((i + 1 : Nat) : Int) (by (try simp (discharger := (unfold inR; omega)) only [w32_id]) <;> omega) ?_
  refine go_scld' (i + 1) dlaw_274 rfl (by omega) ?_
  refine go_aload_n (i := 0) dlaw_275 rfl rfl trivial ?_
  refine go_iload_n (i := 3) dlaw_276 rfl rfl ?_
  refine go_iconst dlaw_277 (inR_of _ rfl) ?_
  refine go_iadd dlaw_278 ?_
  refine go_top ((i + 2 : Nat) : Int) (by (try simp (discharger := (unfold inR; omega)) only [w32_id]) <;> omega) ?_
  refine go_scld' (i + 2) dlaw_279 rfl (by omega) ?_
  refine go_VX dlaw_280 vklaw18 ho (List.cons_ne_nil _ _) (bA_told h hJ) rfl (by omega) (by omega) (by omega) rfl (fun _ => Nat.le_of_ble_eq_true rfl) ?_
  rintro _ _ ⟨rfl, F2, rfl, hC, hF⟩ -
  have hFk := FK.md hF
  dsimp only [rp]
  have hM := hM.at' hFk
  have ho := hM.1
  refine go_aload_n (i := 2) dlaw_283 rfl rfl trivial ?_
  refine go_aload_n (i := 0) dlaw_284 rfl rfl trivial ?_
  refine go_iload_n (i := 3) dlaw_285 rfl rfl ?_
  refine go_iconst dlaw_286 (inR_of _ rfl) ?_
  refine go_iadd dlaw_287 ?_
  refine go_top ((i + 1 : Nat) : Int) (by (try simp (discharger := (unfold inR; omega)) only [w32_id]) <;> omega) ?_
  refine go_scld' (i + 1) dlaw_288 rfl (by omega) ?_
  refine go_aload_n (i := 0) dlaw_289 rfl rfl trivial ?_
  refine go_iload_n (i := 3) dlaw_290 rfl rfl ?_
  refine go_iconst dlaw_291 (inR_of _ rfl) ?_
  refine go_iadd dlaw_292 ?_
  refine go_top ((i + 2 : Nat) : Int) (by (try simp (discharger := (unfold inR; omega)) only [w32_id]) <;> omega) ?_
  refine go_scld' (i + 2) dlaw_293 rfl (by omega) ?_
  refine go_VX dlaw_294 vklaw22 ho (List.cons_ne_nil _ _) (bM_told hM hw hT) rfl (by omega) (by omega) (by omega) rfl (fun _ => Nat.le_of_ble_eq_true rfl) ?_
  rintro _ _ ⟨rfl, F3, m3, rfl, hM3, hF3, e3⟩ -
  dsimp only [rp]
  refine go_ic_eq 1502 dlaw_297 rfl (fun _ => ?_) (fun q => absurd rfl q)
  exact go_room (by omega) (by omega) (next _ _ _ (LWst.next hC (hJ) hM3 hF3 e3 ⟨hN1, hN2⟩))
theorem lc_as {Q : GV → GM → Prop} (hS : LWst N F m) (hi : i + 6 ≤ xL g) (hL : xL g ≤ 3072) (hX : ∀ j, inR (xX g j)) (hd101 : 102 ≤ d) (next : ∀ (N2 : Nat) (F2 : Nat → GC) (m2 : Nat → Nat → Int), LWst N2 F2 m2 → Go g (ylw nm) d bc bs 1502 [gS 30, gR 0, gR 85, gI (i : Int)] [] (N2, F2) Q) : Go g (ylw nm) d (bc + 3) (bs + 196) 302 [gS 30, gR 0, gR 85, gI (i : Int)] [] (N, F) Q := by
  classical
  obtain ⟨h, hM, hJ, hN1, hN2⟩ := hS
  have hw := hJ.zg.1
  have hT := hJ.zg.2.1
  have hd := hJ.1.1.2.2
  have ho := h.1
  refine go_aload_n (i := 1) dlaw_302 rfl rfl trivial ?_
  refine go_aload_n (i := 0) dlaw_303 rfl rfl trivial ?_
  refine go_iload_n (i := 3) dlaw_304 rfl rfl ?_
  refine go_iconst dlaw_305 (inR_of _ rfl) ?_
  refine go_iadd dlaw_306 ?_
  refine go_top ((i + 1 : Nat) : Int) (by (try simp (discharger := (unfold inR; omega)) only [w32_id]) <;> omega) ?_
  refine go_scld' (i + 1) dlaw_307 rfl (by omega) ?_
  refine go_aload_n (i := 0) dlaw_308 rfl rfl trivial ?_
  refine go_iload_n (i := 3) dlaw_309 rfl rfl ?_
  refine go_iconst dlaw_310 (inR_of _ rfl) ?_
  refine go_iadd dlaw_311 ?_
  refine go_top ((i + 2 : Nat) : Int) (by (try simp (discharger := (unfold inR; omega)) only [w32_id]) <;> omega) ?_
  refine go_scld' (i + 2) dlaw_312 rfl (by omega) ?_
  refine go_VX dlaw_313 vklaw23 ho (List.cons_ne_nil _ _) (bA_as h hJ) rfl (by omega) (by omega) (by omega) rfl (fun _ => Nat.le_of_ble_eq_true rfl) ?_
  rintro _ _ ⟨rfl, F2, rfl, hC, hF⟩ -
  have hFk := FK.md hF
  dsimp only [rp]
  have hM := hM.at' hFk
  have ho := hM.1
  refine go_aload_n (i := 2) dlaw_316 rfl rfl trivial ?_
  refine go_aload_n (i := 0) dlaw_317 rfl rfl trivial ?_
  refine go_iload_n (i := 3) dlaw_318 rfl rfl ?_
  refine go_iconst dlaw_319 (inR_of _ rfl) ?_
  refine go_iadd dlaw_320 ?_
  refine go_top ((i + 1 : Nat) : Int) (by (try simp (discharger := (unfold inR; omega)) only [w32_id]) <;> omega) ?_
  refine go_scld' (i + 1) dlaw_321 rfl (by omega) ?_
  refine go_aload_n (i := 0) dlaw_322 rfl rfl trivial ?_
  refine go_iload_n (i := 3) dlaw_323 rfl rfl ?_
  refine go_iconst dlaw_324 (inR_of _ rfl) ?_
  refine go_iadd dlaw_325 ?_
  refine go_top ((i + 2 : Nat) : Int) (by (try simp (discharger := (unfold inR; omega)) only [w32_id]) <;> omega) ?_
  refine go_scld' (i + 2) dlaw_326 rfl (by omega) ?_
  refine go_VX dlaw_327 vklaw26 ho (List.cons_ne_nil _ _) (bM_as hM hw) rfl (by omega) (by omega) (by omega) rfl (fun _ => Nat.le_of_ble_eq_true rfl) ?_
  rintro _ _ ⟨rfl, F3, m3, rfl, hM3, hF3, e3⟩ -
  dsimp only [rp]
  refine go_ic_eq 1502 dlaw_330 rfl (fun _ => ?_) (fun q => absurd rfl q)
  exact go_room (by omega) (by omega) (next _ _ _ (LWst.next hC (hJ) hM3 hF3 e3 ⟨hN1, hN2⟩))
theorem lc_turns {Q : GV → GM → Prop} (hS : LWst N F m) (hi : i + 6 ≤ xL g) (hL : xL g ≤ 3072) (hX : ∀ j, inR (xX g j)) (hd101 : 102 ≤ d) (next : ∀ (N2 : Nat) (F2 : Nat → GC) (m2 : Nat → Nat → Int), LWst N2 F2 m2 → Go g (ylw nm) d bc bs 1502 [gS 30, gR 0, gR 85, gI (i : Int)] [] (N2, F2) Q) : Go g (ylw nm) d (bc + 3) (bs + 196) 335 [gS 30, gR 0, gR 85, gI (i : Int)] [] (N, F) Q := by
  classical
  obtain ⟨h, hM, hJ, hN1, hN2⟩ := hS
  have hw := hJ.zg.1
  have hT := hJ.zg.2.1
  have hd := hJ.1.1.2.2
  have ho := h.1
  refine go_aload_n (i := 1) dlaw_335 rfl rfl trivial ?_
  refine go_aload_n (i := 0) dlaw_336 rfl rfl trivial ?_
  refine go_iload_n (i := 3) dlaw_337 rfl rfl ?_
  refine go_iconst dlaw_338 (inR_of _ rfl) ?_
  refine go_iadd dlaw_339 ?_
  refine go_top ((i + 1 : Nat) : Int) (by (try simp (discharger := (unfold inR; omega)) only [w32_id]) <;> omega) ?_
  refine go_scld' (i + 1) dlaw_340 rfl (by omega) ?_
  refine go_aload_n (i := 0) dlaw_341 rfl rfl trivial ?_
  refine go_iload_n (i := 3) dlaw_342 rfl rfl ?_
  refine go_iconst dlaw_343 (inR_of _ rfl) ?_
  refine go_iadd dlaw_344 ?_
  refine go_top ((i + 2 : Nat) : Int) (by (try simp (discharger := (unfold inR; omega)) only [w32_id]) <;> omega) ?_
  refine go_scld' (i + 2) dlaw_345 rfl (by omega) ?_
  refine go_VX dlaw_346 vklaw27 ho (List.cons_ne_nil _ _) (bA_turns h hJ) rfl (by omega) (by omega) (by omega) rfl (fun _ => Nat.le_of_ble_eq_true rfl) ?_
  rintro _ _ ⟨rfl, F2, rfl, hC, hF⟩ -
  have hFk := FK.md hF
  dsimp only [rp]
  have hM := hM.at' hFk
  have ho := hM.1
  refine go_aload_n (i := 2) dlaw_349 rfl rfl trivial ?_
  refine go_aload_n (i := 0) dlaw_350 rfl rfl trivial ?_
  refine go_iload_n (i := 3) dlaw_351 rfl rfl ?_
  refine go_iconst dlaw_352 (inR_of _ rfl) ?_
  refine go_iadd dlaw_353 ?_
  refine go_top ((i + 1 : Nat) : Int) (by (try simp (discharger := (unfold inR; omega)) only [w32_id]) <;> omega) ?_
  refine go_scld' (i + 1) dlaw_354 rfl (by omega) ?_
  refine go_aload_n (i := 0) dlaw_355 rfl rfl trivial ?_
  refine go_iload_n (i := 3) dlaw_356 rfl rfl ?_
  refine go_iconst dlaw_357 (inR_of _ rfl) ?_
  refine go_iadd dlaw_358 ?_
  refine go_top ((i + 2 : Nat) : Int) (by (try simp (discharger := (unfold inR; omega)) only [w32_id]) <;> omega) ?_
  refine go_scld' (i + 2) dlaw_359 rfl (by omega) ?_
  refine go_VX dlaw_360 vklaw30 ho (List.cons_ne_nil _ _) (bM_turns hM hw) rfl (by omega) (by omega) (by omega) rfl (fun _ => Nat.le_of_ble_eq_true rfl) ?_
  rintro _ _ ⟨rfl, F3, m3, rfl, hM3, hF3, e3⟩ -
  dsimp only [rp]
  refine go_ic_eq 1502 dlaw_363 rfl (fun _ => ?_) (fun q => absurd rfl q)
  exact go_room (by omega) (by omega) (next _ _ _ (LWst.next hC (hJ.turns _ _) hM3 hF3 e3 ⟨hN1, hN2⟩))
theorem lc_set {Q : GV → GM → Prop} (hS : LWst N F m) (hi : i + 6 ≤ xL g) (hL : xL g ≤ 3072) (hX : ∀ j, inR (xX g j)) (hd101 : 102 ≤ d) (next : ∀ (N2 : Nat) (F2 : Nat → GC) (m2 : Nat → Nat → Int), LWst N2 F2 m2 → Go g (ylw nm) d bc bs 1502 [gS 30, gR 0, gR 85, gI (i : Int)] [] (N2, F2) Q) : Go g (ylw nm) d (bc + 3) (bs + 196) 368 [gS 30, gR 0, gR 85, gI (i : Int)] [] (N, F) Q := by
  classical
  obtain ⟨h, hM, hJ, hN1, hN2⟩ := hS
  have hw := hJ.zg.1
  have hT := hJ.zg.2.1
  have hd := hJ.1.1.2.2
  have ho := h.1
  refine go_aload_n (i := 1) dlaw_368 rfl rfl trivial ?_
  refine go_aload_n (i := 0) dlaw_369 rfl rfl trivial ?_
  refine go_iload_n (i := 3) dlaw_370 rfl rfl ?_
  refine go_iconst dlaw_371 (inR_of _ rfl) ?_
  refine go_iadd dlaw_372 ?_
  refine go_top ((i + 1 : Nat) : Int) (by (try simp (discharger := (unfold inR; omega)) only [w32_id]) <;> omega) ?_
  refine go_scld' (i + 1) dlaw_373 rfl (by omega) ?_
  refine go_aload_n (i := 0) dlaw_374 rfl rfl trivial ?_
  refine go_iload_n (i := 3) dlaw_375 rfl rfl ?_
  refine go_iconst dlaw_376 (inR_of _ rfl) ?_
  refine go_iadd dlaw_377 ?_
  refine go_top ((i + 2 : Nat) : Int) (by (try simp (discharger := (unfold inR; omega)) only [w32_id]) <;> omega) ?_
  refine go_scld' (i + 2) dlaw_378 rfl (by omega) ?_
  refine go_aload_n (i := 0) dlaw_379 rfl rfl trivial ?_
  refine go_iload_n (i := 3) dlaw_380 rfl rfl ?_
  refine go_iconst dlaw_381 (inR_of _ rfl) ?_
  refine go_iadd dlaw_382 ?_
  refine go_top ((i + 3 : Nat) : Int) (by (try simp (discharger := (unfold inR; omega)) only [w32_id]) <;> omega) ?_
  refine go_scld' (i + 3) dlaw_383 rfl (by omega) ?_
  refine go_VX dlaw_384 vklaw31 ho (List.cons_ne_nil _ _) (bA_set h hJ) rfl (by omega) (by omega) (by omega) rfl (fun _ => Nat.le_of_ble_eq_true rfl) ?_
  rintro _ _ ⟨rfl, F2, rfl, hC, hF⟩ -
  have hFk := FK.md hF
  dsimp only [rp]
  have hM := hM.at' hFk
  have ho := hM.1
  refine go_aload_n (i := 2) dlaw_387 rfl rfl trivial ?_
  refine go_aload_n (i := 0) dlaw_388 rfl rfl trivial ?_
  refine go_iload_n (i := 3) dlaw_389 rfl rfl ?_
  refine go_iconst dlaw_390 (inR_of _ rfl) ?_
  refine go_iadd dlaw_391 ?_
  refine go_top ((i + 1 : Nat) : Int) (by (try simp (discharger := (unfold inR; omega)) only [w32_id]) <;> omega) ?_
  refine go_scld' (i + 1) dlaw_392 rfl (by omega) ?_
  refine go_aload_n (i := 0) dlaw_393 rfl rfl trivial ?_
  refine go_iload_n (i := 3) dlaw_394 rfl rfl ?_
  refine go_iconst dlaw_395 (inR_of _ rfl) ?_
  refine go_iadd dlaw_396 ?_
  refine go_top ((i + 2 : Nat) : Int) (by (try simp (discharger := (unfold inR; omega)) only [w32_id]) <;> omega) ?_
  refine go_scld' (i + 2) dlaw_397 rfl (by omega) ?_
  refine go_aload_n (i := 0) dlaw_398 rfl rfl trivial ?_
  refine go_iload_n (i := 3) dlaw_399 rfl rfl ?_
  refine go_iconst dlaw_400 (inR_of _ rfl) ?_
  refine go_iadd dlaw_401 ?_
  refine go_top ((i + 3 : Nat) : Int) (by (try simp (discharger := (unfold inR; omega)) only [w32_id]) <;> omega) ?_
  refine go_scld' (i + 3) dlaw_402 rfl (by omega) ?_
  refine go_VX dlaw_403 vklaw35 ho (List.cons_ne_nil _ _) (bM_set hM hw) rfl (by omega) (by omega) (by omega) rfl (fun _ => Nat.le_of_ble_eq_true rfl) ?_
  rintro _ _ ⟨rfl, F3, m3, rfl, hM3, hF3, e3⟩ -
  dsimp only [rp]
  refine go_ic_eq 1502 dlaw_406 rfl (fun _ => ?_) (fun q => absurd rfl q)
  exact go_room (by omega) (by omega) (next _ _ _ (LWst.next hC (hJ.set _ _ _) hM3 hF3 e3 ⟨hN1, hN2⟩))
theorem lc_needs {Q : GV → GM → Prop} (hS : LWst N F m) (hi : i + 6 ≤ xL g) (hL : xL g ≤ 3072) (hX : ∀ j, inR (xX g j)) (hd101 : 102 ≤ d) (next : ∀ (N2 : Nat) (F2 : Nat → GC) (m2 : Nat → Nat → Int), LWst N2 F2 m2 → Go g (ylw nm) d bc bs 1502 [gS 30, gR 0, gR 85, gI (i : Int)] [] (N2, F2) Q) : Go g (ylw nm) d (bc + 3) (bs + 196) 411 [gS 30, gR 0, gR 85, gI (i : Int)] [] (N, F) Q := by
  classical
  obtain ⟨h, hM, hJ, hN1, hN2⟩ := hS
  have hw := hJ.zg.1
  have hT := hJ.zg.2.1
  have hd := hJ.1.1.2.2
  have ho := h.1
  refine go_aload_n (i := 1) dlaw_411 rfl rfl trivial ?_
  refine go_aload_n (i := 0) dlaw_412 rfl rfl trivial ?_
  refine go_iload_n (i := 3) dlaw_413 rfl rfl ?_
  refine go_iconst dlaw_414 (inR_of _ rfl) ?_
  refine go_iadd dlaw_415 ?_
  refine go_top ((i + 1 : Nat) : Int) (by (try simp (discharger := (unfold inR; omega)) only [w32_id]) <;> omega) ?_
  refine go_scld' (i + 1) dlaw_416 rfl (by omega) ?_
  refine go_aload_n (i := 0) dlaw_417 rfl rfl trivial ?_
  refine go_iload_n (i := 3) dlaw_418 rfl rfl ?_
  refine go_iconst dlaw_419 (inR_of _ rfl) ?_
  refine go_iadd dlaw_420 ?_
  refine go_top ((i + 2 : Nat) : Int) (by (try simp (discharger := (unfold inR; omega)) only [w32_id]) <;> omega) ?_
  refine go_scld' (i + 2) dlaw_421 rfl (by omega) ?_
  refine go_VX dlaw_422 vklaw36 ho (List.cons_ne_nil _ _) (bA_needs h) rfl (by omega) (by omega) (by omega) rfl (fun _ => Nat.le_of_ble_eq_true rfl) ?_
  rintro _ _ ⟨rfl, F2, rfl, hC, hF⟩ -
  have hFk := FK.md hF
  dsimp only [rp]
  have hM := hM.at' hFk
  have ho := hM.1
  refine go_aload_n (i := 2) dlaw_425 rfl rfl trivial ?_
  refine go_aload_n (i := 0) dlaw_426 rfl rfl trivial ?_
  refine go_iload_n (i := 3) dlaw_427 rfl rfl ?_
  refine go_iconst dlaw_428 (inR_of _ rfl) ?_
  refine go_iadd dlaw_429 ?_
  refine go_top ((i + 1 : Nat) : Int) (by (try simp (discharger := (unfold inR; omega)) only [w32_id]) <;> omega) ?_
  refine go_scld' (i + 1) dlaw_430 rfl (by omega) ?_
  refine go_aload_n (i := 0) dlaw_431 rfl rfl trivial ?_
  refine go_iload_n (i := 3) dlaw_432 rfl rfl ?_
  refine go_iconst dlaw_433 (inR_of _ rfl) ?_
  refine go_iadd dlaw_434 ?_
  refine go_top ((i + 2 : Nat) : Int) (by (try simp (discharger := (unfold inR; omega)) only [w32_id]) <;> omega) ?_
  refine go_scld' (i + 2) dlaw_435 rfl (by omega) ?_
  refine go_VX dlaw_436 vklaw39 ho (List.cons_ne_nil _ _) (bM_needs hM) rfl (by omega) (by omega) (by omega) rfl (fun _ => Nat.le_of_ble_eq_true rfl) ?_
  rintro _ _ ⟨rfl, F3, m3, rfl, hM3, hF3, e3⟩ -
  dsimp only [rp]
  refine go_ic_eq 1502 dlaw_439 rfl (fun _ => ?_) (fun q => absurd rfl q)
  exact go_room (by omega) (by omega) (next _ _ _ (LWst.next hC (hJ.needs _ _) hM3 hF3 e3 ⟨hN1, hN2⟩))
theorem lc_yardOf {Q : GV → GM → Prop} (hS : LWst N F m) (hi : i + 6 ≤ xL g) (hL : xL g ≤ 3072) (hX : ∀ j, inR (xX g j)) (hd101 : 102 ≤ d) (next : ∀ (N2 : Nat) (F2 : Nat → GC) (m2 : Nat → Nat → Int), LWst N2 F2 m2 → Go g (ylw nm) d bc bs 1502 [gS 30, gR 0, gR 85, gI (i : Int)] [] (N2, F2) Q) : Go g (ylw nm) d (bc + 3) (bs + 196) 444 [gS 30, gR 0, gR 85, gI (i : Int)] [] (N, F) Q := by
  classical
  obtain ⟨h, hM, hJ, hN1, hN2⟩ := hS
  have hw := hJ.zg.1
  have hT := hJ.zg.2.1
  have hd := hJ.1.1.2.2
  have ho := h.1
  refine go_aload_n (i := 1) dlaw_444 rfl rfl trivial ?_
  refine go_aload_n (i := 0) dlaw_445 rfl rfl trivial ?_
  refine go_iload_n (i := 3) dlaw_446 rfl rfl ?_
  refine go_iconst dlaw_447 (inR_of _ rfl) ?_
  refine go_iadd dlaw_448 ?_
  refine go_top ((i + 1 : Nat) : Int) (by (try simp (discharger := (unfold inR; omega)) only [w32_id]) <;> omega) ?_
  refine go_scld' (i + 1) dlaw_449 rfl (by omega) ?_
  refine go_aload_n (i := 0) dlaw_450 rfl rfl trivial ?_
  refine go_iload_n (i := 3) dlaw_451 rfl rfl ?_
  refine go_iconst dlaw_452 (inR_of _ rfl) ?_
  refine go_iadd dlaw_453 ?_
  refine go_top ((i + 2 : Nat) : Int) (by (try simp (discharger := (unfold inR; omega)) only [w32_id]) <;> omega) ?_
  refine go_scld' (i + 2) dlaw_454 rfl (by omega) ?_
  refine go_VX dlaw_455 vklaw40 ho (List.cons_ne_nil _ _) (bA_yardOf h hJ) rfl (by omega) (by omega) (by omega) rfl (fun _ => Nat.le_of_ble_eq_true rfl) ?_
  rintro _ _ ⟨rfl, F2, rfl, hC, hF⟩ -
  have hFk := FK.md hF
  dsimp only [rp]
  have hM := hM.at' hFk
  have ho := hM.1
  refine go_aload_n (i := 2) dlaw_458 rfl rfl trivial ?_
  refine go_aload_n (i := 0) dlaw_459 rfl rfl trivial ?_
  refine go_iload_n (i := 3) dlaw_460 rfl rfl ?_
  refine go_iconst dlaw_461 (inR_of _ rfl) ?_
  refine go_iadd dlaw_462 ?_
  refine go_top ((i + 1 : Nat) : Int) (by (try simp (discharger := (unfold inR; omega)) only [w32_id]) <;> omega) ?_
  refine go_scld' (i + 1) dlaw_463 rfl (by omega) ?_
  refine go_aload_n (i := 0) dlaw_464 rfl rfl trivial ?_
  refine go_iload_n (i := 3) dlaw_465 rfl rfl ?_
  refine go_iconst dlaw_466 (inR_of _ rfl) ?_
  refine go_iadd dlaw_467 ?_
  refine go_top ((i + 2 : Nat) : Int) (by (try simp (discharger := (unfold inR; omega)) only [w32_id]) <;> omega) ?_
  refine go_scld' (i + 2) dlaw_468 rfl (by omega) ?_
  refine go_VX dlaw_469 vklaw43 ho (List.cons_ne_nil _ _) (bM_yardOf hM hw hT) rfl (by omega) (by omega) (by omega) rfl (fun _ => Nat.le_of_ble_eq_true rfl) ?_
  rintro _ _ ⟨rfl, F3, m3, rfl, hM3, hF3, e3⟩ -
  dsimp only [rp]
  refine go_ic_eq 1502 dlaw_472 rfl (fun _ => ?_) (fun q => absurd rfl q)
  exact go_room (by omega) (by omega) (next _ _ _ (LWst.next hC (hJ) hM3 hF3 e3 ⟨hN1, hN2⟩))
theorem lc_rule {Q : GV → GM → Prop} (hS : LWst N F m) (hi : i + 6 ≤ xL g) (hL : xL g ≤ 3072) (hX : ∀ j, inR (xX g j)) (hd101 : 102 ≤ d) (next : ∀ (N2 : Nat) (F2 : Nat → GC) (m2 : Nat → Nat → Int), LWst N2 F2 m2 → Go g (ylw nm) d bc bs 1502 [gS 30, gR 0, gR 85, gI (i : Int)] [] (N2, F2) Q) : Go g (ylw nm) d (bc + 3) (bs + 196) 477 [gS 30, gR 0, gR 85, gI (i : Int)] [] (N, F) Q := by
  classical
  obtain ⟨h, hM, hJ, hN1, hN2⟩ := hS
  have hw := hJ.zg.1
  have hT := hJ.zg.2.1
  have hd := hJ.1.1.2.2
  have ho := h.1
  refine go_aload_n (i := 1) dlaw_477 rfl rfl trivial ?_
  refine go_aload_n (i := 0) dlaw_478 rfl rfl trivial ?_
  refine go_iload_n (i := 3) dlaw_479 rfl rfl ?_
  refine go_iconst dlaw_480 (inR_of _ rfl) ?_
  refine go_iadd dlaw_481 ?_
  refine go_top ((i + 1 : Nat) : Int) (by (try simp (discharger := (unfold inR; omega)) only [w32_id]) <;> omega) ?_
  refine go_scld' (i + 1) dlaw_482 rfl (by omega) ?_
  refine go_aload_n (i := 0) dlaw_483 rfl rfl trivial ?_
  refine go_iload_n (i := 3) dlaw_484 rfl rfl ?_
  refine go_iconst dlaw_485 (inR_of _ rfl) ?_
  refine go_iadd dlaw_486 ?_
  refine go_top ((i + 2 : Nat) : Int) (by (try simp (discharger := (unfold inR; omega)) only [w32_id]) <;> omega) ?_
  refine go_scld' (i + 2) dlaw_487 rfl (by omega) ?_
  refine go_VX dlaw_488 vklaw44 ho (List.cons_ne_nil _ _) (bA_rule h) rfl (by omega) (by omega) (by omega) rfl (fun _ => Nat.le_of_ble_eq_true rfl) ?_
  rintro _ _ ⟨rfl, F2, rfl, hC, hF⟩ -
  have hFk := FK.md hF
  dsimp only [rp]
  have hM := hM.at' hFk
  have ho := hM.1
  refine go_aload_n (i := 2) dlaw_491 rfl rfl trivial ?_
  refine go_aload_n (i := 0) dlaw_492 rfl rfl trivial ?_
  refine go_iload_n (i := 3) dlaw_493 rfl rfl ?_
  refine go_iconst dlaw_494 (inR_of _ rfl) ?_
  refine go_iadd dlaw_495 ?_
  refine go_top ((i + 1 : Nat) : Int) (by (try simp (discharger := (unfold inR; omega)) only [w32_id]) <;> omega) ?_
  refine go_scld' (i + 1) dlaw_496 rfl (by omega) ?_
  refine go_aload_n (i := 0) dlaw_497 rfl rfl trivial ?_
  refine go_iload_n (i := 3) dlaw_498 rfl rfl ?_
  refine go_iconst dlaw_499 (inR_of _ rfl) ?_
  refine go_iadd dlaw_500 ?_
  refine go_top ((i + 2 : Nat) : Int) (by (try simp (discharger := (unfold inR; omega)) only [w32_id]) <;> omega) ?_
  refine go_scld' (i + 2) dlaw_501 rfl (by omega) ?_
  refine go_VX dlaw_502 vklaw47 ho (List.cons_ne_nil _ _) (bM_rule hM) rfl (by omega) (by omega) (by omega) rfl (fun _ => Nat.le_of_ble_eq_true rfl) ?_
  rintro _ _ ⟨rfl, F3, m3, rfl, hM3, hF3, e3⟩ -
  dsimp only [rp]
  refine go_ic_eq 1502 dlaw_505 rfl (fun _ => ?_) (fun q => absurd rfl q)
  exact go_room (by omega) (by omega) (next _ _ _ (LWst.next hC (hJ.rule _ _) hM3 hF3 e3 ⟨hN1, hN2⟩))
theorem lc_deal {Q : GV → GM → Prop} (hS : LWst N F m) (hi : i + 6 ≤ xL g) (hL : xL g ≤ 3072) (hX : ∀ j, inR (xX g j)) (hd101 : 102 ≤ d) (next : ∀ (N2 : Nat) (F2 : Nat → GC) (m2 : Nat → Nat → Int), LWst N2 F2 m2 → Go g (ylw nm) d bc bs 1502 [gS 30, gR 0, gR 85, gI (i : Int)] [] (N2, F2) Q) : Go g (ylw nm) d (bc + 3) (bs + 196) 510 [gS 30, gR 0, gR 85, gI (i : Int)] [] (N, F) Q := by
  classical
  obtain ⟨h, hM, hJ, hN1, hN2⟩ := hS
  have hw := hJ.zg.1
  have hT := hJ.zg.2.1
  have hd := hJ.1.1.2.2
  have ho := h.1
  refine go_aload_n (i := 1) dlaw_510 rfl rfl trivial ?_
  refine go_aload_n (i := 0) dlaw_511 rfl rfl trivial ?_
  refine go_iload_n (i := 3) dlaw_512 rfl rfl ?_
  refine go_iconst dlaw_513 (inR_of _ rfl) ?_
  refine go_iadd dlaw_514 ?_
  refine go_top ((i + 1 : Nat) : Int) (by (try simp (discharger := (unfold inR; omega)) only [w32_id]) <;> omega) ?_
  refine go_scld' (i + 1) dlaw_515 rfl (by omega) ?_
  refine go_VX dlaw_516 vklaw48 ho (List.cons_ne_nil _ _) (bA_deal h hJ) rfl (by omega) (by omega) (by omega) rfl (fun _ => Nat.le_of_ble_eq_true rfl) ?_
  rintro _ _ ⟨rfl, F2, rfl, hC, hF⟩ -
  have hFk := FK.md hF
  dsimp only [rp]
  have hM := hM.at' hFk
  have ho := hM.1
  refine go_aload_n (i := 2) dlaw_519 rfl rfl trivial ?_
  refine go_aload_n (i := 0) dlaw_520 rfl rfl trivial ?_
  refine go_iload_n (i := 3) dlaw_521 rfl rfl ?_
  refine go_iconst dlaw_522 (inR_of _ rfl) ?_
  refine go_iadd dlaw_523 ?_
  refine go_top ((i + 1 : Nat) : Int) (by (try simp (discharger := (unfold inR; omega)) only [w32_id]) <;> omega) ?_
  refine go_scld' (i + 1) dlaw_524 rfl (by omega) ?_
  refine go_VX dlaw_525 vklaw52 ho (List.cons_ne_nil _ _) (bM_deal hM hw) rfl (by omega) (by omega) (by omega) rfl (fun _ => Nat.le_of_ble_eq_true rfl) ?_
  rintro _ _ ⟨rfl, F3, m3, rfl, hM3, hF3, e3⟩ -
  dsimp only [rp]
  refine go_ic_eq 1502 dlaw_528 rfl (fun _ => ?_) (fun q => absurd rfl q)
  exact go_room (by omega) (by omega) (next _ _ _ (LWst.next hC (hJ.deal _) hM3 hF3 e3 ⟨hN1, hN2⟩))
theorem lc_seed {Q : GV → GM → Prop} (hS : LWst N F m) (hi : i + 6 ≤ xL g) (hL : xL g ≤ 3072) (hX : ∀ j, inR (xX g j)) (hd101 : 102 ≤ d) (next : ∀ (N2 : Nat) (F2 : Nat → GC) (m2 : Nat → Nat → Int), LWst N2 F2 m2 → Go g (ylw nm) d bc bs 1502 [gS 30, gR 0, gR 85, gI (i : Int)] [] (N2, F2) Q) : Go g (ylw nm) d (bc + 3) (bs + 196) 533 [gS 30, gR 0, gR 85, gI (i : Int)] [] (N, F) Q := by
  classical
  obtain ⟨h, hM, hJ, hN1, hN2⟩ := hS
  have hw := hJ.zg.1
  have hT := hJ.zg.2.1
  have hd := hJ.1.1.2.2
  have ho := h.1
  refine go_aload_n (i := 1) dlaw_533 rfl rfl trivial ?_
  refine go_aload_n (i := 0) dlaw_534 rfl rfl trivial ?_
  refine go_iload_n (i := 3) dlaw_535 rfl rfl ?_
  refine go_iconst dlaw_536 (inR_of _ rfl) ?_
  refine go_iadd dlaw_537 ?_
  refine go_top ((i + 1 : Nat) : Int) (by (try simp (discharger := (unfold inR; omega)) only [w32_id]) <;> omega) ?_
  refine go_scld' (i + 1) dlaw_538 rfl (by omega) ?_
  refine go_VX dlaw_539 vklaw53 ho (List.cons_ne_nil _ _) (bA_seed h) rfl (by omega) (by omega) (by omega) rfl (fun _ => Nat.le_of_ble_eq_true rfl) ?_
  rintro _ _ ⟨rfl, F2, rfl, hC, hF⟩ -
  have hFk := FK.md hF
  dsimp only [rp]
  have hM := hM.at' hFk
  have ho := hM.1
  refine go_aload_n (i := 2) dlaw_542 rfl rfl trivial ?_
  refine go_aload_n (i := 0) dlaw_543 rfl rfl trivial ?_
  refine go_iload_n (i := 3) dlaw_544 rfl rfl ?_
  refine go_iconst dlaw_545 (inR_of _ rfl) ?_
  refine go_iadd dlaw_546 ?_
  refine go_top ((i + 1 : Nat) : Int) (by (try simp (discharger := (unfold inR; omega)) only [w32_id]) <;> omega) ?_
  refine go_scld' (i + 1) dlaw_547 rfl (by omega) ?_
  refine go_VX dlaw_548 vklaw56 ho (List.cons_ne_nil _ _) (bM_seed hM) rfl (by omega) (by omega) (by omega) rfl (fun _ => Nat.le_of_ble_eq_true rfl) ?_
  rintro _ _ ⟨rfl, F3, m3, rfl, hM3, hF3, e3⟩ -
  dsimp only [rp]
  refine go_ic_eq 1502 dlaw_551 rfl (fun _ => ?_) (fun q => absurd rfl q)
  exact go_room (by omega) (by omega) (next _ _ _ (LWst.next hC (hJ.seed (hX _)) hM3 hF3 e3 ⟨hN1, hN2⟩))
theorem lc_drive {Q : GV → GM → Prop} (hS : LWst N F m) (hi : i + 6 ≤ xL g) (hL : xL g ≤ 3072) (hX : ∀ j, inR (xX g j)) (hd101 : 102 ≤ d) (next : ∀ (N2 : Nat) (F2 : Nat → GC) (m2 : Nat → Nat → Int), LWst N2 F2 m2 → Go g (ylw nm) d bc bs 1502 [gS 30, gR 0, gR 85, gI (i : Int)] [] (N2, F2) Q) : Go g (ylw nm) d (bc + 3) (bs + 196) 556 [gS 30, gR 0, gR 85, gI (i : Int)] [] (N, F) Q := by
  classical
  obtain ⟨h, hM, hJ, hN1, hN2⟩ := hS
  have hw := hJ.zg.1
  have hT := hJ.zg.2.1
  have hd := hJ.1.1.2.2
  have ho := h.1
  refine go_aload_n (i := 1) dlaw_556 rfl rfl trivial ?_
  refine go_aload_n (i := 0) dlaw_557 rfl rfl trivial ?_
  refine go_iload_n (i := 3) dlaw_558 rfl rfl ?_
  refine go_iconst dlaw_559 (inR_of _ rfl) ?_
  refine go_iadd dlaw_560 ?_
  refine go_top ((i + 1 : Nat) : Int) (by (try simp (discharger := (unfold inR; omega)) only [w32_id]) <;> omega) ?_
  refine go_scld' (i + 1) dlaw_561 rfl (by omega) ?_
  refine go_aload_n (i := 0) dlaw_562 rfl rfl trivial ?_
  refine go_iload_n (i := 3) dlaw_563 rfl rfl ?_
  refine go_iconst dlaw_564 (inR_of _ rfl) ?_
  refine go_iadd dlaw_565 ?_
  refine go_top ((i + 2 : Nat) : Int) (by (try simp (discharger := (unfold inR; omega)) only [w32_id]) <;> omega) ?_
  refine go_scld' (i + 2) dlaw_566 rfl (by omega) ?_
  refine go_VX dlaw_567 vklaw57 ho (List.cons_ne_nil _ _) (bA_drive h hJ) rfl (by omega) (by omega) (by omega) rfl (fun _ => Nat.le_of_ble_eq_true rfl) ?_
  rintro _ _ ⟨rfl, F2, rfl, hC, hF⟩ -
  have hFk := FK.md hF
  dsimp only [rp]
  have hM := hM.at' hFk
  have ho := hM.1
  refine go_aload_n (i := 2) dlaw_570 rfl rfl trivial ?_
  refine go_aload_n (i := 0) dlaw_571 rfl rfl trivial ?_
  refine go_iload_n (i := 3) dlaw_572 rfl rfl ?_
  refine go_iconst dlaw_573 (inR_of _ rfl) ?_
  refine go_iadd dlaw_574 ?_
  refine go_top ((i + 1 : Nat) : Int) (by (try simp (discharger := (unfold inR; omega)) only [w32_id]) <;> omega) ?_
  refine go_scld' (i + 1) dlaw_575 rfl (by omega) ?_
  refine go_aload_n (i := 0) dlaw_576 rfl rfl trivial ?_
  refine go_iload_n (i := 3) dlaw_577 rfl rfl ?_
  refine go_iconst dlaw_578 (inR_of _ rfl) ?_
  refine go_iadd dlaw_579 ?_
  refine go_top ((i + 2 : Nat) : Int) (by (try simp (discharger := (unfold inR; omega)) only [w32_id]) <;> omega) ?_
  refine go_scld' (i + 2) dlaw_580 rfl (by omega) ?_
  refine go_VX dlaw_581 vklaw60 ho (List.cons_ne_nil _ _) (bM_drive hM hw hT) rfl (by omega) (by omega) (by omega) rfl (fun _ => Nat.le_of_ble_eq_true rfl) ?_
  rintro _ _ ⟨rfl, F3, m3, rfl, hM3, hF3, e3⟩ -
  dsimp only [rp]
  refine go_ic_eq 1502 dlaw_584 rfl (fun _ => ?_) (fun q => absurd rfl q)
  exact go_room (by omega) (by omega) (next _ _ _ (LWst.next hC (hJ) hM3 hF3 e3 ⟨hN1, hN2⟩))
theorem lc_strike {Q : GV → GM → Prop} (hS : LWst N F m) (hi : i + 6 ≤ xL g) (hL : xL g ≤ 3072) (hX : ∀ j, inR (xX g j)) (hd101 : 102 ≤ d) (next : ∀ (N2 : Nat) (F2 : Nat → GC) (m2 : Nat → Nat → Int), LWst N2 F2 m2 → Go g (ylw nm) d bc bs 1502 [gS 30, gR 0, gR 85, gI (i : Int)] [] (N2, F2) Q) : Go g (ylw nm) d (bc + 3) (bs + 196) 589 [gS 30, gR 0, gR 85, gI (i : Int)] [] (N, F) Q := by
  classical
  obtain ⟨h, hM, hJ, hN1, hN2⟩ := hS
  have hw := hJ.zg.1
  have hT := hJ.zg.2.1
  have hd := hJ.1.1.2.2
  have ho := h.1
  refine go_aload_n (i := 1) dlaw_589 rfl rfl trivial ?_
  refine go_aload_n (i := 0) dlaw_590 rfl rfl trivial ?_
  refine go_iload_n (i := 3) dlaw_591 rfl rfl ?_
  refine go_iconst dlaw_592 (inR_of _ rfl) ?_
  refine go_iadd dlaw_593 ?_
  refine go_top ((i + 1 : Nat) : Int) (by (try simp (discharger := (unfold inR; omega)) only [w32_id]) <;> omega) ?_
  refine go_scld' (i + 1) dlaw_594 rfl (by omega) ?_
  refine go_VX dlaw_595 vklaw61 ho (List.cons_ne_nil _ _) (bA_strike h hJ) rfl (by omega) (by omega) (by omega) rfl (fun _ => Nat.le_of_ble_eq_true rfl) ?_
  rintro _ _ ⟨rfl, F2, rfl, hC, hF⟩ -
  have hFk := FK.md hF
  dsimp only [rp]
  have hM := hM.at' hFk
  have ho := hM.1
  refine go_aload_n (i := 2) dlaw_598 rfl rfl trivial ?_
  refine go_aload_n (i := 0) dlaw_599 rfl rfl trivial ?_
  refine go_iload_n (i := 3) dlaw_600 rfl rfl ?_
  refine go_iconst dlaw_601 (inR_of _ rfl) ?_
  refine go_iadd dlaw_602 ?_
  refine go_top ((i + 1 : Nat) : Int) (by (try simp (discharger := (unfold inR; omega)) only [w32_id]) <;> omega) ?_
  refine go_scld' (i + 1) dlaw_603 rfl (by omega) ?_
  refine go_VX dlaw_604 vklaw64 ho (List.cons_ne_nil _ _) (bM_strike hM hw hT) rfl (by omega) (by omega) (by omega) rfl (fun _ => Nat.le_of_ble_eq_true rfl) ?_
  rintro _ _ ⟨rfl, F3, m3, rfl, hM3, hF3, e3⟩ -
  dsimp only [rp]
  refine go_ic_eq 1502 dlaw_607 rfl (fun _ => ?_) (fun q => absurd rfl q)
  exact go_room (by omega) (by omega) (next _ _ _ (LWst.next hC (hJ.strike _) hM3 hF3 e3 ⟨hN1, hN2⟩))
theorem lc_days {Q : GV → GM → Prop} (hS : LWst N F m) (hi : i + 6 ≤ xL g) (hL : xL g ≤ 3072) (hX : ∀ j, inR (xX g j)) (hd101 : 102 ≤ d) (next : ∀ (N2 : Nat) (F2 : Nat → GC) (m2 : Nat → Nat → Int), LWst N2 F2 m2 → Go g (ylw nm) d bc bs 1502 [gS 30, gR 0, gR 85, gI (i : Int)] [] (N2, F2) Q) : Go g (ylw nm) d (bc + 3) (bs + 196) 612 [gS 30, gR 0, gR 85, gI (i : Int)] [] (N, F) Q := by
  classical
  obtain ⟨h, hM, hJ, hN1, hN2⟩ := hS
  have hw := hJ.zg.1
  have hT := hJ.zg.2.1
  have hd := hJ.1.1.2.2
  have ho := h.1
  refine go_aload_n (i := 1) dlaw_612 rfl rfl trivial ?_
  refine go_aload_n (i := 0) dlaw_613 rfl rfl trivial ?_
  refine go_iload_n (i := 3) dlaw_614 rfl rfl ?_
  refine go_iconst dlaw_615 (inR_of _ rfl) ?_
  refine go_iadd dlaw_616 ?_
  refine go_top ((i + 1 : Nat) : Int) (by (try simp (discharger := (unfold inR; omega)) only [w32_id]) <;> omega) ?_
  refine go_scld' (i + 1) dlaw_617 rfl (by omega) ?_
  refine go_VX dlaw_618 vklaw65 ho (List.cons_ne_nil _ _) (bA_days h hJ) rfl (by omega) (by omega) (by omega) rfl (fun _ => Nat.le_of_ble_eq_true rfl) ?_
  rintro _ _ ⟨rfl, F2, rfl, hC, hF⟩ -
  have hFk := FK.md hF
  dsimp only [rp]
  have hM := hM.at' hFk
  have ho := hM.1
  refine go_aload_n (i := 2) dlaw_621 rfl rfl trivial ?_
  refine go_aload_n (i := 0) dlaw_622 rfl rfl trivial ?_
  refine go_iload_n (i := 3) dlaw_623 rfl rfl ?_
  refine go_iconst dlaw_624 (inR_of _ rfl) ?_
  refine go_iadd dlaw_625 ?_
  refine go_top ((i + 1 : Nat) : Int) (by (try simp (discharger := (unfold inR; omega)) only [w32_id]) <;> omega) ?_
  refine go_scld' (i + 1) dlaw_626 rfl (by omega) ?_
  refine go_VX dlaw_627 vklaw68 ho (List.cons_ne_nil _ _) (bM_days hM hw hT hd) rfl (by omega) (by omega) (by omega) rfl (fun _ => Nat.le_of_ble_eq_true rfl) ?_
  rintro _ _ ⟨rfl, F3, m3, rfl, hM3, hF3, e3⟩ -
  dsimp only [rp]
  refine go_ic_eq 1502 dlaw_630 rfl (fun _ => ?_) (fun q => absurd rfl q)
  exact go_room (by omega) (by omega) (next _ _ _ (LWst.next hC (hJ.days _) hM3 hF3 e3 ⟨hN1, hN2⟩))
theorem lc_county {Q : GV → GM → Prop} (hS : LWst N F m) (hi : i + 6 ≤ xL g) (hL : xL g ≤ 3072) (hX : ∀ j, inR (xX g j)) (hd101 : 102 ≤ d) (next : ∀ (N2 : Nat) (F2 : Nat → GC) (m2 : Nat → Nat → Int), LWst N2 F2 m2 → Go g (ylw nm) d bc bs 1502 [gS 30, gR 0, gR 85, gI (i : Int)] [] (N2, F2) Q) : Go g (ylw nm) d (bc + 3) (bs + 196) 635 [gS 30, gR 0, gR 85, gI (i : Int)] [] (N, F) Q := by
  classical
  obtain ⟨h, hM, hJ, hN1, hN2⟩ := hS
  have hw := hJ.zg.1
  have hT := hJ.zg.2.1
  have hd := hJ.1.1.2.2
  have ho := h.1
  refine go_aload_n (i := 1) dlaw_635 rfl rfl trivial ?_
  refine go_aload_n (i := 0) dlaw_636 rfl rfl trivial ?_
  refine go_iload_n (i := 3) dlaw_637 rfl rfl ?_
  refine go_iconst dlaw_638 (inR_of _ rfl) ?_
  refine go_iadd dlaw_639 ?_
  refine go_top ((i + 1 : Nat) : Int) (by (try simp (discharger := (unfold inR; omega)) only [w32_id]) <;> omega) ?_
  refine go_scld' (i + 1) dlaw_640 rfl (by omega) ?_
  refine go_VX dlaw_641 vklaw69 ho (List.cons_ne_nil _ _) (bA_county h hJ) rfl (by omega) (by omega) (by omega) rfl (fun _ => Nat.le_of_ble_eq_true rfl) ?_
  rintro _ _ ⟨rfl, F2, rfl, hC, hF⟩ -
  have hFk := FK.md hF
  dsimp only [rp]
  have hM := hM.at' hFk
  have ho := hM.1
  refine go_aload_n (i := 2) dlaw_644 rfl rfl trivial ?_
  refine go_aload_n (i := 0) dlaw_645 rfl rfl trivial ?_
  refine go_iload_n (i := 3) dlaw_646 rfl rfl ?_
  refine go_iconst dlaw_647 (inR_of _ rfl) ?_
  refine go_iadd dlaw_648 ?_
  refine go_top ((i + 1 : Nat) : Int) (by (try simp (discharger := (unfold inR; omega)) only [w32_id]) <;> omega) ?_
  refine go_scld' (i + 1) dlaw_649 rfl (by omega) ?_
  refine go_VX dlaw_650 vklaw72 ho (List.cons_ne_nil _ _) (bM_county hM hw hT) rfl (by omega) (by omega) (by omega) rfl (fun _ => Nat.le_of_ble_eq_true rfl) ?_
  rintro _ _ ⟨rfl, F3, m3, rfl, hM3, hF3, e3⟩ -
  dsimp only [rp]
  refine go_ic_eq 1502 dlaw_653 rfl (fun _ => ?_) (fun q => absurd rfl q)
  exact go_room (by omega) (by omega) (next _ _ _ (LWst.next hC (hJ) hM3 hF3 e3 ⟨hN1, hN2⟩))
theorem lc_behind {Q : GV → GM → Prop} (hS : LWst N F m) (hi : i + 6 ≤ xL g) (hL : xL g ≤ 3072) (hX : ∀ j, inR (xX g j)) (hd101 : 102 ≤ d) (next : ∀ (N2 : Nat) (F2 : Nat → GC) (m2 : Nat → Nat → Int), LWst N2 F2 m2 → Go g (ylw nm) d bc bs 1502 [gS 30, gR 0, gR 85, gI (i : Int)] [] (N2, F2) Q) : Go g (ylw nm) d (bc + 3) (bs + 196) 658 [gS 30, gR 0, gR 85, gI (i : Int)] [] (N, F) Q := by
  classical
  obtain ⟨h, hM, hJ, hN1, hN2⟩ := hS
  have hw := hJ.zg.1
  have hT := hJ.zg.2.1
  have hd := hJ.1.1.2.2
  have ho := h.1
  refine go_aload_n (i := 1) dlaw_658 rfl rfl trivial ?_
  refine go_aload_n (i := 0) dlaw_659 rfl rfl trivial ?_
  refine go_iload_n (i := 3) dlaw_660 rfl rfl ?_
  refine go_iconst dlaw_661 (inR_of _ rfl) ?_
  refine go_iadd dlaw_662 ?_
  refine go_top ((i + 1 : Nat) : Int) (by (try simp (discharger := (unfold inR; omega)) only [w32_id]) <;> omega) ?_
  refine go_scld' (i + 1) dlaw_663 rfl (by omega) ?_
  refine go_aload_n (i := 0) dlaw_664 rfl rfl trivial ?_
  refine go_iload_n (i := 3) dlaw_665 rfl rfl ?_
  refine go_iconst dlaw_666 (inR_of _ rfl) ?_
  refine go_iadd dlaw_667 ?_
  refine go_top ((i + 2 : Nat) : Int) (by (try simp (discharger := (unfold inR; omega)) only [w32_id]) <;> omega) ?_
  refine go_scld' (i + 2) dlaw_668 rfl (by omega) ?_
  refine go_VX dlaw_669 vklaw73 ho (List.cons_ne_nil _ _) (bA_behind h hJ) rfl (by omega) (by omega) (by omega) rfl (fun _ => Nat.le_of_ble_eq_true rfl) ?_
  rintro _ _ ⟨rfl, F2, rfl, hC, hF⟩ -
  have hFk := FK.md hF
  dsimp only [rp]
  have hM := hM.at' hFk
  have ho := hM.1
  refine go_aload_n (i := 2) dlaw_672 rfl rfl trivial ?_
  refine go_aload_n (i := 0) dlaw_673 rfl rfl trivial ?_
  refine go_iload_n (i := 3) dlaw_674 rfl rfl ?_
  refine go_iconst dlaw_675 (inR_of _ rfl) ?_
  refine go_iadd dlaw_676 ?_
  refine go_top ((i + 1 : Nat) : Int) (by (try simp (discharger := (unfold inR; omega)) only [w32_id]) <;> omega) ?_
  refine go_scld' (i + 1) dlaw_677 rfl (by omega) ?_
  refine go_aload_n (i := 0) dlaw_678 rfl rfl trivial ?_
  refine go_iload_n (i := 3) dlaw_679 rfl rfl ?_
  refine go_iconst dlaw_680 (inR_of _ rfl) ?_
  refine go_iadd dlaw_681 ?_
  refine go_top ((i + 2 : Nat) : Int) (by (try simp (discharger := (unfold inR; omega)) only [w32_id]) <;> omega) ?_
  refine go_scld' (i + 2) dlaw_682 rfl (by omega) ?_
  refine go_VX dlaw_683 vklaw76 ho (List.cons_ne_nil _ _) (bM_behind hM hw hT hd) rfl (by omega) (by omega) (by omega) rfl (fun _ => Nat.le_of_ble_eq_true rfl) ?_
  rintro _ _ ⟨rfl, F3, m3, rfl, hM3, hF3, e3⟩ -
  dsimp only [rp]
  refine go_ic_eq 1502 dlaw_686 rfl (fun _ => ?_) (fun q => absurd rfl q)
  exact go_room (by omega) (by omega) (next _ _ _ (LWst.next hC (hJ) hM3 hF3 e3 ⟨hN1, hN2⟩))
theorem lc_holds {Q : GV → GM → Prop} (hS : LWst N F m) (hi : i + 6 ≤ xL g) (hL : xL g ≤ 3072) (hX : ∀ j, inR (xX g j)) (hd101 : 102 ≤ d) (next : ∀ (N2 : Nat) (F2 : Nat → GC) (m2 : Nat → Nat → Int), LWst N2 F2 m2 → Go g (ylw nm) d bc bs 1502 [gS 30, gR 0, gR 85, gI (i : Int)] [] (N2, F2) Q) : Go g (ylw nm) d (bc + 3) (bs + 196) 691 [gS 30, gR 0, gR 85, gI (i : Int)] [] (N, F) Q := by
  classical
  obtain ⟨h, hM, hJ, hN1, hN2⟩ := hS
  have hw := hJ.zg.1
  have hT := hJ.zg.2.1
  have hd := hJ.1.1.2.2
  have ho := h.1
  refine go_aload_n (i := 1) dlaw_691 rfl rfl trivial ?_
  refine go_aload_n (i := 0) dlaw_692 rfl rfl trivial ?_
  refine go_iload_n (i := 3) dlaw_693 rfl rfl ?_
  refine go_iconst dlaw_694 (inR_of _ rfl) ?_
  refine go_iadd dlaw_695 ?_
  refine go_top ((i + 1 : Nat) : Int) (by (try simp (discharger := (unfold inR; omega)) only [w32_id]) <;> omega) ?_
  refine go_scld' (i + 1) dlaw_696 rfl (by omega) ?_
  refine go_VX dlaw_697 vklaw77 ho (List.cons_ne_nil _ _) (bA_holds h hJ) rfl (by omega) (by omega) (by omega) rfl (fun _ => Nat.le_of_ble_eq_true rfl) ?_
  rintro _ _ ⟨rfl, F2, rfl, hC, hF⟩ -
  have hFk := FK.md hF
  dsimp only [rp]
  have hM := hM.at' hFk
  have ho := hM.1
  refine go_aload_n (i := 2) dlaw_700 rfl rfl trivial ?_
  refine go_aload_n (i := 0) dlaw_701 rfl rfl trivial ?_
  refine go_iload_n (i := 3) dlaw_702 rfl rfl ?_
  refine go_iconst dlaw_703 (inR_of _ rfl) ?_
  refine go_iadd dlaw_704 ?_
  refine go_top ((i + 1 : Nat) : Int) (by (try simp (discharger := (unfold inR; omega)) only [w32_id]) <;> omega) ?_
  refine go_scld' (i + 1) dlaw_705 rfl (by omega) ?_
  refine go_VX dlaw_706 vklaw80 ho (List.cons_ne_nil _ _) (bM_holds hM hw hT hd) rfl (by omega) (by omega) (by omega) rfl (fun _ => Nat.le_of_ble_eq_true rfl) ?_
  rintro _ _ ⟨rfl, F3, m3, rfl, hM3, hF3, e3⟩ -
  dsimp only [rp]
  refine go_ic_eq 1502 dlaw_709 rfl (fun _ => ?_) (fun q => absurd rfl q)
  exact go_room (by omega) (by omega) (next _ _ _ (LWst.next hC (hJ) hM3 hF3 e3 ⟨hN1, hN2⟩))
theorem lc_meets {Q : GV → GM → Prop} (hS : LWst N F m) (hi : i + 6 ≤ xL g) (hL : xL g ≤ 3072) (hX : ∀ j, inR (xX g j)) (hd101 : 102 ≤ d) (next : ∀ (N2 : Nat) (F2 : Nat → GC) (m2 : Nat → Nat → Int), LWst N2 F2 m2 → Go g (ylw nm) d bc bs 1502 [gS 30, gR 0, gR 85, gI (i : Int)] [] (N2, F2) Q) : Go g (ylw nm) d (bc + 3) (bs + 196) 714 [gS 30, gR 0, gR 85, gI (i : Int)] [] (N, F) Q := by
  classical
  obtain ⟨h, hM, hJ, hN1, hN2⟩ := hS
  have hw := hJ.zg.1
  have hT := hJ.zg.2.1
  have hd := hJ.1.1.2.2
  have ho := h.1
  refine go_aload_n (i := 1) dlaw_714 rfl rfl trivial ?_
  refine go_aload_n (i := 0) dlaw_715 rfl rfl trivial ?_
  refine go_iload_n (i := 3) dlaw_716 rfl rfl ?_
  refine go_iconst dlaw_717 (inR_of _ rfl) ?_
  refine go_iadd dlaw_718 ?_
  refine go_top ((i + 1 : Nat) : Int) (by (try simp (discharger := (unfold inR; omega)) only [w32_id]) <;> omega) ?_
  refine go_scld' (i + 1) dlaw_719 rfl (by omega) ?_
  refine go_aload_n (i := 0) dlaw_720 rfl rfl trivial ?_
  refine go_iload_n (i := 3) dlaw_721 rfl rfl ?_
  refine go_iconst dlaw_722 (inR_of _ rfl) ?_
  refine go_iadd dlaw_723 ?_
  refine go_top ((i + 2 : Nat) : Int) (by (try simp (discharger := (unfold inR; omega)) only [w32_id]) <;> omega) ?_
  refine go_scld' (i + 2) dlaw_724 rfl (by omega) ?_
  refine go_VX dlaw_725 vklaw81 ho (List.cons_ne_nil _ _) (bA_meets h hJ) rfl (by omega) (by omega) (by omega) rfl (fun _ => Nat.le_of_ble_eq_true rfl) ?_
  rintro _ _ ⟨rfl, F2, rfl, hC, hF⟩ -
  have hFk := FK.md hF
  dsimp only [rp]
  have hM := hM.at' hFk
  have ho := hM.1
  refine go_aload_n (i := 2) dlaw_728 rfl rfl trivial ?_
  refine go_aload_n (i := 0) dlaw_729 rfl rfl trivial ?_
  refine go_iload_n (i := 3) dlaw_730 rfl rfl ?_
  refine go_iconst dlaw_731 (inR_of _ rfl) ?_
  refine go_iadd dlaw_732 ?_
  refine go_top ((i + 1 : Nat) : Int) (by (try simp (discharger := (unfold inR; omega)) only [w32_id]) <;> omega) ?_
  refine go_scld' (i + 1) dlaw_733 rfl (by omega) ?_
  refine go_aload_n (i := 0) dlaw_734 rfl rfl trivial ?_
  refine go_iload_n (i := 3) dlaw_735 rfl rfl ?_
  refine go_iconst dlaw_736 (inR_of _ rfl) ?_
  refine go_iadd dlaw_737 ?_
  refine go_top ((i + 2 : Nat) : Int) (by (try simp (discharger := (unfold inR; omega)) only [w32_id]) <;> omega) ?_
  refine go_scld' (i + 2) dlaw_738 rfl (by omega) ?_
  refine go_VX dlaw_739 vklaw84 ho (List.cons_ne_nil _ _) (bM_meets hM hw hT hd) rfl (by omega) (by omega) (by omega) rfl (fun _ => Nat.le_of_ble_eq_true rfl) ?_
  rintro _ _ ⟨rfl, F3, m3, rfl, hM3, hF3, e3⟩ -
  dsimp only [rp]
  refine go_ic_eq 1502 dlaw_742 rfl (fun _ => ?_) (fun q => absurd rfl q)
  exact go_room (by omega) (by omega) (next _ _ _ (LWst.next hC (hJ) hM3 hF3 e3 ⟨hN1, hN2⟩))
theorem lc_place {Q : GV → GM → Prop} (hS : LWst N F m) (hi : i + 6 ≤ xL g) (hL : xL g ≤ 3072) (hX : ∀ j, inR (xX g j)) (hd101 : 102 ≤ d) (next : ∀ (N2 : Nat) (F2 : Nat → GC) (m2 : Nat → Nat → Int), LWst N2 F2 m2 → Go g (ylw nm) d bc bs 1502 [gS 30, gR 0, gR 85, gI (i : Int)] [] (N2, F2) Q) : Go g (ylw nm) d (bc + 3) (bs + 196) 747 [gS 30, gR 0, gR 85, gI (i : Int)] [] (N, F) Q := by
  classical
  obtain ⟨h, hM, hJ, hN1, hN2⟩ := hS
  have hw := hJ.zg.1
  have hT := hJ.zg.2.1
  have hd := hJ.1.1.2.2
  have ho := h.1
  refine go_aload_n (i := 1) dlaw_747 rfl rfl trivial ?_
  refine go_aload_n (i := 0) dlaw_748 rfl rfl trivial ?_
  refine go_iload_n (i := 3) dlaw_749 rfl rfl ?_
  refine go_iconst dlaw_750 (inR_of _ rfl) ?_
  refine go_iadd dlaw_751 ?_
  refine go_top ((i + 1 : Nat) : Int) (by (try simp (discharger := (unfold inR; omega)) only [w32_id]) <;> omega) ?_
  refine go_scld' (i + 1) dlaw_752 rfl (by omega) ?_
  refine go_aload_n (i := 0) dlaw_753 rfl rfl trivial ?_
  refine go_iload_n (i := 3) dlaw_754 rfl rfl ?_
  refine go_iconst dlaw_755 (inR_of _ rfl) ?_
  refine go_iadd dlaw_756 ?_
  refine go_top ((i + 2 : Nat) : Int) (by (try simp (discharger := (unfold inR; omega)) only [w32_id]) <;> omega) ?_
  refine go_scld' (i + 2) dlaw_757 rfl (by omega) ?_
  refine go_aload_n (i := 0) dlaw_758 rfl rfl trivial ?_
  refine go_iload_n (i := 3) dlaw_759 rfl rfl ?_
  refine go_iconst dlaw_760 (inR_of _ rfl) ?_
  refine go_iadd dlaw_761 ?_
  refine go_top ((i + 3 : Nat) : Int) (by (try simp (discharger := (unfold inR; omega)) only [w32_id]) <;> omega) ?_
  refine go_scld' (i + 3) dlaw_762 rfl (by omega) ?_
  refine go_VX dlaw_763 vklaw85 ho (List.cons_ne_nil _ _) (bA_place h hJ) rfl (by omega) (by omega) (by omega) rfl (fun _ => Nat.le_of_ble_eq_true rfl) ?_
  rintro _ _ ⟨rfl, F2, rfl, hC, hF⟩ -
  have hFk := FK.md hF
  dsimp only [rp]
  have hM := hM.at' hFk
  have ho := hM.1
  refine go_aload_n (i := 2) dlaw_766 rfl rfl trivial ?_
  refine go_aload_n (i := 0) dlaw_767 rfl rfl trivial ?_
  refine go_iload_n (i := 3) dlaw_768 rfl rfl ?_
  refine go_iconst dlaw_769 (inR_of _ rfl) ?_
  refine go_iadd dlaw_770 ?_
  refine go_top ((i + 1 : Nat) : Int) (by (try simp (discharger := (unfold inR; omega)) only [w32_id]) <;> omega) ?_
  refine go_scld' (i + 1) dlaw_771 rfl (by omega) ?_
  refine go_aload_n (i := 0) dlaw_772 rfl rfl trivial ?_
  refine go_iload_n (i := 3) dlaw_773 rfl rfl ?_
  refine go_iconst dlaw_774 (inR_of _ rfl) ?_
  refine go_iadd dlaw_775 ?_
  refine go_top ((i + 2 : Nat) : Int) (by (try simp (discharger := (unfold inR; omega)) only [w32_id]) <;> omega) ?_
  refine go_scld' (i + 2) dlaw_776 rfl (by omega) ?_
  refine go_aload_n (i := 0) dlaw_777 rfl rfl trivial ?_
  refine go_iload_n (i := 3) dlaw_778 rfl rfl ?_
  refine go_iconst dlaw_779 (inR_of _ rfl) ?_
  refine go_iadd dlaw_780 ?_
  refine go_top ((i + 3 : Nat) : Int) (by (try simp (discharger := (unfold inR; omega)) only [w32_id]) <;> omega) ?_
  refine go_scld' (i + 3) dlaw_781 rfl (by omega) ?_
  refine go_VX dlaw_782 vklaw88 ho (List.cons_ne_nil _ _) (bM_place hM hw hT hd) rfl (by omega) (by omega) (by omega) rfl (fun _ => Nat.le_of_ble_eq_true rfl) ?_
  rintro _ _ ⟨rfl, F3, m3, rfl, hM3, hF3, e3⟩ -
  dsimp only [rp]
  refine go_ic_eq 1502 dlaw_785 rfl (fun _ => ?_) (fun q => absurd rfl q)
  exact go_room (by omega) (by omega) (next _ _ _ (LWst.next hC (hJ) hM3 hF3 e3 ⟨hN1, hN2⟩))
theorem lc_becomes {Q : GV → GM → Prop} (hS : LWst N F m) (hi : i + 6 ≤ xL g) (hL : xL g ≤ 3072) (hX : ∀ j, inR (xX g j)) (hd101 : 102 ≤ d) (next : ∀ (N2 : Nat) (F2 : Nat → GC) (m2 : Nat → Nat → Int), LWst N2 F2 m2 → Go g (ylw nm) d bc bs 1502 [gS 30, gR 0, gR 85, gI (i : Int)] [] (N2, F2) Q) : Go g (ylw nm) d (bc + 3) (bs + 196) 790 [gS 30, gR 0, gR 85, gI (i : Int)] [] (N, F) Q := by
  classical
  obtain ⟨h, hM, hJ, hN1, hN2⟩ := hS
  have hw := hJ.zg.1
  have hT := hJ.zg.2.1
  have hd := hJ.1.1.2.2
  have ho := h.1
  refine go_aload_n (i := 1) dlaw_790 rfl rfl trivial ?_
  refine go_aload_n (i := 0) dlaw_791 rfl rfl trivial ?_
  refine go_iload_n (i := 3) dlaw_792 rfl rfl ?_
  refine go_iconst dlaw_793 (inR_of _ rfl) ?_
  refine go_iadd dlaw_794 ?_
  refine go_top ((i + 1 : Nat) : Int) (by (try simp (discharger := (unfold inR; omega)) only [w32_id]) <;> omega) ?_
  refine go_scld' (i + 1) dlaw_795 rfl (by omega) ?_
  refine go_aload_n (i := 0) dlaw_796 rfl rfl trivial ?_
  refine go_iload_n (i := 3) dlaw_797 rfl rfl ?_
  refine go_iconst dlaw_798 (inR_of _ rfl) ?_
  refine go_iadd dlaw_799 ?_
  refine go_top ((i + 2 : Nat) : Int) (by (try simp (discharger := (unfold inR; omega)) only [w32_id]) <;> omega) ?_
  refine go_scld' (i + 2) dlaw_800 rfl (by omega) ?_
  refine go_aload_n (i := 0) dlaw_801 rfl rfl trivial ?_
  refine go_iload_n (i := 3) dlaw_802 rfl rfl ?_
  refine go_iconst dlaw_803 (inR_of _ rfl) ?_
  refine go_iadd dlaw_804 ?_
  refine go_top ((i + 3 : Nat) : Int) (by (try simp (discharger := (unfold inR; omega)) only [w32_id]) <;> omega) ?_
  refine go_scld' (i + 3) dlaw_805 rfl (by omega) ?_
  refine go_VX dlaw_806 vklaw89 ho (List.cons_ne_nil _ _) (bA_becomes h hJ) rfl (by omega) (by omega) (by omega) rfl (fun _ => Nat.le_of_ble_eq_true rfl) ?_
  rintro _ _ ⟨rfl, F2, rfl, hC, hF⟩ -
  have hFk := FK.md hF
  dsimp only [rp]
  have hM := hM.at' hFk
  have ho := hM.1
  refine go_aload_n (i := 2) dlaw_809 rfl rfl trivial ?_
  refine go_aload_n (i := 0) dlaw_810 rfl rfl trivial ?_
  refine go_iload_n (i := 3) dlaw_811 rfl rfl ?_
  refine go_iconst dlaw_812 (inR_of _ rfl) ?_
  refine go_iadd dlaw_813 ?_
  refine go_top ((i + 1 : Nat) : Int) (by (try simp (discharger := (unfold inR; omega)) only [w32_id]) <;> omega) ?_
  refine go_scld' (i + 1) dlaw_814 rfl (by omega) ?_
  refine go_aload_n (i := 0) dlaw_815 rfl rfl trivial ?_
  refine go_iload_n (i := 3) dlaw_816 rfl rfl ?_
  refine go_iconst dlaw_817 (inR_of _ rfl) ?_
  refine go_iadd dlaw_818 ?_
  refine go_top ((i + 2 : Nat) : Int) (by (try simp (discharger := (unfold inR; omega)) only [w32_id]) <;> omega) ?_
  refine go_scld' (i + 2) dlaw_819 rfl (by omega) ?_
  refine go_aload_n (i := 0) dlaw_820 rfl rfl trivial ?_
  refine go_iload_n (i := 3) dlaw_821 rfl rfl ?_
  refine go_iconst dlaw_822 (inR_of _ rfl) ?_
  refine go_iadd dlaw_823 ?_
  refine go_top ((i + 3 : Nat) : Int) (by (try simp (discharger := (unfold inR; omega)) only [w32_id]) <;> omega) ?_
  refine go_scld' (i + 3) dlaw_824 rfl (by omega) ?_
  refine go_VX dlaw_825 vklaw92 ho (List.cons_ne_nil _ _) (bM_becomes hM hw hT hd) rfl (by omega) (by omega) (by omega) rfl (fun _ => Nat.le_of_ble_eq_true rfl) ?_
  rintro _ _ ⟨rfl, F3, m3, rfl, hM3, hF3, e3⟩ -
  dsimp only [rp]
  refine go_ic_eq 1502 dlaw_828 rfl (fun _ => ?_) (fun q => absurd rfl q)
  exact go_room (by omega) (by omega) (next _ _ _ (LWst.next hC (hJ) hM3 hF3 e3 ⟨hN1, hN2⟩))
theorem lc_eyes {Q : GV → GM → Prop} (hS : LWst N F m) (hi : i + 6 ≤ xL g) (hL : xL g ≤ 3072) (hX : ∀ j, inR (xX g j)) (hd101 : 102 ≤ d) (next : ∀ (N2 : Nat) (F2 : Nat → GC) (m2 : Nat → Nat → Int), LWst N2 F2 m2 → Go g (ylw nm) d bc bs 1502 [gS 30, gR 0, gR 85, gI (i : Int)] [] (N2, F2) Q) : Go g (ylw nm) d (bc + 3) (bs + 196) 833 [gS 30, gR 0, gR 85, gI (i : Int)] [] (N, F) Q := by
  classical
  obtain ⟨h, hM, hJ, hN1, hN2⟩ := hS
  have hw := hJ.zg.1
  have hT := hJ.zg.2.1
  have hd := hJ.1.1.2.2
  have ho := h.1
  refine go_aload_n (i := 1) dlaw_833 rfl rfl trivial ?_
  refine go_aload_n (i := 0) dlaw_834 rfl rfl trivial ?_
  refine go_iload_n (i := 3) dlaw_835 rfl rfl ?_
  refine go_iconst dlaw_836 (inR_of _ rfl) ?_
  refine go_iadd dlaw_837 ?_
  refine go_top ((i + 1 : Nat) : Int) (by (try simp (discharger := (unfold inR; omega)) only [w32_id]) <;> omega) ?_
  refine go_scld' (i + 1) dlaw_838 rfl (by omega) ?_
  refine go_aload_n (i := 0) dlaw_839 rfl rfl trivial ?_
  refine go_iload_n (i := 3) dlaw_840 rfl rfl ?_
  refine go_iconst dlaw_841 (inR_of _ rfl) ?_
  refine go_iadd dlaw_842 ?_
  refine go_top ((i + 2 : Nat) : Int) (by (try simp (discharger := (unfold inR; omega)) only [w32_id]) <;> omega) ?_
  refine go_scld' (i + 2) dlaw_843 rfl (by omega) ?_
  refine go_VX dlaw_844 vklaw93 ho (List.cons_ne_nil _ _) (bA_eyes h hJ) rfl (by omega) (by omega) (by omega) rfl (fun _ => Nat.le_of_ble_eq_true rfl) ?_
  rintro _ _ ⟨rfl, F2, rfl, hC, hF⟩ -
  have hFk := FK.md hF
  dsimp only [rp]
  have hM := hM.at' hFk
  have ho := hM.1
  refine go_aload_n (i := 2) dlaw_847 rfl rfl trivial ?_
  refine go_aload_n (i := 0) dlaw_848 rfl rfl trivial ?_
  refine go_iload_n (i := 3) dlaw_849 rfl rfl ?_
  refine go_iconst dlaw_850 (inR_of _ rfl) ?_
  refine go_iadd dlaw_851 ?_
  refine go_top ((i + 1 : Nat) : Int) (by (try simp (discharger := (unfold inR; omega)) only [w32_id]) <;> omega) ?_
  refine go_scld' (i + 1) dlaw_852 rfl (by omega) ?_
  refine go_aload_n (i := 0) dlaw_853 rfl rfl trivial ?_
  refine go_iload_n (i := 3) dlaw_854 rfl rfl ?_
  refine go_iconst dlaw_855 (inR_of _ rfl) ?_
  refine go_iadd dlaw_856 ?_
  refine go_top ((i + 2 : Nat) : Int) (by (try simp (discharger := (unfold inR; omega)) only [w32_id]) <;> omega) ?_
  refine go_scld' (i + 2) dlaw_857 rfl (by omega) ?_
  refine go_VX dlaw_858 vklaw96 ho (List.cons_ne_nil _ _) (bM_eyes hM hw hT hd) rfl (by omega) (by omega) (by omega) rfl (fun _ => Nat.le_of_ble_eq_true rfl) ?_
  rintro _ _ ⟨rfl, F3, m3, rfl, hM3, hF3, e3⟩ -
  dsimp only [rp]
  refine go_ic_eq 1502 dlaw_861 rfl (fun _ => ?_) (fun q => absurd rfl q)
  exact go_room (by omega) (by omega) (next _ _ _ (LWst.next hC (hJ) hM3 hF3 e3 ⟨hN1, hN2⟩))
theorem lc_like {Q : GV → GM → Prop} (hS : LWst N F m) (hi : i + 6 ≤ xL g) (hL : xL g ≤ 3072) (hX : ∀ j, inR (xX g j)) (hd101 : 102 ≤ d) (next : ∀ (N2 : Nat) (F2 : Nat → GC) (m2 : Nat → Nat → Int), LWst N2 F2 m2 → Go g (ylw nm) d bc bs 1502 [gS 30, gR 0, gR 85, gI (i : Int)] [] (N2, F2) Q) : Go g (ylw nm) d (bc + 3) (bs + 196) 866 [gS 30, gR 0, gR 85, gI (i : Int)] [] (N, F) Q := by
  classical
  obtain ⟨h, hM, hJ, hN1, hN2⟩ := hS
  have hw := hJ.zg.1
  have hT := hJ.zg.2.1
  have hd := hJ.1.1.2.2
  have ho := h.1
  refine go_aload_n (i := 1) dlaw_866 rfl rfl trivial ?_
  refine go_aload_n (i := 0) dlaw_867 rfl rfl trivial ?_
  refine go_iload_n (i := 3) dlaw_868 rfl rfl ?_
  refine go_iconst dlaw_869 (inR_of _ rfl) ?_
  refine go_iadd dlaw_870 ?_
  refine go_top ((i + 1 : Nat) : Int) (by (try simp (discharger := (unfold inR; omega)) only [w32_id]) <;> omega) ?_
  refine go_scld' (i + 1) dlaw_871 rfl (by omega) ?_
  refine go_aload_n (i := 0) dlaw_872 rfl rfl trivial ?_
  refine go_iload_n (i := 3) dlaw_873 rfl rfl ?_
  refine go_iconst dlaw_874 (inR_of _ rfl) ?_
  refine go_iadd dlaw_875 ?_
  refine go_top ((i + 2 : Nat) : Int) (by (try simp (discharger := (unfold inR; omega)) only [w32_id]) <;> omega) ?_
  refine go_scld' (i + 2) dlaw_876 rfl (by omega) ?_
  refine go_VX dlaw_877 vklaw97 ho (List.cons_ne_nil _ _) (bA_like h hJ) rfl (by omega) (by omega) (by omega) rfl (fun _ => Nat.le_of_ble_eq_true rfl) ?_
  rintro _ _ ⟨rfl, F2, rfl, hC, hF⟩ -
  have hFk := FK.md hF
  dsimp only [rp]
  have hM := hM.at' hFk
  have ho := hM.1
  refine go_aload_n (i := 2) dlaw_880 rfl rfl trivial ?_
  refine go_aload_n (i := 0) dlaw_881 rfl rfl trivial ?_
  refine go_iload_n (i := 3) dlaw_882 rfl rfl ?_
  refine go_iconst dlaw_883 (inR_of _ rfl) ?_
  refine go_iadd dlaw_884 ?_
  refine go_top ((i + 1 : Nat) : Int) (by (try simp (discharger := (unfold inR; omega)) only [w32_id]) <;> omega) ?_
  refine go_scld' (i + 1) dlaw_885 rfl (by omega) ?_
  refine go_aload_n (i := 0) dlaw_886 rfl rfl trivial ?_
  refine go_iload_n (i := 3) dlaw_887 rfl rfl ?_
  refine go_iconst dlaw_888 (inR_of _ rfl) ?_
  refine go_iadd dlaw_889 ?_
  refine go_top ((i + 2 : Nat) : Int) (by (try simp (discharger := (unfold inR; omega)) only [w32_id]) <;> omega) ?_
  refine go_scld' (i + 2) dlaw_890 rfl (by omega) ?_
  refine go_VX dlaw_891 vklaw100 ho (List.cons_ne_nil _ _) (bM_like hM hw hT hd (fun k hk => (hJ.1.2.2.1 k hk).2)) rfl (by omega) (by omega) (by omega) rfl (fun _ => Nat.le_of_ble_eq_true rfl) ?_
  rintro _ _ ⟨rfl, F3, m3, rfl, hM3, hF3, e3⟩ -
  dsimp only [rp]
  refine go_ic_eq 1502 dlaw_894 rfl (fun _ => ?_) (fun q => absurd rfl q)
  exact go_room (by omega) (by omega) (next _ _ _ (LWst.next hC (hJ) hM3 hF3 e3 ⟨hN1, hN2⟩))
theorem lc_fee {Q : GV → GM → Prop} (hS : LWst N F m) (hi : i + 6 ≤ xL g) (hL : xL g ≤ 3072) (hX : ∀ j, inR (xX g j)) (hd101 : 102 ≤ d) (next : ∀ (N2 : Nat) (F2 : Nat → GC) (m2 : Nat → Nat → Int), LWst N2 F2 m2 → Go g (ylw nm) d bc bs 1502 [gS 30, gR 0, gR 85, gI (i : Int)] [] (N2, F2) Q) : Go g (ylw nm) d (bc + 3) (bs + 196) 899 [gS 30, gR 0, gR 85, gI (i : Int)] [] (N, F) Q := by
  classical
  obtain ⟨h, hM, hJ, hN1, hN2⟩ := hS
  have hw := hJ.zg.1
  have hT := hJ.zg.2.1
  have hd := hJ.1.1.2.2
  have ho := h.1
  refine go_aload_n (i := 1) dlaw_899 rfl rfl trivial ?_
  refine go_VX dlaw_900 vklaw101 ho (List.cons_ne_nil _ _) (bA_fee h hJ) rfl (by omega) (by omega) (by omega) rfl (fun _ => Nat.le_of_ble_eq_true rfl) ?_
  rintro _ _ ⟨rfl, F2, rfl, hC, hF⟩ -
  have hFk := FK.md hF
  dsimp only [rp]
  have hM := hM.at' hFk
  have ho := hM.1
  refine go_aload_n (i := 2) dlaw_903 rfl rfl trivial ?_
  refine go_VX dlaw_904 vklaw105 ho (List.cons_ne_nil _ _) (bM_fee hM hT) rfl (by omega) (by omega) (by omega) rfl (fun _ => Nat.le_of_ble_eq_true rfl) ?_
  rintro _ _ ⟨rfl, F3, m3, rfl, hM3, hF3, e3⟩ -
  dsimp only [rp]
  refine go_ic_eq 1502 dlaw_907 rfl (fun _ => ?_) (fun q => absurd rfl q)
  exact go_room (by omega) (by omega) (next _ _ _ (LWst.next hC (hJ) hM3 hF3 e3 ⟨hN1, hN2⟩))
theorem lc_fine {Q : GV → GM → Prop} (hS : LWst N F m) (hi : i + 6 ≤ xL g) (hL : xL g ≤ 3072) (hX : ∀ j, inR (xX g j)) (hd101 : 102 ≤ d) (next : ∀ (N2 : Nat) (F2 : Nat → GC) (m2 : Nat → Nat → Int), LWst N2 F2 m2 → Go g (ylw nm) d bc bs 1502 [gS 30, gR 0, gR 85, gI (i : Int)] [] (N2, F2) Q) : Go g (ylw nm) d (bc + 3) (bs + 196) 912 [gS 30, gR 0, gR 85, gI (i : Int)] [] (N, F) Q := by
  classical
  obtain ⟨h, hM, hJ, hN1, hN2⟩ := hS
  have hw := hJ.zg.1
  have hT := hJ.zg.2.1
  have hd := hJ.1.1.2.2
  have ho := h.1
  refine go_aload_n (i := 1) dlaw_912 rfl rfl trivial ?_
  refine go_aload_n (i := 0) dlaw_913 rfl rfl trivial ?_
  refine go_iload_n (i := 3) dlaw_914 rfl rfl ?_
  refine go_iconst dlaw_915 (inR_of _ rfl) ?_
  refine go_iadd dlaw_916 ?_
  refine go_top ((i + 1 : Nat) : Int) (by (try simp (discharger := (unfold inR; omega)) only [w32_id]) <;> omega) ?_
  refine go_scld' (i + 1) dlaw_917 rfl (by omega) ?_
  refine go_VX dlaw_918 vklaw106 ho (List.cons_ne_nil _ _) (bA_fine h hJ) rfl (by omega) (by omega) (by omega) rfl (fun _ => Nat.le_of_ble_eq_true rfl) ?_
  rintro _ _ ⟨rfl, F2, rfl, hC, hF⟩ -
  have hFk := FK.md hF
  dsimp only [rp]
  have hM := hM.at' hFk
  have ho := hM.1
  refine go_aload_n (i := 2) dlaw_921 rfl rfl trivial ?_
  refine go_aload_n (i := 0) dlaw_922 rfl rfl trivial ?_
  refine go_iload_n (i := 3) dlaw_923 rfl rfl ?_
  refine go_iconst dlaw_924 (inR_of _ rfl) ?_
  refine go_iadd dlaw_925 ?_
  refine go_top ((i + 1 : Nat) : Int) (by (try simp (discharger := (unfold inR; omega)) only [w32_id]) <;> omega) ?_
  refine go_scld' (i + 1) dlaw_926 rfl (by omega) ?_
  refine go_VX dlaw_927 vklaw109 ho (List.cons_ne_nil _ _) (bM_fine hM hw hT) rfl (by omega) (by omega) (by omega) rfl (fun _ => Nat.le_of_ble_eq_true rfl) ?_
  rintro _ _ ⟨rfl, F3, m3, rfl, hM3, hF3, e3⟩ -
  dsimp only [rp]
  refine go_ic_eq 1502 dlaw_930 rfl (fun _ => ?_) (fun q => absurd rfl q)
  exact go_room (by omega) (by omega) (next _ _ _ (LWst.next hC (hJ) hM3 hF3 e3 ⟨hN1, hN2⟩))
theorem lc_feed {Q : GV → GM → Prop} (hS : LWst N F m) (hi : i + 6 ≤ xL g) (hL : xL g ≤ 3072) (hX : ∀ j, inR (xX g j)) (hd101 : 102 ≤ d) (next : ∀ (N2 : Nat) (F2 : Nat → GC) (m2 : Nat → Nat → Int), LWst N2 F2 m2 → Go g (ylw nm) d bc bs 1502 [gS 30, gR 0, gR 85, gI (i : Int)] [] (N2, F2) Q) : Go g (ylw nm) d (bc + 3) (bs + 196) 935 [gS 30, gR 0, gR 85, gI (i : Int)] [] (N, F) Q := by
  classical
  obtain ⟨h, hM, hJ, hN1, hN2⟩ := hS
  have hw := hJ.zg.1
  have hT := hJ.zg.2.1
  have hd := hJ.1.1.2.2
  have ho := h.1
  refine go_aload_n (i := 1) dlaw_935 rfl rfl trivial ?_
  refine go_aload_n (i := 0) dlaw_936 rfl rfl trivial ?_
  refine go_iload_n (i := 3) dlaw_937 rfl rfl ?_
  refine go_iconst dlaw_938 (inR_of _ rfl) ?_
  refine go_iadd dlaw_939 ?_
  refine go_top ((i + 1 : Nat) : Int) (by (try simp (discharger := (unfold inR; omega)) only [w32_id]) <;> omega) ?_
  refine go_scld' (i + 1) dlaw_940 rfl (by omega) ?_
  refine go_aload_n (i := 0) dlaw_941 rfl rfl trivial ?_
  refine go_iload_n (i := 3) dlaw_942 rfl rfl ?_
  refine go_iconst dlaw_943 (inR_of _ rfl) ?_
  refine go_iadd dlaw_944 ?_
  refine go_top ((i + 2 : Nat) : Int) (by (try simp (discharger := (unfold inR; omega)) only [w32_id]) <;> omega) ?_
  refine go_scld' (i + 2) dlaw_945 rfl (by omega) ?_
  refine go_aload_n (i := 0) dlaw_946 rfl rfl trivial ?_
  refine go_iload_n (i := 3) dlaw_947 rfl rfl ?_
  refine go_iconst dlaw_948 (inR_of _ rfl) ?_
  refine go_iadd dlaw_949 ?_
  refine go_top ((i + 3 : Nat) : Int) (by (try simp (discharger := (unfold inR; omega)) only [w32_id]) <;> omega) ?_
  refine go_scld' (i + 3) dlaw_950 rfl (by omega) ?_
  refine go_VX dlaw_951 vklaw110 ho (List.cons_ne_nil _ _) (bA_feed h hJ) rfl (by omega) (by omega) (by omega) rfl (fun _ => Nat.le_of_ble_eq_true rfl) ?_
  rintro _ _ ⟨rfl, F2, rfl, hC, hF⟩ -
  have hFk := FK.md hF
  dsimp only [rp]
  have hM := hM.at' hFk
  have ho := hM.1
  refine go_aload_n (i := 2) dlaw_954 rfl rfl trivial ?_
  refine go_aload_n (i := 0) dlaw_955 rfl rfl trivial ?_
  refine go_iload_n (i := 3) dlaw_956 rfl rfl ?_
  refine go_iconst dlaw_957 (inR_of _ rfl) ?_
  refine go_iadd dlaw_958 ?_
  refine go_top ((i + 1 : Nat) : Int) (by (try simp (discharger := (unfold inR; omega)) only [w32_id]) <;> omega) ?_
  refine go_scld' (i + 1) dlaw_959 rfl (by omega) ?_
  refine go_aload_n (i := 0) dlaw_960 rfl rfl trivial ?_
  refine go_iload_n (i := 3) dlaw_961 rfl rfl ?_
  refine go_iconst dlaw_962 (inR_of _ rfl) ?_
  refine go_iadd dlaw_963 ?_
  refine go_top ((i + 2 : Nat) : Int) (by (try simp (discharger := (unfold inR; omega)) only [w32_id]) <;> omega) ?_
  refine go_scld' (i + 2) dlaw_964 rfl (by omega) ?_
  refine go_aload_n (i := 0) dlaw_965 rfl rfl trivial ?_
  refine go_iload_n (i := 3) dlaw_966 rfl rfl ?_
  refine go_iconst dlaw_967 (inR_of _ rfl) ?_
  refine go_iadd dlaw_968 ?_
  refine go_top ((i + 3 : Nat) : Int) (by (try simp (discharger := (unfold inR; omega)) only [w32_id]) <;> omega) ?_
  refine go_scld' (i + 3) dlaw_969 rfl (by omega) ?_
  refine go_VX dlaw_970 vklaw113 ho (List.cons_ne_nil _ _) (bM_feed hM ⟨hJ.1.2.2.2.1.1, hJ.1.2.2.2.1.2.1⟩) rfl (by omega) (by omega) (by omega) rfl (fun _ => Nat.le_of_ble_eq_true rfl) ?_
  rintro _ _ ⟨rfl, F3, m3, rfl, hM3, hF3, e3⟩ -
  dsimp only [rp]
  refine go_ic_eq 1502 dlaw_973 rfl (fun _ => ?_) (fun q => absurd rfl q)
  exact go_room (by omega) (by omega) (next _ _ _ (LWst.next hC (hJ.feed _ _ _) hM3 hF3 e3 ⟨hN1, hN2⟩))
theorem lc_trim {Q : GV → GM → Prop} (hS : LWst N F m) (hi : i + 6 ≤ xL g) (hL : xL g ≤ 3072) (hX : ∀ j, inR (xX g j)) (hd101 : 102 ≤ d) (next : ∀ (N2 : Nat) (F2 : Nat → GC) (m2 : Nat → Nat → Int), LWst N2 F2 m2 → Go g (ylw nm) d bc bs 1502 [gS 30, gR 0, gR 85, gI (i : Int)] [] (N2, F2) Q) : Go g (ylw nm) d (bc + 3) (bs + 196) 978 [gS 30, gR 0, gR 85, gI (i : Int)] [] (N, F) Q := by
  classical
  obtain ⟨h, hM, hJ, hN1, hN2⟩ := hS
  have hw := hJ.zg.1
  have hT := hJ.zg.2.1
  have hd := hJ.1.1.2.2
  have ho := h.1
  refine go_aload_n (i := 1) dlaw_978 rfl rfl trivial ?_
  refine go_aload_n (i := 0) dlaw_979 rfl rfl trivial ?_
  refine go_iload_n (i := 3) dlaw_980 rfl rfl ?_
  refine go_iconst dlaw_981 (inR_of _ rfl) ?_
  refine go_iadd dlaw_982 ?_
  refine go_top ((i + 1 : Nat) : Int) (by (try simp (discharger := (unfold inR; omega)) only [w32_id]) <;> omega) ?_
  refine go_scld' (i + 1) dlaw_983 rfl (by omega) ?_
  refine go_VX dlaw_984 vklaw114 ho (List.cons_ne_nil _ _) (bA_trim h hJ) rfl (by omega) (by omega) (by omega) rfl (fun _ => Nat.le_of_ble_eq_true rfl) ?_
  rintro _ _ ⟨rfl, F2, rfl, hC, hF⟩ -
  have hFk := FK.md hF
  dsimp only [rp]
  have hM := hM.at' hFk
  have ho := hM.1
  refine go_aload_n (i := 2) dlaw_987 rfl rfl trivial ?_
  refine go_aload_n (i := 0) dlaw_988 rfl rfl trivial ?_
  refine go_iload_n (i := 3) dlaw_989 rfl rfl ?_
  refine go_iconst dlaw_990 (inR_of _ rfl) ?_
  refine go_iadd dlaw_991 ?_
  refine go_top ((i + 1 : Nat) : Int) (by (try simp (discharger := (unfold inR; omega)) only [w32_id]) <;> omega) ?_
  refine go_scld' (i + 1) dlaw_992 rfl (by omega) ?_
  refine go_VX dlaw_993 vklaw117 ho (List.cons_ne_nil _ _) (bM_trim hM) rfl (by omega) (by omega) (by omega) rfl (fun _ => Nat.le_of_ble_eq_true rfl) ?_
  rintro _ _ ⟨rfl, F3, m3, rfl, hM3, hF3, e3⟩ -
  dsimp only [rp]
  refine go_ic_eq 1502 dlaw_996 rfl (fun _ => ?_) (fun q => absurd rfl q)
  exact go_room (by omega) (by omega) (next _ _ _ (LWst.next hC (hJ.trim _) hM3 hF3 e3 ⟨hN1, hN2⟩))
theorem lc_text {Q : GV → GM → Prop} (hS : LWst N F m) (hi : i + 6 ≤ xL g) (hL : xL g ≤ 3072) (hX : ∀ j, inR (xX g j)) (hd101 : 102 ≤ d) (next : ∀ (N2 : Nat) (F2 : Nat → GC) (m2 : Nat → Nat → Int), LWst N2 F2 m2 → Go g (ylw nm) d bc bs 1502 [gS 30, gR 0, gR 85, gI (i : Int)] [] (N2, F2) Q) : Go g (ylw nm) d (bc + 3) (bs + 196) 1001 [gS 30, gR 0, gR 85, gI (i : Int)] [] (N, F) Q := by
  classical
  obtain ⟨h, hM, hJ, hN1, hN2⟩ := hS
  have hw := hJ.zg.1
  have hT := hJ.zg.2.1
  have hd := hJ.1.1.2.2
  have ho := h.1
  refine go_free ?_
  intro hfree
  refine go_aload_n (i := 1) dlaw_1001 rfl rfl trivial ?_
  refine go_VX dlaw_1002 vklaw118 ho (List.cons_ne_nil _ _) (bA_text h hJ ⟨hN1, hN2⟩ hfree) rfl (by omega) (by omega) (by omega) rfl (fun _ => Nat.le_of_ble_eq_true rfl) ?_
  rintro _ _ ⟨rfl, N2, F2, rfl, hN3, hC, hFk⟩ -
  dsimp only [rp]
  have hM := hM.at' hFk
  have ho := hM.1
  refine go_aload_n (i := 2) dlaw_1005 rfl rfl trivial ?_
  refine go_VX dlaw_1006 vklaw121 ho (List.cons_ne_nil _ _) (bM_text hM hJ.1.2.2.2.1 hT) rfl (by omega) (by omega) (by omega) rfl (fun _ => Nat.le_of_ble_eq_true rfl) ?_
  rintro _ _ ⟨rfl, F3, m3, rfl, hM3, hF3, e3⟩ -
  dsimp only [rp]
  refine go_ic_eq 1502 dlaw_1009 rfl (fun _ => ?_) (fun q => absurd rfl q)
  exact go_room (by omega) (by omega) (next _ _ _ (LWst.next hC (hJ.text) hM3 hF3 e3 (by omega)))
theorem lc_textTold {Q : GV → GM → Prop} (hS : LWst N F m) (hi : i + 6 ≤ xL g) (hL : xL g ≤ 3072) (hX : ∀ j, inR (xX g j)) (hd101 : 102 ≤ d) (next : ∀ (N2 : Nat) (F2 : Nat → GC) (m2 : Nat → Nat → Int), LWst N2 F2 m2 → Go g (ylw nm) d bc bs 1502 [gS 30, gR 0, gR 85, gI (i : Int)] [] (N2, F2) Q) : Go g (ylw nm) d (bc + 3) (bs + 196) 1014 [gS 30, gR 0, gR 85, gI (i : Int)] [] (N, F) Q := by
  classical
  obtain ⟨h, hM, hJ, hN1, hN2⟩ := hS
  have hw := hJ.zg.1
  have hT := hJ.zg.2.1
  have hd := hJ.1.1.2.2
  have ho := h.1
  refine go_aload_n (i := 1) dlaw_1014 rfl rfl trivial ?_
  refine go_aload_n (i := 0) dlaw_1015 rfl rfl trivial ?_
  refine go_iload_n (i := 3) dlaw_1016 rfl rfl ?_
  refine go_iconst dlaw_1017 (inR_of _ rfl) ?_
  refine go_iadd dlaw_1018 ?_
  refine go_top ((i + 1 : Nat) : Int) (by (try simp (discharger := (unfold inR; omega)) only [w32_id]) <;> omega) ?_
  refine go_scld' (i + 1) dlaw_1019 rfl (by omega) ?_
  refine go_aload_n (i := 0) dlaw_1020 rfl rfl trivial ?_
  refine go_iload_n (i := 3) dlaw_1021 rfl rfl ?_
  refine go_iconst dlaw_1022 (inR_of _ rfl) ?_
  refine go_iadd dlaw_1023 ?_
  refine go_top ((i + 2 : Nat) : Int) (by (try simp (discharger := (unfold inR; omega)) only [w32_id]) <;> omega) ?_
  refine go_scld' (i + 2) dlaw_1024 rfl (by omega) ?_
  refine go_VX dlaw_1025 vklaw122 ho (List.cons_ne_nil _ _) (bA_textTold h hJ) rfl (by omega) (by omega) (by omega) rfl (fun _ => Nat.le_of_ble_eq_true rfl) ?_
  rintro _ _ ⟨rfl, F2, rfl, hC, hF⟩ -
  have hFk := FK.md hF
  dsimp only [rp]
  have hM := hM.at' hFk
  have ho := hM.1
  refine go_aload_n (i := 2) dlaw_1028 rfl rfl trivial ?_
  refine go_aload_n (i := 0) dlaw_1029 rfl rfl trivial ?_
  refine go_iload_n (i := 3) dlaw_1030 rfl rfl ?_
  refine go_iconst dlaw_1031 (inR_of _ rfl) ?_
  refine go_iadd dlaw_1032 ?_
  refine go_top ((i + 1 : Nat) : Int) (by (try simp (discharger := (unfold inR; omega)) only [w32_id]) <;> omega) ?_
  refine go_scld' (i + 1) dlaw_1033 rfl (by omega) ?_
  refine go_aload_n (i := 0) dlaw_1034 rfl rfl trivial ?_
  refine go_iload_n (i := 3) dlaw_1035 rfl rfl ?_
  refine go_iconst dlaw_1036 (inR_of _ rfl) ?_
  refine go_iadd dlaw_1037 ?_
  refine go_top ((i + 2 : Nat) : Int) (by (try simp (discharger := (unfold inR; omega)) only [w32_id]) <;> omega) ?_
  refine go_scld' (i + 2) dlaw_1038 rfl (by omega) ?_
  refine go_VX dlaw_1039 vklaw125 ho (List.cons_ne_nil _ _) (bM_textTold hM hT) rfl (by omega) (by omega) (by omega) rfl (fun _ => Nat.le_of_ble_eq_true rfl) ?_
  rintro _ _ ⟨rfl, F3, m3, rfl, hM3, hF3, e3⟩ -
  dsimp only [rp]
  refine go_ic_eq 1502 dlaw_1042 rfl (fun _ => ?_) (fun q => absurd rfl q)
  exact go_room (by omega) (by omega) (next _ _ _ (LWst.next hC (hJ) hM3 hF3 e3 ⟨hN1, hN2⟩))
theorem lc_why {Q : GV → GM → Prop} (hS : LWst N F m) (hi : i + 6 ≤ xL g) (hL : xL g ≤ 3072) (hX : ∀ j, inR (xX g j)) (hd101 : 102 ≤ d) (next : ∀ (N2 : Nat) (F2 : Nat → GC) (m2 : Nat → Nat → Int), LWst N2 F2 m2 → Go g (ylw nm) d bc bs 1502 [gS 30, gR 0, gR 85, gI (i : Int)] [] (N2, F2) Q) : Go g (ylw nm) d (bc + 3) (bs + 196) 1047 [gS 30, gR 0, gR 85, gI (i : Int)] [] (N, F) Q := by
  classical
  obtain ⟨h, hM, hJ, hN1, hN2⟩ := hS
  have hw := hJ.zg.1
  have hT := hJ.zg.2.1
  have hd := hJ.1.1.2.2
  have ho := h.1
  refine go_aload_n (i := 1) dlaw_1047 rfl rfl trivial ?_
  refine go_aload_n (i := 0) dlaw_1048 rfl rfl trivial ?_
  refine go_iload_n (i := 3) dlaw_1049 rfl rfl ?_
  refine go_iconst dlaw_1050 (inR_of _ rfl) ?_
  refine go_iadd dlaw_1051 ?_
  refine go_top ((i + 1 : Nat) : Int) (by (try simp (discharger := (unfold inR; omega)) only [w32_id]) <;> omega) ?_
  refine go_scld' (i + 1) dlaw_1052 rfl (by omega) ?_
  refine go_VX dlaw_1053 vklaw126 ho (List.cons_ne_nil _ _) (bA_why h) rfl (by omega) (by omega) (by omega) rfl (fun _ => Nat.le_of_ble_eq_true rfl) ?_
  rintro _ _ ⟨rfl, F2, rfl, hC, hF⟩ -
  have hFk := FK.md hF
  dsimp only [rp]
  have hM := hM.at' hFk
  have ho := hM.1
  refine go_aload_n (i := 2) dlaw_1056 rfl rfl trivial ?_
  refine go_aload_n (i := 0) dlaw_1057 rfl rfl trivial ?_
  refine go_iload_n (i := 3) dlaw_1058 rfl rfl ?_
  refine go_iconst dlaw_1059 (inR_of _ rfl) ?_
  refine go_iadd dlaw_1060 ?_
  refine go_top ((i + 1 : Nat) : Int) (by (try simp (discharger := (unfold inR; omega)) only [w32_id]) <;> omega) ?_
  refine go_scld' (i + 1) dlaw_1061 rfl (by omega) ?_
  refine go_VX dlaw_1062 vklaw129 ho (List.cons_ne_nil _ _) (bM_why hM) rfl (by omega) (by omega) (by omega) rfl (fun _ => Nat.le_of_ble_eq_true rfl) ?_
  rintro _ _ ⟨rfl, F3, m3, rfl, hM3, hF3, e3⟩ -
  dsimp only [rp]
  refine go_ic_eq 1502 dlaw_1065 rfl (fun _ => ?_) (fun q => absurd rfl q)
  exact go_room (by omega) (by omega) (next _ _ _ (LWst.next hC (hJ) hM3 hF3 e3 ⟨hN1, hN2⟩))
theorem lc_sheet {Q : GV → GM → Prop} (hS : LWst N F m) (hi : i + 6 ≤ xL g) (hL : xL g ≤ 3072) (hX : ∀ j, inR (xX g j)) (hd101 : 102 ≤ d) (next : ∀ (N2 : Nat) (F2 : Nat → GC) (m2 : Nat → Nat → Int), LWst N2 F2 m2 → Go g (ylw nm) d bc bs 1502 [gS 30, gR 0, gR 85, gI (i : Int)] [] (N2, F2) Q) : Go g (ylw nm) d (bc + 3) (bs + 196) 1070 [gS 30, gR 0, gR 85, gI (i : Int)] [] (N, F) Q := by
  classical
  obtain ⟨h, hM, hJ, hN1, hN2⟩ := hS
  have hw := hJ.zg.1
  have hT := hJ.zg.2.1
  have hd := hJ.1.1.2.2
  have ho := h.1
  refine go_aload_n (i := 1) dlaw_1070 rfl rfl trivial ?_
  refine go_aload_n (i := 0) dlaw_1071 rfl rfl trivial ?_
  refine go_iload_n (i := 3) dlaw_1072 rfl rfl ?_
  refine go_iconst dlaw_1073 (inR_of _ rfl) ?_
  refine go_iadd dlaw_1074 ?_
  refine go_top ((i + 1 : Nat) : Int) (by (try simp (discharger := (unfold inR; omega)) only [w32_id]) <;> omega) ?_
  refine go_scld' (i + 1) dlaw_1075 rfl (by omega) ?_
  refine go_aload_n (i := 0) dlaw_1076 rfl rfl trivial ?_
  refine go_iload_n (i := 3) dlaw_1077 rfl rfl ?_
  refine go_iconst dlaw_1078 (inR_of _ rfl) ?_
  refine go_iadd dlaw_1079 ?_
  refine go_top ((i + 2 : Nat) : Int) (by (try simp (discharger := (unfold inR; omega)) only [w32_id]) <;> omega) ?_
  refine go_scld' (i + 2) dlaw_1080 rfl (by omega) ?_
  refine go_aload_n (i := 0) dlaw_1081 rfl rfl trivial ?_
  refine go_iload_n (i := 3) dlaw_1082 rfl rfl ?_
  refine go_iconst dlaw_1083 (inR_of _ rfl) ?_
  refine go_iadd dlaw_1084 ?_
  refine go_top ((i + 3 : Nat) : Int) (by (try simp (discharger := (unfold inR; omega)) only [w32_id]) <;> omega) ?_
  refine go_scld' (i + 3) dlaw_1085 rfl (by omega) ?_
  refine go_VX dlaw_1086 vklaw130 ho (List.cons_ne_nil _ _) (bA_sheet h) rfl (by omega) (by omega) (by omega) rfl (fun _ => Nat.le_of_ble_eq_true rfl) ?_
  rintro _ _ ⟨rfl, F2, rfl, hC, hF⟩ -
  have hFk := FK.md hF
  dsimp only [rp]
  have hM := hM.at' hFk
  have ho := hM.1
  refine go_aload_n (i := 2) dlaw_1089 rfl rfl trivial ?_
  refine go_aload_n (i := 0) dlaw_1090 rfl rfl trivial ?_
  refine go_iload_n (i := 3) dlaw_1091 rfl rfl ?_
  refine go_iconst dlaw_1092 (inR_of _ rfl) ?_
  refine go_iadd dlaw_1093 ?_
  refine go_top ((i + 1 : Nat) : Int) (by (try simp (discharger := (unfold inR; omega)) only [w32_id]) <;> omega) ?_
  refine go_scld' (i + 1) dlaw_1094 rfl (by omega) ?_
  refine go_aload_n (i := 0) dlaw_1095 rfl rfl trivial ?_
  refine go_iload_n (i := 3) dlaw_1096 rfl rfl ?_
  refine go_iconst dlaw_1097 (inR_of _ rfl) ?_
  refine go_iadd dlaw_1098 ?_
  refine go_top ((i + 2 : Nat) : Int) (by (try simp (discharger := (unfold inR; omega)) only [w32_id]) <;> omega) ?_
  refine go_scld' (i + 2) dlaw_1099 rfl (by omega) ?_
  refine go_aload_n (i := 0) dlaw_1100 rfl rfl trivial ?_
  refine go_iload_n (i := 3) dlaw_1101 rfl rfl ?_
  refine go_iconst dlaw_1102 (inR_of _ rfl) ?_
  refine go_iadd dlaw_1103 ?_
  refine go_top ((i + 3 : Nat) : Int) (by (try simp (discharger := (unfold inR; omega)) only [w32_id]) <;> omega) ?_
  refine go_scld' (i + 3) dlaw_1104 rfl (by omega) ?_
  refine go_VX dlaw_1105 vklaw133 ho (List.cons_ne_nil _ _) (bM_sheet hM) rfl (by omega) (by omega) (by omega) rfl (fun _ => Nat.le_of_ble_eq_true rfl) ?_
  rintro _ _ ⟨rfl, F3, m3, rfl, hM3, hF3, e3⟩ -
  dsimp only [rp]
  refine go_ic_eq 1502 dlaw_1108 rfl (fun _ => ?_) (fun q => absurd rfl q)
  exact go_room (by omega) (by omega) (next _ _ _ (LWst.next hC (hJ.sheet _ _ _) hM3 hF3 e3 ⟨hN1, hN2⟩))
theorem lc_mark {Q : GV → GM → Prop} (hS : LWst N F m) (hi : i + 6 ≤ xL g) (hL : xL g ≤ 3072) (hX : ∀ j, inR (xX g j)) (hd101 : 102 ≤ d) (next : ∀ (N2 : Nat) (F2 : Nat → GC) (m2 : Nat → Nat → Int), LWst N2 F2 m2 → Go g (ylw nm) d bc bs 1502 [gS 30, gR 0, gR 85, gI (i : Int)] [] (N2, F2) Q) : Go g (ylw nm) d (bc + 3) (bs + 196) 1113 [gS 30, gR 0, gR 85, gI (i : Int)] [] (N, F) Q := by
  classical
  obtain ⟨h, hM, hJ, hN1, hN2⟩ := hS
  have hw := hJ.zg.1
  have hT := hJ.zg.2.1
  have hd := hJ.1.1.2.2
  have ho := h.1
  refine go_aload_n (i := 1) dlaw_1113 rfl rfl trivial ?_
  refine go_aload_n (i := 0) dlaw_1114 rfl rfl trivial ?_
  refine go_iload_n (i := 3) dlaw_1115 rfl rfl ?_
  refine go_iconst dlaw_1116 (inR_of _ rfl) ?_
  refine go_iadd dlaw_1117 ?_
  refine go_top ((i + 1 : Nat) : Int) (by (try simp (discharger := (unfold inR; omega)) only [w32_id]) <;> omega) ?_
  refine go_scld' (i + 1) dlaw_1118 rfl (by omega) ?_
  refine go_aload_n (i := 0) dlaw_1119 rfl rfl trivial ?_
  refine go_iload_n (i := 3) dlaw_1120 rfl rfl ?_
  refine go_iconst dlaw_1121 (inR_of _ rfl) ?_
  refine go_iadd dlaw_1122 ?_
  refine go_top ((i + 2 : Nat) : Int) (by (try simp (discharger := (unfold inR; omega)) only [w32_id]) <;> omega) ?_
  refine go_scld' (i + 2) dlaw_1123 rfl (by omega) ?_
  refine go_aload_n (i := 0) dlaw_1124 rfl rfl trivial ?_
  refine go_iload_n (i := 3) dlaw_1125 rfl rfl ?_
  refine go_iconst dlaw_1126 (inR_of _ rfl) ?_
  refine go_iadd dlaw_1127 ?_
  refine go_top ((i + 3 : Nat) : Int) (by (try simp (discharger := (unfold inR; omega)) only [w32_id]) <;> omega) ?_
  refine go_scld' (i + 3) dlaw_1128 rfl (by omega) ?_
  refine go_VX dlaw_1129 vklaw134 ho (List.cons_ne_nil _ _) (bA_mark h hJ) rfl (by omega) (by omega) (by omega) rfl (fun _ => Nat.le_of_ble_eq_true rfl) ?_
  rintro _ _ ⟨rfl, F2, rfl, hC, hF⟩ -
  have hFk := FK.md hF
  dsimp only [rp]
  have hM := hM.at' hFk
  have ho := hM.1
  refine go_aload_n (i := 2) dlaw_1132 rfl rfl trivial ?_
  refine go_aload_n (i := 0) dlaw_1133 rfl rfl trivial ?_
  refine go_iload_n (i := 3) dlaw_1134 rfl rfl ?_
  refine go_iconst dlaw_1135 (inR_of _ rfl) ?_
  refine go_iadd dlaw_1136 ?_
  refine go_top ((i + 1 : Nat) : Int) (by (try simp (discharger := (unfold inR; omega)) only [w32_id]) <;> omega) ?_
  refine go_scld' (i + 1) dlaw_1137 rfl (by omega) ?_
  refine go_aload_n (i := 0) dlaw_1138 rfl rfl trivial ?_
  refine go_iload_n (i := 3) dlaw_1139 rfl rfl ?_
  refine go_iconst dlaw_1140 (inR_of _ rfl) ?_
  refine go_iadd dlaw_1141 ?_
  refine go_top ((i + 2 : Nat) : Int) (by (try simp (discharger := (unfold inR; omega)) only [w32_id]) <;> omega) ?_
  refine go_scld' (i + 2) dlaw_1142 rfl (by omega) ?_
  refine go_aload_n (i := 0) dlaw_1143 rfl rfl trivial ?_
  refine go_iload_n (i := 3) dlaw_1144 rfl rfl ?_
  refine go_iconst dlaw_1145 (inR_of _ rfl) ?_
  refine go_iadd dlaw_1146 ?_
  refine go_top ((i + 3 : Nat) : Int) (by (try simp (discharger := (unfold inR; omega)) only [w32_id]) <;> omega) ?_
  refine go_scld' (i + 3) dlaw_1147 rfl (by omega) ?_
  refine go_VX dlaw_1148 vklaw137 ho (List.cons_ne_nil _ _) (bM_mark hM hJ.1.2.2.1) rfl (by omega) (by omega) (by omega) rfl (fun _ => Nat.le_of_ble_eq_true rfl) ?_
  rintro _ _ ⟨rfl, F3, m3, rfl, hM3, hF3, e3⟩ -
  dsimp only [rp]
  refine go_ic_eq 1502 dlaw_1151 rfl (fun _ => ?_) (fun q => absurd rfl q)
  exact go_room (by omega) (by omega) (next _ _ _ (LWst.next hC (hJ.mark _ _ _) hM3 hF3 e3 ⟨hN1, hN2⟩))
theorem lc_pour {Q : GV → GM → Prop} (hS : LWst N F m) (hi : i + 6 ≤ xL g) (hL : xL g ≤ 3072) (hX : ∀ j, inR (xX g j)) (hd101 : 102 ≤ d) (next : ∀ (N2 : Nat) (F2 : Nat → GC) (m2 : Nat → Nat → Int), LWst N2 F2 m2 → Go g (ylw nm) d bc bs 1502 [gS 30, gR 0, gR 85, gI (i : Int)] [] (N2, F2) Q) : Go g (ylw nm) d (bc + 3) (bs + 196) 1156 [gS 30, gR 0, gR 85, gI (i : Int)] [] (N, F) Q := by
  classical
  obtain ⟨h, hM, hJ, hN1, hN2⟩ := hS
  have hw := hJ.zg.1
  have hT := hJ.zg.2.1
  have hd := hJ.1.1.2.2
  have ho := h.1
  refine go_aload_n (i := 1) dlaw_1156 rfl rfl trivial ?_
  refine go_aload_n (i := 0) dlaw_1157 rfl rfl trivial ?_
  refine go_iload_n (i := 3) dlaw_1158 rfl rfl ?_
  refine go_iconst dlaw_1159 (inR_of _ rfl) ?_
  refine go_iadd dlaw_1160 ?_
  refine go_top ((i + 1 : Nat) : Int) (by (try simp (discharger := (unfold inR; omega)) only [w32_id]) <;> omega) ?_
  refine go_scld' (i + 1) dlaw_1161 rfl (by omega) ?_
  refine go_VX dlaw_1162 vklaw138 ho (List.cons_ne_nil _ _) (bA_pour h hJ) rfl (by omega) (by omega) (by omega) rfl (fun _ => Nat.le_of_ble_eq_true rfl) ?_
  rintro _ _ ⟨rfl, F2, rfl, hC, hF⟩ -
  have hFk := FK.md hF
  dsimp only [rp]
  have hM := hM.at' hFk
  have ho := hM.1
  refine go_aload_n (i := 2) dlaw_1165 rfl rfl trivial ?_
  refine go_aload_n (i := 0) dlaw_1166 rfl rfl trivial ?_
  refine go_iload_n (i := 3) dlaw_1167 rfl rfl ?_
  refine go_iconst dlaw_1168 (inR_of _ rfl) ?_
  refine go_iadd dlaw_1169 ?_
  refine go_top ((i + 1 : Nat) : Int) (by (try simp (discharger := (unfold inR; omega)) only [w32_id]) <;> omega) ?_
  refine go_scld' (i + 1) dlaw_1170 rfl (by omega) ?_
  refine go_VX dlaw_1171 vklaw141 ho (List.cons_ne_nil _ _) (bM_pour hM hw hJ.1.2.2.1) rfl (by omega) (by omega) (by omega) rfl (fun _ => Nat.le_of_ble_eq_true rfl) ?_
  rintro _ _ ⟨rfl, F3, m3, rfl, hM3, hF3, e3⟩ -
  dsimp only [rp]
  refine go_ic_eq 1502 dlaw_1174 rfl (fun _ => ?_) (fun q => absurd rfl q)
  exact go_room (by omega) (by omega) (next _ _ _ (LWst.next hC (hJ.pour _) hM3 hF3 e3 ⟨hN1, hN2⟩))
theorem lc_reads {Q : GV → GM → Prop} (hS : LWst N F m) (hi : i + 6 ≤ xL g) (hL : xL g ≤ 3072) (hX : ∀ j, inR (xX g j)) (hd101 : 102 ≤ d) (next : ∀ (N2 : Nat) (F2 : Nat → GC) (m2 : Nat → Nat → Int), LWst N2 F2 m2 → Go g (ylw nm) d bc bs 1502 [gS 30, gR 0, gR 85, gI (i : Int)] [] (N2, F2) Q) : Go g (ylw nm) d (bc + 3) (bs + 196) 1179 [gS 30, gR 0, gR 85, gI (i : Int)] [] (N, F) Q := by
  classical
  obtain ⟨h, hM, hJ, hN1, hN2⟩ := hS
  have hw := hJ.zg.1
  have hT := hJ.zg.2.1
  have hd := hJ.1.1.2.2
  have ho := h.1
  refine go_aload_n (i := 1) dlaw_1179 rfl rfl trivial ?_
  refine go_aload_n (i := 0) dlaw_1180 rfl rfl trivial ?_
  refine go_iload_n (i := 3) dlaw_1181 rfl rfl ?_
  refine go_iconst dlaw_1182 (inR_of _ rfl) ?_
  refine go_iadd dlaw_1183 ?_
  refine go_top ((i + 1 : Nat) : Int) (by (try simp (discharger := (unfold inR; omega)) only [w32_id]) <;> omega) ?_
  refine go_scld' (i + 1) dlaw_1184 rfl (by omega) ?_
  refine go_VX dlaw_1185 vklaw142 ho (List.cons_ne_nil _ _) (bA_reads h hJ) rfl (by omega) (by omega) (by omega) rfl (fun _ => Nat.le_of_ble_eq_true rfl) ?_
  rintro _ _ ⟨rfl, F2, rfl, hC, hF⟩ -
  have hFk := FK.md hF
  dsimp only [rp]
  have hM := hM.at' hFk
  have ho := hM.1
  refine go_aload_n (i := 2) dlaw_1188 rfl rfl trivial ?_
  refine go_aload_n (i := 0) dlaw_1189 rfl rfl trivial ?_
  refine go_iload_n (i := 3) dlaw_1190 rfl rfl ?_
  refine go_iconst dlaw_1191 (inR_of _ rfl) ?_
  refine go_iadd dlaw_1192 ?_
  refine go_top ((i + 1 : Nat) : Int) (by (try simp (discharger := (unfold inR; omega)) only [w32_id]) <;> omega) ?_
  refine go_scld' (i + 1) dlaw_1193 rfl (by omega) ?_
  refine go_VX dlaw_1194 vklaw145 ho (List.cons_ne_nil _ _) (bM_reads hM hw hJ.1.2.2.1) rfl (by omega) (by omega) (by omega) rfl (fun _ => Nat.le_of_ble_eq_true rfl) ?_
  rintro _ _ ⟨rfl, F3, m3, rfl, hM3, hF3, e3⟩ -
  dsimp only [rp]
  refine go_ic_eq 1502 dlaw_1197 rfl (fun _ => ?_) (fun q => absurd rfl q)
  exact go_room (by omega) (by omega) (next _ _ _ (LWst.next hC (hJ) hM3 hF3 e3 ⟨hN1, hN2⟩))
theorem lc_copy {Q : GV → GM → Prop} (hS : LWst N F m) (hi : i + 6 ≤ xL g) (hL : xL g ≤ 3072) (hX : ∀ j, inR (xX g j)) (hd101 : 102 ≤ d) (next : ∀ (N2 : Nat) (F2 : Nat → GC) (m2 : Nat → Nat → Int), LWst N2 F2 m2 → Go g (ylw nm) d bc bs 1502 [gS 30, gR 0, gR 85, gI (i : Int)] [] (N2, F2) Q) : Go g (ylw nm) d (bc + 3) (bs + 196) 1202 [gS 30, gR 0, gR 85, gI (i : Int)] [] (N, F) Q := by
  classical
  obtain ⟨h, hM, hJ, hN1, hN2⟩ := hS
  have hw := hJ.zg.1
  have hT := hJ.zg.2.1
  have hd := hJ.1.1.2.2
  have ho := h.1
  refine go_aload_n (i := 1) dlaw_1202 rfl rfl trivial ?_
  refine go_aload_n (i := 0) dlaw_1203 rfl rfl trivial ?_
  refine go_iload_n (i := 3) dlaw_1204 rfl rfl ?_
  refine go_iconst dlaw_1205 (inR_of _ rfl) ?_
  refine go_iadd dlaw_1206 ?_
  refine go_top ((i + 1 : Nat) : Int) (by (try simp (discharger := (unfold inR; omega)) only [w32_id]) <;> omega) ?_
  refine go_scld' (i + 1) dlaw_1207 rfl (by omega) ?_
  refine go_aload_n (i := 0) dlaw_1208 rfl rfl trivial ?_
  refine go_iload_n (i := 3) dlaw_1209 rfl rfl ?_
  refine go_iconst dlaw_1210 (inR_of _ rfl) ?_
  refine go_iadd dlaw_1211 ?_
  refine go_top ((i + 2 : Nat) : Int) (by (try simp (discharger := (unfold inR; omega)) only [w32_id]) <;> omega) ?_
  refine go_scld' (i + 2) dlaw_1212 rfl (by omega) ?_
  refine go_aload_n (i := 0) dlaw_1213 rfl rfl trivial ?_
  refine go_iload_n (i := 3) dlaw_1214 rfl rfl ?_
  refine go_iconst dlaw_1215 (inR_of _ rfl) ?_
  refine go_iadd dlaw_1216 ?_
  refine go_top ((i + 3 : Nat) : Int) (by (try simp (discharger := (unfold inR; omega)) only [w32_id]) <;> omega) ?_
  refine go_scld' (i + 3) dlaw_1217 rfl (by omega) ?_
  refine go_aload_n (i := 0) dlaw_1218 rfl rfl trivial ?_
  refine go_iload_n (i := 3) dlaw_1219 rfl rfl ?_
  refine go_iconst dlaw_1220 (inR_of _ rfl) ?_
  refine go_iadd dlaw_1221 ?_
  refine go_top ((i + 4 : Nat) : Int) (by (try simp (discharger := (unfold inR; omega)) only [w32_id]) <;> omega) ?_
  refine go_scld' (i + 4) dlaw_1222 rfl (by omega) ?_
  refine go_aload_n (i := 0) dlaw_1223 rfl rfl trivial ?_
  refine go_iload_n (i := 3) dlaw_1224 rfl rfl ?_
  refine go_iconst dlaw_1225 (inR_of _ rfl) ?_
  refine go_iadd dlaw_1226 ?_
  refine go_top ((i + 5 : Nat) : Int) (by (try simp (discharger := (unfold inR; omega)) only [w32_id]) <;> omega) ?_
  refine go_scld' (i + 5) dlaw_1227 rfl (by omega) ?_
  refine go_VX dlaw_1228 vklaw146 ho (List.cons_ne_nil _ _) (bA_copy h hJ) rfl (by omega) (by omega) (by omega) rfl (fun _ => Nat.le_of_ble_eq_true rfl) ?_
  rintro _ _ ⟨rfl, F2, rfl, hC, hF⟩ -
  have hFk := FK.md hF
  dsimp only [rp]
  have hM := hM.at' hFk
  have ho := hM.1
  refine go_aload_n (i := 2) dlaw_1231 rfl rfl trivial ?_
  refine go_aload_n (i := 0) dlaw_1232 rfl rfl trivial ?_
  refine go_iload_n (i := 3) dlaw_1233 rfl rfl ?_
  refine go_iconst dlaw_1234 (inR_of _ rfl) ?_
  refine go_iadd dlaw_1235 ?_
  refine go_top ((i + 1 : Nat) : Int) (by (try simp (discharger := (unfold inR; omega)) only [w32_id]) <;> omega) ?_
  refine go_scld' (i + 1) dlaw_1236 rfl (by omega) ?_
  refine go_aload_n (i := 0) dlaw_1237 rfl rfl trivial ?_
  refine go_iload_n (i := 3) dlaw_1238 rfl rfl ?_
  refine go_iconst dlaw_1239 (inR_of _ rfl) ?_
  refine go_iadd dlaw_1240 ?_
  refine go_top ((i + 2 : Nat) : Int) (by (try simp (discharger := (unfold inR; omega)) only [w32_id]) <;> omega) ?_
  refine go_scld' (i + 2) dlaw_1241 rfl (by omega) ?_
  refine go_aload_n (i := 0) dlaw_1242 rfl rfl trivial ?_
  refine go_iload_n (i := 3) dlaw_1243 rfl rfl ?_
  refine go_iconst dlaw_1244 (inR_of _ rfl) ?_
  refine go_iadd dlaw_1245 ?_
  refine go_top ((i + 3 : Nat) : Int) (by (try simp (discharger := (unfold inR; omega)) only [w32_id]) <;> omega) ?_
  refine go_scld' (i + 3) dlaw_1246 rfl (by omega) ?_
  refine go_aload_n (i := 0) dlaw_1247 rfl rfl trivial ?_
  refine go_iload_n (i := 3) dlaw_1248 rfl rfl ?_
  refine go_iconst dlaw_1249 (inR_of _ rfl) ?_
  refine go_iadd dlaw_1250 ?_
  refine go_top ((i + 4 : Nat) : Int) (by (try simp (discharger := (unfold inR; omega)) only [w32_id]) <;> omega) ?_
  refine go_scld' (i + 4) dlaw_1251 rfl (by omega) ?_
  refine go_aload_n (i := 0) dlaw_1252 rfl rfl trivial ?_
  refine go_iload_n (i := 3) dlaw_1253 rfl rfl ?_
  refine go_iconst dlaw_1254 (inR_of _ rfl) ?_
  refine go_iadd dlaw_1255 ?_
  refine go_top ((i + 5 : Nat) : Int) (by (try simp (discharger := (unfold inR; omega)) only [w32_id]) <;> omega) ?_
  refine go_scld' (i + 5) dlaw_1256 rfl (by omega) ?_
  refine go_VX dlaw_1257 vklaw150 ho (List.cons_ne_nil _ _) (bM_copy hM hJ.1.2.2.1 (hX _) (hX _)) rfl (by omega) (by omega) (by omega) rfl (fun _ => Nat.le_of_ble_eq_true rfl) ?_
  rintro _ _ ⟨rfl, F3, m3, rfl, hM3, hF3, e3⟩ -
  dsimp only [rp]
  refine go_ic_eq 1502 dlaw_1260 rfl (fun _ => ?_) (fun q => absurd rfl q)
  exact go_room (by omega) (by omega) (next _ _ _ (LWst.next hC (hJ.copy _ _ _ _ _) hM3 hF3 e3 ⟨hN1, hN2⟩))
theorem lc_lay {Q : GV → GM → Prop} (hS : LWst N F m) (hi : i + 6 ≤ xL g) (hL : xL g ≤ 3072) (hX : ∀ j, inR (xX g j)) (hd101 : 102 ≤ d) (next : ∀ (N2 : Nat) (F2 : Nat → GC) (m2 : Nat → Nat → Int), LWst N2 F2 m2 → Go g (ylw nm) d bc bs 1502 [gS 30, gR 0, gR 85, gI (i : Int)] [] (N2, F2) Q) : Go g (ylw nm) d (bc + 3) (bs + 196) 1265 [gS 30, gR 0, gR 85, gI (i : Int)] [] (N, F) Q := by
  classical
  obtain ⟨h, hM, hJ, hN1, hN2⟩ := hS
  have hw := hJ.zg.1
  have hT := hJ.zg.2.1
  have hd := hJ.1.1.2.2
  have ho := h.1
  refine go_aload_n (i := 1) dlaw_1265 rfl rfl trivial ?_
  refine go_aload_n (i := 0) dlaw_1266 rfl rfl trivial ?_
  refine go_iload_n (i := 3) dlaw_1267 rfl rfl ?_
  refine go_iconst dlaw_1268 (inR_of _ rfl) ?_
  refine go_iadd dlaw_1269 ?_
  refine go_top ((i + 1 : Nat) : Int) (by (try simp (discharger := (unfold inR; omega)) only [w32_id]) <;> omega) ?_
  refine go_scld' (i + 1) dlaw_1270 rfl (by omega) ?_
  refine go_aload_n (i := 0) dlaw_1271 rfl rfl trivial ?_
  refine go_iload_n (i := 3) dlaw_1272 rfl rfl ?_
  refine go_iconst dlaw_1273 (inR_of _ rfl) ?_
  refine go_iadd dlaw_1274 ?_
  refine go_top ((i + 2 : Nat) : Int) (by (try simp (discharger := (unfold inR; omega)) only [w32_id]) <;> omega) ?_
  refine go_scld' (i + 2) dlaw_1275 rfl (by omega) ?_
  refine go_aload_n (i := 0) dlaw_1276 rfl rfl trivial ?_
  refine go_iload_n (i := 3) dlaw_1277 rfl rfl ?_
  refine go_iconst dlaw_1278 (inR_of _ rfl) ?_
  refine go_iadd dlaw_1279 ?_
  refine go_top ((i + 3 : Nat) : Int) (by (try simp (discharger := (unfold inR; omega)) only [w32_id]) <;> omega) ?_
  refine go_scld' (i + 3) dlaw_1280 rfl (by omega) ?_
  refine go_VX dlaw_1281 vklaw151 ho (List.cons_ne_nil _ _) (bA_lay h hJ) rfl (by omega) (by omega) (by omega) rfl (fun _ => Nat.le_of_ble_eq_true rfl) ?_
  rintro _ _ ⟨rfl, F2, rfl, hC, hF⟩ -
  have hFk := FK.md hF
  dsimp only [rp]
  have hM := hM.at' hFk
  have ho := hM.1
  refine go_aload_n (i := 2) dlaw_1284 rfl rfl trivial ?_
  refine go_aload_n (i := 0) dlaw_1285 rfl rfl trivial ?_
  refine go_iload_n (i := 3) dlaw_1286 rfl rfl ?_
  refine go_iconst dlaw_1287 (inR_of _ rfl) ?_
  refine go_iadd dlaw_1288 ?_
  refine go_top ((i + 1 : Nat) : Int) (by (try simp (discharger := (unfold inR; omega)) only [w32_id]) <;> omega) ?_
  refine go_scld' (i + 1) dlaw_1289 rfl (by omega) ?_
  refine go_aload_n (i := 0) dlaw_1290 rfl rfl trivial ?_
  refine go_iload_n (i := 3) dlaw_1291 rfl rfl ?_
  refine go_iconst dlaw_1292 (inR_of _ rfl) ?_
  refine go_iadd dlaw_1293 ?_
  refine go_top ((i + 2 : Nat) : Int) (by (try simp (discharger := (unfold inR; omega)) only [w32_id]) <;> omega) ?_
  refine go_scld' (i + 2) dlaw_1294 rfl (by omega) ?_
  refine go_aload_n (i := 0) dlaw_1295 rfl rfl trivial ?_
  refine go_iload_n (i := 3) dlaw_1296 rfl rfl ?_
  refine go_iconst dlaw_1297 (inR_of _ rfl) ?_
  refine go_iadd dlaw_1298 ?_
  refine go_top ((i + 3 : Nat) : Int) (by (try simp (discharger := (unfold inR; omega)) only [w32_id]) <;> omega) ?_
  refine go_scld' (i + 3) dlaw_1299 rfl (by omega) ?_
  refine go_VX dlaw_1300 vklaw154 ho (List.cons_ne_nil _ _) (bM_lay hM hw) rfl (by omega) (by omega) (by omega) rfl (fun _ => Nat.le_of_ble_eq_true rfl) ?_
  rintro _ _ ⟨rfl, F3, m3, rfl, hM3, hF3, e3⟩ -
  dsimp only [rp]
  refine go_ic_eq 1502 dlaw_1303 rfl (fun _ => ?_) (fun q => absurd rfl q)
  exact go_room (by omega) (by omega) (next _ _ _ (LWst.next hC (hJ.lay _ _ _) hM3 hF3 e3 ⟨hN1, hN2⟩))
theorem lc_ask {Q : GV → GM → Prop} (hS : LWst N F m) (hi : i + 6 ≤ xL g) (hL : xL g ≤ 3072) (hX : ∀ j, inR (xX g j)) (hd101 : 102 ≤ d) (next : ∀ (N2 : Nat) (F2 : Nat → GC) (m2 : Nat → Nat → Int), LWst N2 F2 m2 → Go g (ylw nm) d bc bs 1502 [gS 30, gR 0, gR 85, gI (i : Int)] [] (N2, F2) Q) : Go g (ylw nm) d (bc + 3) (bs + 196) 1308 [gS 30, gR 0, gR 85, gI (i : Int)] [] (N, F) Q := by
  classical
  obtain ⟨h, hM, hJ, hN1, hN2⟩ := hS
  have hw := hJ.zg.1
  have hT := hJ.zg.2.1
  have hd := hJ.1.1.2.2
  have ho := h.1
  refine go_aload_n (i := 1) dlaw_1308 rfl rfl trivial ?_
  refine go_aload_n (i := 0) dlaw_1309 rfl rfl trivial ?_
  refine go_iload_n (i := 3) dlaw_1310 rfl rfl ?_
  refine go_iconst dlaw_1311 (inR_of _ rfl) ?_
  refine go_iadd dlaw_1312 ?_
  refine go_top ((i + 1 : Nat) : Int) (by (try simp (discharger := (unfold inR; omega)) only [w32_id]) <;> omega) ?_
  refine go_scld' (i + 1) dlaw_1313 rfl (by omega) ?_
  refine go_aload_n (i := 0) dlaw_1314 rfl rfl trivial ?_
  refine go_iload_n (i := 3) dlaw_1315 rfl rfl ?_
  refine go_iconst dlaw_1316 (inR_of _ rfl) ?_
  refine go_iadd dlaw_1317 ?_
  refine go_top ((i + 2 : Nat) : Int) (by (try simp (discharger := (unfold inR; omega)) only [w32_id]) <;> omega) ?_
  refine go_scld' (i + 2) dlaw_1318 rfl (by omega) ?_
  refine go_VX dlaw_1319 vklaw155 ho (List.cons_ne_nil _ _) (bA_ask h hJ) rfl (by omega) (by omega) (by omega) rfl (fun _ => Nat.le_of_ble_eq_true rfl) ?_
  rintro _ _ ⟨rfl, F2, rfl, hC, hF⟩ -
  have hFk := FK.md hF
  dsimp only [rp]
  have hM := hM.at' hFk
  have ho := hM.1
  refine go_aload_n (i := 2) dlaw_1322 rfl rfl trivial ?_
  refine go_aload_n (i := 0) dlaw_1323 rfl rfl trivial ?_
  refine go_iload_n (i := 3) dlaw_1324 rfl rfl ?_
  refine go_iconst dlaw_1325 (inR_of _ rfl) ?_
  refine go_iadd dlaw_1326 ?_
  refine go_top ((i + 1 : Nat) : Int) (by (try simp (discharger := (unfold inR; omega)) only [w32_id]) <;> omega) ?_
  refine go_scld' (i + 1) dlaw_1327 rfl (by omega) ?_
  refine go_aload_n (i := 0) dlaw_1328 rfl rfl trivial ?_
  refine go_iload_n (i := 3) dlaw_1329 rfl rfl ?_
  refine go_iconst dlaw_1330 (inR_of _ rfl) ?_
  refine go_iadd dlaw_1331 ?_
  refine go_top ((i + 2 : Nat) : Int) (by (try simp (discharger := (unfold inR; omega)) only [w32_id]) <;> omega) ?_
  refine go_scld' (i + 2) dlaw_1332 rfl (by omega) ?_
  refine go_VX dlaw_1333 vklaw158 ho (List.cons_ne_nil _ _) (bM_ask hM) rfl (by omega) (by omega) (by omega) rfl (fun _ => Nat.le_of_ble_eq_true rfl) ?_
  rintro _ _ ⟨rfl, F3, m3, rfl, hM3, hF3, e3⟩ -
  dsimp only [rp]
  refine go_ic_eq 1502 dlaw_1336 rfl (fun _ => ?_) (fun q => absurd rfl q)
  exact go_room (by omega) (by omega) (next _ _ _ (LWst.next hC (hJ) hM3 hF3 e3 ⟨hN1, hN2⟩))
theorem lc_item {Q : GV → GM → Prop} (hS : LWst N F m) (hi : i + 6 ≤ xL g) (hL : xL g ≤ 3072) (hX : ∀ j, inR (xX g j)) (hd101 : 102 ≤ d) (next : ∀ (N2 : Nat) (F2 : Nat → GC) (m2 : Nat → Nat → Int), LWst N2 F2 m2 → Go g (ylw nm) d bc bs 1502 [gS 30, gR 0, gR 85, gI (i : Int)] [] (N2, F2) Q) : Go g (ylw nm) d (bc + 3) (bs + 196) 1341 [gS 30, gR 0, gR 85, gI (i : Int)] [] (N, F) Q := by
  classical
  obtain ⟨h, hM, hJ, hN1, hN2⟩ := hS
  have hw := hJ.zg.1
  have hT := hJ.zg.2.1
  have hd := hJ.1.1.2.2
  have ho := h.1
  refine go_aload_n (i := 1) dlaw_1341 rfl rfl trivial ?_
  refine go_aload_n (i := 0) dlaw_1342 rfl rfl trivial ?_
  refine go_iload_n (i := 3) dlaw_1343 rfl rfl ?_
  refine go_iconst dlaw_1344 (inR_of _ rfl) ?_
  refine go_iadd dlaw_1345 ?_
  refine go_top ((i + 1 : Nat) : Int) (by (try simp (discharger := (unfold inR; omega)) only [w32_id]) <;> omega) ?_
  refine go_scld' (i + 1) dlaw_1346 rfl (by omega) ?_
  refine go_aload_n (i := 0) dlaw_1347 rfl rfl trivial ?_
  refine go_iload_n (i := 3) dlaw_1348 rfl rfl ?_
  refine go_iconst dlaw_1349 (inR_of _ rfl) ?_
  refine go_iadd dlaw_1350 ?_
  refine go_top ((i + 2 : Nat) : Int) (by (try simp (discharger := (unfold inR; omega)) only [w32_id]) <;> omega) ?_
  refine go_scld' (i + 2) dlaw_1351 rfl (by omega) ?_
  refine go_VX dlaw_1352 vklaw159 ho (List.cons_ne_nil _ _) (bA_item h hJ) rfl (by omega) (by omega) (by omega) rfl (fun _ => Nat.le_of_ble_eq_true rfl) ?_
  rintro _ _ ⟨rfl, F2, rfl, hC, hF⟩ -
  have hFk := FK.md hF
  dsimp only [rp]
  have hM := hM.at' hFk
  have ho := hM.1
  refine go_aload_n (i := 2) dlaw_1355 rfl rfl trivial ?_
  refine go_aload_n (i := 0) dlaw_1356 rfl rfl trivial ?_
  refine go_iload_n (i := 3) dlaw_1357 rfl rfl ?_
  refine go_iconst dlaw_1358 (inR_of _ rfl) ?_
  refine go_iadd dlaw_1359 ?_
  refine go_top ((i + 1 : Nat) : Int) (by (try simp (discharger := (unfold inR; omega)) only [w32_id]) <;> omega) ?_
  refine go_scld' (i + 1) dlaw_1360 rfl (by omega) ?_
  refine go_aload_n (i := 0) dlaw_1361 rfl rfl trivial ?_
  refine go_iload_n (i := 3) dlaw_1362 rfl rfl ?_
  refine go_iconst dlaw_1363 (inR_of _ rfl) ?_
  refine go_iadd dlaw_1364 ?_
  refine go_top ((i + 2 : Nat) : Int) (by (try simp (discharger := (unfold inR; omega)) only [w32_id]) <;> omega) ?_
  refine go_scld' (i + 2) dlaw_1365 rfl (by omega) ?_
  refine go_VX dlaw_1366 vklaw162 ho (List.cons_ne_nil _ _) (bM_item hM hJ.1.2.2.1) rfl (by omega) (by omega) (by omega) rfl (fun _ => Nat.le_of_ble_eq_true rfl) ?_
  rintro _ _ ⟨rfl, F3, m3, rfl, hM3, hF3, e3⟩ -
  dsimp only [rp]
  refine go_ic_eq 1502 dlaw_1369 rfl (fun _ => ?_) (fun q => absurd rfl q)
  exact go_room (by omega) (by omega) (next _ _ _ (LWst.next hC (hJ) hM3 hF3 e3 ⟨hN1, hN2⟩))
theorem lc_rest {Q : GV → GM → Prop} (hS : LWst N F m) (hi : i + 6 ≤ xL g) (hL : xL g ≤ 3072) (hX : ∀ j, inR (xX g j)) (hd101 : 102 ≤ d) (next : ∀ (N2 : Nat) (F2 : Nat → GC) (m2 : Nat → Nat → Int), LWst N2 F2 m2 → Go g (ylw nm) d bc bs 1502 [gS 30, gR 0, gR 85, gI (i : Int)] [] (N2, F2) Q) : Go g (ylw nm) d (bc + 3) (bs + 196) 1374 [gS 30, gR 0, gR 85, gI (i : Int)] [] (N, F) Q := by
  classical
  obtain ⟨h, hM, hJ, hN1, hN2⟩ := hS
  have hw := hJ.zg.1
  have hT := hJ.zg.2.1
  have hd := hJ.1.1.2.2
  have ho := h.1
  refine go_aload_n (i := 1) dlaw_1374 rfl rfl trivial ?_
  refine go_aload_n (i := 0) dlaw_1375 rfl rfl trivial ?_
  refine go_iload_n (i := 3) dlaw_1376 rfl rfl ?_
  refine go_iconst dlaw_1377 (inR_of _ rfl) ?_
  refine go_iadd dlaw_1378 ?_
  refine go_top ((i + 1 : Nat) : Int) (by (try simp (discharger := (unfold inR; omega)) only [w32_id]) <;> omega) ?_
  refine go_scld' (i + 1) dlaw_1379 rfl (by omega) ?_
  refine go_aload_n (i := 0) dlaw_1380 rfl rfl trivial ?_
  refine go_iload_n (i := 3) dlaw_1381 rfl rfl ?_
  refine go_iconst dlaw_1382 (inR_of _ rfl) ?_
  refine go_iadd dlaw_1383 ?_
  refine go_top ((i + 2 : Nat) : Int) (by (try simp (discharger := (unfold inR; omega)) only [w32_id]) <;> omega) ?_
  refine go_scld' (i + 2) dlaw_1384 rfl (by omega) ?_
  refine go_VX dlaw_1385 vklaw163 ho (List.cons_ne_nil _ _) (bA_rest h) rfl (by omega) (by omega) (by omega) rfl (fun _ => Nat.le_of_ble_eq_true rfl) ?_
  rintro _ _ ⟨rfl, F2, rfl, hC, hF⟩ -
  have hFk := FK.md hF
  dsimp only [rp]
  have hM := hM.at' hFk
  have ho := hM.1
  refine go_aload_n (i := 2) dlaw_1388 rfl rfl trivial ?_
  refine go_aload_n (i := 0) dlaw_1389 rfl rfl trivial ?_
  refine go_iload_n (i := 3) dlaw_1390 rfl rfl ?_
  refine go_iconst dlaw_1391 (inR_of _ rfl) ?_
  refine go_iadd dlaw_1392 ?_
  refine go_top ((i + 1 : Nat) : Int) (by (try simp (discharger := (unfold inR; omega)) only [w32_id]) <;> omega) ?_
  refine go_scld' (i + 1) dlaw_1393 rfl (by omega) ?_
  refine go_aload_n (i := 0) dlaw_1394 rfl rfl trivial ?_
  refine go_iload_n (i := 3) dlaw_1395 rfl rfl ?_
  refine go_iconst dlaw_1396 (inR_of _ rfl) ?_
  refine go_iadd dlaw_1397 ?_
  refine go_top ((i + 2 : Nat) : Int) (by (try simp (discharger := (unfold inR; omega)) only [w32_id]) <;> omega) ?_
  refine go_scld' (i + 2) dlaw_1398 rfl (by omega) ?_
  refine go_VX dlaw_1399 vklaw166 ho (List.cons_ne_nil _ _) (bM_rest hM) rfl (by omega) (by omega) (by omega) rfl (fun _ => Nat.le_of_ble_eq_true rfl) ?_
  rintro _ _ ⟨rfl, F3, m3, rfl, hM3, hF3, e3⟩ -
  dsimp only [rp]
  refine go_ic_eq 1502 dlaw_1402 rfl (fun _ => ?_) (fun q => absurd rfl q)
  exact go_room (by omega) (by omega) (next _ _ _ (LWst.next hC (hJ) hM3 hF3 e3 ⟨hN1, hN2⟩))
theorem lc_tell {Q : GV → GM → Prop} (hS : LWst N F m) (hi : i + 6 ≤ xL g) (hL : xL g ≤ 3072) (hX : ∀ j, inR (xX g j)) (hd101 : 102 ≤ d) (next : ∀ (N2 : Nat) (F2 : Nat → GC) (m2 : Nat → Nat → Int), LWst N2 F2 m2 → Go g (ylw nm) d bc bs 1502 [gS 30, gR 0, gR 85, gI (i : Int)] [] (N2, F2) Q) : Go g (ylw nm) d (bc + 3) (bs + 196) 1407 [gS 30, gR 0, gR 85, gI (i : Int)] [] (N, F) Q := by
  classical
  obtain ⟨h, hM, hJ, hN1, hN2⟩ := hS
  have hw := hJ.zg.1
  have hT := hJ.zg.2.1
  have hd := hJ.1.1.2.2
  have ho := h.1
  refine go_aload_n (i := 1) dlaw_1407 rfl rfl trivial ?_
  refine go_aload_n (i := 0) dlaw_1408 rfl rfl trivial ?_
  refine go_iload_n (i := 3) dlaw_1409 rfl rfl ?_
  refine go_iconst dlaw_1410 (inR_of _ rfl) ?_
  refine go_iadd dlaw_1411 ?_
  refine go_top ((i + 1 : Nat) : Int) (by (try simp (discharger := (unfold inR; omega)) only [w32_id]) <;> omega) ?_
  refine go_scld' (i + 1) dlaw_1412 rfl (by omega) ?_
  refine go_VX dlaw_1413 vklaw167 ho (List.cons_ne_nil _ _) (bA_tell h hJ) rfl (by omega) (by omega) (by omega) rfl (fun _ => Nat.le_of_ble_eq_true rfl) ?_
  rintro _ _ ⟨rfl, F2, rfl, hC, hF⟩ -
  have hFk := FK.md hF
  dsimp only [rp]
  have hM := hM.at' hFk
  have ho := hM.1
  refine go_aload_n (i := 2) dlaw_1416 rfl rfl trivial ?_
  refine go_aload_n (i := 0) dlaw_1417 rfl rfl trivial ?_
  refine go_iload_n (i := 3) dlaw_1418 rfl rfl ?_
  refine go_iconst dlaw_1419 (inR_of _ rfl) ?_
  refine go_iadd dlaw_1420 ?_
  refine go_top ((i + 1 : Nat) : Int) (by (try simp (discharger := (unfold inR; omega)) only [w32_id]) <;> omega) ?_
  refine go_scld' (i + 1) dlaw_1421 rfl (by omega) ?_
  refine go_VX dlaw_1422 vklaw170 ho (List.cons_ne_nil _ _) (bM_tell hM hJ.1.2.2.2.2) rfl (by omega) (by omega) (by omega) rfl (fun _ => Nat.le_of_ble_eq_true rfl) ?_
  rintro _ _ ⟨rfl, F3, m3, rfl, hM3, hF3, e3⟩ -
  dsimp only [rp]
  refine go_ic_eq 1502 dlaw_1425 rfl (fun _ => ?_) (fun q => absurd rfl q)
  exact go_room (by omega) (by omega) (next _ _ _ (LWst.next hC (hJ.tell _) hM3 hF3 e3 ⟨hN1, hN2⟩))
theorem lc_check {Q : GV → GM → Prop} (hS : LWst N F m) (hi : i + 6 ≤ xL g) (hL : xL g ≤ 3072) (hX : ∀ j, inR (xX g j)) (hd101 : 102 ≤ d) (next : ∀ (N2 : Nat) (F2 : Nat → GC) (m2 : Nat → Nat → Int), LWst N2 F2 m2 → Go g (ylw nm) d bc bs 1502 [gS 30, gR 0, gR 85, gI (i : Int)] [] (N2, F2) Q) : Go g (ylw nm) d (bc + 3) (bs + 196) 1430 [gS 30, gR 0, gR 85, gI (i : Int)] [] (N, F) Q := by
  classical
  obtain ⟨h, hM, hJ, hN1, hN2⟩ := hS
  have hw := hJ.zg.1
  have hT := hJ.zg.2.1
  have hd := hJ.1.1.2.2
  have ho := h.1
  refine go_aload_n (i := 1) dlaw_1430 rfl rfl trivial ?_
  refine go_aload_n (i := 0) dlaw_1431 rfl rfl trivial ?_
  refine go_iload_n (i := 3) dlaw_1432 rfl rfl ?_
  refine go_iconst dlaw_1433 (inR_of _ rfl) ?_
  refine go_iadd dlaw_1434 ?_
  refine go_top ((i + 1 : Nat) : Int) (by (try simp (discharger := (unfold inR; omega)) only [w32_id]) <;> omega) ?_
  refine go_scld' (i + 1) dlaw_1435 rfl (by omega) ?_
  refine go_VX dlaw_1436 vklaw171 ho (List.cons_ne_nil _ _) (bA_check h hJ) rfl (by omega) (by omega) (by omega) rfl (fun _ => Nat.le_of_ble_eq_true rfl) ?_
  rintro _ _ ⟨rfl, F2, rfl, hC, hF⟩ -
  have hFk := FK.md hF
  dsimp only [rp]
  have hM := hM.at' hFk
  have ho := hM.1
  refine go_aload_n (i := 2) dlaw_1439 rfl rfl trivial ?_
  refine go_aload_n (i := 0) dlaw_1440 rfl rfl trivial ?_
  refine go_iload_n (i := 3) dlaw_1441 rfl rfl ?_
  refine go_iconst dlaw_1442 (inR_of _ rfl) ?_
  refine go_iadd dlaw_1443 ?_
  refine go_top ((i + 1 : Nat) : Int) (by (try simp (discharger := (unfold inR; omega)) only [w32_id]) <;> omega) ?_
  refine go_scld' (i + 1) dlaw_1444 rfl (by omega) ?_
  refine go_VX dlaw_1445 vklaw174 ho (List.cons_ne_nil _ _) (bM_check hM hJ.1.2.1 hJ.1.2.2.2.2) rfl (by omega) (by omega) (by omega) rfl (fun _ => Nat.le_of_ble_eq_true rfl) ?_
  rintro _ _ ⟨rfl, F3, m3, rfl, hM3, hF3, e3⟩ -
  dsimp only [rp]
  refine go_ic_eq 1502 dlaw_1448 rfl (fun _ => ?_) (fun q => absurd rfl q)
  exact go_room (by omega) (by omega) (next _ _ _ (LWst.next hC (hJ.check) hM3 hF3 e3 ⟨hN1, hN2⟩))
theorem lc_keep {Q : GV → GM → Prop} (hS : LWst N F m) (hi : i + 6 ≤ xL g) (hL : xL g ≤ 3072) (hX : ∀ j, inR (xX g j)) (hd101 : 102 ≤ d) (next : ∀ (N2 : Nat) (F2 : Nat → GC) (m2 : Nat → Nat → Int), LWst N2 F2 m2 → Go g (ylw nm) d bc bs 1502 [gS 30, gR 0, gR 85, gI (i : Int)] [] (N2, F2) Q) : Go g (ylw nm) d (bc + 3) (bs + 196) 1453 [gS 30, gR 0, gR 85, gI (i : Int)] [] (N, F) Q := by
  classical
  obtain ⟨h, hM, hJ, hN1, hN2⟩ := hS
  have hw := hJ.zg.1
  have hT := hJ.zg.2.1
  have hd := hJ.1.1.2.2
  have ho := h.1
  refine go_aload_n (i := 1) dlaw_1453 rfl rfl trivial ?_
  refine go_VX dlaw_1454 vklaw175 ho (List.cons_ne_nil _ _) (bA_keep h hJ) rfl (by omega) (by omega) (by omega) rfl (fun _ => Nat.le_of_ble_eq_true rfl) ?_
  rintro _ _ ⟨rfl, F2, rfl, hC, hF⟩ -
  have hFk := FK.md hF
  dsimp only [rp]
  have hM := hM.at' hFk
  have ho := hM.1
  refine go_aload_n (i := 2) dlaw_1457 rfl rfl trivial ?_
  refine go_VX dlaw_1458 vklaw178 ho (List.cons_ne_nil _ _) (bM_keep hM) rfl (by omega) (by omega) (by omega) rfl (fun _ => Nat.le_of_ble_eq_true rfl) ?_
  rintro _ _ ⟨rfl, F3, m3, rfl, hM3, hF3, e3⟩ -
  dsimp only [rp]
  refine go_ic_eq 1502 dlaw_1461 rfl (fun _ => ?_) (fun q => absurd rfl q)
  exact go_room (by omega) (by omega) (next _ _ _ (LWst.next hC (hJ.keep) hM3 hF3 e3 ⟨hN1, hN2⟩))
theorem lc_back {Q : GV → GM → Prop} (hS : LWst N F m) (hi : i + 6 ≤ xL g) (hL : xL g ≤ 3072) (hX : ∀ j, inR (xX g j)) (hd101 : 102 ≤ d) (next : ∀ (N2 : Nat) (F2 : Nat → GC) (m2 : Nat → Nat → Int), LWst N2 F2 m2 → Go g (ylw nm) d bc bs 1502 [gS 30, gR 0, gR 85, gI (i : Int)] [] (N2, F2) Q) : Go g (ylw nm) d (bc + 3) (bs + 196) 1466 [gS 30, gR 0, gR 85, gI (i : Int)] [] (N, F) Q := by
  classical
  obtain ⟨h, hM, hJ, hN1, hN2⟩ := hS
  have hw := hJ.zg.1
  have hT := hJ.zg.2.1
  have hd := hJ.1.1.2.2
  have ho := h.1
  refine go_aload_n (i := 1) dlaw_1466 rfl rfl trivial ?_
  refine go_VX dlaw_1467 vklaw179 ho (List.cons_ne_nil _ _) (bA_back h hJ) rfl (by omega) (by omega) (by omega) rfl (fun _ => Nat.le_of_ble_eq_true rfl) ?_
  rintro _ _ ⟨rfl, F2, rfl, hC, hF⟩ -
  have hFk := FK.md hF
  dsimp only [rp]
  have hM := hM.at' hFk
  have ho := hM.1
  refine go_aload_n (i := 2) dlaw_1470 rfl rfl trivial ?_
  refine go_VX dlaw_1471 vklaw182 ho (List.cons_ne_nil _ _) (bM_back hM) rfl (by omega) (by omega) (by omega) rfl (fun _ => Nat.le_of_ble_eq_true rfl) ?_
  rintro _ _ ⟨rfl, F3, m3, rfl, hM3, hF3, e3⟩ -
  dsimp only [rp]
  refine go_ic_eq 1502 dlaw_1474 rfl (fun _ => ?_) (fun q => absurd rfl q)
  exact go_room (by omega) (by omega) (next _ _ _ (LWst.next hC (hJ.back) hM3 hF3 e3 ⟨hN1, hN2⟩))
theorem lc_count {Q : GV → GM → Prop} (hS : LWst N F m) (hi : i + 6 ≤ xL g) (hL : xL g ≤ 3072) (hX : ∀ j, inR (xX g j)) (hd101 : 102 ≤ d) (next : ∀ (N2 : Nat) (F2 : Nat → GC) (m2 : Nat → Nat → Int), LWst N2 F2 m2 → Go g (ylw nm) d bc bs 1502 [gS 30, gR 0, gR 85, gI (i : Int)] [] (N2, F2) Q) : Go g (ylw nm) d (bc + 3) (bs + 196) 1479 [gS 30, gR 0, gR 85, gI (i : Int)] [] (N, F) Q := by
  classical
  obtain ⟨h, hM, hJ, hN1, hN2⟩ := hS
  have hw := hJ.zg.1
  have hT := hJ.zg.2.1
  have hd := hJ.1.1.2.2
  have ho := h.1
  refine go_aload_n (i := 1) dlaw_1479 rfl rfl trivial ?_
  refine go_aload_n (i := 0) dlaw_1480 rfl rfl trivial ?_
  refine go_iload_n (i := 3) dlaw_1481 rfl rfl ?_
  refine go_iconst dlaw_1482 (inR_of _ rfl) ?_
  refine go_iadd dlaw_1483 ?_
  refine go_top ((i + 1 : Nat) : Int) (by (try simp (discharger := (unfold inR; omega)) only [w32_id]) <;> omega) ?_
  refine go_scld' (i + 1) dlaw_1484 rfl (by omega) ?_
  refine go_VX dlaw_1485 vklaw183 ho (List.cons_ne_nil _ _) (bA_count h) rfl (by omega) (by omega) (by omega) rfl (fun _ => Nat.le_of_ble_eq_true rfl) ?_
  rintro _ _ ⟨rfl, F2, rfl, hC, hF⟩ -
  have hFk := FK.md hF
  dsimp only [rp]
  have hM := hM.at' hFk
  have ho := hM.1
  refine go_aload_n (i := 2) dlaw_1488 rfl rfl trivial ?_
  refine go_aload_n (i := 0) dlaw_1489 rfl rfl trivial ?_
  refine go_iload_n (i := 3) dlaw_1490 rfl rfl ?_
  refine go_iconst dlaw_1491 (inR_of _ rfl) ?_
  refine go_iadd dlaw_1492 ?_
  refine go_top ((i + 1 : Nat) : Int) (by (try simp (discharger := (unfold inR; omega)) only [w32_id]) <;> omega) ?_
  refine go_scld' (i + 1) dlaw_1493 rfl (by omega) ?_
  refine go_VX dlaw_1494 vklaw186 ho (List.cons_ne_nil _ _) (bM_count hM) rfl (by omega) (by omega) (by omega) rfl (fun _ => Nat.le_of_ble_eq_true rfl) ?_
  rintro _ _ ⟨rfl, F3, m3, rfl, hM3, hF3, e3⟩ -
  dsimp only [rp]
  refine go_ic_eq 1502 dlaw_1497 rfl (fun _ => ?_) (fun q => absurd rfl q)
  exact go_room (by omega) (by omega) (next _ _ _ (LWst.next hC (hJ) hM3 hF3 e3 ⟨hN1, hN2⟩))
end LAWC
section LAWL
variable {nm : String}
variable {g : GX} {d : Nat}
theorem lw_loop (hL : xL g ≤ 3072) (hX : ∀ j, inR (xX g j)) (hd : 102 ≤ d) : ∀ (k i N : Nat) (F : Nat → GC) (m : Nat → Nat → Int), i + 6 * k ≤ 3078 → xL g < i + 6 + 6 * k → LWst N F m → Go g (ylw nm) d (3 * k) (196 * k) 18 [gS 30, gR 0, gR 85, gI (i : Int)] [] (N, F) (fun rr _ => rr = gI 1) := by
  intro k
  induction k with
  | zero =>
    intro i N F m h1 h2 hS
    refine go_iload_n (i := 3) dlaw_18 rfl rfl ?_
    refine go_aload_n (i := 0) dlaw_19 rfl rfl trivial ?_
    refine go_sclen dlaw_20 (by omega) ?_
    refine go_bipush dlaw_21 (inR_of _ rfl) rfl ?_
    refine go_isub dlaw_23 ?_
    refine go_top ((xL g : Int) - 6) (by (try simp (discharger := (unfold inR; omega)) only [w32_id]) <;> omega) ?_
    refine go_ic_gt 1508 dlaw_24 rfl (fun _ => ?_) (fun q => absurd (by omega) q)
    refine go_iconst dlaw_1508 (inR_of _ rfl) ?_
    refine go_iret dlaw_1509 rfl (zb (by simp)) ?_
    rfl
  | succ k ih =>
    intro i N F m h1 h2 hS
    refine go_iload_n (i := 3) dlaw_18 rfl rfl ?_
    refine go_aload_n (i := 0) dlaw_19 rfl rfl trivial ?_
    refine go_sclen dlaw_20 (by omega) ?_
    refine go_bipush dlaw_21 (inR_of _ rfl) rfl ?_
    refine go_isub dlaw_23 ?_
    refine go_top ((xL g : Int) - 6) (by (try simp (discharger := (unfold inR; omega)) only [w32_id]) <;> omega) ?_
    refine go_ic_gt 1508 dlaw_24 rfl (fun _ => ?_) (fun q => ?_)
    · refine go_iconst dlaw_1508 (inR_of _ rfl) ?_
      refine go_iret dlaw_1509 rfl (zb (by simp)) ?_
      rfl
    · have hi : i + 6 ≤ xL g := by omega
      have next : ∀ (N2 : Nat) (F2 : Nat → GC) (m2 : Nat → Nat → Int), LWst N2 F2 m2 → Go g (ylw nm) d (3 * k) (196 * k) 1502 [gS 30, gR 0, gR 85, gI (i : Int)] [] (N2, F2) (fun rr _ => rr = gI 1) := by
        intro N2 F2 m2 h2'
        refine go_inc3 ((i + 6 : Nat) : Int) dlaw_1502 (Nat.le_of_ble_eq_true rfl) trivial (by (try simp (discharger := (unfold inR; omega)) only [w32_id]) <;> omega) ?_
        refine go_goto 18 dlaw_1505 rfl ?_
        exact ih (i + 6) N2 F2 m2 (by omega) (by omega) h2'
      refine go_aload_n (i := 0) dlaw_27 rfl rfl trivial ?_
      refine go_iload_n (i := 3) dlaw_28 rfl rfl ?_
      refine go_scld' i dlaw_29 rfl (by omega) ?_
      refine go_bipush dlaw_30 (inR_of _ rfl) rfl ?_
      refine go_iand dlaw_32 ?_
      refine tabC dlaw_33 1502 rfl (fun _ => go_room (by omega) (by omega) (next N F m hS)) (fun n hn1 hn2 => ?_)
      match n, hn1 with
      | 0, _ => exact ⟨_, rfl, 216, rfl, lc_goose hS hi hL hX hd next⟩
      | 1, _ => exact ⟨_, rfl, 269, rfl, lc_told hS hi hL hX hd next⟩
      | 2, _ => exact ⟨_, rfl, 302, rfl, lc_as hS hi hL hX hd next⟩
      | 3, _ => exact ⟨_, rfl, 335, rfl, lc_turns hS hi hL hX hd next⟩
      | 4, _ => exact ⟨_, rfl, 368, rfl, lc_set hS hi hL hX hd next⟩
      | 5, _ => exact ⟨_, rfl, 411, rfl, lc_needs hS hi hL hX hd next⟩
      | 6, _ => exact ⟨_, rfl, 444, rfl, lc_yardOf hS hi hL hX hd next⟩
      | 7, _ => exact ⟨_, rfl, 477, rfl, lc_rule hS hi hL hX hd next⟩
      | 8, _ => exact ⟨_, rfl, 510, rfl, lc_deal hS hi hL hX hd next⟩
      | 9, _ => exact ⟨_, rfl, 533, rfl, lc_seed hS hi hL hX hd next⟩
      | 10, _ => exact ⟨_, rfl, 556, rfl, lc_drive hS hi hL hX hd next⟩
      | 11, _ => exact ⟨_, rfl, 589, rfl, lc_strike hS hi hL hX hd next⟩
      | 12, _ => exact ⟨_, rfl, 612, rfl, lc_days hS hi hL hX hd next⟩
      | 13, _ => exact ⟨_, rfl, 635, rfl, lc_county hS hi hL hX hd next⟩
      | 14, _ => exact ⟨_, rfl, 658, rfl, lc_behind hS hi hL hX hd next⟩
      | 15, _ => exact ⟨_, rfl, 691, rfl, lc_holds hS hi hL hX hd next⟩
      | 16, _ => exact ⟨_, rfl, 714, rfl, lc_meets hS hi hL hX hd next⟩
      | 17, _ => exact ⟨_, rfl, 747, rfl, lc_place hS hi hL hX hd next⟩
      | 18, _ => exact ⟨_, rfl, 790, rfl, lc_becomes hS hi hL hX hd next⟩
      | 19, _ => exact ⟨_, rfl, 833, rfl, lc_eyes hS hi hL hX hd next⟩
      | 20, _ => exact ⟨_, rfl, 866, rfl, lc_like hS hi hL hX hd next⟩
      | 21, _ => exact ⟨_, rfl, 899, rfl, lc_fee hS hi hL hX hd next⟩
      | 22, _ => exact ⟨_, rfl, 912, rfl, lc_fine hS hi hL hX hd next⟩
      | 23, _ => exact ⟨_, rfl, 935, rfl, lc_feed hS hi hL hX hd next⟩
      | 24, _ => exact ⟨_, rfl, 978, rfl, lc_trim hS hi hL hX hd next⟩
      | 25, _ => exact ⟨_, rfl, 1001, rfl, lc_text hS hi hL hX hd next⟩
      | 26, _ => exact ⟨_, rfl, 1014, rfl, lc_textTold hS hi hL hX hd next⟩
      | 27, _ => exact ⟨_, rfl, 1047, rfl, lc_why hS hi hL hX hd next⟩
      | 28, _ => exact ⟨_, rfl, 1070, rfl, lc_sheet hS hi hL hX hd next⟩
      | 29, _ => exact ⟨_, rfl, 1113, rfl, lc_mark hS hi hL hX hd next⟩
      | 30, _ => exact ⟨_, rfl, 1156, rfl, lc_pour hS hi hL hX hd next⟩
      | 31, _ => exact ⟨_, rfl, 1179, rfl, lc_reads hS hi hL hX hd next⟩
      | 32, _ => exact ⟨_, rfl, 1202, rfl, lc_copy hS hi hL hX hd next⟩
      | 33, _ => exact ⟨_, rfl, 1265, rfl, lc_lay hS hi hL hX hd next⟩
      | 34, _ => exact ⟨_, rfl, 1308, rfl, lc_ask hS hi hL hX hd next⟩
      | 35, _ => exact ⟨_, rfl, 1341, rfl, lc_item hS hi hL hX hd next⟩
      | 36, _ => exact ⟨_, rfl, 1374, rfl, lc_rest hS hi hL hX hd next⟩
      | 37, _ => exact ⟨_, rfl, 1407, rfl, lc_tell hS hi hL hX hd next⟩
      | 38, _ => exact ⟨_, rfl, 1430, rfl, lc_check hS hi hL hX hd next⟩
      | 39, _ => exact ⟨_, rfl, 1453, rfl, lc_keep hS hi hL hX hd next⟩
      | 40, _ => exact ⟨_, rfl, 1466, rfl, lc_back hS hi hL hX hd next⟩
      | 41, _ => exact ⟨_, rfl, 1479, rfl, lc_count hS hi hL hX hd next⟩
      | n + 42, hn1 => omega
end LAWL
