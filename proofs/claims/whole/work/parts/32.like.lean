section MLIKE
variable {g : GX} {N r : Nat} {F F1 : Nat → GC} {m m1 : Nat → Nat → Int}
theorem ct_isSheet (v : Int) : CT g yM_isSheet 1 0 0 [gI v] (N, F) (RV (zin v 0 3) (N, F)) := by
  have h := zin01 (v := v) (lo := 0) (hi := 3)
  refine CT.of' (L0 := [gI v]) plM (Nat.le_of_ble_eq_true rfl) rfl ?_
  refine go_iload_n (i := 0) dM_isSheet_0 rfl rfl ?_
  refine go_i2l dM_isSheet_1 ?_
  refine go_lconst (x := 0) dM_isSheet_2 (inL_of2 _ rfl) rfl ?_
  refine go_ldc2 dM_isSheet_3 kcM325 (inL_of2 _ rfl) ?_
  refine go_SP dM_isSheet_6 vkM65 (ct_in _ _ _) rfl (by omega) rfl (fun _ => Nat.le_of_ble_eq_true rfl) ?_
  refine go_iret dM_isSheet_9 rfl (zb (by omega)) ?_
  exact ⟨rfl, rfl⟩
def zstp (saw told : Int) : Int := if told = NONE then 0 else if w32 (saw - told) < 0 then w32 (0 - w32 (saw - told)) else w32 (saw - told)
/-- how far goose i is apart from the numbers told, after d days -/
def zap (s nums : Nat → Int) (i : Nat) : Nat → Int
  | 0 => 0
  | d + 1 => w32 (zap s nums i d + zstp (zk (zdays s d) i 4) (nums d))
def zlk (s nums : Nat → Int) (n : Nat) : Nat := zbest (fun i => - zap s nums i n) (zmany s)
def v_likeN (s nums : Nat → Int) (n w : Int) : Int := if s 0 = 0 then NONE else if w = 0 then ((zlk s nums n.toNat : Nat) : Int) else zap s nums (zlk s nums n.toNat) n.toNat
def v_like (m : Nat → Nat → Int) (k w : Int) : Int := if (0 ≤ k ∧ k ≤ 3) ∧ 0 ≤ w ∧ w ≤ 1 then (if m 9 k.toNat < 0 then -1000000011 else v_likeN (m 0) (fun d => m 11 (24 * k.toNat + d)) (m 10 k.toNat) w) else BAD
theorem bM_like (hM : MOD F r m) (hw : zW (m 0)) (hT : zT (m 0)) (hd : m 0 6 ≤ 9999) (hz : ∀ k : Nat, k < 9 → 0 ≤ m 10 k ∧ m 10 k ≤ 24) {k w : Int} : CT g yM_like 12 0 0 [gR r, gI k, gI w] (N, F) (MB N r F (gI (v_like m k w)) m) := by
  have ho := hM.1
  have a0 := hM.a0
  have a9 := hM.a9
  have hn0 := hw.1.1
  have hn1 := hw.1.2.1
  have hm := zmany_le hw
  have t17 : ¬ ((0 ≤ k ∧ k ≤ 3) ∧ 0 ≤ w ∧ w ≤ 1) → Go g yM_like 12 0 0 17 [gR r, gI k, gI w, gU, gU, gU, gU] [] (N, F) (MB N r F (gI (v_like m k w)) m) := by
    intro hc
    refine go_ldc dM_like_17 kcM96 (inR_of _ rfl) ?_
    refine go_iret dM_like_19 rfl rfl ?_
    exact MB.same hM (by unfold v_like; rw [if_neg hc])
  refine CT.of' (L0 := [gR r, gI k, gI w, gU, gU, gU, gU]) plM (Nat.le_of_ble_eq_true rfl) rfl ?_
  refine go_iload_n (i := 1) dM_like_0 rfl rfl ?_
  refine go_SP dM_like_1 vkM215 (ct_isSheet k) rfl (by omega) rfl (fun _ => Nat.le_of_ble_eq_true rfl) ?_
  refine go_if_eq 17 dM_like_4 rfl (fun h4 => ?_) (fun h4 => ?_)
  · exact t17 (by grind [zin])
  · refine go_iload_n (i := 2) dM_like_7 rfl rfl ?_
    refine go_i2l dM_like_8 ?_
    refine go_lconst (x := 0) dM_like_9 (inL_of2 _ rfl) rfl ?_
    refine go_lconst (x := 1) dM_like_10 (inL_of2 _ rfl) rfl ?_
    refine go_SP dM_like_11 vkM65 (ct_in _ _ _) rfl (by omega) rfl (fun _ => Nat.le_of_ble_eq_true rfl) ?_
    refine go_if_ne 20 dM_like_14 rfl (fun h14 => ?_) (fun h14 => ?_)
    · have hc : (0 ≤ k ∧ k ≤ 3) ∧ 0 ≤ w ∧ w ≤ 1 := by grind [zin]
      refine go_aload_n (i := 0) dM_like_20 rfl rfl trivial ?_
      refine go_getf dM_like_21 flM37 (by assumption) rfl ?_
      refine go_iload_n (i := 1) dM_like_24 rfl rfl ?_
      refine go_iald' k.toNat _ dM_like_25 hM.a9 (by omega) (by omega) rfl ?_
      refine go_if_ge 32 dM_like_26 rfl (fun h26 => ?_) (fun h26 => ?_)
      · have hv : v_like m k w = v_likeN (m 0) (fun d => m 11 (24 * k.toNat + d)) (m 10 k.toNat) w := by unfold v_like; rw [if_pos hc, if_neg (by omega)]
        rw [hv]
        have hk9 := hz k.toNat (by omega)
        generalize hsz : (m 10 k.toNat).toNat = sz
        have esz : m 10 k.toNat = (sz : Int) := by omega
        rw [esz]
        generalize hnums : (fun d => m 11 (24 * k.toNat + d)) = nums
        have hnum : ∀ d, m 11 (24 * k.toNat + d) = nums d := fun d => by rw [← hnums]
        have eD : ∀ d : Nat, d ≤ 24 → zW (zdays (m 0) d) ∧ zT (zdays (m 0) d) ∧ zdays (m 0) d 6 = m 0 6 + d ∧ zdays (m 0) d 0 = m 0 0 ∧ ∀ j : Nat, 64 ≤ j → zdays (m 0) d j = m 0 j := by
          intro d hd2
          obtain ⟨W, kk, l⟩ := zdays_W hw d (by omega)
          exact ⟨W, zT_keep hT kk.2.2.2.2.2, l, kk.1, kk.2.2.2.2.2⟩
        -- the last part
        have fin : ∀ (b : Nat) (x4 x5 x6 : GV) (F1 : Nat → GC) (m1 : Nat → Nat → Int), MOD F1 r m1 → FR r F F1 → m1 0 = m 0 → SB [0, 2, 4, 5, 6] m m1 → b = zlk (m 0) nums sz → (∀ i : Nat, i < zmany (m 0) → m1 6 i = zap (m 0) nums i sz) → Go g yM_like 12 0 0 212 [gR r, gI k, gI w, gI b, x4, x5, x6] [] (N, F1) (MB N r F (gI (v_likeN (m 0) nums sz w)) m) := by
          intro b x4 x5 x6 F1 m1 hM1 hF1 e1 hS1 hb h6
          have ho := hM1.1
          have a0 := hM1.a0
          have ok : ∀ v : Int, v = v_likeN (m 0) nums sz w → MB N r F (gI (v_likeN (m 0) nums sz w)) m (gI v) (N, F1) := fun v hv => ⟨by rw [hv], F1, m1, rfl, hM1, hF1, EQ.sb0 e1 hS1 (by simp)⟩
          refine go_aload_n (i := 0) dM_like_212 rfl rfl trivial ?_
          refine go_getf dM_like_213 flM7 (by assumption) rfl ?_
          refine go_iconst dM_like_216 (inR_of _ rfl) ?_
          refine go_iald' 0 _ dM_like_217 (by assumption) rfl (by omega) rfl ?_
          refine go_if_ne 226 dM_like_218 rfl (fun h218 => ?_) (fun h218 => ?_)
          · rw [e1] at h218
            refine go_iload_n (i := 2) dM_like_226 rfl rfl ?_
            refine go_if_ne 234 dM_like_227 rfl (fun h227 => ?_) (fun h227 => ?_)
            · have hbl := zbest_lt (fun i => - zap (m 0) nums i sz) (zmany (m 0))
              have hbb : b < zmany (m 0) := by
                rw [hb]
                unfold zlk
                omega
              refine go_aload_n (i := 0) dM_like_234 rfl rfl trivial ?_
              refine go_getf dM_like_235 flM28 (by assumption) rfl ?_
              refine go_iload_n (i := 3) dM_like_238 rfl rfl ?_
              refine go_iald' b _ dM_like_239 hM1.a6 rfl (by omega) rfl ?_
              refine go_iret dM_like_240 rfl rfl ?_
              exact ok _ (by unfold v_likeN; rw [if_neg h218, if_neg h227, h6 b hbb, hb]; rfl)
            · refine go_iload_n (i := 3) dM_like_230 rfl rfl ?_
              refine go_goto 240 dM_like_231 rfl ?_
              refine go_iret dM_like_240 rfl rfl ?_
              exact ok _ (by unfold v_likeN; rw [if_neg h218, if_pos h227, hb]; rfl)
          · rw [e1] at h218
            refine go_ldc dM_like_221 kcM169 (inR_of _ rfl) ?_
            refine go_goto 240 dM_like_223 rfl ?_
            refine go_iret dM_like_240 rfl rfl ?_
            exact ok _ (by unfold v_likeN; rw [if_pos h218])
        have best : ∀ (j i : Nat), (i + j = zmany (m 0) ∨ (j = 0 ∧ zmany (m 0) = 0 ∧ i = 1)) → 1 ≤ i → ∀ (x5 x6 : GV) (F1 : Nat → GC) (m1 : Nat → Nat → Int), MOD F1 r m1 → FR r F F1 → m1 0 = m 0 → SB [0, 2, 4, 5, 6] m m1 → (∀ i : Nat, i < zmany (m 0) → m1 6 i = zap (m 0) nums i sz) → Go g yM_like 12 0 0 172 [gR r, gI k, gI w, gI ((zbest (fun i => - zap (m 0) nums i sz) i : Nat) : Int), gI i, x5, x6] [] (N, F1) (MB N r F (gI (v_likeN (m 0) nums sz w)) m) := by
          intro j
          induction j with
          | zero =>
            intro i hi h1 x5 x6 F1 m1 hM1 hF1 e1 hS1 h6
            have ho := hM1.1
            have a0 := hM1.a0
            refine go_iload dM_like_172 rfl ?_
            refine go_aload_n (i := 0) dM_like_174 rfl rfl trivial ?_
            refine go_getf dM_like_175 flM7 (by assumption) rfl ?_
            refine go_iconst dM_like_178 (inR_of _ rfl) ?_
            refine go_iald' 0 _ dM_like_179 (by assumption) rfl (by omega) rfl ?_
            rw [e1]
            refine go_ic_ge 212 dM_like_180 rfl (fun h180 => ?_) (fun h180 => absurd (by omega) h180)
            refine fin _ _ _ _ F1 m1 hM1 hF1 e1 hS1 ?_ h6
            unfold zlk
            rcases hi with hi | hi
            · rw [← hi]; rfl
            · rw [hi.2.1, hi.2.2]
              simp [zbest]
          | succ j ih =>
            intro i hi h1 x5 x6 F1 m1 hM1 hF1 e1 hS1 h6
            have ho := hM1.1
            have a0 := hM1.a0
            have hi : i + (j + 1) = zmany (m 0) := by omega
            have hbl := zbest_lt (fun i => - zap (m 0) nums i sz) i
            have hs : zbest (fun i => - zap (m 0) nums i sz) (i + 1) = if - zap (m 0) nums (zbest (fun i => - zap (m 0) nums i sz) i) sz < - zap (m 0) nums i sz then i else zbest (fun i => - zap (m 0) nums i sz) i := rfl
            generalize hb : zbest (fun i => - zap (m 0) nums i sz) i = b at hbl hs ⊢
            have q1 := h6 i (by omega)
            have q2 := h6 b (by omega)
            have t205 : ∀ (b' : Nat) (x3 : GV), b' = zbest (fun i => - zap (m 0) nums i sz) (i + 1) → Go g yM_like 12 0 0 205 [gR r, gI k, gI w, x3, gI i, x5, x6] [gI b'] (N, F1) (MB N r F (gI (v_likeN (m 0) nums sz w)) m) := by
              intro b' x3 hb'
              refine go_is3 dM_like_205 (Nat.le_of_ble_eq_true rfl) trivial ?_
              refine go_inc4 (((i + 1 : Nat) : Int)) dM_like_206 (Nat.le_of_ble_eq_true rfl) trivial (by (try simp (discharger := (unfold inR; omega)) only [w32_id]) <;> omega) ?_
              refine go_goto 172 dM_like_209 rfl ?_
              rw [hb']
              exact ih (i + 1) (by omega) (by omega) _ _ F1 m1 hM1 hF1 e1 hS1 h6
            refine go_iload dM_like_172 rfl ?_
            refine go_aload_n (i := 0) dM_like_174 rfl rfl trivial ?_
            refine go_getf dM_like_175 flM7 (by assumption) rfl ?_
            refine go_iconst dM_like_178 (inR_of _ rfl) ?_
            refine go_iald' 0 _ dM_like_179 (by assumption) rfl (by omega) rfl ?_
            rw [e1]
            refine go_ic_ge 212 dM_like_180 rfl (fun h180 => absurd h180 (by omega)) (fun h180 => ?_)
            refine go_aload_n (i := 0) dM_like_183 rfl rfl trivial ?_
            refine go_getf dM_like_184 flM28 (by assumption) rfl ?_
            refine go_iload dM_like_187 rfl ?_
            refine go_iald' i _ dM_like_189 hM1.a6 rfl (by omega) rfl ?_
            refine go_aload_n (i := 0) dM_like_190 rfl rfl trivial ?_
            refine go_getf dM_like_191 flM28 (by assumption) rfl ?_
            refine go_iload_n (i := 3) dM_like_194 rfl rfl ?_
            refine go_iald' b _ dM_like_195 hM1.a6 rfl (by omega) rfl ?_
            refine go_ic_ge 204 dM_like_196 rfl (fun h196 => ?_) (fun h196 => ?_)
            · refine go_iload_n (i := 3) dM_like_204 rfl rfl ?_
              exact t205 b _ (by rw [hs, if_neg (by omega)])
            · refine go_iload dM_like_199 rfl ?_
              refine go_goto 205 dM_like_201 rfl ?_
              exact t205 i _ (by rw [hs, if_pos (by omega)])
        have days : ∀ (j d : Nat), d + j = sz → ∀ (x4 x5 x6 : GV) (F1 : Nat → GC) (m1 : Nat → Nat → Int), MOD F1 r m1 → FR r F F1 → m1 0 = zdays (m 0) d → SB [0, 2, 4, 5, 6] m m1 → (∀ q, q < 64 → m1 2 q = m 0 q) → (∀ i : Nat, i < zmany (m 0) → m1 6 i = zap (m 0) nums i d) → Go g yM_like 12 0 0 63 [gR r, gI k, gI w, gI d, x4, x5, x6] [] (N, F1) (MB N r F (gI (v_likeN (m 0) nums sz w)) m) := by
          intro j
          induction j with
          | zero =>
            intro d hdj x4 x5 x6 F1 m1 hM1 hF1 e1 hS1 l1 h6
            have ho := hM1.1
            have e10 : m1 10 k.toNat = (sz : Int) := by rw [hS1 10 (by decide)]; exact esz
            have hdd : d = sz := by omega
            subst hdd
            refine go_iload_n (i := 3) dM_like_63 rfl rfl ?_
            refine go_aload_n (i := 0) dM_like_64 rfl rfl trivial ?_
            refine go_getf dM_like_65 flM40 (by assumption) rfl ?_
            refine go_iload_n (i := 1) dM_like_68 rfl rfl ?_
            refine go_iald' k.toNat _ dM_like_69 hM1.a10 (by omega) (by omega) e10 ?_
            refine go_ic_ge 163 dM_like_70 rfl (fun h70 => ?_) (fun h70 => absurd (by omega) h70)
            refine go_aload_n (i := 0) dM_like_163 rfl rfl trivial ?_
            refine go_iconst dM_like_164 (inR_of _ rfl) ?_
            refine go_VX dM_like_165 vkM160 (by assumption) (List.cons_ne_nil _ _) (qM_takesBack hM1 _) rfl (by omega) (by omega) (by omega) rfl (fun _ => Nat.le_of_ble_eq_true rfl) ?_
            rintro _ _ ⟨rfl, F2, m2, rfl, hM2, hF2, e2, hS2⟩ -
            dsimp only [rp]
            have e2' : m2 0 = m 0 := by rw [e2]; exact SA.back l1 e1 (eD d (by omega)).2.2.2.2
            refine go_is3 dM_like_168 (Nat.le_of_ble_eq_true rfl) trivial ?_
            refine go_iconst dM_like_169 (inR_of _ rfl) ?_
            refine go_is4 dM_like_170 (Nat.le_of_ble_eq_true rfl) trivial ?_
            have hb1 : zbest (fun i => - zap (m 0) nums i d) 1 = 0 := by simp [zbest]
            have := best (zmany (m 0) - 1) 1 (by omega) (by omega) x5 x6 F2 m2 hM2 (hF1.tr hF2) e2' (hS1.tr (hS2.mono (by simp))) (fun i hi => by rw [hS2 6 (by decide)]; exact h6 i hi)
            rw [hb1] at this
            exact this
          | succ j ih =>
            intro d hdj x4 x5 x6 F1 m1 hM1 hF1 e1 hS1 l1 h6
            have ho := hM1.1
            have e10 : m1 10 k.toNat = (sz : Int) := by rw [hS1 10 (by decide)]; exact esz
            have e11 : m1 11 (24 * k.toNat + d) = nums d := by rw [hS1 11 (by decide)]; exact hnum d
            obtain ⟨W1, T1, D1, Z1, -⟩ := eD d (by omega)
            have inner : ∀ (q i : Nat), i + q = zmany (m 0) → ∀ (x6 : GV) (F2 : Nat → GC) (m2 : Nat → Nat → Int), MOD F2 r m2 → FR r F F2 → m2 0 = zdays (m 0) d → SB [0, 2, 4, 5, 6] m m2 → (∀ q, q < 64 → m2 2 q = m 0 q) → (∀ x : Nat, x < zmany (m 0) → m2 6 x = zap (m 0) nums x (if x < i then d + 1 else d)) → Go g yM_like 12 0 0 89 [gR r, gI k, gI w, gI d, gI (nums d), gI i, x6] [] (N, F2) (MB N r F (gI (v_likeN (m 0) nums sz w)) m) := by
              intro q
              induction q with
              | zero =>
                intro i hi x6 F2 m2 hM2 hF2 e2 hS2 l2 h26
                have ho := hM2.1
                have a0 := hM2.a0
                refine go_iload dM_like_89 rfl ?_
                refine go_aload_n (i := 0) dM_like_91 rfl rfl trivial ?_
                refine go_getf dM_like_92 flM7 (by assumption) rfl ?_
                refine go_iconst dM_like_95 (inR_of _ rfl) ?_
                refine go_iald' 0 _ dM_like_96 (by assumption) rfl (by omega) rfl ?_
                rw [e2, Z1]
                refine go_ic_ge 153 dM_like_97 rfl (fun h97 => ?_) (fun h97 => absurd (by omega) h97)
                refine go_aload_n (i := 0) dM_like_153 rfl rfl trivial ?_
                refine go_VX dM_like_154 vkM177 (by assumption) (List.cons_ne_nil _ _) (qM_day hM2 (by rw [e2]; exact W1) (by rw [e2]; exact T1) (by rw [e2, D1]; omega)) rfl (by omega) (by omega) (by omega) rfl (fun _ => Nat.le_of_ble_eq_true rfl) ?_
                rintro _ _ ⟨rfl, F3, m3, rfl, hM3, hF3, e3, hS3⟩ -
                dsimp only [rp]
                refine go_inc3 (((d + 1 : Nat) : Int)) dM_like_157 (Nat.le_of_ble_eq_true rfl) trivial (by (try simp (discharger := (unfold inR; omega)) only [w32_id]) <;> omega) ?_
                refine go_goto 63 dM_like_160 rfl ?_
                refine ih (d + 1) (by omega) _ _ _ F3 m3 hM3 (hF2.tr hF3) (by rw [e3, e2]; rfl) (hS2.tr (hS3.mono (by simp))) (fun q hq => by rw [hS3 2 (by decide)]; exact l2 q hq) (fun x hx => ?_)
                rw [hS3 6 (by decide), h26 x hx, if_pos (by omega)]
              | succ q ihq =>
                intro i hi x6 F2 m2 hM2 hF2 e2 hS2 l2 h26
                have ho := hM2.1
                have a0 := hM2.a0
                have e6 : m2 6 i = zap (m 0) nums i d := by rw [h26 i (by omega), if_neg (by omega)]
                have t145 : ∀ v : Int, v = zstp (zk (zdays (m 0) d) i 4) (nums d) → Go g yM_like 12 0 0 145 [gR r, gI k, gI w, gI d, gI (nums d), gI i, gI (w32 (zk (zdays (m 0) d) i 4 - nums d))] [gI v, gI (zap (m 0) nums i d), gI i, gR (r + 7)] (N, F2) (MB N r F (gI (v_likeN (m 0) nums sz w)) m) := by
                  intro v hv
                  refine go_iadd dM_like_145 ?_
                  refine go_mst (i := 6) (k := i) hM2 (by omega) dM_like_146 rfl rfl (by show i < 10; omega) (fun F3 m3 hM3 hF3 e3 => ?_)
                  refine go_inc5 (((i + 1 : Nat) : Int)) dM_like_147 (Nat.le_of_ble_eq_true rfl) trivial (by (try simp (discharger := (unfold inR; omega)) only [w32_id]) <;> omega) ?_
                  refine go_goto 89 dM_like_150 rfl ?_
                  refine ihq (i + 1) (by omega) _ F3 m3 hM3 (hF2.tr hF3) (by rw [e3]; exact e2) (by rw [e3]; exact hS2.put (by simp)) (fun q hq => by rw [e3]; exact l2 q hq) (fun x hx => ?_)
                  rw [e3]
                  show va_up (m2 6) i _ x = _
                  by_cases ex : x = i
                  · subst ex
                    rw [va_up_self, if_pos (by omega), hv]
                    rfl
                  · rw [va_up_ne _ _ ex, h26 x hx]
                    by_cases c : x < i
                    · rw [if_pos c, if_pos (by omega)]
                    · rw [if_neg c, if_neg (by omega)]
                refine go_iload dM_like_89 rfl ?_
                refine go_aload_n (i := 0) dM_like_91 rfl rfl trivial ?_
                refine go_getf dM_like_92 flM7 (by assumption) rfl ?_
                refine go_iconst dM_like_95 (inR_of _ rfl) ?_
                refine go_iald' 0 _ dM_like_96 (by assumption) rfl (by omega) rfl ?_
                rw [e2, Z1]
                refine go_ic_ge 153 dM_like_97 rfl (fun h97 => absurd h97 (by omega)) (fun h97 => ?_)
                refine go_aload_n (i := 0) dM_like_100 rfl rfl trivial ?_
                refine go_iload dM_like_101 rfl ?_
                refine go_iconst dM_like_103 (inR_of _ rfl) ?_
                refine go_VP dM_like_104 vkM79 (by assumption) (List.cons_ne_nil _ _) (qM_its hM2 (by omega) (by omega) (by omega) (by omega)) rfl (by omega) rfl (fun _ => Nat.le_of_ble_eq_true rfl) ?_
                refine go_iload dM_like_107 rfl ?_
                rw [e2]
                refine go_isub dM_like_109 ?_
                refine go_is6 dM_like_110 (Nat.le_of_ble_eq_true rfl) trivial ?_
                refine go_aload_n (i := 0) dM_like_112 rfl rfl trivial ?_
                refine go_getf dM_like_113 flM28 (by assumption) rfl ?_
                refine go_iload dM_like_116 rfl ?_
                refine go_dup2 dM_like_118 trivial trivial ?_
                refine go_iald' i (zap (m 0) nums i d) dM_like_119 hM2.a6 rfl (by omega) e6 ?_
                refine go_iload dM_like_120 rfl ?_
                refine go_ldc dM_like_122 kcM169 (inR_of _ rfl) ?_
                refine go_ic_ne 131 dM_like_124 rfl (fun h124 => ?_) (fun h124 => ?_)
                · refine go_iload dM_like_131 rfl ?_
                  refine go_if_ge 143 dM_like_133 rfl (fun h133 => ?_) (fun h133 => ?_)
                  · refine go_iload dM_like_143 rfl ?_
                    exact t145 _ (by unfold zstp; rw [if_neg h124, if_neg (by omega)])
                  · refine go_iconst dM_like_136 (inR_of _ rfl) ?_
                    refine go_iload dM_like_137 rfl ?_
                    refine go_isub dM_like_139 ?_
                    refine go_goto 145 dM_like_140 rfl ?_
                    exact t145 _ (by unfold zstp; rw [if_neg h124, if_pos (by omega)])
                · refine go_iconst dM_like_127 (inR_of _ rfl) ?_
                  refine go_goto 145 dM_like_128 rfl ?_
                  exact t145 _ (by unfold zstp; rw [if_pos h124])
            refine go_iload_n (i := 3) dM_like_63 rfl rfl ?_
            refine go_aload_n (i := 0) dM_like_64 rfl rfl trivial ?_
            refine go_getf dM_like_65 flM40 (by assumption) rfl ?_
            refine go_iload_n (i := 1) dM_like_68 rfl rfl ?_
            refine go_iald' k.toNat _ dM_like_69 hM1.a10 (by omega) (by omega) e10 ?_
            refine go_ic_ge 163 dM_like_70 rfl (fun h70 => absurd h70 (by omega)) (fun h70 => ?_)
            refine go_aload_n (i := 0) dM_like_73 rfl rfl trivial ?_
            refine go_getf dM_like_74 flM43 (by assumption) rfl ?_
            refine go_bipush dM_like_77 (inR_of _ rfl) rfl ?_
            refine go_iload_n (i := 1) dM_like_79 rfl rfl ?_
            refine go_imul dM_like_80 ?_
            refine go_iload_n (i := 3) dM_like_81 rfl rfl ?_
            refine go_iadd dM_like_82 ?_
            refine go_iald' (24 * k.toNat + d) (nums d) dM_like_83 hM1.a11 ?_ (by omega) e11 ?_
            · (try simp (discharger := (unfold inR; omega)) only [w32_id]) <;> omega
            refine go_is4 dM_like_84 (Nat.le_of_ble_eq_true rfl) trivial ?_
            refine go_iconst dM_like_86 (inR_of _ rfl) ?_
            refine go_is5 dM_like_87 (Nat.le_of_ble_eq_true rfl) trivial ?_
            exact inner (zmany (m 0)) 0 (by omega) _ F1 m1 hM1 hF1 e1 hS1 l1 (fun x hx => by rw [if_neg (by omega)]; exact h6 x hx)
        have zero : ∀ (j i : Nat), i + j = zmany (m 0) → ∀ (F1 : Nat → GC) (m1 : Nat → Nat → Int), MOD F1 r m1 → FR r F F1 → m1 0 = m 0 → SB [0, 2, 4, 5, 6] m m1 → (∀ q, q < 64 → m1 2 q = m 0 q) → (∀ x : Nat, x < i → m1 6 x = 0) → Go g yM_like 12 0 0 38 [gR r, gI k, gI w, gI i, gU, gU, gU] [] (N, F1) (MB N r F (gI (v_likeN (m 0) nums sz w)) m) := by
          intro j
          induction j with
          | zero =>
            intro i hi F1 m1 hM1 hF1 e1 hS1 l1 h6
            have ho := hM1.1
            have a0 := hM1.a0
            refine go_iload_n (i := 3) dM_like_38 rfl rfl ?_
            refine go_aload_n (i := 0) dM_like_39 rfl rfl trivial ?_
            refine go_getf dM_like_40 flM7 (by assumption) rfl ?_
            refine go_iconst dM_like_43 (inR_of _ rfl) ?_
            refine go_iald' 0 _ dM_like_44 (by assumption) rfl (by omega) rfl ?_
            rw [e1]
            refine go_ic_ge 61 dM_like_45 rfl (fun h45 => ?_) (fun h45 => absurd (by omega) h45)
            refine go_iconst dM_like_61 (inR_of _ rfl) ?_
            refine go_is3 dM_like_62 (Nat.le_of_ble_eq_true rfl) trivial ?_
            exact days sz 0 (by omega) _ _ _ F1 m1 hM1 hF1 e1 hS1 l1 (fun x hx => h6 x (by omega))
          | succ j ih =>
            intro i hi F1 m1 hM1 hF1 e1 hS1 l1 h6
            have ho := hM1.1
            have a0 := hM1.a0
            refine go_iload_n (i := 3) dM_like_38 rfl rfl ?_
            refine go_aload_n (i := 0) dM_like_39 rfl rfl trivial ?_
            refine go_getf dM_like_40 flM7 (by assumption) rfl ?_
            refine go_iconst dM_like_43 (inR_of _ rfl) ?_
            refine go_iald' 0 _ dM_like_44 (by assumption) rfl (by omega) rfl ?_
            rw [e1]
            refine go_ic_ge 61 dM_like_45 rfl (fun h45 => absurd h45 (by omega)) (fun h45 => ?_)
            refine go_aload_n (i := 0) dM_like_48 rfl rfl trivial ?_
            refine go_getf dM_like_49 flM28 (by assumption) rfl ?_
            refine go_iload_n (i := 3) dM_like_52 rfl rfl ?_
            refine go_iconst dM_like_53 (inR_of _ rfl) ?_
            refine go_mst (i := 6) (k := i) hM1 (by omega) dM_like_54 rfl rfl (by show i < 10; omega) (fun F3 m3 hM3 hF3 e3 => ?_)
            refine go_inc3 (((i + 1 : Nat) : Int)) dM_like_55 (Nat.le_of_ble_eq_true rfl) trivial (by (try simp (discharger := (unfold inR; omega)) only [w32_id]) <;> omega) ?_
            refine go_goto 38 dM_like_58 rfl ?_
            refine ih (i + 1) (by omega) F3 m3 hM3 (hF1.tr hF3) (by rw [e3]; exact e1) (by rw [e3]; exact hS1.put (by simp)) (fun q hq => by rw [e3]; exact l1 q hq) (fun x hx => ?_)
            rw [e3]
            show va_up (m1 6) i _ x = _
            by_cases ex : x = i
            · subst ex; rw [va_up_self]
            · rw [va_up_ne _ _ ex]; exact h6 x (by omega)
        refine go_aload_n (i := 0) dM_like_32 rfl rfl trivial ?_
        refine go_VX dM_like_33 vkM157 (by assumption) (List.cons_ne_nil _ _) (qM_laysAside hM) rfl (by omega) (by omega) (by omega) rfl (fun _ => Nat.le_of_ble_eq_true rfl) ?_
        rintro _ _ ⟨rfl, F2, m2, rfl, hM2, hF2, l2, hS2⟩ -
        dsimp only [rp]
        refine go_iconst dM_like_36 (inR_of _ rfl) ?_
        refine go_is3 dM_like_37 (Nat.le_of_ble_eq_true rfl) trivial ?_
        exact zero (zmany (m 0)) 0 (by omega) F2 m2 hM2 hF2 (hS2 0 (by decide)) (hS2.mono (by simp)) l2 (fun x hx => by omega)
      · refine go_ldc dM_like_29 kcM218 (inR_of _ rfl) ?_
        refine go_iret dM_like_31 rfl rfl ?_
        exact MB.same hM (by unfold v_like; rw [if_pos hc, if_pos (by omega)])
    · exact t17 (by grind [zin])
end MLIKE
