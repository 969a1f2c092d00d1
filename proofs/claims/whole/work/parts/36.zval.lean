/-! ===== what the parser writes can be worked out ===== -/
def zsd (c : Int) (d : Nat) : Nat := if -10 < c then d + 1 else if c = -43 then d else d - 1
def zdl : Nat → List Int → Nat
  | d, [] => d
  | d, c :: l => zdl (zsd c d) l
def zokc (b : Int) (d : Nat) (c : Int) : Prop := -200 ≤ c ∧ (c < 0 → -10 < c → -1 - c < b) ∧ (c = -43 → 1 ≤ d) ∧ (c ≤ -10 → c ≠ -43 → 2 ≤ d)
def zvl (b : Int) : Nat → List Int → Prop
  | _, [] => True
  | d, c :: l => zokc b d c ∧ zvl b (zsd c d) l
theorem zdl_app (c : Int) : ∀ (l : List Int) (d : Nat), zdl d (l ++ [c]) = zsd c (zdl d l)
  | [], d => rfl
  | x :: l, d => zdl_app c l (zsd x d)
theorem zvl_app (b c : Int) : ∀ (l : List Int) (d : Nat), zvl b d l → zokc b (zdl d l) c → zvl b d (l ++ [c])
  | [], d, _, h => ⟨h, trivial⟩
  | x :: l, d, h1, h2 => ⟨h1.1, zvl_app b c l (zsd x d) h1.2 h2⟩
def ZR.wd (R : ZR) (B : Nat → Int) : Prop := (R.so = 2 → ∀ j : Nat, R.fr ≤ j → j < R.to → zs0 (B j) = 2)
theorem ZR.nx_wd (R : ZR) (B : Nat → Int) (n : Nat) : (R.nx B n).wd B := by
  intro h j h1 h2
  have e0 : (R.nx B n).fr = zfr B n R.to := rfl
  have e1 : (R.nx B n).to = zto B n (zfr B n R.to) := rfl
  have e2 : (R.nx B n).so = zso B R.to R.so (zfr B n R.to) := rfl
  rw [e0] at h1
  rw [e1] at h2
  rw [e2] at h
  have hs : zs0 (B (zfr B n R.to)) = 2 := by
    unfold zso at h
    split at h
    · omega
    · exact h
  by_cases e : j = zfr B n R.to
  · rw [e]; exact hs
  · unfold zto at h2
    split at h2
    · omega
    · have := zsc_all _ _ _ j (by omega) h2
      unfold zmor at this
      have := of_decide_eq_true this
      omega
theorem zpar_wd {B : Nat → Int} {n : Nat} (key : Nat) : ∀ (f q o t : Nat) (R : ZR), R.wd B → (zpar B n key f q o t R).wd B := by
  intro f
  induction f with
  | zero => intro q o t R h; exact h
  | succ f ih =>
    intro q o t R h
    have hn := ZR.nx_wd R B n
    unfold zpar
    split
    · split
      · exact ih _ _ _ _ (ih _ _ _ _ h)
      · exact ih _ _ _ _ h
    · split
      · split
        · split
          · exact ZR.nx_wd _ B n
          · exact h
        · split
          · split
            · exact ZR.nx_wd _ B n
            · exact h
          · split
            · split
              · exact h
              · exact ih 5 o (t + 1) _ hn
            · split
              · split
                · exact h
                · split
                  · exact ZR.nx_wd _ B n
                  · exact ih 0 (o + 1) t _ hn
              · exact h
      · split
        · split
          · refine ih _ _ _ _ ?_
            exact ih (q - 5) o t _ hn
          · exact ih (q - 5) o t _ hn
        · exact h
theorem zs0_2 {c : Int} (h : zs0 c = 2) : 48 ≤ c ∧ c ≤ 57 := by unfold zs0 at h; grind
theorem znum_in {B : Nat → Int} {fr : Nat} : ∀ k : Nat, k ≤ 4 → (∀ j, j < k → 48 ≤ B (fr + j) ∧ B (fr + j) ≤ 57) → 0 ≤ znum B fr k ∧ znum B fr k < 10 ^ k
  | 0, _, _ => by simp [znum]
  | k + 1, hk, h => by
    have h1 := znum_in k (by omega) (fun j hj => h j (by omega))
    have h2 := h k (by omega)
    show 0 ≤ 10 * znum B fr k + B (fr + k) - 48 ∧ 10 * znum B fr k + B (fr + k) - 48 < 10 ^ (k + 1)
    rw [Int.pow_succ]
    omega
theorem znum_4 {B : Nat → Int} {R : ZR} (hd : R.wd B) (h2 : R.so = 2) {k : Nat} (hk : R.fr + k ≤ R.to) (h4 : k ≤ 4) : 0 ≤ znum B R.fr k ∧ znum B R.fr k ≤ 9999 := by
  have h := znum_in (B := B) (fr := R.fr) k h4 (fun j hj => zs0_2 (hd h2 _ (by omega) (by omega)))
  have hp : (10 : Int) ^ k ≤ 10000 := by
    match k, h4 with
    | 0, _ => decide
    | 1, _ => decide
    | 2, _ => decide
    | 3, _ => decide
    | 4, _ => decide
    | k + 5, h => omega
  omega
theorem znameI_in {key : Nat} {c : Int} (h : 0 ≤ znameI key c) : znameI key c < (if key = 0 then 4 else 2) := by unfold znameI at h ⊢; grind
theorem zpar_val {B : Nat → Int} {n : Nat} (hB : BYT B n) (key : Nat) : ∀ (f q o t : Nat) (R : ZR) (e : Nat), R.wf n → R.wd B → R.ok = true → zvl (if key = 0 then 4 else 2) 0 R.out → zdl 0 R.out = (if q ≤ 5 then e else e + 1) → q ≤ 10 → (zpar B n key f q o t R).ok = true → zvl (if key = 0 then 4 else 2) 0 (zpar B n key f q o t R).out ∧ zdl 0 (zpar B n key f q o t R).out = e + 1 := by
  intro f
  induction f with
  | zero =>
    intro q o t R e hw hd hk hv hz hq h
    unfold zpar at h
    simp [ZR.bad, ZR.ok] at h
  | succ f ih =>
    intro q o t R e hw hd hk hv hz hq
    have hn := ZR.nx_wd R B n
    obtain ⟨hnw, hnf⟩ := ZR.nx_wf hB hw
    have hnk : (R.nx B n).ok = true := hk
    have nb : R.bad.ok = true → False := fun h => by simp [ZR.bad, ZR.ok] at h
    unfold zpar
    split
    · rename_i cq
      rw [if_pos (by omega)] at hz
      split
      · rename_i c
        intro h
        have g1 := zpar_go hB key f (q + 1) o t R hw hk
        obtain ⟨v1, d1⟩ := ih (q + 1) o t R e hw hd hk hv (by rw [if_pos (by omega)]; exact hz) (by omega) c
        exact ih (q + 6) o t _ e g1.1 (zpar_wd key f _ o t R hd) c v1 (by rw [if_neg (by omega)]; exact d1) (by omega) h
      · rename_i c
        intro h
        exact absurd h c
    · rename_i cq
      split
      · rename_i c5
        rw [if_pos (by omega)] at hz
        have op : ∀ c : Int, zokc (if key = 0 then 4 else 2) e c → -10 < c → zvl (if key = 0 then 4 else 2) 0 (R.out ++ [c]) ∧ zdl 0 (R.out ++ [c]) = e + 1 := by
          intro c h1 h2
          refine ⟨zvl_app _ _ _ _ hv (by rw [hz]; exact h1), ?_⟩
          rw [zdl_app, hz]
          unfold zsd
          rw [if_pos h2]
        split
        · rename_i c2
          split
          · rename_i c4
            intro _
            have := znum_4 hd c2 (k := R.to - R.fr) (by have := hw.1; omega) c4
            exact op _ (by unfold zokc; omega) (by omega)
          · exact fun h => (nb h).elim
        · split
          · split
            · rename_i c3
              intro _
              have := znameI_in c3.2
              refine op _ ?_ ?_
              · unfold zokc; refine ⟨?_, ?_, ?_, ?_⟩ <;> grind
              · grind
            · exact fun h => (nb h).elim
          · split
            · rename_i c3
              split
              · exact fun h => (nb h).elim
              · intro h
                obtain ⟨v1, d1⟩ := ih 5 o (t + 1) _ e hnw hn hnk hv (by rw [if_pos (by omega)]; exact hz) (by omega) h
                refine ⟨zvl_app _ _ _ _ v1 (by rw [d1]; unfold zokc; omega), ?_⟩
                show zdl 0 (_ ++ [_]) = _
                rw [zdl_app, d1]
                rfl
            · split
              · split
                · exact fun h => (nb h).elim
                · split
                  · rename_i c6
                    intro _
                    exact ih 0 (o + 1) t _ e hnw hn hnk hv (by rw [if_pos (by omega)]; exact hz) (by omega) c6.1
                  · intro h
                    simp [ZR.bad, ZR.ok] at h
              · exact fun h => (nb h).elim
      · rename_i c5
        rw [if_neg (by omega)] at hz
        split
        · rename_i c6
          have hop : -140 ≤ -10 - B R.fr ∧ -10 - B R.fr ≤ -48 := by
            have := c6.2
            unfold zopd at this
            grind
          have key1 : (zpar B n key f (q - 5) o t (R.nx B n)).ok = true → zvl (if key = 0 then 4 else 2) 0 ((zpar B n key f (q - 5) o t (R.nx B n)).put (-10 - B R.fr)).out ∧ zdl 0 ((zpar B n key f (q - 5) o t (R.nx B n)).put (-10 - B R.fr)).out = e + 1 := by
            intro c
            obtain ⟨v1, d1⟩ := ih (q - 5) o t _ (e + 1) hnw hn hnk hv (by rw [if_pos (by omega)]; exact hz) (by omega) c
            refine ⟨zvl_app _ _ _ _ v1 (by rw [d1]; unfold zokc; omega), ?_⟩
            show zdl 0 (_ ++ [_]) = _
            rw [zdl_app, d1]
            unfold zsd
            rw [if_neg (by omega), if_neg (by omega)]
            rfl
          split
          · rename_i c7
            intro h
            obtain ⟨v1, d1⟩ := key1 c7.1
            have g1 := zpar_go hB key f (q - 5) o t _ hnw hnk
            exact ih q o t _ e g1.1 (zpar_wd key f (q - 5) o t _ hn) c7.1 v1 (by rw [if_neg (by omega)]; exact d1) hq h
          · intro h
            exact key1 h
        · intro _
          exact ⟨hv, hz⟩
theorem zdl_dep {code : Nat → Int} : ∀ (l : List Int) (i : Nat), (∀ k : Nat, k < l.length → code (i + k) = l.getD k 0) → zdep code (i + l.length) = zdl (zdep code i) l
  | [], i, _ => rfl
  | c :: l, i, h => by
    have h0 : code i = c := h 0 (by simp)
    have h1 := zdl_dep (code := code) l (i + 1) (fun k hk => by
      have := h (k + 1) (by simp; omega)
      rw [show i + 1 + k = i + (k + 1) by omega, this]
      rfl)
    have hs : zdep code (i + 1) = zsd c (zdep code i) := by
      show _ = _
      rw [← h0]
      unfold zsd
      rw [zdep]
    rw [hs] at h1
    rw [show i + (c :: l).length = i + 1 + l.length by simp; omega]
    exact h1
theorem zvl_wf {code : Nat → Int} {b : Nat} {l : List Int} (hc : ∀ k : Nat, k < l.length → code k = l.getD k 0) (hv : zvl b 0 l) (hd : zdl 0 l = 1) : zwf code l.length b := by
  have key : ∀ (l : List Int) (i : Nat), (∀ k : Nat, k < l.length → code (i + k) = l.getD k 0) → zvl b (zdep code i) l → ∀ k, k < l.length → zokc b (zdep code (i + k)) (code (i + k)) := by
    intro l
    induction l with
    | nil => intro i _ _ k hk; simp at hk
    | cons c l ih =>
      intro i h hv k hk
      have h0 : code i = c := h 0 (by simp)
      match k, hk with
      | 0, _ => rw [Nat.add_zero, h0]; exact hv.1
      | k + 1, hk =>
        have hs : zdep code (i + 1) = zsd c (zdep code i) := by
          rw [← h0]
          unfold zsd
          rw [zdep]
        have := ih (i + 1) (fun k hk => by
          have := h (k + 1) (by simp; omega)
          rw [show i + 1 + k = i + (k + 1) by omega, this]
          rfl) (by rw [hs]; exact hv.2) k (by simp at hk; omega)
        rw [show i + (k + 1) = i + 1 + k by omega]
        exact this
  refine ⟨?_, fun k hk => ?_⟩
  · have := zdl_dep (code := code) l 0 (fun k hk => by rw [Nat.zero_add]; exact hc k hk)
    rw [Nat.zero_add] at this
    rw [this]
    exact hd
  · have := key l 0 (fun k hk => by rw [Nat.zero_add]; exact hc k hk) hv k hk
    rw [Nat.zero_add] at this
    exact this
