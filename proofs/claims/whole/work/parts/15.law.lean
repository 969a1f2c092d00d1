/-! ===== words of a law, worked out from a list ===== -/
def ztwo (g a b : Int) : Int := if g = 124 then (if a ≠ 0 ∨ b ≠ 0 then 1 else 0) else if g = 38 then (if a ≠ 0 ∧ b ≠ 0 then 1 else 0) else if g = 60 then (if a < b then 1 else 0) else if g = 61 then (if a = b then 1 else 0) else if g = 62 then (if b < a then 1 else 0) else if g = 43 then w32 (a + b) else if g = 45 then w32 (a - b) else if g = 42 then w32 (a * b) else if b = 0 then 0 else w32 (a.tdiv b)
def zst (nm : Nat → Int) (c : Int) (st : List Int) : List Int := if 0 ≤ c then c :: st else if -10 < c then nm (-1 - c).toNat :: st else if c = -43 then (match st with | a :: t => (if a = 0 then 1 else 0) :: t | [] => []) else (match st with | b :: a :: t => ztwo (-10 - c) a b :: t | t => t)
def zrun (nm code : Nat → Int) : Nat → List Int
  | 0 => []
  | k + 1 => zst nm (code k) (zrun nm code k)
def zwork (nm code : Nat → Int) (n : Nat) : Int := (zrun nm code n).headD 0
def zdep (code : Nat → Int) : Nat → Nat
  | 0 => 0
  | k + 1 => if -10 < code k then zdep code k + 1 else if code k = -43 then zdep code k else zdep code k - 1
/-- n words that leave one number; its names are below b -/
def zwf (code : Nat → Int) (n b : Nat) : Prop := zdep code n = 1 ∧ ∀ k, k < n → -200 ≤ code k ∧ (code k < 0 → -10 < code k → -1 - code k < b) ∧ (code k = -43 → 1 ≤ zdep code k) ∧ (code k ≤ -10 → code k ≠ -43 → 2 ≤ zdep code k)
theorem zdep_le (code : Nat → Int) : ∀ k, zdep code k ≤ k := by
  intro k
  induction k with
  | zero => exact Nat.le_refl 0
  | succ k ih => unfold zdep; grind
theorem zrun_len {nm code : Nat → Int} {n b : Nat} (h : zwf code n b) : ∀ k, k ≤ n → (zrun nm code k).length = zdep code k := by
  intro k
  induction k with
  | zero => intro _; rfl
  | succ k ih =>
    intro hk
    have e := ih (by omega)
    obtain ⟨-, -, h2, h3⟩ := h.2 k (by omega)
    show (zst nm (code k) (zrun nm code k)).length = _
    unfold zst zdep
    by_cases c0 : 0 ≤ code k
    · rw [if_pos c0, if_pos (by omega)]; simp [e]
    · rw [if_neg c0]
      by_cases c1 : -10 < code k
      · rw [if_pos c1, if_pos c1]; simp [e]
      · rw [if_neg c1, if_neg c1]
        by_cases c2 : code k = -43
        · rw [if_pos c2, if_pos c2]
          have := h2 c2
          cases hl : zrun nm code k with
          | nil => rw [hl] at e; simp at e; omega
          | cons a t => rw [hl] at e; simpa using e
        · rw [if_neg c2, if_neg c2]
          have := h3 (by omega) c2
          cases hl : zrun nm code k with
          | nil => rw [hl] at e; simp at e; omega
          | cons a t =>
            cases t with
            | nil => rw [hl] at e; simp at e; omega
            | cons a2 t => rw [hl] at e; simp at e ⊢; omega
theorem zrun_nm {nm nm' code : Nat → Int} {n b : Nat} (h : zwf code n b) (he : ∀ i, i < b → nm i = nm' i) : ∀ k, k ≤ n → zrun nm code k = zrun nm' code k := by
  intro k
  induction k with
  | zero => intro _; rfl
  | succ k ih =>
    intro hk
    obtain ⟨-, h1, -, -⟩ := h.2 k (by omega)
    show zst nm (code k) (zrun nm code k) = zst nm' (code k) (zrun nm' code k)
    rw [ih (by omega)]
    unfold zst
    by_cases c0 : 0 ≤ code k
    · rw [if_pos c0, if_pos c0]
    · rw [if_neg c0, if_neg c0]
      by_cases c1 : -10 < code k
      · rw [if_pos c1, if_pos c1, he _ (by have := h1 (by omega) c1; omega)]
      · rw [if_neg c1, if_neg c1]
theorem zwork_nm {nm nm' code : Nat → Int} {n b : Nat} (h : zwf code n b) (he : ∀ i, i < b → nm i = nm' i) : zwork nm code n = zwork nm' code n := by
  unfold zwork; rw [zrun_nm h he n (Nat.le_refl n)]
theorem zrun_code {nm code code' : Nat → Int} {n : Nat} (he : ∀ i, i < n → code i = code' i) : ∀ k, k ≤ n → zrun nm code k = zrun nm code' k := by
  intro k
  induction k with
  | zero => intro _; rfl
  | succ k ih =>
    intro hk
    show zst nm (code k) (zrun nm code k) = zst nm (code' k) (zrun nm code' k)
    rw [ih (by omega), he k (by omega)]
/-- a row of ints holds this list as a stack -/
def ZS (f : Nat → Int) : List Int → Prop
  | [] => True
  | a :: t => f t.length = a ∧ ZS f t
theorem ZS.up {f : Nat → Int} {x : Int} : ∀ {l : List Int} {k : Nat}, ZS f l → l.length ≤ k → ZS (va_up f k x) l
  | [], _, _, _ => trivial
  | a :: t, k, h, hk => by
    have hk' : t.length + 1 ≤ k := hk
    exact ⟨by rw [va_up_ne _ _ (by omega)]; exact h.1, ZS.up h.2 (by omega)⟩
section LAWM
variable {g : GX} {N r : Nat} {F : Nat → GC} {m : Nat → Nat → Int}
theorem lookC {y : GY} {d bc bs pc : Nat} {L st : List GV} {M : GM} {Q : GV → GM → Prop} {a dflt : Int} {ps : Array (Int × Int)} {len : Nat} (hd : decode y.2.1 pc = .ok (.lookupswitch dflt ps, len)) (hp : (ps.toList.zip (ps.toList.drop 1)).all (fun (a, next) => a.1 < next.1) = true) (k : ∀ off, Op.lookupswitch.offset ps.toList dflt a = off → ∃ tgt : Nat, (pc : Int) + off = (tgt : Int) ∧ Go g y d bc bs tgt L st M Q) : Go g y d bc bs pc L (gI a :: st) M Q := by
  obtain ⟨tgt, h1, h2⟩ := k _ rfl
  exact go_lookup tgt hd hp rfl h1 h2
theorem ct_two (c a b : Int) : CT g yM_two 1 0 0 [gI c, gI a, gI b] (N, F) (RV (ztwo c a b) (N, F)) := by
  have ft : ∀ x : Int, x = 0 ∨ x = 1 → ztruth x = x := by intro x h; unfold ztruth; grind
  have t89 : ∀ x : Int, x = 0 ∨ x = 1 → ztwo c a b = x → Go g yM_two 1 0 0 89 [gI c, gI a, gI b] [gI x] (N, F) (RV (ztwo c a b) (N, F)) := by
    intro x h e
    refine go_SP dM_two_89 vkM71 (ct_truth x) rfl (by omega) rfl (fun _ => Nat.le_of_ble_eq_true rfl) ?_
    refine go_iret dM_two_92 rfl rfl ?_
    exact ⟨by rw [ft x h, e], rfl⟩
  have t106 : ∀ x : Int, x = 0 ∨ x = 1 → ztwo c a b = x → Go g yM_two 1 0 0 106 [gI c, gI a, gI b] [gI x] (N, F) (RV (ztwo c a b) (N, F)) := by
    intro x h e
    refine go_SP dM_two_106 vkM71 (ct_truth x) rfl (by omega) rfl (fun _ => Nat.le_of_ble_eq_true rfl) ?_
    refine go_iret dM_two_109 rfl rfl ?_
    exact ⟨by rw [ft x h, e], rfl⟩
  have t120 : ∀ x : Int, x = 0 ∨ x = 1 → ztwo c a b = x → Go g yM_two 1 0 0 120 [gI c, gI a, gI b] [gI x] (N, F) (RV (ztwo c a b) (N, F)) := by
    intro x h e
    refine go_SP dM_two_120 vkM71 (ct_truth x) rfl (by omega) rfl (fun _ => Nat.le_of_ble_eq_true rfl) ?_
    refine go_iret dM_two_123 rfl rfl ?_
    exact ⟨by rw [ft x h, e], rfl⟩
  have t134 : ∀ x : Int, x = 0 ∨ x = 1 → ztwo c a b = x → Go g yM_two 1 0 0 134 [gI c, gI a, gI b] [gI x] (N, F) (RV (ztwo c a b) (N, F)) := by
    intro x h e
    refine go_SP dM_two_134 vkM71 (ct_truth x) rfl (by omega) rfl (fun _ => Nat.le_of_ble_eq_true rfl) ?_
    refine go_iret dM_two_137 rfl rfl ?_
    exact ⟨by rw [ft x h, e], rfl⟩
  have t148 : ∀ x : Int, x = 0 ∨ x = 1 → ztwo c a b = x → Go g yM_two 1 0 0 148 [gI c, gI a, gI b] [gI x] (N, F) (RV (ztwo c a b) (N, F)) := by
    intro x h e
    refine go_SP dM_two_148 vkM71 (ct_truth x) rfl (by omega) rfl (fun _ => Nat.le_of_ble_eq_true rfl) ?_
    refine go_iret dM_two_151 rfl rfl ?_
    exact ⟨by rw [ft x h, e], rfl⟩
  refine CT.of' (L0 := [gI c, gI a, gI b]) plM (Nat.le_of_ble_eq_true rfl) rfl ?_
  refine go_iload_n (i := 0) dM_two_0 rfl rfl ?_
  refine lookC dM_two_1 rfl (fun off ho => ?_)
  simp only [Op.lookupswitch.offset_cons] at ho
  by_cases e1 : 38 = c
  · rw [if_pos e1] at ho
    subst ho
    refine ⟨93, rfl, ?_⟩
    refine go_iload_n (i := 1) dM_two_93 rfl rfl ?_
    refine go_if_eq 105 dM_two_94 rfl (fun h94 => ?_) (fun h94 => ?_)
    · refine go_iconst dM_two_105 (inR_of _ rfl) ?_
      exact t106 0 (by simp) (by unfold ztwo; grind)
    · refine go_iload_n (i := 2) dM_two_97 rfl rfl ?_
      refine go_if_eq 105 dM_two_98 rfl (fun h98 => ?_) (fun h98 => ?_)
      · refine go_iconst dM_two_105 (inR_of _ rfl) ?_
        exact t106 0 (by simp) (by unfold ztwo; grind)
      · refine go_iconst dM_two_101 (inR_of _ rfl) ?_
        refine go_goto 106 dM_two_102 rfl ?_
        exact t106 1 (by simp) (by unfold ztwo; grind)
  · rw [if_neg e1] at ho
    by_cases e2 : 42 = c
    · rw [if_pos e2] at ho
      subst ho
      refine ⟨160, rfl, ?_⟩
      refine go_iload_n (i := 1) dM_two_160 rfl rfl ?_
      refine go_iload_n (i := 2) dM_two_161 rfl rfl ?_
      refine go_imul dM_two_162 ?_
      refine go_iret dM_two_163 rfl rfl ?_
      exact ⟨by subst e2; unfold ztwo; simp, rfl⟩
    · rw [if_neg e2] at ho
      by_cases e3 : 43 = c
      · rw [if_pos e3] at ho
        subst ho
        refine ⟨152, rfl, ?_⟩
        refine go_iload_n (i := 1) dM_two_152 rfl rfl ?_
        refine go_iload_n (i := 2) dM_two_153 rfl rfl ?_
        refine go_iadd dM_two_154 ?_
        refine go_iret dM_two_155 rfl rfl ?_
        exact ⟨by subst e3; unfold ztwo; simp, rfl⟩
      · rw [if_neg e3] at ho
        by_cases e4 : 45 = c
        · rw [if_pos e4] at ho
          subst ho
          refine ⟨156, rfl, ?_⟩
          refine go_iload_n (i := 1) dM_two_156 rfl rfl ?_
          refine go_iload_n (i := 2) dM_two_157 rfl rfl ?_
          refine go_isub dM_two_158 ?_
          refine go_iret dM_two_159 rfl rfl ?_
          exact ⟨by subst e4; unfold ztwo; simp, rfl⟩
        · rw [if_neg e4] at ho
          by_cases e5 : 60 = c
          · rw [if_pos e5] at ho
            subst ho
            refine ⟨110, rfl, ?_⟩
            refine go_iload_n (i := 1) dM_two_110 rfl rfl ?_
            refine go_iload_n (i := 2) dM_two_111 rfl rfl ?_
            refine go_ic_ge 119 dM_two_112 rfl (fun h112 => ?_) (fun h112 => ?_)
            · refine go_iconst dM_two_119 (inR_of _ rfl) ?_
              exact t120 0 (by simp) (by unfold ztwo; grind)
            · refine go_iconst dM_two_115 (inR_of _ rfl) ?_
              refine go_goto 120 dM_two_116 rfl ?_
              exact t120 1 (by simp) (by unfold ztwo; grind)
          · rw [if_neg e5] at ho
            by_cases e6 : 61 = c
            · rw [if_pos e6] at ho
              subst ho
              refine ⟨124, rfl, ?_⟩
              refine go_iload_n (i := 1) dM_two_124 rfl rfl ?_
              refine go_iload_n (i := 2) dM_two_125 rfl rfl ?_
              refine go_ic_ne 133 dM_two_126 rfl (fun h126 => ?_) (fun h126 => ?_)
              · refine go_iconst dM_two_133 (inR_of _ rfl) ?_
                exact t134 0 (by simp) (by unfold ztwo; grind)
              · refine go_iconst dM_two_129 (inR_of _ rfl) ?_
                refine go_goto 134 dM_two_130 rfl ?_
                exact t134 1 (by simp) (by unfold ztwo; grind)
            · rw [if_neg e6] at ho
              by_cases e7 : 62 = c
              · rw [if_pos e7] at ho
                subst ho
                refine ⟨138, rfl, ?_⟩
                refine go_iload_n (i := 1) dM_two_138 rfl rfl ?_
                refine go_iload_n (i := 2) dM_two_139 rfl rfl ?_
                refine go_ic_le 147 dM_two_140 rfl (fun h140 => ?_) (fun h140 => ?_)
                · refine go_iconst dM_two_147 (inR_of _ rfl) ?_
                  exact t148 0 (by simp) (by unfold ztwo; grind)
                · refine go_iconst dM_two_143 (inR_of _ rfl) ?_
                  refine go_goto 148 dM_two_144 rfl ?_
                  exact t148 1 (by simp) (by unfold ztwo; grind)
              · rw [if_neg e7] at ho
                by_cases e8 : 124 = c
                · rw [if_pos e8] at ho
                  subst ho
                  refine ⟨76, rfl, ?_⟩
                  refine go_iload_n (i := 1) dM_two_76 rfl rfl ?_
                  refine go_if_ne 84 dM_two_77 rfl (fun h77 => ?_) (fun h77 => ?_)
                  · refine go_iconst dM_two_84 (inR_of _ rfl) ?_
                    refine go_goto 89 dM_two_85 rfl ?_
                    exact t89 1 (by simp) (by unfold ztwo; grind)
                  · refine go_iload_n (i := 2) dM_two_80 rfl rfl ?_
                    refine go_if_eq 88 dM_two_81 rfl (fun h81 => ?_) (fun h81 => ?_)
                    · refine go_iconst dM_two_88 (inR_of _ rfl) ?_
                      exact t89 0 (by simp) (by unfold ztwo; grind)
                    · refine go_iconst dM_two_84 (inR_of _ rfl) ?_
                      refine go_goto 89 dM_two_85 rfl ?_
                      exact t89 1 (by simp) (by unfold ztwo; grind)
                · rw [if_neg e8] at ho
                  rw [Op.lookupswitch.offset_nil] at ho
                  subst ho
                  refine ⟨164, rfl, ?_⟩
                  refine go_iload_n (i := 2) dM_two_164 rfl rfl ?_
                  refine go_if_ne 172 dM_two_165 rfl (fun h165 => ?_) (fun h165 => ?_)
                  · refine go_iload_n (i := 1) dM_two_172 rfl rfl ?_
                    refine go_iload_n (i := 2) dM_two_173 rfl rfl ?_
                    refine go_idiv dM_two_174 (by omega) ?_
                    refine go_iret dM_two_175 rfl rfl ?_
                    exact ⟨by unfold ztwo; simp only [if_neg (Ne.symm e1), if_neg (Ne.symm e2), if_neg (Ne.symm e3), if_neg (Ne.symm e4), if_neg (Ne.symm e5), if_neg (Ne.symm e6), if_neg (Ne.symm e7), if_neg (Ne.symm e8), if_neg h165], rfl⟩
                  · refine go_iconst dM_two_168 (inR_of _ rfl) ?_
                    refine go_goto 175 dM_two_169 rfl ?_
                    refine go_iret dM_two_175 rfl rfl ?_
                    exact ⟨by unfold ztwo; simp only [if_neg (Ne.symm e1), if_neg (Ne.symm e2), if_neg (Ne.symm e3), if_neg (Ne.symm e4), if_neg (Ne.symm e5), if_neg (Ne.symm e6), if_neg (Ne.symm e7), if_neg (Ne.symm e8), if_pos h165], rfl⟩
end LAWM
