/-! The reference's lexer. -/
def isLd (x : Int) : Bool := isLt x || isDt x
def cw (B : Nat → Int) (κ : KP) : Prop := κ.2 = true ↔ (0 < κ.1 ∧ isLd (B (κ.1 - 1)) = true)
/-- the reference's sign at the cursor -/
def TKR (g : Nat → Int) (B : Nat → Int) (N : Nat) (κ : KP) : Prop := g 2 = (N : Int) ∧ g 4 = ((tok B N κ).2.1 : Int) ∧ (((tok B N κ).1 = 0 ∧ g 3 = 0 ∧ g 12 = -1 ∧ (0 ≤ g 5 ∧ g 5 ≤ (N : Int))) ∨ ((tok B N κ).1 = 1 ∧ g 3 = 1 ∧ g 12 = -1 ∧ g 7 = (bwk (tok B N κ).2.2.2.1.toNat 6 : Int) ∧ nmOk (tok B N κ).2.2.2.1 ∧ g 6 = 0 ∧ g 5 = ((tok B N κ).2.2.2.2.2 : Int) ∧ (tok B N κ).2.2.2.2.1 = ownw (tok B N κ).2.2.2.1) ∨ ((tok B N κ).1 = 2 ∧ g 3 = 2 ∧ g 12 = -1 ∧ g 6 = (tok B N κ).2.2.2.1 ∧ (0 ≤ g 6 ∧ g 6 ≤ 9999) ∧ g 5 = ((tok B N κ).2.2.2.2.2 : Int)) ∨ ((tok B N κ).1 = 3 ∧ g 3 = 3 ∧ g 12 = -1 ∧ g 6 = (tok B N κ).2.2.2.1 ∧ (0 ≤ g 6 ∧ g 6 ≤ 255) ∧ isSg (g 6) = true ∧ g 5 = ((tok B N κ).2.2.2.2.2 : Int)) ∨ ((tok B N κ).1 = 4 ∧ g 3 = 3 ∧ g 12 = -1 ∧ ((0 ≤ g 6 ∧ g 6 ≤ 255) ∧ 0 ≤ g 5 ∧ g 5 ≤ (N : Int)) ∧ isSg (g 6) = false ∧ (tok B N κ).2.2.1 = (tok B N κ).2.1) ∨ ((tok B N κ).1 = 4 ∧ (g 3 = 1 ∨ g 3 = 2) ∧ g 12 = ((tok B N κ).2.2.1 : Int)))
theorem rn_run {p : Int → Bool} {B : Nat → Int} {N : Nat} : ∀ {k i j : Nat}, (∀ m, m < j → i + m < N ∧ p (B (i + m)) = true) → ¬ (i + j < N ∧ p (B (i + j)) = true) → rn p B N k i = min j k
  | 0, i, j, _, _ => by rw [rn]; omega
  | k + 1, i, j, h1, h2 => by
    rw [rn]
    cases j with
    | zero => rw [Nat.add_zero] at h2; rw [if_neg h2]; omega
    | succ j =>
      have h0 := h1 0 (by omega)
      rw [Nat.add_zero] at h0
      rw [if_pos h0, rn_run (j := j) (fun m hm => by have := h1 (m + 1) (by omega); rw [show i + 1 + m = i + (m + 1) by omega]; exact this) (by rw [show i + 1 + j = i + (j + 1) by omega]; exact h2)]
      omega
theorem sg_ld : ∀ x : Nat, x < 256 → isSg (x : Int) = true → isLd (x : Int) = false := by decide +kernel
section RFs
variable {d b w : Nat} {X : Nat × (Nat → Int)} {v : Nat → Int} {M M' M2 : PH} {K : PV → PS → Prop} {B : Nat → Int} {N : Nat} {κ : KP}
theorem c184 {x : Int} (hx : inR x) : pm_Call (d + 1) 184 [vI x] (GF X, M, PTF v) K ↔ K (vI (if isLt x = true then 1 else 0)) (GF X, M, PTF v) := by
  rw [en184, r184_0 hx]
  by_cases q : x < 97
  · rw [if_pos q, r184_16, r184_17 (by simp), if_neg (by rw [isLt_i]; omega)]
  · rw [if_neg q, r184_6 hx]
    by_cases q2 : 122 < x
    · rw [if_pos q2, r184_16, r184_17 (by simp), if_neg (by rw [isLt_i]; omega)]
    · rw [if_neg q2, r184_12, r184_17 (by simp), if_pos (by rw [isLt_i]; omega)]
theorem c185 {x : Int} (hx : inR x) : pm_Call (d + 1) 185 [vI x] (GF X, M, PTF v) K ↔ K (vI (if isDt x = true then 1 else 0)) (GF X, M, PTF v) := by
  rw [en185, r185_0 hx]
  by_cases q : x < 48
  · rw [if_pos q, r185_16, r185_17 (by simp), if_neg (by rw [isDt_i]; omega)]
  · rw [if_neg q, r185_6 hx]
    by_cases q2 : 57 < x
    · rw [if_pos q2, r185_16, r185_17 (by simp), if_neg (by rw [isDt_i]; omega)]
    · rw [if_neg q2, r185_12, r185_17 (by simp), if_pos (by rw [isDt_i]; omega)]
theorem glue (hκ : κ.1 ≤ N) (hc : cw B κ) : (0 < sk B N κ.1 ∧ isLd (B (sk B N κ.1 - 1)) = true) ↔ (κ.2 && decide (sk B N κ.1 = κ.1)) = true := by
  have hs := sk_p (B := B) hκ
  rw [Bool.and_eq_true]
  by_cases q : sk B N κ.1 = κ.1
  · rw [q]
    have : decide (κ.1 = κ.1) = true := by simp
    rw [this]
    exact ⟨fun h => ⟨hc.mpr h, rfl⟩, fun h => hc.mp h.1⟩
  · refine ⟨fun h => ?_, fun h => absurd (by simpa using h.2) q⟩
    have hr := (rn_p (p := isBl) (B := B) (N := N) (k := N) (i := κ.1)).1 (sk B N κ.1 - 1 - κ.1) (by unfold sk at q hs ⊢; omega)
    rw [show κ.1 + (sk B N κ.1 - 1 - κ.1) = sk B N κ.1 - 1 by omega] at hr
    have h1 := isBl_i.mp hr.2
    have h2 := h.2
    unfold isLd at h2
    rw [Bool.or_eq_true, isLt_i, isDt_i] at h2
    omega
/-- a word's letters -/
theorem l187w (hB : BB B) (hN : N ≤ 1600) (hT : ∀ k, k < N → M 235 k = B k) {st : Nat} {gl : Bool} (hst : st < N) (h0 : isLt (B st) = true) (hK : ∀ g, g 5 = ((st + rn isLt B N 6 st : Nat) : Int) ∨ tl isLt B N (st + rn isLt B N 6 st) = true → g 3 = 1 → g 4 = (st : Int) → g 2 = (N : Int) → g 6 = 0 → g 7 = (ww B st (rn isLt B N 6 st) : Int) → g 12 = (if gl = true then (st : Int) else if tl isLt B N (st + rn isLt B N 6 st) = true then ((st + rn isLt B N 6 st : Nat) : Int) else -1) → (∀ j, j ≠ 3 → j ≠ 4 → j ≠ 5 → j ≠ 6 → j ≠ 7 → j ≠ 12 → g j = M 234 j) → K PU (GF X, pm_sa M 234 g, PTF v)) {g0 : Nat → Int} (e3 : g0 3 = 1) (e4 : g0 4 = (st : Int)) (e2 : g0 2 = (N : Int)) (e6 : g0 6 = 0) (e7 : g0 7 = 0) (e12 : g0 12 = if gl = true then (st : Int) else -1) (eo : ∀ j, j ≠ 3 → j ≠ 4 → j ≠ 5 → j ≠ 6 → j ≠ 7 → j ≠ 12 → g0 j = M 234 j) : pm_Run (d + 1) 187 204 [vA 234, vI (st : Int), vI 1, vI 0, vI 6, vI 0] [] (GF X, pm_sa M 234 g0, PTF v) K := by
  have main : ∀ k j, st + j + k = N → (∀ m, m < j → st + m < N ∧ isLt (B (st + m)) = true) → ∀ g : Nat → Int, g 3 = 1 → g 4 = (st : Int) → g 2 = (N : Int) → g 6 = 0 → g 7 = (ww B st (min j 6) : Int) → g 12 = (if gl = true then (st : Int) else if 6 < j then ((st + 6 : Nat) : Int) else -1) → (∀ j, j ≠ 3 → j ≠ 4 → j ≠ 5 → j ≠ 6 → j ≠ 7 → j ≠ 12 → g j = M 234 j) → pm_Run (d + 1) 187 204 [vA 234, vI ((st + j : Nat) : Int), vI 1, vI 0, vI 6, vI (j : Int)] [] (GF X, pm_sa M 234 g, PTF v) K := by
    intro k
    induction k with
    | zero =>
      intro j hj hl g e3 e4 e2 e6 e7 e12 eo
      have hr := rn_run (p := isLt) (B := B) (N := N) (k := 6) (i := st) (j := j) hl (fun z => by have := z.1; omega)
      rw [r187_204 (by omega) (by rw [sa_s, e2]; omega), sa_s, e2, if_pos (by omega), r187_334, sa_s, sa_sa]
      have ht : tl isLt B N (st + rn isLt B N 6 st) = decide (6 < j) := by
        rw [hr]; unfold tl
        by_cases q : 6 < j
        · rw [show min j 6 = 6 by omega, decide_eq_true (hl 6 q).1, (hl 6 q).2, decide_eq_true q]; rfl
        · rw [show min j 6 = j by omega, decide_eq_false (by omega), decide_eq_false q]; rfl
      refine hK _ ?_ (by rw [up_n (by omega)]; exact e3) (by rw [up_n (by omega)]; exact e4) (by rw [up_n (by omega)]; exact e2) (by rw [up_n (by omega)]; exact e6) (by rw [up_n (by omega), hr]; exact e7) ?_ (fun j z1 z2 z3 z4 z5 z6 => by rw [up_n z3]; exact eo j z1 z2 z3 z4 z5 z6)
      · rw [up_s, ht, hr]
        by_cases q : 6 < j
        · right; simpa using q
        · left; rw [show min j 6 = j by omega]
      · rw [up_n (by omega), e12, ht, hr]
        by_cases q : 6 < j
        · rw [if_pos q, if_pos (c := decide (6 < j) = true) (by simpa using q), show min j 6 = 6 by omega]
        · rw [if_neg q, if_neg (c := decide (6 < j) = true) (by simpa using q)]
    | succ k ih =>
      intro j hj hl g e3 e4 e2 e6 e7 e12 eo
      have hbj := hB (st + j) (by omega)
      have eT : (pm_sa M 234 g) 235 (st + j) = B (st + j) := by rw [sa_n (by omega)]; exact hT _ (by omega)
      rw [r187_204 (by omega) (by rw [sa_s, e2]; omega), sa_s, e2, if_neg (by omega), r187_212 (by omega), if_neg (by omega), r187_216 (by omega) (by omega), Int.toNat_natCast, eT, c184 (by omega), push_i, r187_225 i01]
      by_cases q : isLt (B (st + j)) = true
      · have hl' : ∀ m, m < j + 1 → st + m < N ∧ isLt (B (st + m)) = true := fun m hm => by
          by_cases z : m = j
          · subst z; exact ⟨by omega, q⟩
          · exact hl m (by omega)
        -- the word goes on
        have go : ∀ g : Nat → Int, g 3 = 1 → g 4 = (st : Int) → g 2 = (N : Int) → g 6 = 0 → g 7 = (ww B st (min j 6) : Int) → g 12 = (if gl = true then (st : Int) else if 6 < j + 1 then ((st + 6 : Nat) : Int) else -1) → (∀ j, j ≠ 3 → j ≠ 4 → j ≠ 5 → j ≠ 6 → j ≠ 7 → j ≠ 12 → g j = M 234 j) → pm_Run (d + 1) 187 263 [vA 234, vI ((st + j : Nat) : Int), vI 1, vI 0, vI 6, vI (j : Int)] [] (GF X, pm_sa M 234 g, PTF v) K := by
          intro g e3 e4 e2 e6 e7 e12 eo
          have eT : (pm_sa M 234 g) 235 (st + j) = B (st + j) := by rw [sa_n (by omega)]; exact hT _ (by omega)
          have ql := isLt_i.mp q
          rw [r187_263 (by omega) (by omega)]
          by_cases q6 : 6 ≤ j
          · rw [if_pos (by omega), r187_293 (by omega) (by omega), if_pos (by omega), r187_325]
            have := ih (j + 1) (by omega) hl' g e3 e4 e2 e6 (by rw [show min (j + 1) 6 = min j 6 by omega]; exact e7) e12 eo
            exact this
          · have e7' : g 7 = (ww B st j : Int) := by rw [show min j 6 = j by omega] at e7; exact e7
            have wb : ww B st j < 1099511627776 := by
              have hw : ∀ i, i ≤ j → ww B st i < 256 ^ i := by
                intro i
                induction i with
                | zero => intro _; simp [ww]
                | succ i ih => intro hi; have := ih (by omega); have := hB (st + i) (by omega); rw [ww, Nat.pow_succ]; omega
              have h1 := hw j (Nat.le_refl _)
              have h2 : (256 : Nat) ^ j ≤ 256 ^ 5 := Nat.pow_le_pow_right (by omega) (by omega)
              have h3 : (256 : Nat) ^ 5 = 1099511627776 := rfl
              omega
            have ew : pm_lor (pm_lshl (g 7) 8) (B (st + j)) = (ww B st (j + 1) : Int) := by
              rw [e7', show B (st + j) = (((B (st + j)).toNat : Nat) : Int) by omega, w8 wb (by omega)]; rfl
            rw [if_neg (by omega), r187_270 (by omega), if_neg (by omega), r187_274 (by omega) (by omega) (by rw [Int.toNat_natCast, eT]; omega), Int.toNat_natCast, eT, sa_s, sa_sa, ew, r187_293 (by omega) (by omega), if_neg (by omega), r187_300 (by omega), if_pos rfl, r187_325]
            have := ih (j + 1) (by omega) hl' (pm_up g 7 (ww B st (j + 1) : Int)) (by rw [up_n (by omega)]; exact e3) (by rw [up_n (by omega)]; exact e4) (by rw [up_n (by omega)]; exact e2) (by rw [up_n (by omega)]; exact e6) (by rw [up_s, show min (j + 1) 6 = j + 1 by omega]) (by rw [up_n (by omega)]; exact e12) (fun j z1 z2 z3 z4 z5 z6 => by rw [up_n z5]; exact eo j z1 z2 z3 z4 z5 z6)
            exact this
        rw [if_pos q, if_neg (by omega), r187_228, r187_243 (by omega) (by omega)]
        by_cases q6 : j = 6
        · subst q6
          rw [if_neg (by simp), r187_250 (by rw [sa_s, e12]; split <;> (try split) <;> omega), sa_s, e12]
          by_cases hg : gl = true
          · rw [if_pos hg] at e12 ⊢
            rw [if_pos (by omega)]
            exact go g e3 e4 e2 e6 e7 (by rw [if_pos hg]; exact e12) eo
          · rw [if_neg hg, if_neg (by omega)] at e12
            rw [if_neg hg, if_neg (show ¬ 6 < 6 by omega), if_neg (by simp), r187_258, sa_s, sa_sa]
            exact go _ (by rw [up_n (by omega)]; exact e3) (by rw [up_n (by omega)]; exact e4) (by rw [up_n (by omega)]; exact e2) (by rw [up_n (by omega)]; exact e6) (by rw [up_n (by omega)]; exact e7) (by rw [up_s, if_neg hg, if_pos (by omega)]) (fun j z1 z2 z3 z4 z5 z6 => by rw [up_n z6]; exact eo j z1 z2 z3 z4 z5 z6)
        · rw [if_pos (by omega)]
          refine go g e3 e4 e2 e6 e7 ?_ eo
          rw [e12]
          by_cases hg : gl = true
          · rw [if_pos hg, if_pos hg]
          · rw [if_neg hg, if_neg hg]
            by_cases z : 6 < j
            · rw [if_pos z, if_pos (by omega)]
            · rw [if_neg z, if_neg (by omega)]
      · rw [if_neg q, if_pos rfl, r187_334, sa_s, sa_sa]
        have hr := rn_run (p := isLt) (B := B) (N := N) (k := 6) (i := st) (j := j) hl (fun z => q z.2)
        have ht : tl isLt B N (st + rn isLt B N 6 st) = decide (6 < j) := by
          rw [hr]; unfold tl
          by_cases q' : 6 < j
          · rw [show min j 6 = 6 by omega, decide_eq_true (hl 6 q').1, (hl 6 q').2, decide_eq_true q']; rfl
          · rw [show min j 6 = j by omega, show isLt (B (st + j)) = false by simpa using q, decide_eq_false q', Bool.and_false]
        refine hK _ ?_ (by rw [up_n (by omega)]; exact e3) (by rw [up_n (by omega)]; exact e4) (by rw [up_n (by omega)]; exact e2) (by rw [up_n (by omega)]; exact e6) (by rw [up_n (by omega), hr]; exact e7) ?_ (fun j z1 z2 z3 z4 z5 z6 => by rw [up_n z3]; exact eo j z1 z2 z3 z4 z5 z6)
        · rw [up_s, ht, hr]
          by_cases q : 6 < j
          · right; simpa using q
          · left; rw [show min j 6 = j by omega]
        · rw [up_n (by omega), e12, ht, hr]
          by_cases q : 6 < j
          · rw [if_pos q, if_pos (c := decide (6 < j) = true) (by simpa using q), show min j 6 = 6 by omega]
          · rw [if_neg q, if_neg (c := decide (6 < j) = true) (by simpa using q)]
  have := main (N - st) 0 (by omega) (fun m hm => by omega) g0 e3 e4 e2 e6 (by rw [e7]; rfl) (by rw [e12, if_neg (show ¬ 6 < 0 by omega)]) eo
  exact this
end RFs
