/-! The reference's lexer: numbers; the next sign. -/
section RFt
variable {d b w : Nat} {X : Nat × (Nat → Int)} {v : Nat → Int} {M M' M2 : PH} {K : PV → PS → Prop} {B : Nat → Int} {N : Nat} {κ : KP}
/-- a number's digits -/
theorem l187n (hB : BB B) (hN : N ≤ 1600) (hT : ∀ k, k < N → M 235 k = B k) {st : Nat} {gl : Bool} (hst : st < N) (h0 : isDt (B st) = true) (hK : ∀ g, g 5 = ((st + rn isDt B N 4 st : Nat) : Int) ∨ tl isDt B N (st + rn isDt B N 4 st) = true → g 3 = 2 → g 4 = (st : Int) → g 2 = (N : Int) → g 7 = 0 → g 6 = nv B st (rn isDt B N 4 st) → g 12 = (if gl = true then (st : Int) else if tl isDt B N (st + rn isDt B N 4 st) = true then ((st + rn isDt B N 4 st : Nat) : Int) else -1) → (∀ j, j ≠ 3 → j ≠ 4 → j ≠ 5 → j ≠ 6 → j ≠ 7 → j ≠ 12 → g j = M 234 j) → K PU (GF X, pm_sa M 234 g, PTF v)) {g0 : Nat → Int} (e3 : g0 3 = 2) (e4 : g0 4 = (st : Int)) (e2 : g0 2 = (N : Int)) (e6 : g0 7 = 0) (e7 : g0 6 = 0) (e12 : g0 12 = if gl = true then (st : Int) else -1) (eo : ∀ j, j ≠ 3 → j ≠ 4 → j ≠ 5 → j ≠ 6 → j ≠ 7 → j ≠ 12 → g0 j = M 234 j) : pm_Run (d + 1) 187 204 [vA 234, vI (st : Int), vI 0, vI 1, vI 4, vI 0] [] (GF X, pm_sa M 234 g0, PTF v) K := by
  have main : ∀ k j, st + j + k = N → (∀ m, m < j → st + m < N ∧ isDt (B (st + m)) = true) → ∀ g : Nat → Int, g 3 = 2 → g 4 = (st : Int) → g 2 = (N : Int) → g 7 = 0 → g 6 = nv B st (min j 4) → g 12 = (if gl = true then (st : Int) else if 4 < j then ((st + 4 : Nat) : Int) else -1) → (∀ j, j ≠ 3 → j ≠ 4 → j ≠ 5 → j ≠ 6 → j ≠ 7 → j ≠ 12 → g j = M 234 j) → pm_Run (d + 1) 187 204 [vA 234, vI ((st + j : Nat) : Int), vI 0, vI 1, vI 4, vI (j : Int)] [] (GF X, pm_sa M 234 g, PTF v) K := by
    intro k
    induction k with
    | zero =>
      intro j hj hl g e3 e4 e2 e6 e7 e12 eo
      have hr := rn_run (p := isDt) (B := B) (N := N) (k := 4) (i := st) (j := j) hl (fun z => by have := z.1; omega)
      rw [r187_204 (by omega) (by rw [sa_s, e2]; omega), sa_s, e2, if_pos (by omega), r187_334, sa_s, sa_sa]
      have ht : tl isDt B N (st + rn isDt B N 4 st) = decide (4 < j) := by
        rw [hr]; unfold tl
        by_cases q : 4 < j
        · rw [show min j 4 = 4 by omega, decide_eq_true (hl 4 q).1, (hl 4 q).2, decide_eq_true q]; rfl
        · rw [show min j 4 = j by omega, decide_eq_false (by omega), decide_eq_false q]; rfl
      refine hK _ ?_ (by rw [up_n (by omega)]; exact e3) (by rw [up_n (by omega)]; exact e4) (by rw [up_n (by omega)]; exact e2) (by rw [up_n (by omega)]; exact e6) (by rw [up_n (by omega), hr]; exact e7) ?_ (fun j z1 z2 z3 z4 z5 z6 => by rw [up_n z3]; exact eo j z1 z2 z3 z4 z5 z6)
      · rw [up_s, ht, hr]
        by_cases q : 4 < j
        · right; simpa using q
        · left; rw [show min j 4 = j by omega]
      · rw [up_n (by omega), e12, ht, hr]
        by_cases q : 4 < j
        · rw [if_pos q, if_pos (c := decide (4 < j) = true) (by simpa using q), show min j 4 = 4 by omega]
        · rw [if_neg q, if_neg (c := decide (4 < j) = true) (by simpa using q)]
    | succ k ih =>
      intro j hj hl g e3 e4 e2 e6 e7 e12 eo
      have hbj := hB (st + j) (by omega)
      have eT : (pm_sa M 234 g) 235 (st + j) = B (st + j) := by rw [sa_n (by omega)]; exact hT _ (by omega)
      rw [r187_204 (by omega) (by rw [sa_s, e2]; omega), sa_s, e2, if_neg (by omega), r187_212 (by omega), if_pos rfl, r187_231 (by omega) (by omega), Int.toNat_natCast, eT, c185 (by omega), push_i, r187_240 i01]
      by_cases q : isDt (B (st + j)) = true
      · have hl' : ∀ m, m < j + 1 → st + m < N ∧ isDt (B (st + m)) = true := fun m hm => by
          by_cases z : m = j
          · subst z; exact ⟨by omega, q⟩
          · exact hl m (by omega)
        -- the word goes on
        have go : ∀ g : Nat → Int, g 3 = 2 → g 4 = (st : Int) → g 2 = (N : Int) → g 7 = 0 → g 6 = nv B st (min j 4) → g 12 = (if gl = true then (st : Int) else if 4 < j + 1 then ((st + 4 : Nat) : Int) else -1) → (∀ j, j ≠ 3 → j ≠ 4 → j ≠ 5 → j ≠ 6 → j ≠ 7 → j ≠ 12 → g j = M 234 j) → pm_Run (d + 1) 187 263 [vA 234, vI ((st + j : Nat) : Int), vI 0, vI 1, vI 4, vI (j : Int)] [] (GF X, pm_sa M 234 g, PTF v) K := by
          intro g e3 e4 e2 e6 e7 e12 eo
          have eT : (pm_sa M 234 g) 235 (st + j) = B (st + j) := by rw [sa_n (by omega)]; exact hT _ (by omega)
          have ql := isDt_i.mp q
          rw [r187_263 (by omega) (by omega)]
          by_cases q6 : 4 ≤ j
          · rw [if_pos (by omega), r187_293 (by omega) (by omega), if_pos (by omega), r187_325]
            have := ih (j + 1) (by omega) hl' g e3 e4 e2 e6 (by rw [show min (j + 1) 4 = min j 4 by omega]; exact e7) e12 eo
            exact this
          · have e7' : g 6 = nv B st j := by rw [show min j 4 = j by omega] at e7; exact e7
            have ew : 10 * g 6 + B (st + j) - 48 = nv B st (j + 1) := by rw [e7', nv]; omega
            rw [if_neg (by omega), r187_270 (by omega), if_pos rfl, r187_293 (by omega) (by omega), if_neg (by omega), r187_300 (by omega), if_neg (by omega), r187_304 (by omega) (by omega), Int.toNat_natCast, eT, sa_s, sa_sa, ew, r187_325]
            have := ih (j + 1) (by omega) hl' (pm_up g 6 (nv B st (j + 1))) (by rw [up_n (by omega)]; exact e3) (by rw [up_n (by omega)]; exact e4) (by rw [up_n (by omega)]; exact e2) (by rw [up_n (by omega)]; exact e6) (by rw [up_s, show min (j + 1) 4 = j + 1 by omega]) (by rw [up_n (by omega)]; exact e12) (fun j z1 z2 z3 z4 z5 z6 => by rw [up_n z4]; exact eo j z1 z2 z3 z4 z5 z6)
            exact this
        rw [if_pos q, if_neg (by omega), r187_243 (by omega) (by omega)]
        by_cases q6 : j = 4
        · subst q6
          rw [if_neg (by simp), r187_250 (by rw [sa_s, e12]; split <;> (try split) <;> omega), sa_s, e12]
          by_cases hg : gl = true
          · rw [if_pos hg] at e12 ⊢
            rw [if_pos (by omega)]
            exact go g e3 e4 e2 e6 e7 (by rw [if_pos hg]; exact e12) eo
          · rw [if_neg hg, if_neg (by omega)] at e12
            rw [if_neg hg, if_neg (show ¬ 4 < 4 by omega), if_neg (by simp), r187_258, sa_s, sa_sa]
            exact go _ (by rw [up_n (by omega)]; exact e3) (by rw [up_n (by omega)]; exact e4) (by rw [up_n (by omega)]; exact e2) (by rw [up_n (by omega)]; exact e6) (by rw [up_n (by omega)]; exact e7) (by rw [up_s, if_neg hg, if_pos (by omega)]) (fun j z1 z2 z3 z4 z5 z6 => by rw [up_n z6]; exact eo j z1 z2 z3 z4 z5 z6)
        · rw [if_pos (by omega)]
          refine go g e3 e4 e2 e6 e7 ?_ eo
          rw [e12]
          by_cases hg : gl = true
          · rw [if_pos hg, if_pos hg]
          · rw [if_neg hg, if_neg hg]
            by_cases z : 4 < j
            · rw [if_pos z, if_pos (by omega)]
            · rw [if_neg z, if_neg (by omega)]
      · rw [if_neg q, if_pos rfl, r187_334, sa_s, sa_sa]
        have hr := rn_run (p := isDt) (B := B) (N := N) (k := 4) (i := st) (j := j) hl (fun z => q z.2)
        have ht : tl isDt B N (st + rn isDt B N 4 st) = decide (4 < j) := by
          rw [hr]; unfold tl
          by_cases q' : 4 < j
          · rw [show min j 4 = 4 by omega, decide_eq_true (hl 4 q').1, (hl 4 q').2, decide_eq_true q']; rfl
          · rw [show min j 4 = j by omega, show isDt (B (st + j)) = false by simpa using q, decide_eq_false q', Bool.and_false]
        refine hK _ ?_ (by rw [up_n (by omega)]; exact e3) (by rw [up_n (by omega)]; exact e4) (by rw [up_n (by omega)]; exact e2) (by rw [up_n (by omega)]; exact e6) (by rw [up_n (by omega), hr]; exact e7) ?_ (fun j z1 z2 z3 z4 z5 z6 => by rw [up_n z3]; exact eo j z1 z2 z3 z4 z5 z6)
        · rw [up_s, ht, hr]
          by_cases q : 4 < j
          · right; simpa using q
          · left; rw [show min j 4 = j by omega]
        · rw [up_n (by omega), e12, ht, hr]
          by_cases q : 4 < j
          · rw [if_pos q, if_pos (c := decide (4 < j) = true) (by simpa using q), show min j 4 = 4 by omega]
          · rw [if_neg q, if_neg (c := decide (4 < j) = true) (by simpa using q)]
  have := main (N - st) 0 (by omega) (fun m hm => by omega) g0 e3 e4 e2 e6 (by rw [e7]; rfl) (by rw [e12, if_neg (show ¬ 4 < 0 by omega)]) eo
  exact this
theorem c187 (hB : BB B) (hN : N ≤ 1600) (hT : ∀ k, k < N → M 235 k = B k) (hκ : κ.1 ≤ N) (hc : cw B κ) (e5 : M 234 5 = (κ.1 : Int)) (e2 : M 234 2 = (N : Int)) (hK : ∀ g, TKR g B N κ → (∀ j, j ≠ 3 → j ≠ 4 → j ≠ 5 → j ≠ 6 → j ≠ 7 → j ≠ 12 → g j = M 234 j) → K PU (GF X, pm_sa M 234 g, PTF v)) : pm_Call (d + 2) 187 [vA 234] (GF X, M, PTF v) K := by
  have hs := sk_p (B := B) hκ
  have hgl := glue (B := B) hκ hc
  generalize hst : sk B N κ.1 = st at hs hgl
  have tk0 : tok B N κ = tk B N κ.1 κ.2 := rfl
  -- what is behind the blanks
  have aft : pm_Run (d + 1) 187 41 [vA 234, vI (st : Int), PU, PU, PU, PU] [] (GF X, M, PTF v) K := by
    rw [r187_41, r187_46, sa_s, sa_sa, r187_51, sa_s, sa_sa, r187_56, sa_s, sa_sa]
    generalize hg : pm_up (pm_up (pm_up (pm_up (M 234) 4 (st : Int)) 5 (st : Int)) 3 0) 12 (-1) = g1
    have g1o : ∀ j, j ≠ 3 → j ≠ 4 → j ≠ 5 → j ≠ 12 → g1 j = M 234 j := fun j z1 z2 z3 z4 => by rw [← hg, up_n z4, up_n z1, up_n z3, up_n z2]
    have g14 : g1 4 = (st : Int) := by rw [← hg]; rfl
    have g15 : g1 5 = (st : Int) := by rw [← hg]; rfl
    have g13 : g1 3 = 0 := by rw [← hg]; rfl
    have g1c : g1 12 = -1 := by rw [← hg]; rfl
    have g12 : g1 2 = (N : Int) := by rw [g1o 2 (by omega) (by omega) (by omega) (by omega)]; exact e2
    rw [r187_61 (by omega) (by rw [sa_s, g12]; omega), sa_s, g12]
    by_cases q : st < N
    · have et : tok B N κ = if isLt (B st) = true then tkw B N st (κ.2 && decide (st = κ.1)) else if isDt (B st) = true then tkn B N st (κ.2 && decide (st = κ.1)) else (if isSg (B st) = true then 3 else 4, st, st, pm_b8 (B st), -1, st + 1) := by
        rw [tk0, tk, hst, if_neg (by omega)]
      have bst := hB st (by omega)
      have eT : ∀ (g : Nat → Int) k, k < N → (pm_sa M 234 g) 235 k = B k := fun g k hk => by rw [sa_n (by omega)]; exact hT k hk
      generalize hG : (κ.2 && decide (st = κ.1)) = gl at et hgl
      rw [if_pos (by omega), r187_70 (by omega) (by omega), Int.toNat_natCast, eT _ _ q, c184 (by omega), push_i, r187_79 (by omega) (by omega), Int.toNat_natCast, eT _ _ q, c185 (by omega), push_i, r187_89 i01]
      -- the glue is told
      have gq : isLd (B st) = true → ∀ l2 l3 : Int, (∀ g, g 12 = (if gl = true then (st : Int) else -1) → (∀ j, j ≠ 12 → g j = g1 j) → pm_Run (d + 1) 187 135 [vA 234, vI (st : Int), vI l2, vI l3, PU, PU] [] (GF X, pm_sa M 234 g, PTF v) K) → pm_Run (d + 1) 187 98 [vA 234, vI (st : Int), vI l2, vI l3, PU, PU] [] (GF X, pm_sa M 234 g1, PTF v) K := by
        intro hld l2 l3 k
        rw [r187_98 (by omega)]
        by_cases z0 : st = 0
        · rw [if_pos (by omega)]
          have : ¬ gl = true := fun z => by have := (hgl.mpr z).1; omega
          exact k g1 (by rw [if_neg this]; exact g1c) (fun _ _ => rfl)
        · have b1 := hB (st - 1) (by omega)
          have ix : ((st : Int) - 1).toNat = st - 1 := by omega
          have put : gl = true → pm_Run (d + 1) 187 130 [vA 234, vI (st : Int), vI l2, vI l3, PU, PU] [] (GF X, pm_sa M 234 g1, PTF v) K := by
            intro z
            rw [r187_130, sa_s, sa_sa]
            exact k _ (by rw [up_s, if_pos z]) (fun j hj => by rw [up_n hj])
          rw [if_neg (by omega), r187_102 (by omega) (by omega), ix, eT _ _ (by omega), c184 (by omega), push_i, r187_113 i01]
          by_cases z1 : isLt (B (st - 1)) = true
          · rw [if_pos z1, if_pos (by omega)]
            exact put (hgl.mp ⟨by omega, by unfold isLd; rw [z1]; rfl⟩)
          · rw [if_neg z1, if_neg (by simp), r187_116 (by omega) (by omega), ix, eT _ _ (by omega), c185 (by omega), push_i, r187_127 i01]
            by_cases z2 : isDt (B (st - 1)) = true
            · rw [if_pos z2, if_neg (by omega)]
              exact put (hgl.mp ⟨by omega, by unfold isLd; rw [z2, Bool.or_true]⟩)
            · have : ¬ gl = true := fun z => by
                have := (hgl.mpr z).2
                unfold isLd at this
                rw [Bool.or_eq_true] at this
                exact this.elim z1 z2
              rw [if_neg z2, if_pos rfl]
              exact k g1 (by rw [if_neg this]; exact g1c) (fun _ _ => rfl)
      -- cleared for what comes
      have clr : ∀ (l2 l3 : Int) (g : Nat → Int), (∀ j, j ≠ 12 → g j = g1 j) → (∀ g', g' 3 = 3 → g' 4 = (st : Int) → g' 5 = ((st + 1 : Nat) : Int) → g' 6 = 0 → g' 7 = 0 → g' 12 = g 12 → g' 2 = (N : Int) → (∀ j, j ≠ 3 → j ≠ 4 → j ≠ 5 → j ≠ 6 → j ≠ 7 → j ≠ 12 → g' j = M 234 j) → pm_Run (d + 1) 187 157 [vA 234, vI (st : Int), vI l2, vI l3, PU, PU] [] (GF X, pm_sa M 234 g', PTF v) K) → pm_Run (d + 1) 187 135 [vA 234, vI (st : Int), vI l2, vI l3, PU, PU] [] (GF X, pm_sa M 234 g, PTF v) K := by
        intro l2 l3 g hg k
        rw [r187_135, sa_s, sa_sa, r187_140, sa_s, sa_sa, r187_145, sa_s, sa_sa, r187_150, sa_s, sa_sa]
        refine k _ rfl ?_ rfl rfl rfl rfl ?_ (fun j z1 z2 z3 z4 z5 z6 => ?_)
        · rw [up_n (by omega), up_n (by omega), up_n (by omega), up_n (by omega), hg 4 (by omega)]; exact g14
        · rw [up_n (by omega), up_n (by omega), up_n (by omega), up_n (by omega), hg 2 (by omega)]; exact g12
        · rw [up_n z3, up_n z1, up_n z5, up_n z4, hg j z6]; exact g1o j z1 z2 z3 z6
      by_cases qa : isLt (B st) = true
      · rw [if_pos qa] at et
        rw [if_pos qa, if_pos (by omega)]
        have qd : ¬ isDt (B st) = true := fun z => by have := isDt_i.mp z; have := isLt_i.mp qa; omega
        rw [if_neg qd]
        refine gq (by unfold isLd; rw [qa]; rfl) 1 0 (fun g hg12 hgo => clr 1 0 g hgo (fun g' h3 h4 h5 h6 h7 h12 h2 ho => ?_))
        rw [r187_157 (by omega), if_pos (by omega), r187_176 (by omega), if_neg (by omega), r187_181, r187_186, sa_s, sa_sa, r187_189 (by omega), if_neg (by omega), r187_193, r187_199]
        refine l187w (gl := gl) hB hN hT q qa (fun g2 k5 k3 k4 k2 k6 k7 k12 ko => hK g2 ?_ ko) (by rw [up_s]) (by rw [up_n (by omega)]; exact h4) (by rw [up_n (by omega)]; exact h2) (by rw [up_n (by omega)]; exact h6) (by rw [up_n (by omega)]; exact h7) (by rw [up_n (by omega), h12]; exact hg12) (fun j z1 z2 z3 z4 z5 z6 => by rw [up_n z1]; exact ho j z1 z2 z3 z4 z5 z6)
        have hrn := rn_p (p := isLt) (B := B) (N := N) (k := 6) (i := st)
        have hwv := wv_n hrn.2 (fun j hj => (hrn.1 j hj).2)
        rw [TKR, et]
        refine ⟨k2, k4, ?_⟩
        by_cases hg : gl = true
        · rw [if_pos hg] at k12
          right; right; right; right; right
          refine ⟨?_, Or.inl k3, ?_⟩
          · show (if (gl || tl isLt B N (st + rn isLt B N 6 st)) = true then (4 : Int) else 1) = 4
            rw [hg]; rfl
          · rw [k12]
            show (st : Int) = ((if (tl isLt B N (st + rn isLt B N 6 st) && !gl) = true then st + rn isLt B N 6 st else st : Nat) : Int)
            rw [hg, Bool.not_true, Bool.and_false]; rfl
        · have hg' : gl = false := by simpa using hg
          rw [if_neg hg] at k12
          by_cases ht : tl isLt B N (st + rn isLt B N 6 st) = true
          · rw [if_pos ht] at k12
            right; right; right; right; right
            refine ⟨?_, Or.inl k3, ?_⟩
            · show (if (gl || tl isLt B N (st + rn isLt B N 6 st)) = true then (4 : Int) else 1) = 4
              rw [ht, Bool.or_true]; rfl
            · rw [k12]
              show ((st + rn isLt B N 6 st : Nat) : Int) = ((if (tl isLt B N (st + rn isLt B N 6 st) && !gl) = true then st + rn isLt B N 6 st else st : Nat) : Int)
              rw [ht, hg']; rfl
          · rw [if_neg ht] at k12
            right; left
            refine ⟨?_, k3, k12, ?_, hwv.1, k6, ?_, rfl⟩
            · show (if (gl || tl isLt B N (st + rn isLt B N 6 st)) = true then (4 : Int) else 1) = 1
              rw [hg', Bool.false_or, if_neg ht]
            · rw [k7, ← hwv.2]
              show ((bwk (wv B st (rn isLt B N 6 st)) 6 : Nat) : Int) = (bwk ((wv B st (rn isLt B N 6 st) : Nat) : Int).toNat 6 : Int)
              rw [Int.toNat_natCast]
            · exact k5.resolve_right ht
      · rw [if_neg qa] at et
        rw [if_neg qa, if_neg (by simp), r187_94 i01]
        by_cases qd : isDt (B st) = true
        · rw [if_pos qd] at et
          rw [if_pos qd, if_neg (by omega)]
          refine gq (by unfold isLd; rw [qd, Bool.or_true]) 0 1 (fun g hg12 hgo => clr 0 1 g hgo (fun g' h3 h4 h5 h6 h7 h12 h2 ho => ?_))
          rw [r187_157 (by omega), if_neg (by simp), r187_161 (by omega), if_pos (by omega), r187_176 (by omega), if_pos rfl, r187_185, r187_186, sa_s, sa_sa, r187_189 (by omega), if_pos rfl, r187_198, r187_199]
          refine l187n (gl := gl) hB hN hT q qd (fun g2 k5 k3 k4 k2 k6 k7 k12 ko => hK g2 ?_ ko) (by rw [up_s]) (by rw [up_n (by omega)]; exact h4) (by rw [up_n (by omega)]; exact h2) (by rw [up_n (by omega)]; exact h7) (by rw [up_n (by omega)]; exact h6) (by rw [up_n (by omega), h12]; exact hg12) (fun j z1 z2 z3 z4 z5 z6 => by rw [up_n z1]; exact ho j z1 z2 z3 z4 z5 z6)
          have hrn := rn_p (p := isDt) (B := B) (N := N) (k := 4) (i := st)
          have hnv := nv_c (B := B) (i := st) hrn.2 (fun j hj => (hrn.1 j hj).2)
          rw [TKR, et]
          refine ⟨k2, k4, ?_⟩
          by_cases hg : gl = true
          · rw [if_pos hg] at k12
            right; right; right; right; right
            refine ⟨?_, Or.inr k3, ?_⟩
            · show (if (gl || tl isDt B N (st + rn isDt B N 4 st)) = true then (4 : Int) else 2) = 4
              rw [hg]; rfl
            · rw [k12]
              show (st : Int) = ((if (tl isDt B N (st + rn isDt B N 4 st) && !gl) = true then st + rn isDt B N 4 st else st : Nat) : Int)
              rw [hg, Bool.not_true, Bool.and_false]; rfl
          · have hg' : gl = false := by simpa using hg
            rw [if_neg hg] at k12
            by_cases ht : tl isDt B N (st + rn isDt B N 4 st) = true
            · rw [if_pos ht] at k12
              right; right; right; right; right
              refine ⟨?_, Or.inr k3, ?_⟩
              · show (if (gl || tl isDt B N (st + rn isDt B N 4 st)) = true then (4 : Int) else 2) = 4
                rw [ht, Bool.or_true]; rfl
              · rw [k12]
                show ((st + rn isDt B N 4 st : Nat) : Int) = ((if (tl isDt B N (st + rn isDt B N 4 st) && !gl) = true then st + rn isDt B N 4 st else st : Nat) : Int)
                rw [ht, hg']; rfl
            · rw [if_neg ht] at k12
              right; right; left
              refine ⟨?_, k3, k12, k7, by rw [k7]; exact hnv, ?_⟩
              · show (if (gl || tl isDt B N (st + rn isDt B N 4 st)) = true then (4 : Int) else 2) = 2
                rw [hg', Bool.false_or, if_neg ht]
              · exact k5.resolve_right ht
        · rw [if_neg qd] at et
          rw [if_neg qd, if_pos rfl]
          refine clr 0 0 g1 (fun _ _ => rfl) (fun g' h3 h4 h5 h6 h7 h12 h2 ho => ?_)
          rw [r187_157 (by omega), if_neg (by simp), r187_161 (by omega), if_neg (by simp), r187_165 (by omega) (by omega), Int.toNat_natCast, eT _ _ q, sa_s, sa_sa]
          refine hK _ ?_ (fun j z1 z2 z3 z4 z5 z6 => by rw [up_n z4]; exact ho j z1 z2 z3 z4 z5 z6)
          rw [TKR, et]
          refine ⟨by rw [up_n (by omega)]; exact h2, by rw [up_n (by omega)]; exact h4, ?_⟩
          by_cases hsg : isSg (B st) = true
          · have sb := sg_b (B st).toNat (by omega) (by rw [show (((B st).toNat : Nat) : Int) = B st by omega]; exact hsg)
            have b8 : pm_b8 (B st) = B st := by rcases b8_c bst with h | h <;> omega
            right; right; right; left
            refine ⟨by rw [if_pos hsg], by rw [up_n (by omega)]; exact h3, by rw [up_n (by omega), h12]; exact g1c, ?_, by rw [up_s]; exact bst, by rw [up_s]; exact hsg, by rw [up_n (by omega)]; exact h5⟩
            rw [up_s]
            show B st = pm_b8 (B st)
            exact b8.symm
          · right; right; right; right; left
            have h5' : g' 5 = ((st + 1 : Nat) : Int) := h5
            exact ⟨by rw [if_neg hsg], by rw [up_n (by omega)]; exact h3, by rw [up_n (by omega), h12]; exact g1c, ⟨by rw [up_s]; exact bst, by rw [up_n (by omega), h5']; omega, by rw [up_n (by omega), h5']; omega⟩, by rw [up_s]; simpa using hsg, rfl⟩
    · have et : tok B N κ = (0, st, st, 0, -1, st) := by rw [tk0, tk, hst, if_pos (by omega)]
      rw [if_neg (by omega), r187_69]
      refine hK g1 ?_ (fun j z1 z2 z3 z4 z5 z6 => g1o j z1 z2 z3 z6)
      rw [TKR, et]
      exact ⟨g12, g14, Or.inl ⟨rfl, g13, g1c, by omega, by omega⟩⟩
  have main : ∀ k i, i + k = N → sk B N i = st → pm_Run (d + 1) 187 5 [vA 234, vI (i : Int), PU, PU, PU, PU] [] (GF X, M, PTF v) K := by
    intro k
    induction k with
    | zero =>
      intro i hi he
      have hs : sk B N i = i := sk_e (fun z => by have := z.1; omega)
      rw [r187_5 (by omega) (by rw [e2]; omega), e2, if_pos (by omega), show i = st by omega]; exact aft
    | succ k ih =>
      intro i hi he
      have bi := hB i (by omega)
      have eT := hT i (by omega)
      rw [r187_5 (by omega) (by rw [e2]; omega), e2, if_neg (by omega), r187_13 (by omega) (by omega) (by rw [Int.toNat_natCast, eT]; omega), Int.toNat_natCast, eT]
      by_cases q1 : B i = 32
      · rw [if_pos q1, r187_35]
        exact ih (i + 1) (by omega) (by rw [sk_s (by omega) (isBl_i.mpr (Or.inr q1))]; exact he)
      · rw [if_neg q1, r187_24 (by omega) (by omega) (by rw [Int.toNat_natCast, eT]; omega), Int.toNat_natCast, eT]
        by_cases q2 : B i = 10
        · rw [if_neg (by simpa using q2), r187_35]
          exact ih (i + 1) (by omega) (by rw [sk_s (by omega) (isBl_i.mpr (Or.inl q2))]; exact he)
        · have hs : sk B N i = i := sk_e (fun z => by have := isBl_i.mp z.2; omega)
          rw [if_pos q2, show i = st by omega]; exact aft
  rw [en187, r187_0, e5]
  exact main (N - κ.1) κ.1 (by omega) hst
end RFt
