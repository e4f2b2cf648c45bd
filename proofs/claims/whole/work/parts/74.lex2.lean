/-! Numbers; the next word, number or sign. -/
section CL2
variable {d N : Nat} {X : Nat × (Nat → Int)} {v : Nat → Int} {M : PH} {K : PV → PS → Prop} {B : Nat → Int}
theorem nv_b {i : Nat} : ∀ {k : Nat}, k ≤ 4 → (∀ j, j < k → isDt (B (i + j)) = true) → 0 ≤ nv B i k ∧ nv B i k + 1 ≤ 10 ^ k
  | 0, _, _ => by simp [nv]
  | k + 1, hk, h => by
    obtain ⟨h1, h2⟩ := nv_b (i := i) (k := k) (by omega) (fun j hj => h j (by omega))
    have h3 := isDt_i.mp (h k (by omega))
    rw [nv, Int.pow_succ]
    omega
theorem nv_c {i k : Nat} (hk : k ≤ 4) (h : ∀ j, j < k → isDt (B (i + j)) = true) : 0 ≤ nv B i k ∧ nv B i k ≤ 9999 := by
  have h1 := nv_b hk h
  have h2 : k = 0 ∨ k = 1 ∨ k = 2 ∨ k = 3 ∨ k = 4 := by omega
  rcases h2 with rfl | rfl | rfl | rfl | rfl <;> simp at h1 <;> omega
theorem c53 (hv : v 5 = ((1 : Nat) : Int)) (hB : TP M B) (hN : N ≤ 1600) {st : Nat} (hst : st ≤ N) {gl : Bool} {g : Nat → Int} (g2 : g 2 = (N : Int)) (g3 : g 3 = (st : Int)) (g5 : g 5 = (st : Int)) (g7 : g 7 = 0) (g8 : g 8 = -1) (hK : ∀ g', LX g' N (tkn B N st gl) → K PU (GF X, pm_sa M 32 g', PTF v)) : pm_Call (d + 1) 53 [vA 32, vI (if gl = true then 1 else 0)] (GF X, pm_sa M 32 g, PTF v) K := by
  have hg := if01 (x := gl)
  have E : ∀ (L : Nat) (g : Nat → Int), L = rn isDt B N 4 st → g 2 = (N : Int) → g 3 = ((st + L : Nat) : Int) → g 5 = (st : Int) → g 7 = nv B st L → g 8 = -1 → pm_Run d 53 89 [vA 32, vI (if gl = true then 1 else 0), PU] [] (GF X, pm_sa M 32 g, PTF v) K := by
    intro L g hL e2 e3 e5 e7 e8
    have hr := rn_p (p := isDt) (B := B) (N := N) (k := 4) (i := st)
    rw [← hL] at hr
    have hLN : st + L ≤ N := by
      by_cases z : L = 0
      · omega
      · have := (hr.1 (L - 1) (by omega)).1; omega
    have F1 : ∀ tlb : Bool, tlb = tl isDt B N (st + L) → pm_Run d 53 133 [vA 32, vI (if gl = true then 1 else 0), PU] [vI (if tlb = true then 1 else 0)] (GF X, pm_sa M 32 g, PTF v) K := by
      intro tlb htl
      have ht := if01 (x := tlb)
      have G : ∀ x : Int, x = (if (gl || tlb) = true then 4 else 2) → pm_Run d 53 148 [vA 32, vI (if gl = true then 1 else 0), vI (if tlb = true then 1 else 0)] [vI x, vA 32] (GF X, pm_sa M 32 g, PTF v) K := by
        intro x hx
        rw [r53_148, sa_s, sa_sa, r53_151 (by omega)]
        have H : ∀ y : Int, y = ((if (tlb && !gl) = true then st + L else st : Nat) : Int) → pm_Run d 53 171 [vA 32, vI (if gl = true then 1 else 0), vI (if tlb = true then 1 else 0)] [vI y, vA 32] (GF X, pm_sa M 32 (pm_up g 4 x), PTF v) K := by
          intro y hy
          rw [r53_171, sa_s, sa_sa]
          refine hK _ ?_
          rw [tkn, ← hL, ← htl]
          exact ⟨by rw [up_n (by omega), up_n (by omega)]; exact e2, by rw [up_n (by omega), up_n (by omega)]; exact e3, by rw [up_n (by omega), up_s]; exact hx, by rw [up_n (by omega), up_n (by omega)]; exact e5, by rw [up_s]; exact hy, by rw [up_n (by omega), up_n (by omega)]; exact e7, by rw [up_n (by omega), up_n (by omega)]; exact e8⟩
        cases tlb
        · rw [if_neg (show ¬ false = true by decide), if_pos rfl, r53_167, sa_s, up_n (by omega), e5]
          exact H _ (by simp)
        · rw [if_pos (show true = true from rfl), if_neg (by omega), r53_156 (by omega)]
          cases gl
          · rw [if_neg (show ¬ false = true by decide), if_neg (by simp), r53_160, sa_s, up_n (by omega), e3]
            exact H _ (by simp)
          · rw [if_pos (show true = true from rfl), if_pos (by omega), r53_167, sa_s, up_n (by omega), e5]
            exact H _ (by simp)
      rw [r53_133 (by omega)]
      cases gl
      · rw [if_neg (show ¬ false = true by decide), if_neg (by simp), r53_139 (by omega)]
        cases tlb
        · rw [if_neg (show ¬ false = true by decide), if_pos rfl, r53_147]
          exact G 2 (by simp)
        · rw [if_pos (show true = true from rfl), if_neg (by omega), r53_143]
          exact G 4 (by simp)
      · rw [if_pos (show true = true from rfl), if_pos (by omega), r53_143]
        exact G 4 (by simp)
    rw [r53_89 (by rw [sa_s, e3]; omega) (by rw [sa_s, e2]; omega), sa_s, e2, e3]
    by_cases q : N ≤ st + L
    · rw [if_pos (by omega), r53_132]
      have h0 : tl isDt B N (st + L) = false := by simp [tl]; omega
      have := F1 false h0.symm
      rw [if_neg (show ¬ false = true by decide)] at this
      exact this
    · have gb := hB (st + L) (by omega)
      have cb := b8_c gb.2
      have eb : (pm_sa M 32 g) 1 ((pm_sa M 32 g) 32 3).toNat = pm_b8 (B (st + L)) := by rw [sa_s, e3, Int.toNat_natCast, sa_n (by omega)]; exact gb.1
      rw [if_neg (by omega), r53_100 hv (by rw [sa_s, e3]; omega) (by rw [sa_s, e3]; omega) (by rw [eb]; omega), eb]
      have no : ¬ isDt (B (st + L)) = true → pm_Run d 53 132 [vA 32, vI (if gl = true then 1 else 0), PU] [] (GF X, pm_sa M 32 g, PTF v) K := fun z => by
        rw [r53_132]
        have h0 : tl isDt B N (st + L) = false := by simp [tl, z]
        have := F1 false h0.symm
        rw [if_neg (show ¬ false = true by decide)] at this
        exact this
      by_cases q1 : pm_b8 (B (st + L)) < 48
      · rw [if_pos q1]; exact no (by rw [isDt_i]; omega)
      rw [if_neg q1, r53_114 hv (by rw [sa_s, e3]; omega) (by rw [sa_s, e3]; omega) (by rw [eb]; omega), eb]
      by_cases q2 : 57 < pm_b8 (B (st + L))
      · rw [if_pos q2]; exact no (by rw [isDt_i]; omega)
      · rw [if_neg q2, r53_128]
        have h1 : isDt (B (st + L)) = true := by rw [isDt_i]; omega
        have h0 : tl isDt B N (st + L) = true := by simp [tl, h1]; omega
        have := F1 true h0.symm
        rw [if_pos rfl] at this
        exact this
  have main : ∀ r k, k + r = 4 → st + k ≤ N → (∀ j, j < k → isDt (B (st + j)) = true) → k + rn isDt B N r (st + k) = rn isDt B N 4 st → ∀ g : Nat → Int, g 2 = (N : Int) → g 3 = ((st + k : Nat) : Int) → g 5 = (st : Int) → g 7 = nv B st k → g 8 = -1 → pm_Run d 53 0 [vA 32, vI (if gl = true then 1 else 0), PU] [] (GF X, pm_sa M 32 g, PTF v) K := by
    intro r
    induction r with
    | zero =>
      intro k hk hkN hl hrn g e2 e3 e5 e7 e8
      have ex := E k g hrn e2 e3 e5 e7 e8
      rw [r53_0 (by rw [sa_s, e3]; omega) (by rw [sa_s, e2]; omega), sa_s, e2, e3]
      by_cases q : N ≤ st + k
      · rw [if_pos (by omega)]; exact ex
      · have gb := hB (st + k) (by omega)
        have cb := b8_c gb.2
        have eb : (pm_sa M 32 g) 1 ((pm_sa M 32 g) 32 3).toNat = pm_b8 (B (st + k)) := by rw [sa_s, e3, Int.toNat_natCast, sa_n (by omega)]; exact gb.1
        rw [if_neg (by omega), r53_11 hv (by rw [sa_s, e3]; omega) (by rw [sa_s, e3]; omega) (by rw [eb]; omega), eb]
        by_cases q1 : pm_b8 (B (st + k)) < 48
        · rw [if_pos q1]; exact ex
        rw [if_neg q1, r53_25 hv (by rw [sa_s, e3]; omega) (by rw [sa_s, e3]; omega) (by rw [eb]; omega), eb]
        by_cases q2 : 57 < pm_b8 (B (st + k))
        · rw [if_pos q2]; exact ex
        · rw [if_neg q2, r53_39 (by rw [sa_s, e3, e5]; omega), sa_s, e3, e5, if_pos (by omega)]; exact ex
    | succ r ih =>
      intro k hk hkN hl hrn g e2 e3 e5 e7 e8
      rw [r53_0 (by rw [sa_s, e3]; omega) (by rw [sa_s, e2]; omega), sa_s, e2, e3]
      rw [rn] at hrn
      by_cases q : N ≤ st + k
      · rw [if_neg (by omega)] at hrn
        rw [if_pos (by omega)]
        exact E k g hrn e2 e3 e5 e7 e8
      · have gb := hB (st + k) (by omega)
        have cb := b8_c gb.2
        have eb : (pm_sa M 32 g) 1 ((pm_sa M 32 g) 32 3).toNat = pm_b8 (B (st + k)) := by rw [sa_s, e3, Int.toNat_natCast, sa_n (by omega)]; exact gb.1
        rw [if_neg (by omega), r53_11 hv (by rw [sa_s, e3]; omega) (by rw [sa_s, e3]; omega) (by rw [eb]; omega), eb]
        by_cases q1 : pm_b8 (B (st + k)) < 48
        · have z : ¬ isDt (B (st + k)) = true := by rw [isDt_i]; omega
          rw [if_neg (fun y => z y.2)] at hrn
          rw [if_pos q1]; exact E k g hrn e2 e3 e5 e7 e8
        rw [if_neg q1, r53_25 hv (by rw [sa_s, e3]; omega) (by rw [sa_s, e3]; omega) (by rw [eb]; omega), eb]
        by_cases q2 : 57 < pm_b8 (B (st + k))
        · have z : ¬ isDt (B (st + k)) = true := by rw [isDt_i]; omega
          rw [if_neg (fun y => z y.2)] at hrn
          rw [if_pos q2]; exact E k g hrn e2 e3 e5 e7 e8
        · have z : isDt (B (st + k)) = true := by rw [isDt_i]; omega
          have z' := isDt_i.mp z
          rw [if_pos ⟨by omega, z⟩] at hrn
          rw [if_neg q2, r53_39 (by rw [sa_s, e3, e5]; omega), sa_s, e3, e5, if_neg (by omega), r53_52 hv (by rw [sa_s, e3]; omega) (by rw [sa_s, e3]; omega), r53_76, eb]
          simp only [sa_s, sa_sa]
          rw [up_n (show 3 ≠ 7 by omega), e3, e7, show pm_b8 (B (st + k)) = B (st + k) by omega]
          refine ih (k + 1) (by omega) (by omega) (fun j hj => ?_) (by rw [← hrn, show st + (k + 1) = st + k + 1 by omega]; omega) _ (by rw [up_n (by omega), up_n (by omega)]; exact e2) (by rw [up_s]; omega) (by rw [up_n (by omega), up_n (by omega)]; exact e5) (by rw [up_n (by omega), up_s]; rfl) (by rw [up_n (by omega), up_n (by omega)]; exact e8)
          by_cases y : j = k
          · rw [y]; exact z
          · exact hl j (by omega)
  rw [en53]
  exact main 4 0 (by omega) hst (fun j hj => absurd hj (by omega)) (by rw [Nat.zero_add, Nat.add_zero]) g g2 g3 g5 g7 g8
/-- whether a kind is a word's or a number's -/
def isWn (x : Int) : Bool := decide (x = 1) || decide (x = 2)
theorem sk_p {i : Nat} (hi : i ≤ N) : i ≤ sk B N i ∧ sk B N i ≤ N := by
  have h := rn_p (p := isBl) (B := B) (N := N) (k := N) (i := i)
  unfold sk
  by_cases z : rn isBl B N N i = 0
  · omega
  · have := (h.1 (rn isBl B N N i - 1) (by omega)).1; omega
theorem rn_f {p : Int → Bool} : ∀ {k k' i : Nat}, N ≤ i + k → N ≤ i + k' → rn p B N k i = rn p B N k' i
  | 0, 0, _, _, _ => rfl
  | 0, k' + 1, i, h, _ => by rw [rn, rn, if_neg (by omega)]
  | k + 1, 0, i, _, h => by rw [rn, rn, if_neg (by omega)]
  | k + 1, k' + 1, i, h, h' => by
    rw [rn, rn]
    split
    · rw [rn_f (k := k) (k' := k') (i := i + 1) (by omega) (by omega)]
    · rfl
theorem sk_s {i : Nat} (hi : i < N) (hb : isBl (B i) = true) : sk B N (i + 1) = sk B N i := by
  have hN : N = (N - 1) + 1 := by omega
  have e : rn isBl B N N i = rn isBl B N (N - 1) (i + 1) + 1 := by
    conv => lhs; rw [show rn isBl B N N i = rn isBl B N ((N - 1) + 1) i by rw [← hN]]
    rw [rn, if_pos ⟨hi, hb⟩]
  unfold sk
  rw [e, rn_f (k := N) (k' := N - 1) (i := i + 1) (by omega) (by omega)]; omega
theorem sk_e {i : Nat} (h : ¬ (i < N ∧ isBl (B i) = true)) : sk B N i = i := by
  unfold sk
  by_cases z : N = 0
  · subst z; rfl
  · rw [show rn isBl B N N i = rn isBl B N ((N - 1) + 1) i by rw [Nat.sub_add_cancel (by omega)], rn, if_neg h]; omega
theorem c51 (hv : v 5 = ((1 : Nat) : Int)) (hB : TP M B) (hKY : KY M) (hN : N ≤ 1600) {i : Nat} (hi : i ≤ N) {g : Nat → Int} (g2 : g 2 = (N : Int)) (g3 : g 3 = (i : Int)) (g4 : inR (g 4)) (hK : ∀ g', LX g' N (tk B N i (isWn (g 4))) → K PU (GF X, pm_sa M 32 g', PTF v)) : pm_Call (d + 2) 51 [vA 32] (GF X, pm_sa M 32 g, PTF v) K := by
  -- behind the blanks
  have A : ∀ e : Int, e = (if isWn (g 4) = true then (i : Int) else -1) → ∀ g' : Nat → Int, g' 2 = (N : Int) → g' 3 = ((sk B N i : Nat) : Int) → pm_Run (d + 1) 51 77 [vA 32, vI e, PU] [] (GF X, pm_sa M 32 g', PTF v) K := by
    intro e he g' f2 f3
    have hs := sk_p (B := B) hi
    have heb : inR e := by rw [he]; split <;> omega
    rw [r51_77, r51_85, r51_93, r51_98]
    simp only [sa_s, sa_sa]
    rw [up_n (show 3 ≠ 5 by omega), f3]
    obtain ⟨h, hh⟩ : ∃ h, h = pm_up (pm_up (pm_up (pm_up g' 5 ((sk B N i : Nat) : Int)) 6 ((sk B N i : Nat) : Int)) 8 (-1)) 7 0 := ⟨_, rfl⟩
    rw [← hh]
    have k2 : h 2 = (N : Int) := by rw [hh, up_n (by omega), up_n (by omega), up_n (by omega), up_n (by omega)]; exact f2
    have k3 : h 3 = ((sk B N i : Nat) : Int) := by rw [hh, up_n (by omega), up_n (by omega), up_n (by omega), up_n (by omega)]; exact f3
    have k5 : h 5 = ((sk B N i : Nat) : Int) := by rw [hh, up_n (by omega), up_n (by omega), up_n (by omega), up_s]
    have k6 : h 6 = ((sk B N i : Nat) : Int) := by rw [hh, up_n (by omega), up_n (by omega), up_s]
    have k7 : h 7 = 0 := by rw [hh, up_s]
    have k8 : h 8 = -1 := by rw [hh, up_n (by omega), up_s]
    rw [r51_103 (by rw [sa_s, k3]; omega) (by rw [sa_s, k2]; omega), sa_s, k2, k3]
    by_cases q : N ≤ sk B N i
    · rw [if_pos (by omega), r51_126, r51_127 (by rw [sa_s, k3]; omega) (by rw [sa_s, k2]; omega), sa_s, k2, k3, if_neg (by omega), r51_139, r51_249, sa_s, sa_sa]
      refine hK _ ?_
      rw [tk, if_pos q]
      exact ⟨by rw [up_n (by omega)]; exact k2, by rw [up_n (by omega)]; exact k3, by rw [up_s], by rw [up_n (by omega)]; exact k5, by rw [up_n (by omega)]; exact k6, by rw [up_n (by omega)]; exact k7, by rw [up_n (by omega)]; exact k8⟩
    · have gb := hB (sk B N i) (by omega)
      have cb := b8_c gb.2
      have eb : (pm_sa M 32 h) 1 ((pm_sa M 32 h) 32 3).toNat = pm_b8 (B (sk B N i)) := by rw [sa_s, k3, Int.toNat_natCast, sa_n (by omega)]; exact gb.1
      rw [if_neg (by omega), r51_114 hv (by rw [sa_s, k3]; omega) (by rw [sa_s, k3]; omega), eb, r51_127 (by rw [sa_s, k3]; omega) (by rw [sa_s, k2]; omega), sa_s, k2, k3, if_pos (by omega), r51_147 (by omega)]
      have egl : (if (isWn (g 4) && decide (sk B N i = i)) = true then (1 : Int) else 0) = if e = ((sk B N i : Nat) : Int) then 1 else 0 := by
        rw [he]
        cases isWn (g 4)
        · simp
        · by_cases z : sk B N i = i
          · simp [z]
          · have z' : ¬ ((i : Int) = ((sk B N i : Nat) : Int)) := by omega
            simp [z, z']
      -- neither a letter
      have D : ¬ isLt (B (sk B N i)) = true → pm_Run (d + 1) 51 179 [vA 32, vI e, vI (pm_b8 (B (sk B N i)))] [] (GF X, pm_sa M 32 h, PTF v) K := by
        intro nl
        have S : ¬ isDt (B (sk B N i)) = true → pm_Run (d + 1) 51 211 [vA 32, vI e, vI (pm_b8 (B (sk B N i)))] [] (GF X, pm_sa M 32 h, PTF v) K := by
          intro nd
          have fin : ∀ x : Int, x = (if isSg (B (sk B N i)) = true then 3 else 4) → pm_Run (d + 1) 51 236 [vA 32, vI e, vI (pm_b8 (B (sk B N i)))] [vI x, vA 32] (GF X, pm_sa M 32 (pm_up h 7 (pm_b8 (B (sk B N i)))), PTF v) K := by
            intro x hx
            rw [r51_236, r51_239, r51_249]
            simp only [sa_s, sa_sa]
            refine hK _ ?_
            rw [tk, if_neg q, if_neg nl, if_neg nd]
            exact ⟨by rw [up_n (by omega), up_n (by omega), up_n (by omega)]; exact k2, by rw [up_s, up_n (by omega), up_n (by omega), k3]; rfl, by rw [up_n (by omega), up_s]; exact hx, by rw [up_n (by omega), up_n (by omega), up_n (by omega)]; exact k5, by rw [up_n (by omega), up_n (by omega), up_n (by omega)]; exact k6, by rw [up_n (by omega), up_n (by omega), up_s], by rw [up_n (by omega), up_n (by omega), up_n (by omega)]; exact k8⟩
          obtain ⟨y, hy⟩ := Int.eq_ofNat_of_zero_le gb.2.1
          have sb := sg_b y (by omega)
          rw [← hy] at sb
          rw [r51_211, sa_s, sa_sa, r51_216 (by omega)]
          by_cases z : pm_b8 (B (sk B N i)) ≤ 0
          · rw [if_pos z, r51_235]
            exact fin 4 (by rw [if_neg (fun w => by have := sb w; omega)])
          · have sn := sg_n y (by omega)
            rw [← hy] at sn
            have eq8 : pm_b8 (B (sk B N i)) = B (sk B N i) := by omega
            rw [eq8] at fin ⊢
            rw [if_neg (by omega), r51_221 (by omega), r51_228 (by omega)]
            by_cases w : pm_ix pm_signs (B (sk B N i)) 0 < 0
            · rw [if_pos w, r51_235]
              exact fin 4 (by rw [if_neg (sn.1.mp w)])
            · rw [if_neg w, r51_231]
              exact fin 3 (by rw [if_pos (Decidable.byContradiction (fun u => w (sn.1.mpr u)))])
        rw [r51_179 (by omega)]
        by_cases q1 : pm_b8 (B (sk B N i)) < 48
        · rw [if_pos q1]; exact S (by rw [isDt_i]; omega)
        rw [if_neg q1, r51_185 (by omega)]
        by_cases q2 : 57 < pm_b8 (B (sk B N i))
        · rw [if_pos q2]; exact S (by rw [isDt_i]; omega)
        · have z : isDt (B (sk B N i)) = true := by rw [isDt_i]; omega
          have fin : pm_Run (d + 1) 51 205 [vA 32, vI e, vI (pm_b8 (B (sk B N i)))] [vI (if (isWn (g 4) && decide (sk B N i = i)) = true then 1 else 0), vA 32] (GF X, pm_sa M 32 h, PTF v) K := by
            rw [r51_205]
            refine c53 hv hB hN hs.2 k2 k3 k5 k7 k8 (fun g'' hg'' => ?_)
            rw [push_u, r51_208, r51_249]
            refine hK g'' ?_
            rw [tk, if_neg q, if_neg nl, if_pos z]; exact hg''
          rw [if_neg q2, r51_191 heb (by rw [sa_s, k3]; omega), sa_s, k3]
          rw [egl] at fin
          by_cases w : e = ((sk B N i : Nat) : Int)
          · rw [if_neg (by simpa using w), r51_200]; rw [if_pos w] at fin; exact fin
          · rw [if_pos w, r51_204]; rw [if_neg w] at fin; exact fin
      by_cases q1 : pm_b8 (B (sk B N i)) < 97
      · rw [if_pos q1]; exact D (by rw [isLt_i]; omega)
      rw [if_neg q1, r51_153 (by omega)]
      by_cases q2 : 122 < pm_b8 (B (sk B N i))
      · rw [if_pos q2]; exact D (by rw [isLt_i]; omega)
      · have z : isLt (B (sk B N i)) = true := by rw [isLt_i]; omega
        have fin : pm_Run (d + 1) 51 173 [vA 32, vI e, vI (pm_b8 (B (sk B N i)))] [vI (if (isWn (g 4) && decide (sk B N i = i)) = true then 1 else 0), vA 32] (GF X, pm_sa M 32 h, PTF v) K := by
          rw [r51_173]
          refine c52 hv hB hKY hN hs.2 k2 k3 k5 k7 k8 (fun g'' hg'' => ?_)
          rw [push_u, r51_176, r51_249]
          refine hK g'' ?_
          rw [tk, if_neg q, if_pos z]; exact hg''
        rw [if_neg q2, r51_159 heb (by rw [sa_s, k3]; omega), sa_s, k3]
        rw [egl] at fin
        by_cases w : e = ((sk B N i : Nat) : Int)
        · rw [if_neg (by simpa using w), r51_168]; rw [if_pos w] at fin; exact fin
        · rw [if_pos w, r51_172]; rw [if_neg w] at fin; exact fin
  -- the blanks
  have Bl : ∀ e : Int, e = (if isWn (g 4) = true then (i : Int) else -1) → ∀ r j, N ≤ j + r → j ≤ N → sk B N j = sk B N i → ∀ g' : Nat → Int, g' 2 = (N : Int) → g' 3 = (j : Int) → pm_Run (d + 1) 51 25 [vA 32, vI e, PU] [] (GF X, pm_sa M 32 g', PTF v) K := by
    intro e he r
    induction r with
    | zero =>
      intro j h1 h2 h3 g' f2 f3
      rw [r51_25 (by rw [sa_s, f3]; omega) (by rw [sa_s, f2]; omega), sa_s, f2, f3, if_pos (by omega)]
      exact A e he g' f2 (by rw [f3, ← h3, sk_e (by omega)])
    | succ r ih =>
      intro j h1 h2 h3 g' f2 f3
      rw [r51_25 (by rw [sa_s, f3]; omega) (by rw [sa_s, f2]; omega), sa_s, f2, f3]
      by_cases q : N ≤ j
      · rw [if_pos (by omega)]
        exact A e he g' f2 (by rw [f3, ← h3, sk_e (by omega)])
      · have gb := hB j (by omega)
        have cb := b8_c gb.2
        have eb : (pm_sa M 32 g') 1 ((pm_sa M 32 g') 32 3).toNat = pm_b8 (B j) := by rw [sa_s, f3, Int.toNat_natCast, sa_n (by omega)]; exact gb.1
        have go : isBl (B j) = true → pm_Run (d + 1) 51 64 [vA 32, vI e, PU] [] (GF X, pm_sa M 32 g', PTF v) K := by
          intro hb
          rw [r51_64, sa_s, sa_sa, f3]
          exact ih (j + 1) (by omega) (by omega) (by rw [sk_s (by omega) hb]; exact h3) _ (by rw [up_n (by omega)]; exact f2) (by rw [up_s]; rfl)
        rw [if_neg (by omega), r51_36 hv (by rw [sa_s, f3]; omega) (by rw [sa_s, f3]; omega) (by rw [eb]; omega), eb]
        by_cases q1 : pm_b8 (B j) = 10
        · rw [if_pos q1]; exact go (by rw [isBl_i]; omega)
        rw [if_neg q1, r51_50 hv (by rw [sa_s, f3]; omega) (by rw [sa_s, f3]; omega) (by rw [eb]; omega), eb]
        by_cases q2 : pm_b8 (B j) = 32
        · rw [if_neg (by simpa using q2)]; exact go (by rw [isBl_i]; omega)
        · rw [if_pos q2]
          exact A e he g' f2 (by rw [f3, ← h3, sk_e (fun w => by have := isBl_i.mp w.2; omega)])
  rw [en51, r51_0 (by rw [sa_s]; exact g4), sa_s]
  have yes : isWn (g 4) = true → pm_Run (d + 1) 51 16 [vA 32, PU, PU] [] (GF X, pm_sa M 32 g, PTF v) K := by
    intro h
    rw [r51_16, r51_24, sa_s, g3]
    exact Bl _ (by rw [if_pos h]) N i (by omega) hi rfl g g2 g3
  by_cases q1 : g 4 = 1
  · rw [if_pos q1]; exact yes (by simp [isWn, q1])
  · rw [if_neg q1, r51_8 (by rw [sa_s]; exact g4), sa_s]
    by_cases q2 : g 4 = 2
    · rw [if_neg (by simpa using q2)]; exact yes (by simp [isWn, q2])
    · rw [if_pos q2, r51_23, r51_24]
      exact Bl _ (by rw [if_neg (by simp [isWn, q1, q2])]) N i (by omega) hi rfl g g2 g3
end CL2
