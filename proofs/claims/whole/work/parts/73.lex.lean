/-! Words, numbers, signs. -/
def isLt (x : Int) : Bool := decide (97 ≤ x) && decide (x ≤ 122)
def isDt (x : Int) : Bool := decide (48 ≤ x) && decide (x ≤ 57)
def isBl (x : Int) : Bool := decide (x = 10) || decide (x = 32)
def isSg (x : Int) : Bool := decide (x ∈ pm_signs)
/-- how many from i on, k at most -/
def rn (p : Int → Bool) (B : Nat → Int) (N : Nat) : Nat → Nat → Nat
  | 0, _ => 0
  | k + 1, i => if i < N ∧ p (B i) = true then rn p B N k (i + 1) + 1 else 0
/-- the letters from i on, as the class holds them -/
def wv (B : Nat → Int) (i : Nat) : Nat → Nat
  | 0 => 0
  | k + 1 => wv B i k + (B (i + k) - 96).toNat * 2 ^ (25 - 5 * k)
def nv (B : Nat → Int) (i : Nat) : Nat → Int
  | 0 => 0
  | k + 1 => nv B i k * 10 + B (i + k) - 48
def KEYS : List Int := [642809856, 452442112, 54525952, 250792960, 676774066, 270076402, 559500448, 140005632, 538758144, 527617024, 113301093, 559296512, 169425504, 408622464, 659958784, 273980692, 538218496, 156401664, 202964992, 659959392, 614139264, 284870656, 549489824, 522190848, 48365568, 486146048, 46530560, 446103552, 438042624]
def ownw (x : Int) : Int := fi (fun w => decide (KEYS.getD w 0 = x)) 29 0
def sk (B : Nat → Int) (N i : Nat) : Nat := i + rn isBl B N N i
def tl (p : Int → Bool) (B : Nat → Int) (N i : Nat) : Bool := decide (i < N) && p (B i)
/-- kind, start, where it is wrong, value, own word, behind it -/
def tkw (B : Nat → Int) (N st : Nat) (gl : Bool) : Int × Nat × Nat × Int × Int × Nat := (if (gl || tl isLt B N (st + rn isLt B N 6 st)) = true then 4 else 1, st, if (tl isLt B N (st + rn isLt B N 6 st) && !gl) = true then st + rn isLt B N 6 st else st, (wv B st (rn isLt B N 6 st) : Nat), ownw (wv B st (rn isLt B N 6 st) : Nat), st + rn isLt B N 6 st)
def tkn (B : Nat → Int) (N st : Nat) (gl : Bool) : Int × Nat × Nat × Int × Int × Nat := (if (gl || tl isDt B N (st + rn isDt B N 4 st)) = true then 4 else 2, st, if (tl isDt B N (st + rn isDt B N 4 st) && !gl) = true then st + rn isDt B N 4 st else st, nv B st (rn isDt B N 4 st), -1, st + rn isDt B N 4 st)
def tk (B : Nat → Int) (N i : Nat) (w : Bool) : Int × Nat × Nat × Int × Int × Nat :=
  if N ≤ sk B N i then (0, sk B N i, sk B N i, 0, -1, sk B N i) else if isLt (B (sk B N i)) = true then tkw B N (sk B N i) (w && decide (sk B N i = i)) else if isDt (B (sk B N i)) = true then tkn B N (sk B N i) (w && decide (sk B N i = i)) else (if isSg (B (sk B N i)) = true then 3 else 4, sk B N i, sk B N i, pm_b8 (B (sk B N i)), -1, sk B N i + 1)
/-- the lexer's cell tells this -/
def LX (g : Nat → Int) (N : Nat) (t : Int × Nat × Nat × Int × Int × Nat) : Prop := g 2 = (N : Int) ∧ g 3 = (t.2.2.2.2.2 : Int) ∧ g 4 = t.1 ∧ g 5 = (t.2.1 : Int) ∧ g 6 = (t.2.2.1 : Int) ∧ g 7 = t.2.2.2.1 ∧ g 8 = t.2.2.2.2.1
def KY (M : PH) : Prop := ∀ w, w < 29 → M 33 w = KEYS.getD w 0
theorem keys_b : ∀ w, w < 29 → 0 ≤ KEYS.getD w 0 ∧ KEYS.getD w 0 < 1073741824 := by decide +kernel
theorem b8_c {x : Int} (h : 0 ≤ x ∧ x ≤ 255) : (x < 128 ∧ pm_b8 x = x) ∨ (128 ≤ x ∧ pm_b8 x = x - 256) := by
  unfold pm_b8 Int.bmod
  simp only []
  split <;> omega
theorem isLt_i {x : Int} : isLt x = true ↔ 97 ≤ x ∧ x ≤ 122 := by simp [isLt]
theorem isDt_i {x : Int} : isDt x = true ↔ 48 ≤ x ∧ x ≤ 57 := by simp [isDt]
theorem isBl_i {x : Int} : isBl x = true ↔ x = 10 ∨ x = 32 := by simp [isBl]
theorem sg_n : ∀ x : Nat, x < 256 → (pm_ix pm_signs (x : Int) 0 < 0 ↔ ¬ isSg (x : Int) = true) ∧ -1 ≤ pm_ix pm_signs (x : Int) 0 ∧ pm_ix pm_signs (x : Int) 0 ≤ 20 := by decide +kernel
theorem sg_b : ∀ x : Nat, x < 256 → isSg (x : Int) = true → 0 < x ∧ x < 128 := by decide +kernel
theorem wv_s {x c k : Nat} (hk : k < 6) (hx : x % 2 ^ (30 - 5 * k) = 0) (hx2 : x + 2 ^ (30 - 5 * k) ≤ 2 ^ 30) (hc : 1 ≤ c ∧ c ≤ 26) : pm_or (x : Int) (pm_shl (c : Int) (25 - 5 * (k : Int))) = ((x + c * 2 ^ (25 - 5 * k) : Nat) : Int) ∧ (x + c * 2 ^ (25 - 5 * k)) % 2 ^ (30 - 5 * (k + 1)) = 0 ∧ x + c * 2 ^ (25 - 5 * k) + 2 ^ (30 - 5 * (k + 1)) ≤ 2 ^ 30 := by
  have hz : c * 2 ^ (25 - 5 * k) < 2 ^ (30 - 5 * k) := by
    have h : k = 0 ∨ k = 1 ∨ k = 2 ∨ k = 3 ∨ k = 4 ∨ k = 5 := by omega
    rcases h with rfl | rfl | rfl | rfl | rfl | rfl <;> simp only [Nat.reduceMul, Nat.reduceSub, Nat.reducePow] <;> omega
  have hp : 2 ^ (30 - 5 * k) ≤ 2 ^ 30 := Nat.pow_le_pow_right (by omega) (by omega)
  refine ⟨?_, ?_⟩
  · rw [show (25 - 5 * (k : Int)) = ((25 - 5 * k : Nat) : Int) by omega, pm_shlN (by omega) (by omega), pm_orN (by omega) (by omega)]
    obtain ⟨y, hy⟩ : ∃ y, x = y * 2 ^ (30 - 5 * k) := ⟨x / 2 ^ (30 - 5 * k), (Nat.div_mul_cancel (Nat.dvd_of_mod_eq_zero hx)).symm⟩
    have := Nat.shiftLeft_add_eq_or_of_lt hz y
    rw [Nat.shiftLeft_eq, ← hy] at this
    rw [← this]
  · have h : k = 0 ∨ k = 1 ∨ k = 2 ∨ k = 3 ∨ k = 4 ∨ k = 5 := by omega
    rcases h with rfl | rfl | rfl | rfl | rfl | rfl <;> simp only [Nat.reduceMul, Nat.reduceSub, Nat.reduceAdd, Nat.reducePow] at hx hx2 ⊢ <;> omega
theorem wv_i {B : Nat → Int} {i : Nat} : ∀ {k : Nat}, k ≤ 6 → (∀ j, j < k → isLt (B (i + j)) = true) → wv B i k % 2 ^ (30 - 5 * k) = 0 ∧ wv B i k + 2 ^ (30 - 5 * k) ≤ 2 ^ 30
  | 0, _, _ => by simp [wv]
  | k + 1, hk, h => by
    obtain ⟨h1, h2⟩ := wv_i (B := B) (i := i) (k := k) (by omega) (fun j hj => h j (by omega))
    have h3 := isLt_i.mp (h k (by omega))
    exact (wv_s (by omega) h1 h2 (by omega)).2
theorem wv_b {B : Nat → Int} {i k : Nat} (hk : k ≤ 6) (h : ∀ j, j < k → isLt (B (i + j)) = true) : wv B i k < 1073741824 := by
  have h1 := wv_i hk h
  have h2 := Nat.two_pow_pos (30 - 5 * k)
  have h3 : (2 : Nat) ^ 30 = 1073741824 := by decide
  omega
theorem rn_p {p : Int → Bool} {B : Nat → Int} {N : Nat} : ∀ {k i : Nat}, (∀ j, j < rn p B N k i → i + j < N ∧ p (B (i + j)) = true) ∧ rn p B N k i ≤ k
  | 0, i => ⟨fun j hj => absurd hj (Nat.not_lt_zero j), Nat.le_refl 0⟩
  | k + 1, i => by
    obtain ⟨h1, h2⟩ := rn_p (p := p) (B := B) (N := N) (k := k) (i := i + 1)
    rw [rn]
    split
    · rename_i q
      refine ⟨fun j hj => ?_, by omega⟩
      by_cases z : j = 0
      · subst z; exact q
      · have := h1 (j - 1) (by omega)
        rw [show i + 1 + (j - 1) = i + j by omega] at this
        exact this
    · exact ⟨fun j hj => absurd hj (Nat.not_lt_zero j), by omega⟩
section CLX
variable {d N : Nat} {X : Nat × (Nat → Int)} {v : Nat → Int} {M : PH} {K : PV → PS → Prop} {B : Nat → Int}
theorem ownw_b {x : Int} : -1 ≤ ownw x ∧ ownw x < 29 := by
  unfold ownw
  by_cases q : fi (fun w => decide (KEYS.getD w 0 = x)) 29 0 = -1
  · rw [q]; omega
  · obtain ⟨j, e, h1, h2, -⟩ := fi_s q
    rw [e]; omega
theorem c52 (hv : v 5 = ((1 : Nat) : Int)) (hB : TP M B) (hKY : KY M) (hN : N ≤ 1600) {st : Nat} (hst : st ≤ N) {gl : Bool} {g : Nat → Int} (g2 : g 2 = (N : Int)) (g3 : g 3 = (st : Int)) (g5 : g 5 = (st : Int)) (g7 : g 7 = 0) (g8 : g 8 = -1) (hK : ∀ g', LX g' N (tkw B N st gl) → K PU (GF X, pm_sa M 32 g', PTF v)) : pm_Call (d + 1) 52 [vA 32, vI (if gl = true then 1 else 0)] (GF X, pm_sa M 32 g, PTF v) K := by
  have hg := if01 (x := gl)
  have E : ∀ (L : Nat) (g : Nat → Int), L = rn isLt B N 6 st → g 2 = (N : Int) → g 3 = ((st + L : Nat) : Int) → g 5 = (st : Int) → g 7 = (wv B st L : Nat) → g 8 = -1 → pm_Run d 52 104 [vA 32, vI (if gl = true then 1 else 0), PU, PU] [] (GF X, pm_sa M 32 g, PTF v) K := by
    intro L g hL e2 e3 e5 e7 e8
    have hr := rn_p (p := isLt) (B := B) (N := N) (k := 6) (i := st)
    rw [← hL] at hr
    have hLN : st + L ≤ N := by
      by_cases z : L = 0
      · omega
      · have := (hr.1 (L - 1) (by omega)).1; omega
    have hwb := wv_b (B := B) (i := st) hr.2 (fun j hj => (hr.1 j hj).2)
    -- the own word
    have F2 : ∀ (g : Nat → Int) (l2 : Int), g 2 = (N : Int) → g 3 = ((st + L : Nat) : Int) → g 4 = (if (gl || tl isLt B N (st + L)) = true then 4 else 1) → g 5 = (st : Int) → g 6 = ((if (tl isLt B N (st + L) && !gl) = true then st + L else st : Nat) : Int) → g 7 = (wv B st L : Nat) → g 8 = -1 → pm_Run d 52 189 [vA 32, vI (if gl = true then 1 else 0), vI l2, PU] [] (GF X, pm_sa M 32 g, PTF v) K := by
      intro g l2 f2 f3 f4 f5 f6 f7 f8
      have fin : ∀ (g : Nat → Int) (l3 : Int), g 2 = (N : Int) → g 3 = ((st + L : Nat) : Int) → g 4 = (if (gl || tl isLt B N (st + L)) = true then 4 else 1) → g 5 = (st : Int) → g 6 = ((if (tl isLt B N (st + L) && !gl) = true then st + L else st : Nat) : Int) → g 7 = (wv B st L : Nat) → g 8 = ownw (wv B st L : Nat) → pm_Run d 52 229 [vA 32, vI (if gl = true then 1 else 0), vI l2, vI l3] [] (GF X, pm_sa M 32 g, PTF v) K := by
        intro g l3 k2 k3 k4 k5 k6 k7 k8
        rw [r52_229]
        refine hK g ?_
        rw [tkw, ← hL]
        exact ⟨k2, k3, k4, k5, k6, k7, k8⟩
      have main : ∀ k j, j + k = 29 → fi (fun w => decide (KEYS.getD w 0 = ((wv B st L : Nat) : Int))) k j = ownw (wv B st L : Nat) → pm_Run d 52 191 [vA 32, vI (if gl = true then 1 else 0), vI l2, vI (j : Int)] [] (GF X, pm_sa M 32 g, PTF v) K := by
        intro k
        induction k with
        | zero =>
          intro j hj hf
          rw [r52_191 (by omega), if_pos (by omega)]
          exact fin g _ f2 f3 f4 f5 f6 f7 (by rw [← hf]; exact f8)
        | succ k ih =>
          intro j hj hf
          have kb := keys_b j (by omega)
          have ek : (pm_sa M 32 g) 33 ((j : Int)).toNat = KEYS.getD j 0 := by rw [Int.toNat_natCast, sa_n (by omega)]; exact hKY j (by omega)
          rw [r52_191 (by omega), if_neg (by omega), r52_197 (by rw [sa_s, f8]; omega), sa_s, f8, if_neg (by simp), r52_205 (by omega) (by omega) (by rw [ek]; omega) (by rw [sa_s, f7]; omega), ek, sa_s, f7]
          rw [fi] at hf
          by_cases q : KEYS.getD j 0 = ((wv B st L : Nat) : Int)
          · rw [if_pos (by simpa using q)] at hf
            rw [if_neg (by simpa using q), r52_218, r52_223, sa_s, sa_sa]
            by_cases z : j + 1 = 29
            · rw [r52_191 (by omega), if_pos (by omega)]
              exact fin _ _ (by rw [up_n (by omega)]; exact f2) (by rw [up_n (by omega)]; exact f3) (by rw [up_n (by omega)]; exact f4) (by rw [up_n (by omega)]; exact f5) (by rw [up_n (by omega)]; exact f6) (by rw [up_n (by omega)]; exact f7) (by rw [up_s]; exact hf)
            · rw [r52_191 (by omega), if_neg (by omega), r52_197 (by rw [sa_s, up_s]; omega), sa_s, up_s, if_pos (by omega)]
              exact fin _ _ (by rw [up_n (by omega)]; exact f2) (by rw [up_n (by omega)]; exact f3) (by rw [up_n (by omega)]; exact f4) (by rw [up_n (by omega)]; exact f5) (by rw [up_n (by omega)]; exact f6) (by rw [up_n (by omega)]; exact f7) (by rw [up_s]; exact hf)
          · rw [if_neg (by simpa using q)] at hf
            rw [if_pos q, r52_223]
            exact ih (j + 1) (by omega) hf
      rw [r52_189]
      exact main 29 0 (by omega) rfl
    -- kind and where it is wrong
    have F1 : ∀ tlb : Bool, tlb = tl isLt B N (st + L) → pm_Run d 52 148 [vA 32, vI (if gl = true then 1 else 0), PU, PU] [vI (if tlb = true then 1 else 0)] (GF X, pm_sa M 32 g, PTF v) K := by
      intro tlb htl
      have ht := if01 (x := tlb)
      rw [← htl] at F2
      have G : ∀ x : Int, x = (if (gl || tlb) = true then 4 else 1) → pm_Run d 52 163 [vA 32, vI (if gl = true then 1 else 0), vI (if tlb = true then 1 else 0), PU] [vI x, vA 32] (GF X, pm_sa M 32 g, PTF v) K := by
        intro x hx
        rw [r52_163, sa_s, sa_sa, r52_166 (by omega)]
        have H : ∀ y : Int, y = ((if (tlb && !gl) = true then st + L else st : Nat) : Int) → pm_Run d 52 186 [vA 32, vI (if gl = true then 1 else 0), vI (if tlb = true then 1 else 0), PU] [vI y, vA 32] (GF X, pm_sa M 32 (pm_up g 4 x), PTF v) K := by
          intro y hy
          rw [r52_186, sa_s, sa_sa]
          exact F2 _ _ (by rw [up_n (by omega), up_n (by omega)]; exact e2) (by rw [up_n (by omega), up_n (by omega)]; exact e3) (by rw [up_n (by omega), up_s]; exact hx) (by rw [up_n (by omega), up_n (by omega)]; exact e5) (by rw [up_s]; exact hy) (by rw [up_n (by omega), up_n (by omega)]; exact e7) (by rw [up_n (by omega), up_n (by omega)]; exact e8)
        cases tlb
        · rw [if_neg (show ¬ false = true by decide), if_pos rfl, r52_182, sa_s, up_n (by omega), e5]
          exact H _ (by simp)
        · rw [if_pos (show true = true from rfl), if_neg (by omega), r52_171 (by omega)]
          cases gl
          · rw [if_neg (show ¬ false = true by decide), if_neg (by simp), r52_175, sa_s, up_n (by omega), e3]
            exact H _ (by simp)
          · rw [if_pos (show true = true from rfl), if_pos (by omega), r52_182, sa_s, up_n (by omega), e5]
            exact H _ (by simp)
      rw [r52_148 (by omega)]
      cases gl
      · rw [if_neg (show ¬ false = true by decide), if_neg (by simp), r52_154 (by omega)]
        cases tlb
        · rw [if_neg (show ¬ false = true by decide), if_pos rfl, r52_162]
          exact G 1 (by simp)
        · rw [if_pos (show true = true from rfl), if_neg (by omega), r52_158]
          exact G 4 (by simp)
      · rw [if_pos (show true = true from rfl), if_pos (by omega), r52_158]
        exact G 4 (by simp)
    rw [r52_104 (by rw [sa_s, e3]; omega) (by rw [sa_s, e2]; omega), sa_s, e2, e3]
    by_cases q : N ≤ st + L
    · rw [if_pos (by omega), r52_147]
      have h0 : tl isLt B N (st + L) = false := by simp [tl]; omega
      have := F1 false h0.symm
      rw [if_neg (show ¬ false = true by decide)] at this
      exact this
    · have gb := hB (st + L) (by omega)
      have cb := b8_c gb.2
      have eb : (pm_sa M 32 g) 1 ((pm_sa M 32 g) 32 3).toNat = pm_b8 (B (st + L)) := by rw [sa_s, e3, Int.toNat_natCast, sa_n (by omega)]; exact gb.1
      rw [if_neg (by omega), r52_115 hv (by rw [sa_s, e3]; omega) (by rw [sa_s, e3]; omega) (by rw [eb]; omega), eb]
      have no : ¬ isLt (B (st + L)) = true → pm_Run d 52 147 [vA 32, vI (if gl = true then 1 else 0), PU, PU] [] (GF X, pm_sa M 32 g, PTF v) K := fun z => by
        rw [r52_147]
        have h0 : tl isLt B N (st + L) = false := by simp [tl, z]
        have := F1 false h0.symm
        rw [if_neg (show ¬ false = true by decide)] at this
        exact this
      by_cases q1 : pm_b8 (B (st + L)) < 97
      · rw [if_pos q1]; exact no (by rw [isLt_i]; omega)
      rw [if_neg q1, r52_129 hv (by rw [sa_s, e3]; omega) (by rw [sa_s, e3]; omega) (by rw [eb]; omega), eb]
      by_cases q2 : 122 < pm_b8 (B (st + L))
      · rw [if_pos q2]; exact no (by rw [isLt_i]; omega)
      · rw [if_neg q2, r52_143]
        have h1 : isLt (B (st + L)) = true := by rw [isLt_i]; omega
        have h0 : tl isLt B N (st + L) = true := by simp [tl, h1]; omega
        have := F1 true h0.symm
        rw [if_pos rfl] at this
        exact this
  have main : ∀ r k, k + r = 6 → st + k ≤ N → (∀ j, j < k → isLt (B (st + j)) = true) → k + rn isLt B N r (st + k) = rn isLt B N 6 st → ∀ g : Nat → Int, g 2 = (N : Int) → g 3 = ((st + k : Nat) : Int) → g 5 = (st : Int) → g 7 = (wv B st k : Nat) → g 8 = -1 → pm_Run d 52 0 [vA 32, vI (if gl = true then 1 else 0), PU, PU] [] (GF X, pm_sa M 32 g, PTF v) K := by
    intro r
    induction r with
    | zero =>
      intro k hk hkN hl hrn g e2 e3 e5 e7 e8
      have ex := E k g hrn e2 e3 e5 e7 e8
      rw [r52_0 (by rw [sa_s, e3]; omega) (by rw [sa_s, e2]; omega), sa_s, e2, e3]
      by_cases q : N ≤ st + k
      · rw [if_pos (by omega)]; exact ex
      · have gb := hB (st + k) (by omega)
        have cb := b8_c gb.2
        have eb : (pm_sa M 32 g) 1 ((pm_sa M 32 g) 32 3).toNat = pm_b8 (B (st + k)) := by rw [sa_s, e3, Int.toNat_natCast, sa_n (by omega)]; exact gb.1
        rw [if_neg (by omega), r52_11 hv (by rw [sa_s, e3]; omega) (by rw [sa_s, e3]; omega) (by rw [eb]; omega), eb]
        by_cases q1 : pm_b8 (B (st + k)) < 97
        · rw [if_pos q1]; exact ex
        rw [if_neg q1, r52_25 hv (by rw [sa_s, e3]; omega) (by rw [sa_s, e3]; omega) (by rw [eb]; omega), eb]
        by_cases q2 : 122 < pm_b8 (B (st + k))
        · rw [if_pos q2]; exact ex
        · rw [if_neg q2, r52_39 (by rw [sa_s, e3, e5]; omega), sa_s, e3, e5, if_pos (by omega)]; exact ex
    | succ r ih =>
      intro k hk hkN hl hrn g e2 e3 e5 e7 e8
      rw [r52_0 (by rw [sa_s, e3]; omega) (by rw [sa_s, e2]; omega), sa_s, e2, e3]
      rw [rn] at hrn
      by_cases q : N ≤ st + k
      · rw [if_neg (by omega)] at hrn
        rw [if_pos (by omega)]
        exact E k g hrn e2 e3 e5 e7 e8
      · have gb := hB (st + k) (by omega)
        have cb := b8_c gb.2
        have eb : (pm_sa M 32 g) 1 ((pm_sa M 32 g) 32 3).toNat = pm_b8 (B (st + k)) := by rw [sa_s, e3, Int.toNat_natCast, sa_n (by omega)]; exact gb.1
        rw [if_neg (by omega), r52_11 hv (by rw [sa_s, e3]; omega) (by rw [sa_s, e3]; omega) (by rw [eb]; omega), eb]
        by_cases q1 : pm_b8 (B (st + k)) < 97
        · have z : ¬ isLt (B (st + k)) = true := by rw [isLt_i]; omega
          rw [if_neg (fun y => z y.2)] at hrn
          rw [if_pos q1]; exact E k g hrn e2 e3 e5 e7 e8
        rw [if_neg q1, r52_25 hv (by rw [sa_s, e3]; omega) (by rw [sa_s, e3]; omega) (by rw [eb]; omega), eb]
        by_cases q2 : 122 < pm_b8 (B (st + k))
        · have z : ¬ isLt (B (st + k)) = true := by rw [isLt_i]; omega
          rw [if_neg (fun y => z y.2)] at hrn
          rw [if_pos q2]; exact E k g hrn e2 e3 e5 e7 e8
        · have z : isLt (B (st + k)) = true := by rw [isLt_i]; omega
          have z' := isLt_i.mp z
          have hwi := wv_i (B := B) (i := st) (k := k) (by omega) hl
          have hws := wv_s (x := wv B st k) (c := (B (st + k) - 96).toNat) (k := k) (by omega) hwi.1 hwi.2 (by omega)
          rw [if_pos ⟨by omega, z⟩] at hrn
          rw [if_neg q2, r52_39 (by rw [sa_s, e3, e5]; omega), sa_s, e3, e5, if_neg (by omega), r52_53 hv (by rw [sa_s, e3]; omega) (by rw [sa_s, e3]; omega), r52_91, eb]
          simp only [sa_s, sa_sa]
          rw [up_n (show 3 ≠ 7 by omega), e3, e5, e7, show pm_b8 (B (st + k)) - 97 + 1 = (((B (st + k) - 96).toNat : Nat) : Int) by omega, show (25 - 5 * (((st + k : Nat) : Int) - (st : Int))) = 25 - 5 * (k : Int) by omega, hws.1]
          refine ih (k + 1) (by omega) (by omega) (fun j hj => ?_) (by rw [← hrn, show st + (k + 1) = st + k + 1 by omega]; omega) _ (by rw [up_n (by omega), up_n (by omega)]; exact e2) (by rw [up_s]; omega) (by rw [up_n (by omega), up_n (by omega)]; exact e5) (by rw [up_n (by omega), up_s]; rfl) (by rw [up_n (by omega), up_n (by omega)]; exact e8)
          by_cases y : j = k
          · rw [y]; exact z
          · exact hl j (by omega)
  rw [en52]
  exact main 6 0 (by omega) hst (fun j hj => absurd hj (by omega)) (by rw [Nat.zero_add, Nat.add_zero]) g g2 g3 g5 g7 g8
end CLX
